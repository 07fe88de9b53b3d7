section
-- ===== PART A: goes FIRST, ahead of the names: the tables' words, and 'selects' of the private methods out of them =====
/-- a private method of a class that the tables say can be made, by its rows of tables_1 -/
def lw_okq (q : MethodName × Nat) : Prop := (q.1.cls ≠ "java/lang/invoke/MethodHandle" ∧ q.1.cls ≠ "java/lang/invoke/VarHandle") ∧ Cond.instantiable q.1.cls q.2 ∈ tables_1 ∧ Cond.privateMethod q.1 ∈ tables_1 ∧ Cond.instanceMethod q.1 ∈ tables_1
theorem lw_p0 : lw_okq (⟨"SkylineNester", "emptyRacks", "()V"⟩, 10) := ⟨⟨by decide +kernel, by decide +kernel⟩, List.mem_of_getElem? (i := 24) (by decide +kernel), List.mem_of_getElem? (i := 434) (by decide +kernel), List.mem_of_getElem? (i := 435) (by decide +kernel)⟩
theorem lw_p1 : lw_okq (⟨"SkylineNester$Tape", "skipBlanks", "()V"⟩, 5) := ⟨⟨by decide +kernel, by decide +kernel⟩, List.mem_of_getElem? (i := 32) (by decide +kernel), List.mem_of_getElem? (i := 451) (by decide +kernel), List.mem_of_getElem? (i := 452) (by decide +kernel)⟩
theorem lw_p2 : lw_okq (⟨"SkylineNester$Tape", "readItem", "(I)Z"⟩, 5) := ⟨⟨by decide +kernel, by decide +kernel⟩, List.mem_of_getElem? (i := 32) (by decide +kernel), List.mem_of_getElem? (i := 455) (by decide +kernel), List.mem_of_getElem? (i := 456) (by decide +kernel)⟩
theorem lw_p3 : lw_okq (⟨"SkylineNester$Tape", "look", "()I"⟩, 5) := ⟨⟨by decide +kernel, by decide +kernel⟩, List.mem_of_getElem? (i := 32) (by decide +kernel), List.mem_of_getElem? (i := 459) (by decide +kernel), List.mem_of_getElem? (i := 460) (by decide +kernel)⟩
theorem lw_p4 : lw_okq (⟨"SkylineNester$Tape", "readWidth", "(I)I"⟩, 5) := ⟨⟨by decide +kernel, by decide +kernel⟩, List.mem_of_getElem? (i := 32) (by decide +kernel), List.mem_of_getElem? (i := 466) (by decide +kernel), List.mem_of_getElem? (i := 467) (by decide +kernel)⟩
theorem lw_p5 : lw_okq (⟨"SkylineNester$Tape", "isDigit", "()Z"⟩, 5) := ⟨⟨by decide +kernel, by decide +kernel⟩, List.mem_of_getElem? (i := 32) (by decide +kernel), List.mem_of_getElem? (i := 470) (by decide +kernel), List.mem_of_getElem? (i := 471) (by decide +kernel)⟩
theorem lw_p6 : lw_okq (⟨"SkylineNester$Tape", "readFigure", "()I"⟩, 5) := ⟨⟨by decide +kernel, by decide +kernel⟩, List.mem_of_getElem? (i := 32) (by decide +kernel), List.mem_of_getElem? (i := 474) (by decide +kernel), List.mem_of_getElem? (i := 475) (by decide +kernel)⟩
theorem lw_p7 : lw_okq (⟨"SkylineNester$Tape", "readMarked", "(C)I"⟩, 5) := ⟨⟨by decide +kernel, by decide +kernel⟩, List.mem_of_getElem? (i := 32) (by decide +kernel), List.mem_of_getElem? (i := 478) (by decide +kernel), List.mem_of_getElem? (i := 479) (by decide +kernel)⟩
theorem lw_p8 : lw_okq (⟨"SkylineNester$Layer", "findInWaste", "(LSkylineNester$Plan;LSkylineNester$Part;)V"⟩, 1) := ⟨⟨by decide +kernel, by decide +kernel⟩, List.mem_of_getElem? (i := 223) (by decide +kernel), List.mem_of_getElem? (i := 591) (by decide +kernel), List.mem_of_getElem? (i := 592) (by decide +kernel)⟩
theorem lw_p9 : lw_okq (⟨"SkylineNester$Layer", "findOnSkyline", "(LSkylineNester$Plan;LSkylineNester$Part;)V"⟩, 1) := ⟨⟨by decide +kernel, by decide +kernel⟩, List.mem_of_getElem? (i := 223) (by decide +kernel), List.mem_of_getElem? (i := 609) (by decide +kernel), List.mem_of_getElem? (i := 610) (by decide +kernel)⟩
theorem lw_p10 : lw_okq (⟨"SkylineNester$Layer", "settle", "(LSkylineNester$Plan;LSkylineNester$Part;)V"⟩, 1) := ⟨⟨by decide +kernel, by decide +kernel⟩, List.mem_of_getElem? (i := 223) (by decide +kernel), List.mem_of_getElem? (i := 640) (by decide +kernel), List.mem_of_getElem? (i := 641) (by decide +kernel)⟩
theorem lw_p11 : lw_okq (⟨"SkylineNester$Waste", "drop", "(I)V"⟩, 5) := ⟨⟨by decide +kernel, by decide +kernel⟩, List.mem_of_getElem? (i := 133) (by decide +kernel), List.mem_of_getElem? (i := 649) (by decide +kernel), List.mem_of_getElem? (i := 650) (by decide +kernel)⟩
theorem lw_p12 : lw_okq (⟨"SkylineNester$Waste", "isBehind", "(III)Z"⟩, 5) := ⟨⟨by decide +kernel, by decide +kernel⟩, List.mem_of_getElem? (i := 133) (by decide +kernel), List.mem_of_getElem? (i := 657) (by decide +kernel), List.mem_of_getElem? (i := 658) (by decide +kernel)⟩
theorem lw_p13 : lw_okq (⟨"SkylineNester$Search", "goToNextOrder", "(LSkylineNester$Plan;)Z"⟩, 8) := ⟨⟨by decide +kernel, by decide +kernel⟩, List.mem_of_getElem? (i := 270) (by decide +kernel), List.mem_of_getElem? (i := 767) (by decide +kernel), List.mem_of_getElem? (i := 768) (by decide +kernel)⟩
theorem lw_p14 : lw_okq (⟨"SkylineNester$Search", "readLayout", "(LSkylineNester$Plan;)V"⟩, 8) := ⟨⟨by decide +kernel, by decide +kernel⟩, List.mem_of_getElem? (i := 270) (by decide +kernel), List.mem_of_getElem? (i := 780) (by decide +kernel), List.mem_of_getElem? (i := 781) (by decide +kernel)⟩
theorem lw_p15 : lw_okq (⟨"SkylineNester$Search", "countLayout", "()V"⟩, 8) := ⟨⟨by decide +kernel, by decide +kernel⟩, List.mem_of_getElem? (i := 270) (by decide +kernel), List.mem_of_getElem? (i := 788) (by decide +kernel), List.mem_of_getElem? (i := 789) (by decide +kernel)⟩
def lw_privs_1 : List (MethodName × Nat) := [(⟨"SkylineNester", "emptyRacks", "()V"⟩, 10), (⟨"SkylineNester$Tape", "skipBlanks", "()V"⟩, 5), (⟨"SkylineNester$Tape", "readItem", "(I)Z"⟩, 5), (⟨"SkylineNester$Tape", "look", "()I"⟩, 5), (⟨"SkylineNester$Tape", "readWidth", "(I)I"⟩, 5), (⟨"SkylineNester$Tape", "isDigit", "()Z"⟩, 5), (⟨"SkylineNester$Tape", "readFigure", "()I"⟩, 5), (⟨"SkylineNester$Tape", "readMarked", "(C)I"⟩, 5), (⟨"SkylineNester$Layer", "findInWaste", "(LSkylineNester$Plan;LSkylineNester$Part;)V"⟩, 1), (⟨"SkylineNester$Layer", "findOnSkyline", "(LSkylineNester$Plan;LSkylineNester$Part;)V"⟩, 1), (⟨"SkylineNester$Layer", "settle", "(LSkylineNester$Plan;LSkylineNester$Part;)V"⟩, 1), (⟨"SkylineNester$Waste", "drop", "(I)V"⟩, 5), (⟨"SkylineNester$Waste", "isBehind", "(III)Z"⟩, 5), (⟨"SkylineNester$Search", "goToNextOrder", "(LSkylineNester$Plan;)Z"⟩, 8), (⟨"SkylineNester$Search", "readLayout", "(LSkylineNester$Plan;)V"⟩, 8), (⟨"SkylineNester$Search", "countLayout", "()V"⟩, 8)]
theorem lw_r1 : ∀ q ∈ lw_privs_1, lw_okq q := List.forall_mem_cons.mpr ⟨lw_p0, List.forall_mem_cons.mpr ⟨lw_p1, List.forall_mem_cons.mpr ⟨lw_p2, List.forall_mem_cons.mpr ⟨lw_p3, List.forall_mem_cons.mpr ⟨lw_p4, List.forall_mem_cons.mpr ⟨lw_p5, List.forall_mem_cons.mpr ⟨lw_p6, List.forall_mem_cons.mpr ⟨lw_p7, List.forall_mem_cons.mpr ⟨lw_p8, List.forall_mem_cons.mpr ⟨lw_p9, List.forall_mem_cons.mpr ⟨lw_p10, List.forall_mem_cons.mpr ⟨lw_p11, List.forall_mem_cons.mpr ⟨lw_p12, List.forall_mem_cons.mpr ⟨lw_p13, List.forall_mem_cons.mpr ⟨lw_p14, List.forall_mem_cons.mpr ⟨lw_p15, fun _ h => absurd h List.not_mem_nil⟩⟩⟩⟩⟩⟩⟩⟩⟩⟩⟩⟩⟩⟩⟩⟩
theorem lw_p16 : lw_okq (⟨"SkylineNester$Search", "isRow", "(I)Z"⟩, 8) := ⟨⟨by decide +kernel, by decide +kernel⟩, List.mem_of_getElem? (i := 270) (by decide +kernel), List.mem_of_getElem? (i := 792) (by decide +kernel), List.mem_of_getElem? (i := 793) (by decide +kernel)⟩
theorem lw_p17 : lw_okq (⟨"SkylineNester$Cuts", "stagesFrom", "(Z)I"⟩, 7) := ⟨⟨by decide +kernel, by decide +kernel⟩, List.mem_of_getElem? (i := 304) (by decide +kernel), List.mem_of_getElem? (i := 814) (by decide +kernel), List.mem_of_getElem? (i := 815) (by decide +kernel)⟩
theorem lw_p18 : lw_okq (⟨"SkylineNester$Cuts", "cut", "([I[I)I"⟩, 7) := ⟨⟨by decide +kernel, by decide +kernel⟩, List.mem_of_getElem? (i := 304) (by decide +kernel), List.mem_of_getElem? (i := 819) (by decide +kernel), List.mem_of_getElem? (i := 820) (by decide +kernel)⟩
theorem lw_p19 : lw_okq (⟨"SkylineNester$Cuts", "isFree", "(II[I[I)Z"⟩, 7) := ⟨⟨by decide +kernel, by decide +kernel⟩, List.mem_of_getElem? (i := 304) (by decide +kernel), List.mem_of_getElem? (i := 823) (by decide +kernel), List.mem_of_getElem? (i := 824) (by decide +kernel)⟩
theorem lw_p20 : lw_okq (⟨"SkylineNester$Cuts", "numberPieces", "()I"⟩, 7) := ⟨⟨by decide +kernel, by decide +kernel⟩, List.mem_of_getElem? (i := 304) (by decide +kernel), List.mem_of_getElem? (i := 827) (by decide +kernel), List.mem_of_getElem? (i := 828) (by decide +kernel)⟩
theorem lw_p21 : lw_okq (⟨"SkylineNester", "topDrawn", "(II)I"⟩, 10) := ⟨⟨by decide +kernel, by decide +kernel⟩, List.mem_of_getElem? (i := 24) (by decide +kernel), List.mem_of_getElem? (i := 862) (by decide +kernel), List.mem_of_getElem? (i := 863) (by decide +kernel)⟩
theorem lw_p22 : lw_okq (⟨"SkylineNester", "rulesThatTell", "(LSkylineNester$Sheet;)I"⟩, 10) := ⟨⟨by decide +kernel, by decide +kernel⟩, List.mem_of_getElem? (i := 24) (by decide +kernel), List.mem_of_getElem? (i := 888) (by decide +kernel), List.mem_of_getElem? (i := 889) (by decide +kernel)⟩
theorem lw_p23 : lw_okq (⟨"SkylineNester", "pairsThatTell", "(LSkylineNester$Sheet;)I"⟩, 10) := ⟨⟨by decide +kernel, by decide +kernel⟩, List.mem_of_getElem? (i := 24) (by decide +kernel), List.mem_of_getElem? (i := 892) (by decide +kernel), List.mem_of_getElem? (i := 893) (by decide +kernel)⟩
theorem lw_p24 : lw_okq (⟨"SkylineNesterModel", "emptyRacks", "()V"⟩, 24) := ⟨⟨by decide +kernel, by decide +kernel⟩, List.mem_of_getElem? (i := 968) (by decide +kernel), List.mem_of_getElem? (i := 1060) (by decide +kernel), List.mem_of_getElem? (i := 1061) (by decide +kernel)⟩
theorem lw_p25 : lw_okq (⟨"SkylineNesterModel", "reads", "()I"⟩, 24) := ⟨⟨by decide +kernel, by decide +kernel⟩, List.mem_of_getElem? (i := 968) (by decide +kernel), List.mem_of_getElem? (i := 1068) (by decide +kernel), List.mem_of_getElem? (i := 1069) (by decide +kernel)⟩
theorem lw_p26 : lw_okq (⟨"SkylineNesterModel", "isBlank", "(I)Z"⟩, 24) := ⟨⟨by decide +kernel, by decide +kernel⟩, List.mem_of_getElem? (i := 968) (by decide +kernel), List.mem_of_getElem? (i := 1072) (by decide +kernel), List.mem_of_getElem? (i := 1073) (by decide +kernel)⟩
theorem lw_p27 : lw_okq (⟨"SkylineNesterModel", "byteAt", "(I)I"⟩, 24) := ⟨⟨by decide +kernel, by decide +kernel⟩, List.mem_of_getElem? (i := 968) (by decide +kernel), List.mem_of_getElem? (i := 1076) (by decide +kernel), List.mem_of_getElem? (i := 1077) (by decide +kernel)⟩
theorem lw_p28 : lw_okq (⟨"SkylineNesterModel", "isDigit", "(II)Z"⟩, 24) := ⟨⟨by decide +kernel, by decide +kernel⟩, List.mem_of_getElem? (i := 968) (by decide +kernel), List.mem_of_getElem? (i := 1124) (by decide +kernel), List.mem_of_getElem? (i := 1125) (by decide +kernel)⟩
theorem lw_p29 : lw_okq (⟨"SkylineNesterModel", "isPart", "(I)Z"⟩, 24) := ⟨⟨by decide +kernel, by decide +kernel⟩, List.mem_of_getElem? (i := 968) (by decide +kernel), List.mem_of_getElem? (i := 1133) (by decide +kernel), List.mem_of_getElem? (i := 1134) (by decide +kernel)⟩
theorem lw_p30 : lw_okq (⟨"SkylineNesterModel", "w", "(II)I"⟩, 24) := ⟨⟨by decide +kernel, by decide +kernel⟩, List.mem_of_getElem? (i := 968) (by decide +kernel), List.mem_of_getElem? (i := 1144) (by decide +kernel), List.mem_of_getElem? (i := 1145) (by decide +kernel)⟩
theorem lw_p31 : lw_okq (⟨"SkylineNesterModel", "t", "(II)I"⟩, 24) := ⟨⟨by decide +kernel, by decide +kernel⟩, List.mem_of_getElem? (i := 968) (by decide +kernel), List.mem_of_getElem? (i := 1148) (by decide +kernel), List.mem_of_getElem? (i := 1149) (by decide +kernel)⟩
def lw_privs_2 : List (MethodName × Nat) := [(⟨"SkylineNester$Search", "isRow", "(I)Z"⟩, 8), (⟨"SkylineNester$Cuts", "stagesFrom", "(Z)I"⟩, 7), (⟨"SkylineNester$Cuts", "cut", "([I[I)I"⟩, 7), (⟨"SkylineNester$Cuts", "isFree", "(II[I[I)Z"⟩, 7), (⟨"SkylineNester$Cuts", "numberPieces", "()I"⟩, 7), (⟨"SkylineNester", "topDrawn", "(II)I"⟩, 10), (⟨"SkylineNester", "rulesThatTell", "(LSkylineNester$Sheet;)I"⟩, 10), (⟨"SkylineNester", "pairsThatTell", "(LSkylineNester$Sheet;)I"⟩, 10), (⟨"SkylineNesterModel", "emptyRacks", "()V"⟩, 24), (⟨"SkylineNesterModel", "reads", "()I"⟩, 24), (⟨"SkylineNesterModel", "isBlank", "(I)Z"⟩, 24), (⟨"SkylineNesterModel", "byteAt", "(I)I"⟩, 24), (⟨"SkylineNesterModel", "isDigit", "(II)Z"⟩, 24), (⟨"SkylineNesterModel", "isPart", "(I)Z"⟩, 24), (⟨"SkylineNesterModel", "w", "(II)I"⟩, 24), (⟨"SkylineNesterModel", "t", "(II)I"⟩, 24)]
theorem lw_r2 : ∀ q ∈ lw_privs_2, lw_okq q := List.forall_mem_cons.mpr ⟨lw_p16, List.forall_mem_cons.mpr ⟨lw_p17, List.forall_mem_cons.mpr ⟨lw_p18, List.forall_mem_cons.mpr ⟨lw_p19, List.forall_mem_cons.mpr ⟨lw_p20, List.forall_mem_cons.mpr ⟨lw_p21, List.forall_mem_cons.mpr ⟨lw_p22, List.forall_mem_cons.mpr ⟨lw_p23, List.forall_mem_cons.mpr ⟨lw_p24, List.forall_mem_cons.mpr ⟨lw_p25, List.forall_mem_cons.mpr ⟨lw_p26, List.forall_mem_cons.mpr ⟨lw_p27, List.forall_mem_cons.mpr ⟨lw_p28, List.forall_mem_cons.mpr ⟨lw_p29, List.forall_mem_cons.mpr ⟨lw_p30, List.forall_mem_cons.mpr ⟨lw_p31, fun _ h => absurd h List.not_mem_nil⟩⟩⟩⟩⟩⟩⟩⟩⟩⟩⟩⟩⟩⟩⟩⟩
theorem lw_p32 : lw_okq (⟨"SkylineNesterModel", "liesLoose", "()Z"⟩, 24) := ⟨⟨by decide +kernel, by decide +kernel⟩, List.mem_of_getElem? (i := 968) (by decide +kernel), List.mem_of_getElem? (i := 1156) (by decide +kernel), List.mem_of_getElem? (i := 1157) (by decide +kernel)⟩
theorem lw_p33 : lw_okq (⟨"SkylineNesterModel", "isOrdered", "(I)Z"⟩, 24) := ⟨⟨by decide +kernel, by decide +kernel⟩, List.mem_of_getElem? (i := 968) (by decide +kernel), List.mem_of_getElem? (i := 1160) (by decide +kernel), List.mem_of_getElem? (i := 1161) (by decide +kernel)⟩
theorem lw_p34 : lw_okq (⟨"SkylineNesterModel", "isOverFixed", "(IIII)Z"⟩, 24) := ⟨⟨by decide +kernel, by decide +kernel⟩, List.mem_of_getElem? (i := 968) (by decide +kernel), List.mem_of_getElem? (i := 1164) (by decide +kernel), List.mem_of_getElem? (i := 1165) (by decide +kernel)⟩
theorem lw_p35 : lw_okq (⟨"SkylineNesterModel", "wOf", "(I)I"⟩, 24) := ⟨⟨by decide +kernel, by decide +kernel⟩, List.mem_of_getElem? (i := 968) (by decide +kernel), List.mem_of_getElem? (i := 1168) (by decide +kernel), List.mem_of_getElem? (i := 1169) (by decide +kernel)⟩
theorem lw_p36 : lw_okq (⟨"SkylineNesterModel", "tOf", "(I)I"⟩, 24) := ⟨⟨by decide +kernel, by decide +kernel⟩, List.mem_of_getElem? (i := 968) (by decide +kernel), List.mem_of_getElem? (i := 1172) (by decide +kernel), List.mem_of_getElem? (i := 1173) (by decide +kernel)⟩
theorem lw_p37 : lw_okq (⟨"SkylineNesterModel", "exchange", "(II)V"⟩, 24) := ⟨⟨by decide +kernel, by decide +kernel⟩, List.mem_of_getElem? (i := 968) (by decide +kernel), List.mem_of_getElem? (i := 1190) (by decide +kernel), List.mem_of_getElem? (i := 1191) (by decide +kernel)⟩
theorem lw_p38 : lw_okq (⟨"SkylineNesterModel", "finds", "(I)Z"⟩, 24) := ⟨⟨by decide +kernel, by decide +kernel⟩, List.mem_of_getElem? (i := 968) (by decide +kernel), List.mem_of_getElem? (i := 1202) (by decide +kernel), List.mem_of_getElem? (i := 1203) (by decide +kernel)⟩
theorem lw_p39 : lw_okq (⟨"SkylineNesterModel", "mayTurn", "(I)Z"⟩, 24) := ⟨⟨by decide +kernel, by decide +kernel⟩, List.mem_of_getElem? (i := 968) (by decide +kernel), List.mem_of_getElem? (i := 1206) (by decide +kernel), List.mem_of_getElem? (i := 1207) (by decide +kernel)⟩
theorem lw_p40 : lw_okq (⟨"SkylineNesterModel", "mayLie", "(IIII)Z"⟩, 24) := ⟨⟨by decide +kernel, by decide +kernel⟩, List.mem_of_getElem? (i := 968) (by decide +kernel), List.mem_of_getElem? (i := 1210) (by decide +kernel), List.mem_of_getElem? (i := 1211) (by decide +kernel)⟩
theorem lw_p41 : lw_okq (⟨"SkylineNesterModel", "yAt", "(III)I"⟩, 24) := ⟨⟨by decide +kernel, by decide +kernel⟩, List.mem_of_getElem? (i := 968) (by decide +kernel), List.mem_of_getElem? (i := 1214) (by decide +kernel), List.mem_of_getElem? (i := 1215) (by decide +kernel)⟩
theorem lw_p42 : lw_okq (⟨"SkylineNesterModel", "wastedAt", "(III)I"⟩, 24) := ⟨⟨by decide +kernel, by decide +kernel⟩, List.mem_of_getElem? (i := 968) (by decide +kernel), List.mem_of_getElem? (i := 1219) (by decide +kernel), List.mem_of_getElem? (i := 1220) (by decide +kernel)⟩
theorem lw_p43 : lw_okq (⟨"SkylineNesterModel", "valueAt", "(IIII)I"⟩, 24) := ⟨⟨by decide +kernel, by decide +kernel⟩, List.mem_of_getElem? (i := 968) (by decide +kernel), List.mem_of_getElem? (i := 1223) (by decide +kernel), List.mem_of_getElem? (i := 1224) (by decide +kernel)⟩
theorem lw_p44 : lw_okq (⟨"SkylineNesterModel", "touchingAt", "(IIII)I"⟩, 24) := ⟨⟨by decide +kernel, by decide +kernel⟩, List.mem_of_getElem? (i := 968) (by decide +kernel), List.mem_of_getElem? (i := 1227) (by decide +kernel), List.mem_of_getElem? (i := 1228) (by decide +kernel)⟩
theorem lw_p45 : lw_okq (⟨"SkylineNesterModel", "clears", "()V"⟩, 24) := ⟨⟨by decide +kernel, by decide +kernel⟩, List.mem_of_getElem? (i := 968) (by decide +kernel), List.mem_of_getElem? (i := 1235) (by decide +kernel), List.mem_of_getElem? (i := 1236) (by decide +kernel)⟩
theorem lw_p46 : lw_okq (⟨"SkylineNesterModel", "lays", "(I)Z"⟩, 24) := ⟨⟨by decide +kernel, by decide +kernel⟩, List.mem_of_getElem? (i := 968) (by decide +kernel), List.mem_of_getElem? (i := 1239) (by decide +kernel), List.mem_of_getElem? (i := 1240) (by decide +kernel)⟩
theorem lw_p47 : lw_okq (⟨"SkylineNesterModel", "ontoSky", "(II)V"⟩, 24) := ⟨⟨by decide +kernel, by decide +kernel⟩, List.mem_of_getElem? (i := 968) (by decide +kernel), List.mem_of_getElem? (i := 1243) (by decide +kernel), List.mem_of_getElem? (i := 1244) (by decide +kernel)⟩
def lw_privs_3 : List (MethodName × Nat) := [(⟨"SkylineNesterModel", "liesLoose", "()Z"⟩, 24), (⟨"SkylineNesterModel", "isOrdered", "(I)Z"⟩, 24), (⟨"SkylineNesterModel", "isOverFixed", "(IIII)Z"⟩, 24), (⟨"SkylineNesterModel", "wOf", "(I)I"⟩, 24), (⟨"SkylineNesterModel", "tOf", "(I)I"⟩, 24), (⟨"SkylineNesterModel", "exchange", "(II)V"⟩, 24), (⟨"SkylineNesterModel", "finds", "(I)Z"⟩, 24), (⟨"SkylineNesterModel", "mayTurn", "(I)Z"⟩, 24), (⟨"SkylineNesterModel", "mayLie", "(IIII)Z"⟩, 24), (⟨"SkylineNesterModel", "yAt", "(III)I"⟩, 24), (⟨"SkylineNesterModel", "wastedAt", "(III)I"⟩, 24), (⟨"SkylineNesterModel", "valueAt", "(IIII)I"⟩, 24), (⟨"SkylineNesterModel", "touchingAt", "(IIII)I"⟩, 24), (⟨"SkylineNesterModel", "clears", "()V"⟩, 24), (⟨"SkylineNesterModel", "lays", "(I)Z"⟩, 24), (⟨"SkylineNesterModel", "ontoSky", "(II)V"⟩, 24)]
theorem lw_r3 : ∀ q ∈ lw_privs_3, lw_okq q := List.forall_mem_cons.mpr ⟨lw_p32, List.forall_mem_cons.mpr ⟨lw_p33, List.forall_mem_cons.mpr ⟨lw_p34, List.forall_mem_cons.mpr ⟨lw_p35, List.forall_mem_cons.mpr ⟨lw_p36, List.forall_mem_cons.mpr ⟨lw_p37, List.forall_mem_cons.mpr ⟨lw_p38, List.forall_mem_cons.mpr ⟨lw_p39, List.forall_mem_cons.mpr ⟨lw_p40, List.forall_mem_cons.mpr ⟨lw_p41, List.forall_mem_cons.mpr ⟨lw_p42, List.forall_mem_cons.mpr ⟨lw_p43, List.forall_mem_cons.mpr ⟨lw_p44, List.forall_mem_cons.mpr ⟨lw_p45, List.forall_mem_cons.mpr ⟨lw_p46, List.forall_mem_cons.mpr ⟨lw_p47, fun _ h => absurd h List.not_mem_nil⟩⟩⟩⟩⟩⟩⟩⟩⟩⟩⟩⟩⟩⟩⟩⟩
theorem lw_p48 : lw_okq (⟨"SkylineNesterModel", "addPiece", "(IIII)V"⟩, 24) := ⟨⟨by decide +kernel, by decide +kernel⟩, List.mem_of_getElem? (i := 968) (by decide +kernel), List.mem_of_getElem? (i := 1247) (by decide +kernel), List.mem_of_getElem? (i := 1248) (by decide +kernel)⟩
theorem lw_p49 : lw_okq (⟨"SkylineNesterModel", "intoPiece", "(II)V"⟩, 24) := ⟨⟨by decide +kernel, by decide +kernel⟩, List.mem_of_getElem? (i := 968) (by decide +kernel), List.mem_of_getElem? (i := 1252) (by decide +kernel), List.mem_of_getElem? (i := 1253) (by decide +kernel)⟩
theorem lw_p50 : lw_okq (⟨"SkylineNesterModel", "runs", "()I"⟩, 24) := ⟨⟨by decide +kernel, by decide +kernel⟩, List.mem_of_getElem? (i := 968) (by decide +kernel), List.mem_of_getElem? (i := 1260) (by decide +kernel), List.mem_of_getElem? (i := 1261) (by decide +kernel)⟩
theorem lw_p51 : lw_okq (⟨"SkylineNesterModel", "boundOf", "(I)I"⟩, 24) := ⟨⟨by decide +kernel, by decide +kernel⟩, List.mem_of_getElem? (i := 968) (by decide +kernel), List.mem_of_getElem? (i := 1276) (by decide +kernel), List.mem_of_getElem? (i := 1277) (by decide +kernel)⟩
theorem lw_p52 : lw_okq (⟨"SkylineNesterModel", "tallest", "()I"⟩, 24) := ⟨⟨by decide +kernel, by decide +kernel⟩, List.mem_of_getElem? (i := 968) (by decide +kernel), List.mem_of_getElem? (i := 1280) (by decide +kernel), List.mem_of_getElem? (i := 1281) (by decide +kernel)⟩
theorem lw_p53 : lw_okq (⟨"SkylineNesterModel", "summed", "(II)I"⟩, 24) := ⟨⟨by decide +kernel, by decide +kernel⟩, List.mem_of_getElem? (i := 968) (by decide +kernel), List.mem_of_getElem? (i := 1285) (by decide +kernel), List.mem_of_getElem? (i := 1286) (by decide +kernel)⟩
theorem lw_p54 : lw_okq (⟨"SkylineNesterModel", "counted", "(IIII)I"⟩, 24) := ⟨⟨by decide +kernel, by decide +kernel⟩, List.mem_of_getElem? (i := 968) (by decide +kernel), List.mem_of_getElem? (i := 1289) (by decide +kernel), List.mem_of_getElem? (i := 1290) (by decide +kernel)⟩
theorem lw_p55 : lw_okq (⟨"SkylineNesterModel", "bestTop", "()I"⟩, 24) := ⟨⟨by decide +kernel, by decide +kernel⟩, List.mem_of_getElem? (i := 968) (by decide +kernel), List.mem_of_getElem? (i := 1300) (by decide +kernel), List.mem_of_getElem? (i := 1301) (by decide +kernel)⟩
theorem lw_p56 : lw_okq (⟨"SkylineNesterModel", "keep", "(I)V"⟩, 24) := ⟨⟨by decide +kernel, by decide +kernel⟩, List.mem_of_getElem? (i := 968) (by decide +kernel), List.mem_of_getElem? (i := 1304) (by decide +kernel), List.mem_of_getElem? (i := 1305) (by decide +kernel)⟩
theorem lw_p57 : lw_okq (⟨"SkylineNesterModel", "sorts", "()V"⟩, 24) := ⟨⟨by decide +kernel, by decide +kernel⟩, List.mem_of_getElem? (i := 968) (by decide +kernel), List.mem_of_getElem? (i := 1308) (by decide +kernel), List.mem_of_getElem? (i := 1309) (by decide +kernel)⟩
theorem lw_p58 : lw_okq (⟨"SkylineNesterModel", "top", "()I"⟩, 24) := ⟨⟨by decide +kernel, by decide +kernel⟩, List.mem_of_getElem? (i := 968) (by decide +kernel), List.mem_of_getElem? (i := 1312) (by decide +kernel), List.mem_of_getElem? (i := 1313) (by decide +kernel)⟩
theorem lw_p59 : lw_okq (⟨"SkylineNesterModel", "steps", "()Z"⟩, 24) := ⟨⟨by decide +kernel, by decide +kernel⟩, List.mem_of_getElem? (i := 968) (by decide +kernel), List.mem_of_getElem? (i := 1316) (by decide +kernel), List.mem_of_getElem? (i := 1317) (by decide +kernel)⟩
theorem lw_p60 : lw_okq (⟨"SkylineNesterModel", "layBack", "(I)V"⟩, 24) := ⟨⟨by decide +kernel, by decide +kernel⟩, List.mem_of_getElem? (i := 968) (by decide +kernel), List.mem_of_getElem? (i := 1320) (by decide +kernel), List.mem_of_getElem? (i := 1321) (by decide +kernel)⟩
theorem lw_p61 : lw_okq (⟨"SkylineNesterModel", "tellsLayout", "(IZ)I"⟩, 24) := ⟨⟨by decide +kernel, by decide +kernel⟩, List.mem_of_getElem? (i := 968) (by decide +kernel), List.mem_of_getElem? (i := 1328) (by decide +kernel), List.mem_of_getElem? (i := 1329) (by decide +kernel)⟩
theorem lw_p62 : lw_okq (⟨"SkylineNesterModel", "areRowsAlike", "(III)Z"⟩, 24) := ⟨⟨by decide +kernel, by decide +kernel⟩, List.mem_of_getElem? (i := 968) (by decide +kernel), List.mem_of_getElem? (i := 1332) (by decide +kernel), List.mem_of_getElem? (i := 1333) (by decide +kernel)⟩
theorem lw_p63 : lw_okq (⟨"SkylineNesterModel", "stagesFrom", "(I)I"⟩, 24) := ⟨⟨by decide +kernel, by decide +kernel⟩, List.mem_of_getElem? (i := 968) (by decide +kernel), List.mem_of_getElem? (i := 1340) (by decide +kernel), List.mem_of_getElem? (i := 1341) (by decide +kernel)⟩
def lw_privs_4 : List (MethodName × Nat) := [(⟨"SkylineNesterModel", "addPiece", "(IIII)V"⟩, 24), (⟨"SkylineNesterModel", "intoPiece", "(II)V"⟩, 24), (⟨"SkylineNesterModel", "runs", "()I"⟩, 24), (⟨"SkylineNesterModel", "boundOf", "(I)I"⟩, 24), (⟨"SkylineNesterModel", "tallest", "()I"⟩, 24), (⟨"SkylineNesterModel", "summed", "(II)I"⟩, 24), (⟨"SkylineNesterModel", "counted", "(IIII)I"⟩, 24), (⟨"SkylineNesterModel", "bestTop", "()I"⟩, 24), (⟨"SkylineNesterModel", "keep", "(I)V"⟩, 24), (⟨"SkylineNesterModel", "sorts", "()V"⟩, 24), (⟨"SkylineNesterModel", "top", "()I"⟩, 24), (⟨"SkylineNesterModel", "steps", "()Z"⟩, 24), (⟨"SkylineNesterModel", "layBack", "(I)V"⟩, 24), (⟨"SkylineNesterModel", "tellsLayout", "(IZ)I"⟩, 24), (⟨"SkylineNesterModel", "areRowsAlike", "(III)Z"⟩, 24), (⟨"SkylineNesterModel", "stagesFrom", "(I)I"⟩, 24)]
theorem lw_r4 : ∀ q ∈ lw_privs_4, lw_okq q := List.forall_mem_cons.mpr ⟨lw_p48, List.forall_mem_cons.mpr ⟨lw_p49, List.forall_mem_cons.mpr ⟨lw_p50, List.forall_mem_cons.mpr ⟨lw_p51, List.forall_mem_cons.mpr ⟨lw_p52, List.forall_mem_cons.mpr ⟨lw_p53, List.forall_mem_cons.mpr ⟨lw_p54, List.forall_mem_cons.mpr ⟨lw_p55, List.forall_mem_cons.mpr ⟨lw_p56, List.forall_mem_cons.mpr ⟨lw_p57, List.forall_mem_cons.mpr ⟨lw_p58, List.forall_mem_cons.mpr ⟨lw_p59, List.forall_mem_cons.mpr ⟨lw_p60, List.forall_mem_cons.mpr ⟨lw_p61, List.forall_mem_cons.mpr ⟨lw_p62, List.forall_mem_cons.mpr ⟨lw_p63, fun _ h => absurd h List.not_mem_nil⟩⟩⟩⟩⟩⟩⟩⟩⟩⟩⟩⟩⟩⟩⟩⟩
theorem lw_p64 : lw_okq (⟨"SkylineNesterModel", "areAlone", "()Z"⟩, 24) := ⟨⟨by decide +kernel, by decide +kernel⟩, List.mem_of_getElem? (i := 968) (by decide +kernel), List.mem_of_getElem? (i := 1344) (by decide +kernel), List.mem_of_getElem? (i := 1345) (by decide +kernel)⟩
theorem lw_p65 : lw_okq (⟨"SkylineNesterModel", "cuts", "(I)V"⟩, 24) := ⟨⟨by decide +kernel, by decide +kernel⟩, List.mem_of_getElem? (i := 968) (by decide +kernel), List.mem_of_getElem? (i := 1348) (by decide +kernel), List.mem_of_getElem? (i := 1349) (by decide +kernel)⟩
theorem lw_p66 : lw_okq (⟨"SkylineNesterModel", "areParted", "(III)Z"⟩, 24) := ⟨⟨by decide +kernel, by decide +kernel⟩, List.mem_of_getElem? (i := 968) (by decide +kernel), List.mem_of_getElem? (i := 1352) (by decide +kernel), List.mem_of_getElem? (i := 1353) (by decide +kernel)⟩
theorem lw_p67 : lw_okq (⟨"SkylineNesterModel", "high", "(II)I"⟩, 24) := ⟨⟨by decide +kernel, by decide +kernel⟩, List.mem_of_getElem? (i := 968) (by decide +kernel), List.mem_of_getElem? (i := 1356) (by decide +kernel), List.mem_of_getElem? (i := 1357) (by decide +kernel)⟩
theorem lw_p68 : lw_okq (⟨"SkylineNesterModel", "low", "(II)I"⟩, 24) := ⟨⟨by decide +kernel, by decide +kernel⟩, List.mem_of_getElem? (i := 968) (by decide +kernel), List.mem_of_getElem? (i := 1360) (by decide +kernel), List.mem_of_getElem? (i := 1361) (by decide +kernel)⟩
theorem lw_p69 : lw_okq (⟨"SkylineNesterModel", "isCut", "(III)Z"⟩, 24) := ⟨⟨by decide +kernel, by decide +kernel⟩, List.mem_of_getElem? (i := 968) (by decide +kernel), List.mem_of_getElem? (i := 1364) (by decide +kernel), List.mem_of_getElem? (i := 1365) (by decide +kernel)⟩
theorem lw_p70 : lw_okq (⟨"SkylineNesterModel", "isAnyThere", "()Z"⟩, 24) := ⟨⟨by decide +kernel, by decide +kernel⟩, List.mem_of_getElem? (i := 968) (by decide +kernel), List.mem_of_getElem? (i := 1372) (by decide +kernel), List.mem_of_getElem? (i := 1373) (by decide +kernel)⟩
theorem lw_p71 : lw_okq (⟨"SkylineNesterModel", "drawnTop", "(II)I"⟩, 24) := ⟨⟨by decide +kernel, by decide +kernel⟩, List.mem_of_getElem? (i := 968) (by decide +kernel), List.mem_of_getElem? (i := 1390) (by decide +kernel), List.mem_of_getElem? (i := 1391) (by decide +kernel)⟩
theorem lw_p72 : lw_okq (⟨"SkylineNesterModel", "firstOther", "(I)I"⟩, 24) := ⟨⟨by decide +kernel, by decide +kernel⟩, List.mem_of_getElem? (i := 968) (by decide +kernel), List.mem_of_getElem? (i := 1406) (by decide +kernel), List.mem_of_getElem? (i := 1407) (by decide +kernel)⟩
theorem lw_p73 : lw_okq (⟨"SkylineNesterModel", "runsTo", "(I)Z"⟩, 24) := ⟨⟨by decide +kernel, by decide +kernel⟩, List.mem_of_getElem? (i := 968) (by decide +kernel), List.mem_of_getElem? (i := 1410) (by decide +kernel), List.mem_of_getElem? (i := 1411) (by decide +kernel)⟩
theorem lw_p74 : lw_okq (⟨"SkylineNesterModel", "isFor", "(II)Z"⟩, 24) := ⟨⟨by decide +kernel, by decide +kernel⟩, List.mem_of_getElem? (i := 968) (by decide +kernel), List.mem_of_getElem? (i := 1422) (by decide +kernel), List.mem_of_getElem? (i := 1423) (by decide +kernel)⟩
theorem lw_p75 : lw_okq (⟨"SkylineNesterModel", "unlike", "()I"⟩, 24) := ⟨⟨by decide +kernel, by decide +kernel⟩, List.mem_of_getElem? (i := 968) (by decide +kernel), List.mem_of_getElem? (i := 1446) (by decide +kernel), List.mem_of_getElem? (i := 1447) (by decide +kernel)⟩
theorem lw_p76 : lw_okq (⟨"SkylineNesterModel", "areAlike", "(II)Z"⟩, 24) := ⟨⟨by decide +kernel, by decide +kernel⟩, List.mem_of_getElem? (i := 968) (by decide +kernel), List.mem_of_getElem? (i := 1450) (by decide +kernel), List.mem_of_getElem? (i := 1451) (by decide +kernel)⟩
theorem lw_p77 : lw_okq (⟨"SkylineNesterModel", "orders", "()I"⟩, 24) := ⟨⟨by decide +kernel, by decide +kernel⟩, List.mem_of_getElem? (i := 968) (by decide +kernel), List.mem_of_getElem? (i := 1454) (by decide +kernel), List.mem_of_getElem? (i := 1455) (by decide +kernel)⟩
def lw_privs_5 : List (MethodName × Nat) := [(⟨"SkylineNesterModel", "areAlone", "()Z"⟩, 24), (⟨"SkylineNesterModel", "cuts", "(I)V"⟩, 24), (⟨"SkylineNesterModel", "areParted", "(III)Z"⟩, 24), (⟨"SkylineNesterModel", "high", "(II)I"⟩, 24), (⟨"SkylineNesterModel", "low", "(II)I"⟩, 24), (⟨"SkylineNesterModel", "isCut", "(III)Z"⟩, 24), (⟨"SkylineNesterModel", "isAnyThere", "()Z"⟩, 24), (⟨"SkylineNesterModel", "drawnTop", "(II)I"⟩, 24), (⟨"SkylineNesterModel", "firstOther", "(I)I"⟩, 24), (⟨"SkylineNesterModel", "runsTo", "(I)Z"⟩, 24), (⟨"SkylineNesterModel", "isFor", "(II)Z"⟩, 24), (⟨"SkylineNesterModel", "unlike", "()I"⟩, 24), (⟨"SkylineNesterModel", "areAlike", "(II)Z"⟩, 24), (⟨"SkylineNesterModel", "orders", "()I"⟩, 24)]
theorem lw_r5 : ∀ q ∈ lw_privs_5, lw_okq q := List.forall_mem_cons.mpr ⟨lw_p64, List.forall_mem_cons.mpr ⟨lw_p65, List.forall_mem_cons.mpr ⟨lw_p66, List.forall_mem_cons.mpr ⟨lw_p67, List.forall_mem_cons.mpr ⟨lw_p68, List.forall_mem_cons.mpr ⟨lw_p69, List.forall_mem_cons.mpr ⟨lw_p70, List.forall_mem_cons.mpr ⟨lw_p71, List.forall_mem_cons.mpr ⟨lw_p72, List.forall_mem_cons.mpr ⟨lw_p73, List.forall_mem_cons.mpr ⟨lw_p74, List.forall_mem_cons.mpr ⟨lw_p75, List.forall_mem_cons.mpr ⟨lw_p76, List.forall_mem_cons.mpr ⟨lw_p77, fun _ h => absurd h List.not_mem_nil⟩⟩⟩⟩⟩⟩⟩⟩⟩⟩⟩⟩⟩⟩
def lw_privs : List (MethodName × Nat) := lw_privs_1 ++ (lw_privs_2 ++ (lw_privs_3 ++ (lw_privs_4 ++ (lw_privs_5))))
def lw_tbl : List Cond := k2_sels lw_privs ++ tables_1
theorem lw_privs_ok : ∀ q ∈ lw_privs, lw_okq q := by
  show ∀ q ∈ lw_privs_1 ++ (lw_privs_2 ++ (lw_privs_3 ++ (lw_privs_4 ++ (lw_privs_5)))), lw_okq q
  exact List.forall_mem_append.mpr ⟨lw_r1, List.forall_mem_append.mpr ⟨lw_r2, List.forall_mem_append.mpr ⟨lw_r3, List.forall_mem_append.mpr ⟨lw_r4, lw_r5⟩⟩⟩⟩
/-- the streams that the claim lets the run draw from -/
abbrev lw_cs : List Choice := [Jvm.Choice.named "NaN.bits"]
theorem lw_bits : nanBits ∈ lw_cs := by first | decide | exact List.mem_cons_self | simp [lw_cs, nanBits]
/-! ===== BEGIN printed: names, fields, word lists, decode rows ===== -/
def RX0 : String := "SkylineNester$Bounds"
def TX0 : u_T := fun k => match k with
  | _ => ("", "", "", false)
def tyX0 : Nat → FieldType := fun k => match k with
  | _ => .int
abbrev wsX00 : List Cond := u_ws RX0 TX0 0
theorem nmX0 : ∀ a, a < 0 → ∀ b, b < 0 → a ≠ b → (TX0 a).2.1 ≠ (TX0 b).2.1 := by decide +kernel
theorem tyX0_ok : ∀ k, k < 0 → parseFieldDescriptor (TX0 k).2.2.1 = some (tyX0 k) := by decide +kernel
abbrev cX0_of : ByteArray := prog_2_method_2_code
def yX0_of : MethodName := ⟨RX0, "of", "(LSkylineNester$Plan;I)I"⟩
abbrev cX0_single : ByteArray := prog_2_method_3_code
def yX0_single : MethodName := ⟨RX0, "single", "(LSkylineNester$Plan;I)I"⟩
abbrev cX0_tallest : ByteArray := prog_2_method_4_code
def yX0_tallest : MethodName := ⟨RX0, "tallest", "(LSkylineNester$Plan;)I"⟩
abbrev cX0_together : ByteArray := prog_2_method_5_code
def yX0_together : MethodName := ⟨RX0, "together", "(LSkylineNester$Plan;II)I"⟩
abbrev cX0_isShared : ByteArray := prog_2_method_6_code
def yX0_isShared : MethodName := ⟨RX0, "isShared", "(I)Z"⟩
abbrev cX0_shares : ByteArray := prog_2_method_7_code
def yX0_shares : MethodName := ⟨RX0, "shares", "(I)I"⟩
abbrev cX0_weight : ByteArray := prog_2_method_8_code
def yX0_weight : MethodName := ⟨RX0, "weight", "(IIII)I"⟩
def RX1 : String := "SkylineNester$Cuts"
def TX1 : u_T := fun k => match k with
  | 0 => ("SkylineNester$Cuts", "left", "[I", true)
  | 1 => ("SkylineNester$Cuts", "right", "[I", true)
  | 2 => ("SkylineNester$Cuts", "lower", "[I", true)
  | 3 => ("SkylineNester$Cuts", "upper", "[I", true)
  | 4 => ("SkylineNester$Cuts", "piece", "[I", true)
  | 5 => ("SkylineNester$Cuts", "line", "[I", true)
  | _ => ("SkylineNester$Cuts", "many", "I", false)
def tyX1 : Nat → FieldType := fun k => match k with
  | 0 => .array .int
  | 1 => .array .int
  | 2 => .array .int
  | 3 => .array .int
  | 4 => .array .int
  | 5 => .array .int
  | _ => .int
abbrev wsX10 : List Cond := u_ws RX1 TX1 7
theorem nmX1 : ∀ a, a < 7 → ∀ b, b < 7 → a ≠ b → (TX1 a).2.1 ≠ (TX1 b).2.1 := by decide +kernel
theorem tyX1_ok : ∀ k, k < 7 → parseFieldDescriptor (TX1 k).2.2.1 = some (tyX1 k) := by decide +kernel
abbrev cX1_init : ByteArray := prog_3_method_1_code
def yX1_init : MethodName := ⟨RX1, "<init>", "()V"⟩
abbrev cX1_takeFrom : ByteArray := prog_3_method_2_code
def yX1_takeFrom : MethodName := ⟨RX1, "takeFrom", "(LSkylineNester$Plan;)V"⟩
abbrev cX1_leastStages : ByteArray := prog_3_method_3_code
def yX1_leastStages : MethodName := ⟨RX1, "leastStages", "()I"⟩
abbrev cX1_stagesFrom : ByteArray := prog_3_method_4_code
def yX1_stagesFrom : MethodName := ⟨RX1, "stagesFrom", "(Z)I"⟩
abbrev cX1_cut : ByteArray := prog_3_method_5_code
def yX1_cut : MethodName := ⟨RX1, "cut", "([I[I)I"⟩
abbrev cX1_isFree : ByteArray := prog_3_method_6_code
def yX1_isFree : MethodName := ⟨RX1, "isFree", "(II[I[I)Z"⟩
abbrev cX1_numberPieces : ByteArray := prog_3_method_7_code
def yX1_numberPieces : MethodName := ⟨RX1, "numberPieces", "()I"⟩
def RX2 : String := "SkylineNester$Layer"
def TX2 : u_T := fun k => match k with
  | _ => ("SkylineNester$Layer", "spot", "LSkylineNester$Spot;", true)
def tyX2 : Nat → FieldType := fun k => match k with
  | _ => .object "SkylineNester$Spot"
abbrev wsX20 : List Cond := u_ws RX2 TX2 1
theorem nmX2 : ∀ a, a < 1 → ∀ b, b < 1 → a ≠ b → (TX2 a).2.1 ≠ (TX2 b).2.1 := by decide +kernel
theorem tyX2_ok : ∀ k, k < 1 → parseFieldDescriptor (TX2 k).2.2.1 = some (tyX2 k) := by decide +kernel
abbrev cX2_init : ByteArray := prog_4_method_1_code
def yX2_init : MethodName := ⟨RX2, "<init>", "()V"⟩
abbrev cX2_runAll : ByteArray := prog_4_method_2_code
def yX2_runAll : MethodName := ⟨RX2, "runAll", "(LSkylineNester$Plan;)I"⟩
abbrev cX2_layOne : ByteArray := prog_4_method_3_code
def yX2_layOne : MethodName := ⟨RX2, "layOne", "(LSkylineNester$Plan;LSkylineNester$Part;)Z"⟩
abbrev cX2_find : ByteArray := prog_4_method_4_code
def yX2_find : MethodName := ⟨RX2, "find", "(LSkylineNester$Plan;LSkylineNester$Part;)V"⟩
abbrev cX2_findInWaste : ByteArray := prog_4_method_5_code
def yX2_findInWaste : MethodName := ⟨RX2, "findInWaste", "(LSkylineNester$Plan;LSkylineNester$Part;)V"⟩
abbrev cX2_findOnSkyline : ByteArray := prog_4_method_6_code
def yX2_findOnSkyline : MethodName := ⟨RX2, "findOnSkyline", "(LSkylineNester$Plan;LSkylineNester$Part;)V"⟩
abbrev cX2_settle : ByteArray := prog_4_method_7_code
def yX2_settle : MethodName := ⟨RX2, "settle", "(LSkylineNester$Plan;LSkylineNester$Part;)V"⟩
def RX3 : String := "SkylineNester$Part"
def TX3 : u_T := fun k => match k with
  | 0 => ("SkylineNester$Part", "kind", "I", false)
  | 1 => ("SkylineNester$Part", "w", "I", false)
  | 2 => ("SkylineNester$Part", "h", "I", false)
  | 3 => ("SkylineNester$Part", "figure", "I", false)
  | 4 => ("SkylineNester$Part", "how", "I", false)
  | 5 => ("SkylineNester$Part", "x", "I", false)
  | 6 => ("SkylineNester$Part", "y", "I", false)
  | 7 => ("SkylineNester$Part", "turned", "Z", false)
  | 8 => ("SkylineNester$Part", "across", "I", false)
  | _ => ("SkylineNester$Part", "tall", "I", false)
def tyX3 : Nat → FieldType := fun k => match k with
  | 0 => .int
  | 1 => .int
  | 2 => .int
  | 3 => .int
  | 4 => .int
  | 5 => .int
  | 6 => .int
  | 7 => .boolean
  | 8 => .int
  | _ => .int
abbrev wsX30 : List Cond := u_ws RX3 TX3 10
theorem nmX3 : ∀ a, a < 10 → ∀ b, b < 10 → a ≠ b → (TX3 a).2.1 ≠ (TX3 b).2.1 := by decide +kernel
theorem tyX3_ok : ∀ k, k < 10 → parseFieldDescriptor (TX3 k).2.2.1 = some (tyX3 k) := by decide +kernel
abbrev cX3_init : ByteArray := prog_5_method_1_code
def yX3_init : MethodName := ⟨RX3, "<init>", "()V"⟩
abbrev cX3_begin : ByteArray := prog_5_method_2_code
def yX3_begin : MethodName := ⟨RX3, "begin", "(IIII)V"⟩
abbrev cX3_becomeLike : ByteArray := prog_5_method_3_code
def yX3_becomeLike : MethodName := ⟨RX3, "becomeLike", "(LSkylineNester$Part;)V"⟩
abbrev cX3_lies : ByteArray := prog_5_method_4_code
def yX3_lies : MethodName := ⟨RX3, "lies", "()Z"⟩
abbrev cX3_isLaid : ByteArray := prog_5_method_5_code
def yX3_isLaid : MethodName := ⟨RX3, "isLaid", "()Z"⟩
abbrev cX3_lieAt : ByteArray := prog_5_method_6_code
def yX3_lieAt : MethodName := ⟨RX3, "lieAt", "(IIZI)V"⟩
abbrev cX3_ways : ByteArray := prog_5_method_7_code
def yX3_ways : MethodName := ⟨RX3, "ways", "(I)I"⟩
abbrev cX3_acrossIf : ByteArray := prog_5_method_8_code
def yX3_acrossIf : MethodName := ⟨RX3, "acrossIf", "(Z)I"⟩
abbrev cX3_tallIf : ByteArray := prog_5_method_9_code
def yX3_tallIf : MethodName := ⟨RX3, "tallIf", "(Z)I"⟩
abbrev cX3_mayLieAt : ByteArray := prog_5_method_10_code
def yX3_mayLieAt : MethodName := ⟨RX3, "mayLieAt", "(III)Z"⟩
abbrev cX3_isLike : ByteArray := prog_5_method_11_code
def yX3_isLike : MethodName := ⟨RX3, "isLike", "(LSkylineNester$Part;)Z"⟩
def RX4 : String := "SkylineNester$Plan"
def TX4 : u_T := fun k => match k with
  | 0 => ("SkylineNester$Plan", "parts", "[LSkylineNester$Part;", true)
  | 1 => ("SkylineNester$Plan", "order", "[I", true)
  | 2 => ("SkylineNester$Plan", "sky", "[I", true)
  | 3 => ("SkylineNester$Plan", "waste", "LSkylineNester$Waste;", true)
  | 4 => ("SkylineNester$Plan", "wide", "I", false)
  | 5 => ("SkylineNester$Plan", "count", "I", false)
  | 6 => ("SkylineNester$Plan", "ordered", "I", false)
  | 7 => ("SkylineNester$Plan", "rule", "I", false)
  | _ => ("SkylineNester$Plan", "usesWaste", "Z", false)
def tyX4 : Nat → FieldType := fun k => match k with
  | 0 => .array (.object "SkylineNester$Part")
  | 1 => .array .int
  | 2 => .array .int
  | 3 => .object "SkylineNester$Waste"
  | 4 => .int
  | 5 => .int
  | 6 => .int
  | 7 => .int
  | _ => .boolean
abbrev wsX40 : List Cond := u_ws RX4 TX4 9
theorem nmX4 : ∀ a, a < 9 → ∀ b, b < 9 → a ≠ b → (TX4 a).2.1 ≠ (TX4 b).2.1 := by decide +kernel
theorem tyX4_ok : ∀ k, k < 9 → parseFieldDescriptor (TX4 k).2.2.1 = some (tyX4 k) := by decide +kernel
abbrev cX4_init : ByteArray := prog_6_method_1_code
def yX4_init : MethodName := ⟨RX4, "<init>", "()V"⟩
abbrev cX4_becomeLike : ByteArray := prog_6_method_2_code
def yX4_becomeLike : MethodName := ⟨RX4, "becomeLike", "(LSkylineNester$Plan;)V"⟩
abbrev cX4_empty : ByteArray := prog_6_method_3_code
def yX4_empty : MethodName := ⟨RX4, "empty", "(I)V"⟩
abbrev cX4_clearLaid : ByteArray := prog_6_method_4_code
def yX4_clearLaid : MethodName := ⟨RX4, "clearLaid", "()V"⟩
abbrev cX4_isPart : ByteArray := prog_6_method_5_code
def yX4_isPart : MethodName := ⟨RX4, "isPart", "(I)Z"⟩
abbrev cX4_isInOrder : ByteArray := prog_6_method_6_code
def yX4_isInOrder : MethodName := ⟨RX4, "isInOrder", "(I)Z"⟩
abbrev cX4_hasLaid : ByteArray := prog_6_method_7_code
def yX4_hasLaid : MethodName := ⟨RX4, "hasLaid", "()Z"⟩
abbrev cX4_lying : ByteArray := prog_6_method_8_code
def yX4_lying : MethodName := ⟨RX4, "lying", "()I"⟩
abbrev cX4_top : ByteArray := prog_6_method_9_code
def yX4_top : MethodName := ⟨RX4, "top", "()I"⟩
abbrev cX4_orderAll : ByteArray := prog_6_method_10_code
def yX4_orderAll : MethodName := ⟨RX4, "orderAll", "()V"⟩
abbrev cX4_mayBeOrder : ByteArray := prog_6_method_11_code
def yX4_mayBeOrder : MethodName := ⟨RX4, "mayBeOrder", "(LSkylineNester$Rack;)Z"⟩
abbrev cX4_orderBy : ByteArray := prog_6_method_12_code
def yX4_orderBy : MethodName := ⟨RX4, "orderBy", "(LSkylineNester$Rack;)V"⟩
abbrev cX4_exchange : ByteArray := prog_6_method_13_code
def yX4_exchange : MethodName := ⟨RX4, "exchange", "(II)V"⟩
abbrev cX4_segments : ByteArray := prog_6_method_14_code
def yX4_segments : MethodName := ⟨RX4, "segments", "()I"⟩
abbrev cX4_segmentStart : ByteArray := prog_6_method_15_code
def yX4_segmentStart : MethodName := ⟨RX4, "segmentStart", "(I)I"⟩
abbrev cX4_segmentEnd : ByteArray := prog_6_method_16_code
def yX4_segmentEnd : MethodName := ⟨RX4, "segmentEnd", "(I)I"⟩
abbrev cX4_topOfFixedIn : ByteArray := prog_6_method_17_code
def yX4_topOfFixedIn : MethodName := ⟨RX4, "topOfFixedIn", "(IIII)I"⟩
abbrev cX4_restingY : ByteArray := prog_6_method_18_code
def yX4_restingY : MethodName := ⟨RX4, "restingY", "(III)I"⟩
abbrev cX4_wastedAt : ByteArray := prog_6_method_19_code
def yX4_wastedAt : MethodName := ⟨RX4, "wastedAt", "(III)I"⟩
abbrev cX4_touchingAt : ByteArray := prog_6_method_20_code
def yX4_touchingAt : MethodName := ⟨RX4, "touchingAt", "(IIII)I"⟩
abbrev cX4_costByRule : ByteArray := prog_6_method_21_code
def yX4_costByRule : MethodName := ⟨RX4, "costByRule", "(IIIII)I"⟩
abbrev cX4_raise : ByteArray := prog_6_method_22_code
def yX4_raise : MethodName := ⟨RX4, "raise", "(IIII)V"⟩
abbrev cX4_area : ByteArray := prog_6_method_23_code
def yX4_area : MethodName := ⟨RX4, "area", "()I"⟩
abbrev cX4_middle : ByteArray := prog_6_method_24_code
def yX4_middle : MethodName := ⟨RX4, "middle", "(Z)F"⟩
abbrev cX4_fill : ByteArray := prog_6_method_25_code
def yX4_fill : MethodName := ⟨RX4, "fill", "()F"⟩
abbrev cX4_unlikeParts : ByteArray := prog_6_method_26_code
def yX4_unlikeParts : MethodName := ⟨RX4, "unlikeParts", "()I"⟩
abbrev cX4_unlikeOrders : ByteArray := prog_6_method_27_code
def yX4_unlikeOrders : MethodName := ⟨RX4, "unlikeOrders", "()I"⟩
def RX5 : String := "SkylineNester$Rack"
def TX5 : u_T := fun k => match k with
  | 0 => ("SkylineNester$Rack", "places", "[I", true)
  | 1 => ("SkylineNester$Rack", "kind", "I", false)
  | _ => ("SkylineNester$Rack", "size", "I", false)
def tyX5 : Nat → FieldType := fun k => match k with
  | 0 => .array .int
  | 1 => .int
  | _ => .int
abbrev wsX50 : List Cond := u_ws RX5 TX5 3
theorem nmX5 : ∀ a, a < 3 → ∀ b, b < 3 → a ≠ b → (TX5 a).2.1 ≠ (TX5 b).2.1 := by decide +kernel
theorem tyX5_ok : ∀ k, k < 3 → parseFieldDescriptor (TX5 k).2.2.1 = some (tyX5 k) := by decide +kernel
abbrev cX5_init : ByteArray := prog_7_method_1_code
def yX5_init : MethodName := ⟨RX5, "<init>", "()V"⟩
abbrev cX5_isMissing : ByteArray := prog_7_method_2_code
def yX5_isMissing : MethodName := ⟨RX5, "isMissing", "()Z"⟩
abbrev cX5_begin : ByteArray := prog_7_method_3_code
def yX5_begin : MethodName := ⟨RX5, "begin", "(II)V"⟩
abbrev cX5_empty : ByteArray := prog_7_method_4_code
def yX5_empty : MethodName := ⟨RX5, "empty", "()V"⟩
abbrev cX5_takes : ByteArray := prog_7_method_5_code
def yX5_takes : MethodName := ⟨RX5, "takes", "(LSkylineNester$Plan;I)Z"⟩
abbrev cX5_firstPlaceOf : ByteArray := prog_7_method_6_code
def yX5_firstPlaceOf : MethodName := ⟨RX5, "firstPlaceOf", "(I)I"⟩
def RX6 : String := "SkylineNester$Search"
def TX6 : u_T := fun k => match k with
  | 0 => ("SkylineNester$Search", "bestOrder", "[I", true)
  | 1 => ("SkylineNester$Search", "bestTop", "I", false)
  | 2 => ("SkylineNester$Search", "unlike", "I", false)
  | 3 => ("SkylineNester$Search", "alike", "[I", true)
  | 4 => ("SkylineNester$Search", "rows", "[I", true)
  | 5 => ("SkylineNester$Search", "seen", "[I", true)
  | 6 => ("SkylineNester$Search", "mirrored", "[I", true)
  | _ => ("SkylineNester$Search", "size", "I", false)
def tyX6 : Nat → FieldType := fun k => match k with
  | 0 => .array .int
  | 1 => .int
  | 2 => .int
  | 3 => .array .int
  | 4 => .array .int
  | 5 => .array .int
  | 6 => .array .int
  | _ => .int
abbrev wsX60 : List Cond := u_ws RX6 TX6 8
theorem nmX6 : ∀ a, a < 8 → ∀ b, b < 8 → a ≠ b → (TX6 a).2.1 ≠ (TX6 b).2.1 := by decide +kernel
theorem tyX6_ok : ∀ k, k < 8 → parseFieldDescriptor (TX6 k).2.2.1 = some (tyX6 k) := by decide +kernel
abbrev cX6_init : ByteArray := prog_8_method_1_code
def yX6_init : MethodName := ⟨RX6, "<init>", "()V"⟩
abbrev cX6_findBest : ByteArray := prog_8_method_2_code
def yX6_findBest : MethodName := ⟨RX6, "findBest", "(LSkylineNester$Plan;LSkylineNester$Layer;)V"⟩
abbrev cX6_findLayouts : ByteArray := prog_8_method_3_code
def yX6_findLayouts : MethodName := ⟨RX6, "findLayouts", "(LSkylineNester$Plan;LSkylineNester$Layer;)V"⟩
abbrev cX6_mostAlike : ByteArray := prog_8_method_4_code
def yX6_mostAlike : MethodName := ⟨RX6, "mostAlike", "()I"⟩
abbrev cX6_goToNextOrder : ByteArray := prog_8_method_5_code
def yX6_goToNextOrder : MethodName := ⟨RX6, "goToNextOrder", "(LSkylineNester$Plan;)Z"⟩
abbrev cX6_readLayout : ByteArray := prog_8_method_6_code
def yX6_readLayout : MethodName := ⟨RX6, "readLayout", "(LSkylineNester$Plan;)V"⟩
abbrev cX6_numberOf : ByteArray := prog_8_method_7_code
def yX6_numberOf : MethodName := ⟨RX6, "numberOf", "(LSkylineNester$Part;I)I"⟩
abbrev cX6_countLayout : ByteArray := prog_8_method_8_code
def yX6_countLayout : MethodName := ⟨RX6, "countLayout", "()V"⟩
abbrev cX6_isRow : ByteArray := prog_8_method_9_code
def yX6_isRow : MethodName := ⟨RX6, "isRow", "(I)Z"⟩
abbrev cX6_sort : ByteArray := prog_8_method_10_code
def yX6_sort : MethodName := ⟨RX6, "sort", "([II)V"⟩
def RX7 : String := "SkylineNester$Sheet"
def TX7 : u_T := fun k => match k with
  | 0 => ("SkylineNester$Sheet", "items", "[I", true)
  | 1 => ("SkylineNester$Sheet", "sort", "I", false)
  | _ => ("SkylineNester$Sheet", "size", "I", false)
def tyX7 : Nat → FieldType := fun k => match k with
  | 0 => .array .int
  | 1 => .int
  | _ => .int
abbrev wsX70 : List Cond := u_ws RX7 TX7 3
theorem nmX7 : ∀ a, a < 3 → ∀ b, b < 3 → a ≠ b → (TX7 a).2.1 ≠ (TX7 b).2.1 := by decide +kernel
theorem tyX7_ok : ∀ k, k < 3 → parseFieldDescriptor (TX7 k).2.2.1 = some (tyX7 k) := by decide +kernel
abbrev cX7_init : ByteArray := prog_9_method_1_code
def yX7_init : MethodName := ⟨RX7, "<init>", "()V"⟩
abbrev cX7_isMissing : ByteArray := prog_9_method_2_code
def yX7_isMissing : MethodName := ⟨RX7, "isMissing", "()Z"⟩
abbrev cX7_begin : ByteArray := prog_9_method_3_code
def yX7_begin : MethodName := ⟨RX7, "begin", "(II)V"⟩
abbrev cX7_firstUnlike : ByteArray := prog_9_method_4_code
def yX7_firstUnlike : MethodName := ⟨RX7, "firstUnlike", "(LSkylineNester$Plan;)I"⟩
def RX8 : String := "SkylineNester$Spot"
def TX8 : u_T := fun k => match k with
  | 0 => ("SkylineNester$Spot", "found", "Z", false)
  | 1 => ("SkylineNester$Spot", "x", "I", false)
  | 2 => ("SkylineNester$Spot", "y", "I", false)
  | 3 => ("SkylineNester$Spot", "turned", "Z", false)
  | 4 => ("SkylineNester$Spot", "rectangle", "I", false)
  | _ => ("SkylineNester$Spot", "cost", "I", false)
def tyX8 : Nat → FieldType := fun k => match k with
  | 0 => .boolean
  | 1 => .int
  | 2 => .int
  | 3 => .boolean
  | 4 => .int
  | _ => .int
abbrev wsX80 : List Cond := u_ws RX8 TX8 6
theorem nmX8 : ∀ a, a < 6 → ∀ b, b < 6 → a ≠ b → (TX8 a).2.1 ≠ (TX8 b).2.1 := by decide +kernel
theorem tyX8_ok : ∀ k, k < 6 → parseFieldDescriptor (TX8 k).2.2.1 = some (tyX8 k) := by decide +kernel
abbrev cX8_init : ByteArray := prog_10_method_1_code
def yX8_init : MethodName := ⟨RX8, "<init>", "()V"⟩
abbrev cX8_take : ByteArray := prog_10_method_2_code
def yX8_take : MethodName := ⟨RX8, "take", "(IIZII)V"⟩
def RX9 : String := "SkylineNester$Tape"
def TX9 : u_T := fun k => match k with
  | 0 => ("SkylineNester$Tape", "bytes", "[I", true)
  | 1 => ("SkylineNester$Tape", "size", "I", false)
  | 2 => ("SkylineNester$Tape", "items", "[LSkylineNester$Part;", true)
  | 3 => ("SkylineNester$Tape", "read", "I", false)
  | _ => ("SkylineNester$Tape", "at", "I", false)
def tyX9 : Nat → FieldType := fun k => match k with
  | 0 => .array .int
  | 1 => .int
  | 2 => .array (.object "SkylineNester$Part")
  | 3 => .int
  | _ => .int
abbrev wsX90 : List Cond := u_ws RX9 TX9 5
theorem nmX9 : ∀ a, a < 5 → ∀ b, b < 5 → a ≠ b → (TX9 a).2.1 ≠ (TX9 b).2.1 := by decide +kernel
theorem tyX9_ok : ∀ k, k < 5 → parseFieldDescriptor (TX9 k).2.2.1 = some (tyX9 k) := by decide +kernel
abbrev cX9_init : ByteArray := prog_11_method_1_code
def yX9_init : MethodName := ⟨RX9, "<init>", "()V"⟩
abbrev cX9_append : ByteArray := prog_11_method_2_code
def yX9_append : MethodName := ⟨RX9, "append", "(I)V"⟩
abbrev cX9_read : ByteArray := prog_11_method_3_code
def yX9_read : MethodName := ⟨RX9, "read", "(I)I"⟩
abbrev cX9_look : ByteArray := prog_11_method_4_code
def yX9_look : MethodName := ⟨RX9, "look", "()I"⟩
abbrev cX9_skipBlanks : ByteArray := prog_11_method_5_code
def yX9_skipBlanks : MethodName := ⟨RX9, "skipBlanks", "()V"⟩
abbrev cX9_readItem : ByteArray := prog_11_method_6_code
def yX9_readItem : MethodName := ⟨RX9, "readItem", "(I)Z"⟩
abbrev cX9_kindOf : ByteArray := prog_11_method_7_code
def yX9_kindOf : MethodName := ⟨RX9, "kindOf", "(I)I"⟩
abbrev cX9_isDigit : ByteArray := prog_11_method_8_code
def yX9_isDigit : MethodName := ⟨RX9, "isDigit", "()Z"⟩
abbrev cX9_readWidth : ByteArray := prog_11_method_9_code
def yX9_readWidth : MethodName := ⟨RX9, "readWidth", "(I)I"⟩
abbrev cX9_readFigure : ByteArray := prog_11_method_10_code
def yX9_readFigure : MethodName := ⟨RX9, "readFigure", "()I"⟩
abbrev cX9_readMarked : ByteArray := prog_11_method_11_code
def yX9_readMarked : MethodName := ⟨RX9, "readMarked", "(C)I"⟩
def RX10 : String := "SkylineNester$Waste"
def TX10 : u_T := fun k => match k with
  | 0 => ("SkylineNester$Waste", "x", "[I", true)
  | 1 => ("SkylineNester$Waste", "y", "[I", true)
  | 2 => ("SkylineNester$Waste", "w", "[I", true)
  | 3 => ("SkylineNester$Waste", "h", "[I", true)
  | _ => ("SkylineNester$Waste", "size", "I", false)
def tyX10 : Nat → FieldType := fun k => match k with
  | 0 => .array .int
  | 1 => .array .int
  | 2 => .array .int
  | 3 => .array .int
  | _ => .int
abbrev wsX100 : List Cond := u_ws RX10 TX10 5
theorem nmX10 : ∀ a, a < 5 → ∀ b, b < 5 → a ≠ b → (TX10 a).2.1 ≠ (TX10 b).2.1 := by decide +kernel
theorem tyX10_ok : ∀ k, k < 5 → parseFieldDescriptor (TX10 k).2.2.1 = some (tyX10 k) := by decide +kernel
abbrev cX10_init : ByteArray := prog_12_method_1_code
def yX10_init : MethodName := ⟨RX10, "<init>", "()V"⟩
abbrev cX10_becomeLike : ByteArray := prog_12_method_2_code
def yX10_becomeLike : MethodName := ⟨RX10, "becomeLike", "(LSkylineNester$Waste;)V"⟩
abbrev cX10_add : ByteArray := prog_12_method_3_code
def yX10_add : MethodName := ⟨RX10, "add", "(IIII)V"⟩
abbrev cX10_takeCorner : ByteArray := prog_12_method_4_code
def yX10_takeCorner : MethodName := ⟨RX10, "takeCorner", "(III)V"⟩
abbrev cX10_drop : ByteArray := prog_12_method_5_code
def yX10_drop : MethodName := ⟨RX10, "drop", "(I)V"⟩
abbrev cX10_isBehind : ByteArray := prog_12_method_6_code
def yX10_isBehind : MethodName := ⟨RX10, "isBehind", "(III)Z"⟩
def RX11 : String := "SkylineNester"
def TX11 : u_T := fun k => match k with
  | 0 => ("SkylineNester", "tape", "LSkylineNester$Tape;", true)
  | 1 => ("SkylineNester", "plan", "LSkylineNester$Plan;", true)
  | 2 => ("SkylineNester", "kept", "LSkylineNester$Plan;", true)
  | 3 => ("SkylineNester", "thought", "LSkylineNester$Plan;", true)
  | 4 => ("SkylineNester", "layer", "LSkylineNester$Layer;", true)
  | 5 => ("SkylineNester", "search", "LSkylineNester$Search;", true)
  | 6 => ("SkylineNester", "cuts", "LSkylineNester$Cuts;", true)
  | 7 => ("SkylineNester", "racks", "[LSkylineNester$Rack;", true)
  | 8 => ("SkylineNester", "sheets", "[LSkylineNester$Sheet;", true)
  | _ => ("SkylineNester", "hasImage", "Z", false)
def tyX11 : Nat → FieldType := fun k => match k with
  | 0 => .object "SkylineNester$Tape"
  | 1 => .object "SkylineNester$Plan"
  | 2 => .object "SkylineNester$Plan"
  | 3 => .object "SkylineNester$Plan"
  | 4 => .object "SkylineNester$Layer"
  | 5 => .object "SkylineNester$Search"
  | 6 => .object "SkylineNester$Cuts"
  | 7 => .array (.object "SkylineNester$Rack")
  | 8 => .array (.object "SkylineNester$Sheet")
  | _ => .boolean
abbrev wsX110 : List Cond := u_ws RX11 TX11 10
theorem nmX11 : ∀ a, a < 10 → ∀ b, b < 10 → a ≠ b → (TX11 a).2.1 ≠ (TX11 b).2.1 := by decide +kernel
theorem tyX11_ok : ∀ k, k < 10 → parseFieldDescriptor (TX11 k).2.2.1 = some (tyX11 k) := by decide +kernel
abbrev cX11_init : ByteArray := prog_1_method_1_code
def yX11_init : MethodName := ⟨RX11, "<init>", "()V"⟩
abbrev cX11_feed : ByteArray := prog_1_method_2_code
def yX11_feed : MethodName := ⟨RX11, "feed", "(IIIIII)I"⟩
abbrev cX11_strip : ByteArray := prog_1_method_3_code
def yX11_strip : MethodName := ⟨RX11, "strip", "(I)I"⟩
abbrev cX11_parts : ByteArray := prog_1_method_4_code
def yX11_parts : MethodName := ⟨RX11, "parts", "()I"⟩
abbrev cX11_told : ByteArray := prog_1_method_5_code
def yX11_told : MethodName := ⟨RX11, "told", "(II)I"⟩
abbrev cX11_taken : ByteArray := prog_1_method_6_code
def yX11_taken : MethodName := ⟨RX11, "taken", "(II)I"⟩
abbrev cX11_fix : ByteArray := prog_1_method_7_code
def yX11_fix : MethodName := ⟨RX11, "fix", "(III)I"⟩
abbrev cX11_order : ByteArray := prog_1_method_8_code
def yX11_order : MethodName := ⟨RX11, "order", "(I)I"⟩
abbrev cX11_swap : ByteArray := prog_1_method_9_code
def yX11_swap : MethodName := ⟨RX11, "swap", "(II)I"⟩
abbrev cX11_rule : ByteArray := prog_1_method_10_code
def yX11_rule : MethodName := ⟨RX11, "rule", "(II)I"⟩
abbrev cX11_place : ByteArray := prog_1_method_11_code
def yX11_place : MethodName := ⟨RX11, "place", "(II)I"⟩
abbrev cX11_lay : ByteArray := prog_1_method_12_code
def yX11_lay : MethodName := ⟨RX11, "lay", "(I)I"⟩
abbrev cX11_run : ByteArray := prog_1_method_13_code
def yX11_run : MethodName := ⟨RX11, "run", "()I"⟩
abbrev cX11_sky : ByteArray := prog_1_method_14_code
def yX11_sky : MethodName := ⟨RX11, "sky", "(II)I"⟩
abbrev cX11_waste : ByteArray := prog_1_method_15_code
def yX11_waste : MethodName := ⟨RX11, "waste", "(II)I"⟩
abbrev cX11_bound : ByteArray := prog_1_method_16_code
def yX11_bound : MethodName := ⟨RX11, "bound", "(I)I"⟩
abbrev cX11_best : ByteArray := prog_1_method_17_code
def yX11_best : MethodName := ⟨RX11, "best", "(I)I"⟩
abbrev cX11_layouts : ByteArray := prog_1_method_18_code
def yX11_layouts : MethodName := ⟨RX11, "layouts", "(I)I"⟩
abbrev cX11_stages : ByteArray := prog_1_method_19_code
def yX11_stages : MethodName := ⟨RX11, "stages", "()I"⟩
abbrev cX11_centre : ByteArray := prog_1_method_20_code
def yX11_centre : MethodName := ⟨RX11, "centre", "(I)I"⟩
abbrev cX11_drawn : ByteArray := prog_1_method_21_code
def yX11_drawn : MethodName := ⟨RX11, "drawn", "(II)I"⟩
abbrev cX11_chance : ByteArray := prog_1_method_22_code
def yX11_chance : MethodName := ⟨RX11, "chance", "(IIII)I"⟩
abbrev cX11_tells : ByteArray := prog_1_method_23_code
def yX11_tells : MethodName := ⟨RX11, "tells", "(II)I"⟩
abbrev cX11_rack : ByteArray := prog_1_method_24_code
def yX11_rack : MethodName := ⟨RX11, "rack", "(III)I"⟩
abbrev cX11_puts : ByteArray := prog_1_method_25_code
def yX11_puts : MethodName := ⟨RX11, "puts", "(III)I"⟩
abbrev cX11_moved : ByteArray := prog_1_method_26_code
def yX11_moved : MethodName := ⟨RX11, "moved", "(IIIII)I"⟩
abbrev cX11_laid : ByteArray := prog_1_method_27_code
def yX11_laid : MethodName := ⟨RX11, "laid", "(II)I"⟩
abbrev cX11_image : ByteArray := prog_1_method_28_code
def yX11_image : MethodName := ⟨RX11, "image", "()I"⟩
abbrev cX11_back : ByteArray := prog_1_method_29_code
def yX11_back : MethodName := ⟨RX11, "back", "()I"⟩
abbrev cX11_count : ByteArray := prog_1_method_30_code
def yX11_count : MethodName := ⟨RX11, "count", "(I)I"⟩
abbrev cX11_sheet : ByteArray := prog_1_method_31_code
def yX11_sheet : MethodName := ⟨RX11, "sheet", "(III)I"⟩
abbrev cX11_put : ByteArray := prog_1_method_32_code
def yX11_put : MethodName := ⟨RX11, "put", "(III)I"⟩
abbrev cX11_copy : ByteArray := prog_1_method_33_code
def yX11_copy : MethodName := ⟨RX11, "copy", "(IIIII)I"⟩
abbrev cX11_isByte : ByteArray := prog_1_method_34_code
def yX11_isByte : MethodName := ⟨RX11, "isByte", "(I)Z"⟩
abbrev cX11_isKind : ByteArray := prog_1_method_35_code
def yX11_isKind : MethodName := ⟨RX11, "isKind", "(I)Z"⟩
abbrev cX11_isHolder : ByteArray := prog_1_method_36_code
def yX11_isHolder : MethodName := ⟨RX11, "isHolder", "(I)Z"⟩
abbrev cX11_isRange : ByteArray := prog_1_method_37_code
def yX11_isRange : MethodName := ⟨RX11, "isRange", "(III)Z"⟩
abbrev cX11_isUnder : ByteArray := prog_1_method_38_code
def yX11_isUnder : MethodName := ⟨RX11, "isUnder", "(II)Z"⟩
abbrev cX11_greatestDivisor : ByteArray := prog_1_method_39_code
def yX11_greatestDivisor : MethodName := ⟨RX11, "greatestDivisor", "(II)I"⟩
abbrev cX11_bitsOf : ByteArray := prog_1_method_40_code
def yX11_bitsOf : MethodName := ⟨RX11, "bitsOf", "(F)I"⟩
abbrev cX11_emptyRacks : ByteArray := prog_1_method_41_code
def yX11_emptyRacks : MethodName := ⟨RX11, "emptyRacks", "()V"⟩
abbrev cX11_topDrawn : ByteArray := prog_1_method_42_code
def yX11_topDrawn : MethodName := ⟨RX11, "topDrawn", "(II)I"⟩
abbrev cX11_rulesThatTell : ByteArray := prog_1_method_43_code
def yX11_rulesThatTell : MethodName := ⟨RX11, "rulesThatTell", "(LSkylineNester$Sheet;)I"⟩
abbrev cX11_pairsThatTell : ByteArray := prog_1_method_44_code
def yX11_pairsThatTell : MethodName := ⟨RX11, "pairsThatTell", "(LSkylineNester$Sheet;)I"⟩
def RX12 : String := "SkylineNesterModel"
def TX12 : u_T := fun k => match k with
  | 0 => ("SkylineNesterModel", "copies", "[[I", true)
  | 1 => ("SkylineNesterModel", "a", "[I", true)
  | 2 => ("SkylineNesterModel", "hasImage", "Z", false)
  | 3 => ("SkylineNesterModel", "tape", "[I", true)
  | 4 => ("SkylineNesterModel", "taped", "I", false)
  | 5 => ("SkylineNesterModel", "read", "[I", true)
  | 6 => ("SkylineNesterModel", "items", "I", false)
  | 7 => ("SkylineNesterModel", "foundX", "I", false)
  | 8 => ("SkylineNesterModel", "foundY", "I", false)
  | 9 => ("SkylineNesterModel", "foundTurned", "I", false)
  | 10 => ("SkylineNesterModel", "foundPiece", "I", false)
  | 11 => ("SkylineNesterModel", "sorted", "[I", true)
  | 12 => ("SkylineNesterModel", "figures", "[I", true)
  | 13 => ("SkylineNesterModel", "manyOf", "[I", true)
  | 14 => ("SkylineNesterModel", "pieceOf", "[I", true)
  | 15 => ("SkylineNesterModel", "freshOf", "[I", true)
  | 16 => ("SkylineNesterModel", "rackSizes", "[I", true)
  | 17 => ("SkylineNesterModel", "rackKinds", "[I", true)
  | 18 => ("SkylineNesterModel", "racks", "[[I", true)
  | 19 => ("SkylineNesterModel", "passed", "[I", true)
  | 20 => ("SkylineNesterModel", "sorts", "[I", true)
  | 21 => ("SkylineNesterModel", "sizes", "[I", true)
  | 22 => ("SkylineNesterModel", "rows", "[[I", true)
  | _ => ("SkylineNesterModel", "copied", "[I", true)
def tyX12 : Nat → FieldType := fun k => match k with
  | 0 => .array (.array .int)
  | 1 => .array .int
  | 2 => .boolean
  | 3 => .array .int
  | 4 => .int
  | 5 => .array .int
  | 6 => .int
  | 7 => .int
  | 8 => .int
  | 9 => .int
  | 10 => .int
  | 11 => .array .int
  | 12 => .array .int
  | 13 => .array .int
  | 14 => .array .int
  | 15 => .array .int
  | 16 => .array .int
  | 17 => .array .int
  | 18 => .array (.array .int)
  | 19 => .array .int
  | 20 => .array .int
  | 21 => .array .int
  | 22 => .array (.array .int)
  | _ => .array .int
abbrev wsX120 : List Cond := u_ws RX12 TX12 24
theorem nmX12 : ∀ a, a < 24 → ∀ b, b < 24 → a ≠ b → (TX12 a).2.1 ≠ (TX12 b).2.1 := by decide +kernel
theorem tyX12_ok : ∀ k, k < 24 → parseFieldDescriptor (TX12 k).2.2.1 = some (tyX12 k) := by decide +kernel
abbrev cX12_in : ByteArray := prog_14_method_1_code
def yX12_in : MethodName := ⟨RX12, "in", "(III)Z"⟩
abbrev cX12_init : ByteArray := prog_14_method_2_code
def yX12_init : MethodName := ⟨RX12, "<init>", "()V"⟩
abbrev cX12_keep : ByteArray := prog_14_method_3_code
def yX12_keep : MethodName := ⟨RX12, "keep", "(I)V"⟩
abbrev cX12_layBack : ByteArray := prog_14_method_4_code
def yX12_layBack : MethodName := ⟨RX12, "layBack", "(I)V"⟩
abbrev cX12_isPart : ByteArray := prog_14_method_5_code
def yX12_isPart : MethodName := ⟨RX12, "isPart", "(I)Z"⟩
abbrev cX12_isUnder : ByteArray := prog_14_method_6_code
def yX12_isUnder : MethodName := ⟨RX12, "isUnder", "(II)Z"⟩
abbrev cX12_mayTurn : ByteArray := prog_14_method_7_code
def yX12_mayTurn : MethodName := ⟨RX12, "mayTurn", "(I)Z"⟩
abbrev cX12_w : ByteArray := prog_14_method_8_code
def yX12_w : MethodName := ⟨RX12, "w", "(II)I"⟩
abbrev cX12_t : ByteArray := prog_14_method_9_code
def yX12_t : MethodName := ⟨RX12, "t", "(II)I"⟩
abbrev cX12_mayLie : ByteArray := prog_14_method_10_code
def yX12_mayLie : MethodName := ⟨RX12, "mayLie", "(IIII)Z"⟩
abbrev cX12_wOf : ByteArray := prog_14_method_11_code
def yX12_wOf : MethodName := ⟨RX12, "wOf", "(I)I"⟩
abbrev cX12_tOf : ByteArray := prog_14_method_12_code
def yX12_tOf : MethodName := ⟨RX12, "tOf", "(I)I"⟩
abbrev cX12_areOver : ByteArray := prog_14_method_13_code
def yX12_areOver : MethodName := ⟨RX12, "areOver", "(IIIIIIII)Z"⟩
abbrev cX12_isOverFixed : ByteArray := prog_14_method_14_code
def yX12_isOverFixed : MethodName := ⟨RX12, "isOverFixed", "(IIII)Z"⟩
abbrev cX12_feed : ByteArray := prog_14_method_15_code
def yX12_feed : MethodName := ⟨RX12, "feed", "(IIIIII)I"⟩
abbrev cX12_strip : ByteArray := prog_14_method_16_code
def yX12_strip : MethodName := ⟨RX12, "strip", "(I)I"⟩
abbrev cX12_byteAt : ByteArray := prog_14_method_17_code
def yX12_byteAt : MethodName := ⟨RX12, "byteAt", "(I)I"⟩
abbrev cX12_isDigit : ByteArray := prog_14_method_18_code
def yX12_isDigit : MethodName := ⟨RX12, "isDigit", "(II)Z"⟩
abbrev cX12_isBlank : ByteArray := prog_14_method_19_code
def yX12_isBlank : MethodName := ⟨RX12, "isBlank", "(I)Z"⟩
abbrev cX12_kindOf : ByteArray := prog_14_method_20_code
def yX12_kindOf : MethodName := ⟨RX12, "kindOf", "(I)I"⟩
abbrev cX12_reads : ByteArray := prog_14_method_21_code
def yX12_reads : MethodName := ⟨RX12, "reads", "()I"⟩
abbrev cX12_parts : ByteArray := prog_14_method_22_code
def yX12_parts : MethodName := ⟨RX12, "parts", "()I"⟩
abbrev cX12_told : ByteArray := prog_14_method_23_code
def yX12_told : MethodName := ⟨RX12, "told", "(II)I"⟩
abbrev cX12_taken : ByteArray := prog_14_method_24_code
def yX12_taken : MethodName := ⟨RX12, "taken", "(II)I"⟩
abbrev cX12_liesLoose : ByteArray := prog_14_method_25_code
def yX12_liesLoose : MethodName := ⟨RX12, "liesLoose", "()Z"⟩
abbrev cX12_isOrdered : ByteArray := prog_14_method_26_code
def yX12_isOrdered : MethodName := ⟨RX12, "isOrdered", "(I)Z"⟩
abbrev cX12_fix : ByteArray := prog_14_method_27_code
def yX12_fix : MethodName := ⟨RX12, "fix", "(III)I"⟩
abbrev cX12_order : ByteArray := prog_14_method_28_code
def yX12_order : MethodName := ⟨RX12, "order", "(I)I"⟩
abbrev cX12_exchange : ByteArray := prog_14_method_29_code
def yX12_exchange : MethodName := ⟨RX12, "exchange", "(II)V"⟩
abbrev cX12_swap : ByteArray := prog_14_method_30_code
def yX12_swap : MethodName := ⟨RX12, "swap", "(II)I"⟩
abbrev cX12_rule : ByteArray := prog_14_method_31_code
def yX12_rule : MethodName := ⟨RX12, "rule", "(II)I"⟩
abbrev cX12_wastedAt : ByteArray := prog_14_method_32_code
def yX12_wastedAt : MethodName := ⟨RX12, "wastedAt", "(III)I"⟩
abbrev cX12_yAt : ByteArray := prog_14_method_33_code
def yX12_yAt : MethodName := ⟨RX12, "yAt", "(III)I"⟩
abbrev cX12_touchingAt : ByteArray := prog_14_method_34_code
def yX12_touchingAt : MethodName := ⟨RX12, "touchingAt", "(IIII)I"⟩
abbrev cX12_valueAt : ByteArray := prog_14_method_35_code
def yX12_valueAt : MethodName := ⟨RX12, "valueAt", "(IIII)I"⟩
abbrev cX12_finds : ByteArray := prog_14_method_36_code
def yX12_finds : MethodName := ⟨RX12, "finds", "(I)Z"⟩
abbrev cX12_addPiece : ByteArray := prog_14_method_37_code
def yX12_addPiece : MethodName := ⟨RX12, "addPiece", "(IIII)V"⟩
abbrev cX12_intoPiece : ByteArray := prog_14_method_38_code
def yX12_intoPiece : MethodName := ⟨RX12, "intoPiece", "(II)V"⟩
abbrev cX12_ontoSky : ByteArray := prog_14_method_39_code
def yX12_ontoSky : MethodName := ⟨RX12, "ontoSky", "(II)V"⟩
abbrev cX12_lays : ByteArray := prog_14_method_40_code
def yX12_lays : MethodName := ⟨RX12, "lays", "(I)Z"⟩
abbrev cX12_clears : ByteArray := prog_14_method_41_code
def yX12_clears : MethodName := ⟨RX12, "clears", "()V"⟩
abbrev cX12_runs : ByteArray := prog_14_method_42_code
def yX12_runs : MethodName := ⟨RX12, "runs", "()I"⟩
abbrev cX12_top : ByteArray := prog_14_method_43_code
def yX12_top : MethodName := ⟨RX12, "top", "()I"⟩
abbrev cX12_place : ByteArray := prog_14_method_44_code
def yX12_place : MethodName := ⟨RX12, "place", "(II)I"⟩
abbrev cX12_lay : ByteArray := prog_14_method_45_code
def yX12_lay : MethodName := ⟨RX12, "lay", "(I)I"⟩
abbrev cX12_run : ByteArray := prog_14_method_46_code
def yX12_run : MethodName := ⟨RX12, "run", "()I"⟩
abbrev cX12_sky : ByteArray := prog_14_method_47_code
def yX12_sky : MethodName := ⟨RX12, "sky", "(II)I"⟩
abbrev cX12_waste : ByteArray := prog_14_method_48_code
def yX12_waste : MethodName := ⟨RX12, "waste", "(II)I"⟩
abbrev cX12_by : ByteArray := prog_14_method_49_code
def yX12_by : MethodName := ⟨RX12, "by", "(II)I"⟩
abbrev cX12_counted : ByteArray := prog_14_method_50_code
def yX12_counted : MethodName := ⟨RX12, "counted", "(IIII)I"⟩
abbrev cX12_summed : ByteArray := prog_14_method_51_code
def yX12_summed : MethodName := ⟨RX12, "summed", "(II)I"⟩
abbrev cX12_tallest : ByteArray := prog_14_method_52_code
def yX12_tallest : MethodName := ⟨RX12, "tallest", "()I"⟩
abbrev cX12_boundOf : ByteArray := prog_14_method_53_code
def yX12_boundOf : MethodName := ⟨RX12, "boundOf", "(I)I"⟩
abbrev cX12_bound : ByteArray := prog_14_method_54_code
def yX12_bound : MethodName := ⟨RX12, "bound", "(I)I"⟩
abbrev cX12_sorts : ByteArray := prog_14_method_55_code
def yX12_sorts : MethodName := ⟨RX12, "sorts", "()V"⟩
abbrev cX12_steps : ByteArray := prog_14_method_56_code
def yX12_steps : MethodName := ⟨RX12, "steps", "()Z"⟩
abbrev cX12_bestTop : ByteArray := prog_14_method_57_code
def yX12_bestTop : MethodName := ⟨RX12, "bestTop", "()I"⟩
abbrev cX12_best : ByteArray := prog_14_method_58_code
def yX12_best : MethodName := ⟨RX12, "best", "(I)I"⟩
abbrev cX12_tellsLayout : ByteArray := prog_14_method_59_code
def yX12_tellsLayout : MethodName := ⟨RX12, "tellsLayout", "(IZ)I"⟩
abbrev cX12_areRowsAlike : ByteArray := prog_14_method_60_code
def yX12_areRowsAlike : MethodName := ⟨RX12, "areRowsAlike", "(III)Z"⟩
abbrev cX12_layouts : ByteArray := prog_14_method_61_code
def yX12_layouts : MethodName := ⟨RX12, "layouts", "(I)I"⟩
abbrev cX12_low : ByteArray := prog_14_method_62_code
def yX12_low : MethodName := ⟨RX12, "low", "(II)I"⟩
abbrev cX12_high : ByteArray := prog_14_method_63_code
def yX12_high : MethodName := ⟨RX12, "high", "(II)I"⟩
abbrev cX12_isCut : ByteArray := prog_14_method_64_code
def yX12_isCut : MethodName := ⟨RX12, "isCut", "(III)Z"⟩
abbrev cX12_areParted : ByteArray := prog_14_method_65_code
def yX12_areParted : MethodName := ⟨RX12, "areParted", "(III)Z"⟩
abbrev cX12_cuts : ByteArray := prog_14_method_66_code
def yX12_cuts : MethodName := ⟨RX12, "cuts", "(I)V"⟩
abbrev cX12_areAlone : ByteArray := prog_14_method_67_code
def yX12_areAlone : MethodName := ⟨RX12, "areAlone", "()Z"⟩
abbrev cX12_stagesFrom : ByteArray := prog_14_method_68_code
def yX12_stagesFrom : MethodName := ⟨RX12, "stagesFrom", "(I)I"⟩
abbrev cX12_stages : ByteArray := prog_14_method_69_code
def yX12_stages : MethodName := ⟨RX12, "stages", "()I"⟩
abbrev cX12_isAnyThere : ByteArray := prog_14_method_70_code
def yX12_isAnyThere : MethodName := ⟨RX12, "isAnyThere", "()Z"⟩
abbrev cX12_centre : ByteArray := prog_14_method_71_code
def yX12_centre : MethodName := ⟨RX12, "centre", "(I)I"⟩
abbrev cX12_drawnTop : ByteArray := prog_14_method_72_code
def yX12_drawnTop : MethodName := ⟨RX12, "drawnTop", "(II)I"⟩
abbrev cX12_drawn : ByteArray := prog_14_method_73_code
def yX12_drawn : MethodName := ⟨RX12, "drawn", "(II)I"⟩
abbrev cX12_chance : ByteArray := prog_14_method_74_code
def yX12_chance : MethodName := ⟨RX12, "chance", "(IIII)I"⟩
abbrev cX12_firstOther : ByteArray := prog_14_method_75_code
def yX12_firstOther : MethodName := ⟨RX12, "firstOther", "(I)I"⟩
abbrev cX12_runsTo : ByteArray := prog_14_method_76_code
def yX12_runsTo : MethodName := ⟨RX12, "runsTo", "(I)Z"⟩
abbrev cX12_tells : ByteArray := prog_14_method_77_code
def yX12_tells : MethodName := ⟨RX12, "tells", "(II)I"⟩
abbrev cX12_isRack : ByteArray := prog_14_method_78_code
def yX12_isRack : MethodName := ⟨RX12, "isRack", "(I)Z"⟩
abbrev cX12_emptyRacks : ByteArray := prog_14_method_79_code
def yX12_emptyRacks : MethodName := ⟨RX12, "emptyRacks", "()V"⟩
abbrev cX12_rack : ByteArray := prog_14_method_80_code
def yX12_rack : MethodName := ⟨RX12, "rack", "(III)I"⟩
abbrev cX12_isFor : ByteArray := prog_14_method_81_code
def yX12_isFor : MethodName := ⟨RX12, "isFor", "(II)Z"⟩
abbrev cX12_puts : ByteArray := prog_14_method_82_code
def yX12_puts : MethodName := ⟨RX12, "puts", "(III)I"⟩
abbrev cX12_moved : ByteArray := prog_14_method_83_code
def yX12_moved : MethodName := ⟨RX12, "moved", "(IIIII)I"⟩
abbrev cX12_laid : ByteArray := prog_14_method_84_code
def yX12_laid : MethodName := ⟨RX12, "laid", "(II)I"⟩
abbrev cX12_image : ByteArray := prog_14_method_85_code
def yX12_image : MethodName := ⟨RX12, "image", "()I"⟩
abbrev cX12_back : ByteArray := prog_14_method_86_code
def yX12_back : MethodName := ⟨RX12, "back", "()I"⟩
abbrev cX12_areAlike : ByteArray := prog_14_method_87_code
def yX12_areAlike : MethodName := ⟨RX12, "areAlike", "(II)Z"⟩
abbrev cX12_unlike : ByteArray := prog_14_method_88_code
def yX12_unlike : MethodName := ⟨RX12, "unlike", "()I"⟩
abbrev cX12_orders : ByteArray := prog_14_method_89_code
def yX12_orders : MethodName := ⟨RX12, "orders", "()I"⟩
abbrev cX12_count : ByteArray := prog_14_method_90_code
def yX12_count : MethodName := ⟨RX12, "count", "(I)I"⟩
abbrev cX12_isSheet : ByteArray := prog_14_method_91_code
def yX12_isSheet : MethodName := ⟨RX12, "isSheet", "(I)Z"⟩
abbrev cX12_sheet : ByteArray := prog_14_method_92_code
def yX12_sheet : MethodName := ⟨RX12, "sheet", "(III)I"⟩
abbrev cX12_put : ByteArray := prog_14_method_93_code
def yX12_put : MethodName := ⟨RX12, "put", "(III)I"⟩
abbrev cX12_copy : ByteArray := prog_14_method_94_code
def yX12_copy : MethodName := ⟨RX12, "copy", "(IIIII)I"⟩
def RJx145de : String := "java/io/Serializable"
def RJx9f9b0 : String := "java/lang/CharSequence"
def RJxb160c : String := "java/lang/Comparable"
def RJxf58ca : String := "java/lang/Float"
abbrev cJxf58ca_isNaN_12338 : ByteArray := prog_15_method_6_code
def yJxf58ca_isNaN_12338 : MethodName := ⟨RJxf58ca, "isNaN", "(F)Z"⟩
abbrev cJxf58ca_floatToIntBits_5c35a : ByteArray := prog_15_method_24_code
def yJxf58ca_floatToIntBits_5c35a : MethodName := ⟨RJxf58ca, "floatToIntBits", "(F)I"⟩
def RJ9 : String := "java/lang/Math"
abbrev cJ9_max_7cf53 : ByteArray := prog_16_method_65_code
def yJ9_max_7cf53 : MethodName := ⟨RJ9, "max", "(II)I"⟩
abbrev cJ9_min_7cf53 : ByteArray := prog_16_method_69_code
def yJ9_min_7cf53 : MethodName := ⟨RJ9, "min", "(II)I"⟩
def RJxd2413 : String := "java/lang/Number"
def RJ0 : String := "java/lang/String"
abbrev cJ0_charAt_5068e : ByteArray := prog_18_method_56_code
def yJ0_charAt_5068e : MethodName := ⟨RJ0, "charAt", "(I)C"⟩
abbrev cJ0_isLatin1_aae02 : ByteArray := prog_18_method_154_code
def yJ0_isLatin1_aae02 : MethodName := ⟨RJ0, "isLatin1", "()Z"⟩
abbrev cJ0_checkIndex_df160 : ByteArray := prog_18_method_155_code
def yJ0_checkIndex_df160 : MethodName := ⟨RJ0, "checkIndex", "(II)V"⟩
def RJ1 : String := "java/lang/StringLatin1"
abbrev cJ1_charAt_3b067 : ByteArray := prog_19_method_2_code
def yJ1_charAt_3b067 : MethodName := ⟨RJ1, "charAt", "([BI)C"⟩
def RJ2 : String := "java/lang/StringUTF16"
abbrev cJ2_getChar_3b067 : ByteArray := prog_20_method_5_code
def yJ2_getChar_3b067 : MethodName := ⟨RJ2, "getChar", "([BI)C"⟩
abbrev cJ2_length_9d52b : ByteArray := prog_20_method_6_code
def yJ2_length_9d52b : MethodName := ⟨RJ2, "length", "([B)I"⟩
abbrev cJ2_charAt_3b067 : ByteArray := prog_20_method_83_code
def yJ2_charAt_3b067 : MethodName := ⟨RJ2, "charAt", "([BI)C"⟩
abbrev cJ2_checkIndex_2214a : ByteArray := prog_20_method_91_code
def yJ2_checkIndex_2214a : MethodName := ⟨RJ2, "checkIndex", "(I[B)V"⟩
def RJ10 : String := "java/lang/System"
def RJxfd54e : String := "java/lang/constant/Constable"
def RJx3cf43 : String := "java/lang/constant/ConstantDesc"
def RJ7 : String := "java/util/Arrays"
abbrev cJ7_rangeCheck_23922 : ByteArray := prog_22_method_30_code
def yJ7_rangeCheck_23922 : MethodName := ⟨RJ7, "rangeCheck", "(III)V"⟩
abbrev cJ7_fill_53178 : ByteArray := prog_22_method_103_code
def yJ7_fill_53178 : MethodName := ⟨RJ7, "fill", "([II)V"⟩
abbrev cJ7_fill_fda19 : ByteArray := prog_22_method_104_code
def yJ7_fill_fda19 : MethodName := ⟨RJ7, "fill", "([IIII)V"⟩
def RJ3 : String := "jdk/internal/util/Preconditions"
abbrev cJ3_checkIndex_8e157 : ByteArray := prog_23_method_11_code
def yJ3_checkIndex_8e157 : MethodName := ⟨RJ3, "checkIndex", "(IILjava/util/function/BiFunction;)I"⟩
def RL : String := "SkylineNesterLaw"
abbrev cL_law : ByteArray := code
def yL_law : MethodName := ⟨RL, "law", "([I)Z"⟩
abbrev vwCl : List vw_C := [(RX1, TX1, 7), (RX2, TX2, 1), (RX3, TX3, 10), (RX4, TX4, 9), (RX5, TX5, 3), (RX6, TX6, 8), (RX7, TX7, 3), (RX8, TX8, 6), (RX9, TX9, 5), (RX10, TX10, 5), (RX11, TX11, 10), (RX12, TX12, 24)]
end
section
/-! ===== THE ABSTRACT MACHINE: what the byte codes of this claim do to a world of numbered cells (cell 0: the script). Its runs are tied to the real machine once for all (parts 03 ..); from there on all is about sk_cal. ===== -/
/-- a cell: an int array; an array of references (its kind, its length, its places); an object (its class, its fields) -/
abbrev sk_C : Type := (Nat × (Nat → Int32)) ⊕ ((Nat × Nat × (Nat → Option Nat)) ⊕ (Nat × List Value))
abbrev sk_W : Type := List sk_C
abbrev sk_R : Type := Option Value × sk_W
abbrev sk_L : Type := List (Option Value)
def sk_at : sk_L → Nat → Option Value
  | [], _ => none
  | a :: _, 0 => a
  | _ :: l, k + 1 => sk_at l k
def sk_up : sk_L → Nat → Value → sk_L
  | [], _, _ => []
  | _ :: l, 0, v => some v :: l
  | a :: l, k + 1, v => a :: sk_up l k v
/-- an int field, a reference's field -/
def sk_geti (w : sk_W) (a ci k : Nat) : Option Int32 := match w[a]? with
  | some (.inr (.inr (c, fs))) => if c = ci then (match fs[k]? with
    | some (.int v) => some v
    | _ => none) else none
  | _ => none
def sk_getr (w : sk_W) (a ci k : Nat) : Option Nat := match w[a]? with
  | some (.inr (.inr (c, fs))) => if c = ci then (match fs[k]? with
    | some (.ref v) => some v
    | _ => none) else none
  | _ => none
def sk_put (w : sk_W) (a ci k : Nat) (v : Value) : Option sk_W := match w[a]? with
  | some (.inr (.inr (c, fs))) => if c = ci ∧ k < fs.length then some (w.set a (.inr (.inr (c, fs.set k v)))) else none
  | _ => none
/-- places of arrays -/
def sk_ald (w : sk_W) (a : Nat) (i : Int32) : Option Int32 := match w[a]? with
  | some (.inl (n, f)) => if i < 0 ∨ n ≤ i.toNatClampNeg then none else some (f i.toNatClampNeg)
  | _ => none
def sk_ast (w : sk_W) (a : Nat) (i x : Int32) : Option sk_W := match a with
  | 0 => none
  | a + 1 => match w[a + 1]? with
    | some (.inl (n, f)) => if i < 0 ∨ n ≤ i.toNatClampNeg then none else some (w.set (a + 1) (.inl (n, upd f i.toNatClampNeg x)))
    | _ => none
def sk_aldr (w : sk_W) (a : Nat) (i : Int32) : Option Nat := match w[a]? with
  | some (.inr (.inl (t, n, f))) => if t < 4 then (if i < 0 ∨ n ≤ i.toNatClampNeg then none else f i.toNatClampNeg) else none
  | _ => none
def sk_isO (w : sk_W) (a ci : Nat) : Bool := match w[a]? with
  | some (.inr (.inr (c, _))) => c == ci
  | _ => false
/-- an array of objects of class x of the kind t -/
def sk_astr (w : sk_W) (a t ci : Nat) (i : Int32) (v : Nat) : Option sk_W := match w[a]? with
  | some (.inr (.inl (t', n, f))) => if t' = t ∧ sk_isO w v ci = true then (if i < 0 ∨ n ≤ i.toNatClampNeg then none else some (w.set a (.inr (.inl (t', n, va_up f i.toNatClampNeg (some v)))))) else none
  | _ => none
def sk_len (w : sk_W) (a : Nat) : Option Int32 := match w[a]? with
  | some (.inl (n, _)) => some (Int32.ofNat n)
  | _ => none
/-- System.arraycopy of ints -/
def sk_copy (w : sk_W) (a0 : Nat) (sp : Int32) (a : Nat) (dp n : Int32) : Option sk_W := match a with
  | 0 => none
  | a + 1 => match a0 with
    | 0 => none
    | a0 + 1 => match w[a0 + 1]? with
      | some (.inl (n0, f)) => match w[a + 1]? with
        | some (.inl (n1, g)) => if ¬ sp < 0 ∧ ¬ dp < 0 ∧ ¬ n < 0 ∧ sp.toNatClampNeg + n.toNatClampNeg ≤ n0 ∧ dp.toNatClampNeg + n.toNatClampNeg ≤ n1 then some (w.set (a + 1) (.inl (n1, va_cpy f g sp.toNatClampNeg dp.toNatClampNeg n.toNatClampNeg))) else none
        | _ => none
      | _ => none
/-- the arguments of a call, off the stack -/
def sk_pops : Nat → List Value → List Value → Option (List Value × List Value)
  | 0, acc, st => if (st.map fun v => v.category).sum ≤ 8 then some (acc, st) else none
  | n + 1, acc, v :: st => if v.category = 1 then sk_pops n (v :: acc) st else none
  | _ + 1, _, [] => none
/-- the receiver of a call is an object of the class ci -/
def sk_rcv (w : sk_W) (ci : Nat) : List Value → Bool
  | .ref a :: _ => sk_isO w a ci
  | _ => false
/-- what is pushed behind a call: nothing (0), an int (1), a float (2) -/
def sk_push (z : Nat) (o : Option sk_R) (k : List Value → sk_W → Option sk_R) : Option sk_R := match z with
  | 0 => match o with
    | some (none, w) => k [] w
    | _ => none
  | 1 => match o with
    | some (some (.int v), w) => k [.int v] w
    | _ => none
  | _ => match o with
    | some (some (.float v), w) => k [.float v] w
    | _ => none
def sk_sw (v : Int32) (pc d : Int) (k : Nat → Option sk_R) : Int → List Int → Option sk_R
  | _, [] => k (pc + d).toNat
  | lo, o :: os => if v.toInt = lo then k (pc + o).toNat else sk_sw v pc d k (lo + 1) os
def sk_cond (c : Jvm.ClassFile.Cond) (x y : Int32) : Bool := match c with
  | .eq => x == y
  | .ne => x != y
  | .lt => decide (x < y)
  | .ge => decide (y ≤ x)
  | .gt => decide (y < x)
  | .le => decide (x ≤ y)
abbrev sk_K : Type := Nat → sk_L → List Value → sk_W → Option sk_R
/-- one instruction i (with what the pool told of it: x, y, z), then k -/
def sk_step (cal : Nat → List Value → sk_W → Option sk_R) (fields : Nat → List Value) (rz : Bool) (i : Instr) (x y z pc : Nat) (ls : sk_L) (st : List Value) (w : sk_W) (k : sk_K) : Option sk_R := match i with
  | .iconst n => k (pc + 1) ls (.int (Int32.ofInt n) :: st) w
  | .bipush n => k (pc + 2) ls (.int (Int8.ofInt n).toInt32 :: st) w
  | .sipush n => k (pc + 3) ls (.int (Int16.ofInt n).toInt32 :: st) w
  | .ldc _ => k (pc + 2) ls (.int (Int32.ofNat x) :: st) w
  | .ldc_w _ => if y = 0 then k (pc + 3) ls (.int (Int32.ofNat x) :: st) w else k (pc + 3) ls (.float (UInt32.ofNat x) :: st) w
  | .fconst n => k (pc + 1) ls (.float (if n = 0 then FP.fconst0 else if n = 1 then FP.fconst1 else FP.fconst2) :: st) w
  | .iload_n n => match sk_at ls n.val with
    | some (.int v) => k (pc + 1) ls (.int v :: st) w
    | _ => none
  | .iload n => match sk_at ls n with
    | some (.int v) => k (pc + 2) ls (.int v :: st) w
    | _ => none
  | .fload_n n => match sk_at ls n.val with
    | some (.float v) => k (pc + 1) ls (.float v :: st) w
    | _ => none
  | .fload n => match sk_at ls n with
    | some (.float v) => k (pc + 2) ls (.float v :: st) w
    | _ => none
  | .aload_n n => match sk_at ls n.val with
    | some (.ref v) => k (pc + 1) ls (.ref v :: st) w
    | _ => none
  | .aload n => match sk_at ls n with
    | some (.ref v) => k (pc + 2) ls (.ref v :: st) w
    | _ => none
  | .istore_n n => match st with
    | .int v :: st => k (pc + 1) (sk_up ls n.val (.int v)) st w
    | _ => none
  | .istore n => match st with
    | .int v :: st => k (pc + 2) (sk_up ls n (.int v)) st w
    | _ => none
  | .fstore_n n => match st with
    | .float v :: st => k (pc + 1) (sk_up ls n.val (.float v)) st w
    | _ => none
  | .fstore n => match st with
    | .float v :: st => k (pc + 2) (sk_up ls n (.float v)) st w
    | _ => none
  | .astore_n n => match st with
    | .ref v :: st => k (pc + 1) (sk_up ls n.val (.ref v)) st w
    | _ => none
  | .astore n => match st with
    | .ref v :: st => k (pc + 2) (sk_up ls n (.ref v)) st w
    | _ => none
  | .iinc n c => match sk_at ls n with
    | some (.int v) => k (pc + 3) (sk_up ls n (.int (v + Int32.ofInt c))) st w
    | _ => none
  | .iadd => match st with
    | .int b :: .int a :: st => k (pc + 1) ls (.int (a + b) :: st) w
    | _ => none
  | .isub => match st with
    | .int b :: .int a :: st => k (pc + 1) ls (.int (a - b) :: st) w
    | _ => none
  | .imul => match st with
    | .int b :: .int a :: st => k (pc + 1) ls (.int (a * b) :: st) w
    | _ => none
  | .idiv => match st with
    | .int b :: .int a :: st => if b = 0 then none else k (pc + 1) ls (.int (a / b) :: st) w
    | _ => none
  | .irem => match st with
    | .int b :: .int a :: st => if b = 0 then none else k (pc + 1) ls (.int (a - a / b * b) :: st) w
    | _ => none
  | .ineg => match st with
    | .int a :: st => k (pc + 1) ls (.int (-a) :: st) w
    | _ => none
  | .iand => match st with
    | .int b :: .int a :: st => k (pc + 1) ls (.int (a &&& b) :: st) w
    | _ => none
  | .ior => match st with
    | .int b :: .int a :: st => k (pc + 1) ls (.int (a ||| b) :: st) w
    | _ => none
  | .ishl => match st with
    | .int b :: .int a :: st => k (pc + 1) ls (.int (a <<< (b &&& 31)) :: st) w
    | _ => none
  | .iushr => match st with
    | .int b :: .int a :: st => k (pc + 1) ls (.int (a.toUInt32 >>> (b.toUInt32 &&& Int32.toUInt32 31)).toInt32 :: st) w
    | _ => none
  | .i2s => match st with
    | .int a :: st => k (pc + 1) ls (.int a.toInt16.toInt32 :: st) w
    | _ => none
  | .i2f => match st with
    | .int a :: st => k (pc + 1) ls (.float (FP.i2f a) :: st) w
    | _ => none
  | .f2i => match st with
    | .float a :: st => k (pc + 1) ls (.int (FP.f2i a) :: st) w
    | _ => none
  | .fadd => match st with
    | .float b :: .float a :: st => if FP.fadd a b &&& 0x7fffffff ≤ 0x7f800000 then k (pc + 1) ls (.float (FP.fadd a b) :: st) w else none
    | _ => none
  | .fsub => match st with
    | .float b :: .float a :: st => if FP.fsub a b &&& 0x7fffffff ≤ 0x7f800000 then k (pc + 1) ls (.float (FP.fsub a b) :: st) w else none
    | _ => none
  | .fmul => match st with
    | .float b :: .float a :: st => if FP.fmul a b &&& 0x7fffffff ≤ 0x7f800000 then k (pc + 1) ls (.float (FP.fmul a b) :: st) w else none
    | _ => none
  | .fdiv => match st with
    | .float b :: .float a :: st => if FP.fdiv a b &&& 0x7fffffff ≤ 0x7f800000 then k (pc + 1) ls (.float (FP.fdiv a b) :: st) w else none
    | _ => none
  | .fcmp op => match st with
    | .float b :: .float a :: st => k (pc + 1) ls (.int (Op.cmpValue (FP.fcmp a b) op) :: st) w
    | _ => none
  | .dup => match st with
    | .int a :: st => k (pc + 1) ls (.int a :: .int a :: st) w
    | .ref a :: st => k (pc + 1) ls (.ref a :: .ref a :: st) w
    | _ => none
  | .dup2 => match st with
    | .int b :: .ref a :: st => k (pc + 1) ls (.int b :: .ref a :: .int b :: .ref a :: st) w
    | _ => none
  | .pop => match st with
    | .int _ :: st => k (pc + 1) ls st w
    | _ => none
  | .goto _ => k x ls st w
  | .ifCond c _ => match st with
    | .int a :: st => if sk_cond c a 0 then k x ls st w else k (pc + 3) ls st w
    | _ => none
  | .if_icmp c _ => match st with
    | .int b :: .int a :: st => if sk_cond c a b then k x ls st w else k (pc + 3) ls st w
    | _ => none
  | .tableswitch d lo _ offs => match st with
    | .int a :: st => sk_sw a pc d (fun t => k t ls st w) lo offs.toList
    | _ => none
  | .getfield _ => match st with
    | .ref a :: st => if z = 1 then (sk_getr w a x y).bind fun v => k (pc + 3) ls (.ref v :: st) w else (sk_geti w a x y).bind fun v => k (pc + 3) ls (.int v :: st) w
    | _ => none
  | .putfield _ => match st with
    | .int v :: .ref a :: st => if z = 0 then (sk_put w a x y (.int v)).bind fun w1 => k (pc + 3) ls st w1
      else if z = 2 then (if v = 0 ∨ v = 1 then (sk_put w a x y (.int v)).bind fun w1 => k (pc + 3) ls st w1 else none) else none
    | .ref v :: .ref a :: st => if z = 3 then (sk_put w a x y (.ref v)).bind fun w1 => k (pc + 3) ls st w1 else none
    | _ => none
  | .iaload => match st with
    | .int j :: .ref a :: st => (sk_ald w a j).bind fun v => k (pc + 1) ls (.int v :: st) w
    | _ => none
  | .iastore => match st with
    | .int v :: .int j :: .ref a :: st => (sk_ast w a j v).bind fun w1 => k (pc + 1) ls st w1
    | _ => none
  | .aaload => match st with
    | .int j :: .ref a :: st => (sk_aldr w a j).bind fun v => k (pc + 1) ls (.ref v :: st) w
    | _ => none
  | .aastore => match st with
    | .ref v :: .int j :: .ref a :: st => (sk_astr w a x y j v).bind fun w1 => k (pc + 1) ls st w1
    | _ => none
  | .arraylength => match st with
    | .ref a :: st => (sk_len w a).bind fun v => k (pc + 1) ls (.int v :: st) w
    | _ => none
  | .new _ => k (pc + 3) ls (.ref w.length :: st) (w ++ [.inr (.inr (x, fields x))])
  | .newarray _ => match st with
    | .int n :: st => if ¬ n < 0 ∧ n.toNatClampNeg ≤ 100000 then k (pc + 2) ls (.ref w.length :: st) (w ++ [.inl (n.toNatClampNeg, fun _ => 0)]) else none
    | _ => none
  | .anewarray _ => match st with
    | .int n :: st => if ¬ n < 0 ∧ n.toNatClampNeg ≤ 100000 then k (pc + 3) ls (.ref w.length :: st) (w ++ [.inr (.inl (x, n.toNatClampNeg, fun _ => none))]) else none
    | _ => none
  | .multianewarray _ _ => match st with
    | .int j :: .int n :: st => if ¬ n < 0 ∧ ¬ j < 0 ∧ n.toNatClampNeg ≤ 1000 ∧ j.toNatClampNeg ≤ 100000 then
        k (pc + 4) ls (.ref w.length :: st) (w ++ .inr (.inl (3, n.toNatClampNeg, fun q => if q < n.toNatClampNeg then some (w.length + 1 + q) else none)) :: List.replicate n.toNatClampNeg (.inl (j.toNatClampNeg, fun _ => 0))) else none
    | _ => none
  | .invokevirtual _ => match sk_pops (y + 1) [] st with
    | some (as, st) => if sk_rcv w (z / 4) as = true then sk_push (z % 4) (cal x as w) fun r w1 => k (pc + 3) ls (r ++ st) w1 else none
    | none => none
  | .invokespecial _ => if x = 0 then (match st with
    | .ref _ :: st => if (st.map fun v => v.category).sum ≤ 8 then k (pc + 3) ls st w else none
    | _ => none) else match sk_pops (y + 1) [] st with
    | some (as, st) => if sk_rcv w (z / 4) as = true then sk_push 0 (cal x as w) fun r w1 => k (pc + 3) ls (r ++ st) w1 else none
    | none => none
  | .invokestatic _ => if x = 0 then (if y = 5 then (match st with
    | .int n :: .int dp :: .ref a :: .int sp :: .ref a0 :: st => if (st.map fun v => v.category).sum ≤ 8 then (sk_copy w a0 sp a dp n).bind fun w1 => k (pc + 3) ls st w1 else none
    | _ => none) else match st with
    | .float v :: st => if (st.map fun v => v.category).sum ≤ 8 then k (pc + 3) ls (.int v.toInt32 :: st) w else none
    | _ => none) else match sk_pops y [] st with
    | some (as, st) => sk_push (z % 4) (cal x as w) fun r w1 => k (pc + 3) ls (r ++ st) w1
    | none => none
  | .ireturn => match st with
    | .int v :: [] => if rz = true then (if v = 0 ∨ v = 1 then some (some (.int v), w) else none) else some (some (.int v), w)
    | _ => none
  | .freturn => match st with
    | .float v :: [] => some (some (.float v), w)
    | _ => none
  | .return_ => match st with
    | [] => some (none, w)
    | _ => none
  | _ => none
abbrev sk_E : Type := Nat × Instr × Nat × Nat × Nat
def sk_find : List sk_E → Nat → Option (Instr × Nat × Nat × Nat)
  | [], _ => none
  | e :: l, pc => bif Nat.beq e.1 pc then some e.2 else sk_find l pc
/-- n instructions at most -/
def sk_run (cal : Nat → List Value → sk_W → Option sk_R) (fields : Nat → List Value) (rz : Bool) (tab : List sk_E) : Nat → sk_K
  | 0, _, _, _, _ => none
  | n + 1, pc, ls, st, w => match sk_find tab pc with
    | none => none
    | some (i, x, y, z) => sk_step cal fields rz i x y z pc ls st w (sk_run cal fields rz tab n)
end
section
/-! ===== what a run comes to, without counting its instructions ===== -/
/-- an instruction goes on at one place, or answers -/
def sk_Lin (F : sk_K → Option sk_R) : Prop := ∀ (k : sk_K) (r : sk_R), F k = some r → (∀ k' : sk_K, F k' = some r) ∨ ∃ (pc : Nat) (ls : sk_L) (st : List Value) (w : sk_W), k pc ls st w = some r ∧ ∀ k' : sk_K, k' pc ls st w = some r → F k' = some r
theorem sk_Lin.none : sk_Lin (fun _ => Option.none) := fun _ _ h => by cases h
theorem sk_Lin.at (pc : Nat) (ls : sk_L) (st : List Value) (w : sk_W) : sk_Lin (fun k => k pc ls st w) := fun _ _ h => Or.inr ⟨pc, ls, st, w, h, fun _ h => h⟩
theorem sk_Lin.ret (r : Option sk_R) : sk_Lin (fun _ => r) := fun _ _ h => Or.inl fun _ => h
theorem sk_Lin.ite {c : Prop} [Decidable c] {F G : sk_K → Option sk_R} (hF : sk_Lin F) (hG : sk_Lin G) : sk_Lin (fun k => if c then F k else G k) := by
  by_cases h : c
  · simp only [h, if_true]; exact hF
  · simp only [h, if_false]; exact hG
theorem sk_Lin.bind {α : Type} (o : Option α) {F : α → sk_K → Option sk_R} (hF : ∀ a, sk_Lin (F a)) : sk_Lin (fun k => o.bind fun a => F a k) := by
  cases o with
  | none => exact sk_Lin.none
  | some a => exact hF a
theorem sk_Lin.push (z : Nat) (o : Option sk_R) {F : List Value → sk_W → sk_K → Option sk_R} (hF : ∀ v w, sk_Lin (F v w)) : sk_Lin (fun k => sk_push z o fun v w => F v w k) := by
  unfold sk_push
  rcases o with _ | ⟨_ | v, w⟩
  · split <;> exact sk_Lin.none
  · split
    · exact hF _ _
    · exact sk_Lin.none
    · exact sk_Lin.none
  · cases v <;> split <;> first | exact sk_Lin.none | exact hF _ _
theorem sk_Lin.sw (v : Int32) (pc d : Int) (ls : sk_L) (st : List Value) (w : sk_W) : ∀ (os : List Int) (lo : Int), sk_Lin (fun k => sk_sw v pc d (fun t => k t ls st w) lo os)
  | [], _ => sk_Lin.at _ _ _ _
  | o :: os, lo => by
    unfold sk_sw
    exact sk_Lin.ite (sk_Lin.at _ _ _ _) (sk_Lin.sw v pc d ls st w os (lo + 1))
set_option maxHeartbeats 4000000 in
theorem sk_step_lin (cal : Nat → List Value → sk_W → Option sk_R) (fields : Nat → List Value) (rz : Bool) (i : Instr) (x y z pc : Nat) (ls : sk_L) (st : List Value) (w : sk_W) : sk_Lin (fun k => sk_step cal fields rz i x y z pc ls st w k) := by
  unfold sk_step
  cases i
  case iconst n => exact sk_Lin.at _ _ _ _
  case bipush n => exact sk_Lin.at _ _ _ _
  case sipush n => exact sk_Lin.at _ _ _ _
  case ldc n => exact sk_Lin.at _ _ _ _
  case fconst n => exact sk_Lin.at _ _ _ _
  case goto n => exact sk_Lin.at _ _ _ _
  case new n => exact sk_Lin.at _ _ _ _
  case ldc_w n => exact sk_Lin.ite (sk_Lin.at _ _ _ _) (sk_Lin.at _ _ _ _)
  case iload_n n =>
    dsimp only
    generalize sk_at ls n.val = q
    rcases q with _ | v
    · exact sk_Lin.none
    · cases v <;> first | exact sk_Lin.none | exact sk_Lin.at _ _ _ _
  case iload n =>
    dsimp only
    generalize sk_at ls n = q
    rcases q with _ | v
    · exact sk_Lin.none
    · cases v <;> first | exact sk_Lin.none | exact sk_Lin.at _ _ _ _
  case fload_n n =>
    dsimp only
    generalize sk_at ls n.val = q
    rcases q with _ | v
    · exact sk_Lin.none
    · cases v <;> first | exact sk_Lin.none | exact sk_Lin.at _ _ _ _
  case fload n =>
    dsimp only
    generalize sk_at ls n = q
    rcases q with _ | v
    · exact sk_Lin.none
    · cases v <;> first | exact sk_Lin.none | exact sk_Lin.at _ _ _ _
  case aload_n n =>
    dsimp only
    generalize sk_at ls n.val = q
    rcases q with _ | v
    · exact sk_Lin.none
    · cases v <;> first | exact sk_Lin.none | exact sk_Lin.at _ _ _ _
  case aload n =>
    dsimp only
    generalize sk_at ls n = q
    rcases q with _ | v
    · exact sk_Lin.none
    · cases v <;> first | exact sk_Lin.none | exact sk_Lin.at _ _ _ _
  case iinc n c =>
    dsimp only
    generalize sk_at ls n = q
    rcases q with _ | v
    · exact sk_Lin.none
    · cases v <;> first | exact sk_Lin.none | exact sk_Lin.at _ _ _ _
  case istore_n n =>
    rcases st with _ | ⟨v, st⟩
    · exact sk_Lin.none
    · cases v <;> dsimp only <;> (first | exact sk_Lin.none | exact sk_Lin.at _ _ _ _ | exact sk_Lin.ite (sk_Lin.at _ _ _ _) (sk_Lin.at _ _ _ _) | exact sk_Lin.ite (sk_Lin.at _ _ _ _) sk_Lin.none | exact sk_Lin.ite sk_Lin.none (sk_Lin.at _ _ _ _) | exact sk_Lin.bind _ fun _ => sk_Lin.at _ _ _ _ | exact sk_Lin.ite (sk_Lin.bind _ fun _ => sk_Lin.at _ _ _ _) (sk_Lin.bind _ fun _ => sk_Lin.at _ _ _ _) | exact sk_Lin.ite (sk_Lin.bind _ fun _ => sk_Lin.at _ _ _ _) sk_Lin.none | exact sk_Lin.ite (sk_Lin.bind _ fun _ => sk_Lin.at _ _ _ _) (sk_Lin.ite (sk_Lin.ite (sk_Lin.bind _ fun _ => sk_Lin.at _ _ _ _) sk_Lin.none) sk_Lin.none) | exact sk_Lin.sw _ _ _ _ _ _ _ _)
  case istore n =>
    rcases st with _ | ⟨v, st⟩
    · exact sk_Lin.none
    · cases v <;> dsimp only <;> (first | exact sk_Lin.none | exact sk_Lin.at _ _ _ _ | exact sk_Lin.ite (sk_Lin.at _ _ _ _) (sk_Lin.at _ _ _ _) | exact sk_Lin.ite (sk_Lin.at _ _ _ _) sk_Lin.none | exact sk_Lin.ite sk_Lin.none (sk_Lin.at _ _ _ _) | exact sk_Lin.bind _ fun _ => sk_Lin.at _ _ _ _ | exact sk_Lin.ite (sk_Lin.bind _ fun _ => sk_Lin.at _ _ _ _) (sk_Lin.bind _ fun _ => sk_Lin.at _ _ _ _) | exact sk_Lin.ite (sk_Lin.bind _ fun _ => sk_Lin.at _ _ _ _) sk_Lin.none | exact sk_Lin.ite (sk_Lin.bind _ fun _ => sk_Lin.at _ _ _ _) (sk_Lin.ite (sk_Lin.ite (sk_Lin.bind _ fun _ => sk_Lin.at _ _ _ _) sk_Lin.none) sk_Lin.none) | exact sk_Lin.sw _ _ _ _ _ _ _ _)
  case fstore_n n =>
    rcases st with _ | ⟨v, st⟩
    · exact sk_Lin.none
    · cases v <;> dsimp only <;> (first | exact sk_Lin.none | exact sk_Lin.at _ _ _ _ | exact sk_Lin.ite (sk_Lin.at _ _ _ _) (sk_Lin.at _ _ _ _) | exact sk_Lin.ite (sk_Lin.at _ _ _ _) sk_Lin.none | exact sk_Lin.ite sk_Lin.none (sk_Lin.at _ _ _ _) | exact sk_Lin.bind _ fun _ => sk_Lin.at _ _ _ _ | exact sk_Lin.ite (sk_Lin.bind _ fun _ => sk_Lin.at _ _ _ _) (sk_Lin.bind _ fun _ => sk_Lin.at _ _ _ _) | exact sk_Lin.ite (sk_Lin.bind _ fun _ => sk_Lin.at _ _ _ _) sk_Lin.none | exact sk_Lin.ite (sk_Lin.bind _ fun _ => sk_Lin.at _ _ _ _) (sk_Lin.ite (sk_Lin.ite (sk_Lin.bind _ fun _ => sk_Lin.at _ _ _ _) sk_Lin.none) sk_Lin.none) | exact sk_Lin.sw _ _ _ _ _ _ _ _)
  case fstore n =>
    rcases st with _ | ⟨v, st⟩
    · exact sk_Lin.none
    · cases v <;> dsimp only <;> (first | exact sk_Lin.none | exact sk_Lin.at _ _ _ _ | exact sk_Lin.ite (sk_Lin.at _ _ _ _) (sk_Lin.at _ _ _ _) | exact sk_Lin.ite (sk_Lin.at _ _ _ _) sk_Lin.none | exact sk_Lin.ite sk_Lin.none (sk_Lin.at _ _ _ _) | exact sk_Lin.bind _ fun _ => sk_Lin.at _ _ _ _ | exact sk_Lin.ite (sk_Lin.bind _ fun _ => sk_Lin.at _ _ _ _) (sk_Lin.bind _ fun _ => sk_Lin.at _ _ _ _) | exact sk_Lin.ite (sk_Lin.bind _ fun _ => sk_Lin.at _ _ _ _) sk_Lin.none | exact sk_Lin.ite (sk_Lin.bind _ fun _ => sk_Lin.at _ _ _ _) (sk_Lin.ite (sk_Lin.ite (sk_Lin.bind _ fun _ => sk_Lin.at _ _ _ _) sk_Lin.none) sk_Lin.none) | exact sk_Lin.sw _ _ _ _ _ _ _ _)
  case astore_n n =>
    rcases st with _ | ⟨v, st⟩
    · exact sk_Lin.none
    · cases v <;> dsimp only <;> (first | exact sk_Lin.none | exact sk_Lin.at _ _ _ _ | exact sk_Lin.ite (sk_Lin.at _ _ _ _) (sk_Lin.at _ _ _ _) | exact sk_Lin.ite (sk_Lin.at _ _ _ _) sk_Lin.none | exact sk_Lin.ite sk_Lin.none (sk_Lin.at _ _ _ _) | exact sk_Lin.bind _ fun _ => sk_Lin.at _ _ _ _ | exact sk_Lin.ite (sk_Lin.bind _ fun _ => sk_Lin.at _ _ _ _) (sk_Lin.bind _ fun _ => sk_Lin.at _ _ _ _) | exact sk_Lin.ite (sk_Lin.bind _ fun _ => sk_Lin.at _ _ _ _) sk_Lin.none | exact sk_Lin.ite (sk_Lin.bind _ fun _ => sk_Lin.at _ _ _ _) (sk_Lin.ite (sk_Lin.ite (sk_Lin.bind _ fun _ => sk_Lin.at _ _ _ _) sk_Lin.none) sk_Lin.none) | exact sk_Lin.sw _ _ _ _ _ _ _ _)
  case astore n =>
    rcases st with _ | ⟨v, st⟩
    · exact sk_Lin.none
    · cases v <;> dsimp only <;> (first | exact sk_Lin.none | exact sk_Lin.at _ _ _ _ | exact sk_Lin.ite (sk_Lin.at _ _ _ _) (sk_Lin.at _ _ _ _) | exact sk_Lin.ite (sk_Lin.at _ _ _ _) sk_Lin.none | exact sk_Lin.ite sk_Lin.none (sk_Lin.at _ _ _ _) | exact sk_Lin.bind _ fun _ => sk_Lin.at _ _ _ _ | exact sk_Lin.ite (sk_Lin.bind _ fun _ => sk_Lin.at _ _ _ _) (sk_Lin.bind _ fun _ => sk_Lin.at _ _ _ _) | exact sk_Lin.ite (sk_Lin.bind _ fun _ => sk_Lin.at _ _ _ _) sk_Lin.none | exact sk_Lin.ite (sk_Lin.bind _ fun _ => sk_Lin.at _ _ _ _) (sk_Lin.ite (sk_Lin.ite (sk_Lin.bind _ fun _ => sk_Lin.at _ _ _ _) sk_Lin.none) sk_Lin.none) | exact sk_Lin.sw _ _ _ _ _ _ _ _)
  case ineg =>
    rcases st with _ | ⟨v, st⟩
    · exact sk_Lin.none
    · cases v <;> dsimp only <;> (first | exact sk_Lin.none | exact sk_Lin.at _ _ _ _ | exact sk_Lin.ite (sk_Lin.at _ _ _ _) (sk_Lin.at _ _ _ _) | exact sk_Lin.ite (sk_Lin.at _ _ _ _) sk_Lin.none | exact sk_Lin.ite sk_Lin.none (sk_Lin.at _ _ _ _) | exact sk_Lin.bind _ fun _ => sk_Lin.at _ _ _ _ | exact sk_Lin.ite (sk_Lin.bind _ fun _ => sk_Lin.at _ _ _ _) (sk_Lin.bind _ fun _ => sk_Lin.at _ _ _ _) | exact sk_Lin.ite (sk_Lin.bind _ fun _ => sk_Lin.at _ _ _ _) sk_Lin.none | exact sk_Lin.ite (sk_Lin.bind _ fun _ => sk_Lin.at _ _ _ _) (sk_Lin.ite (sk_Lin.ite (sk_Lin.bind _ fun _ => sk_Lin.at _ _ _ _) sk_Lin.none) sk_Lin.none) | exact sk_Lin.sw _ _ _ _ _ _ _ _)
  case i2s =>
    rcases st with _ | ⟨v, st⟩
    · exact sk_Lin.none
    · cases v <;> dsimp only <;> (first | exact sk_Lin.none | exact sk_Lin.at _ _ _ _ | exact sk_Lin.ite (sk_Lin.at _ _ _ _) (sk_Lin.at _ _ _ _) | exact sk_Lin.ite (sk_Lin.at _ _ _ _) sk_Lin.none | exact sk_Lin.ite sk_Lin.none (sk_Lin.at _ _ _ _) | exact sk_Lin.bind _ fun _ => sk_Lin.at _ _ _ _ | exact sk_Lin.ite (sk_Lin.bind _ fun _ => sk_Lin.at _ _ _ _) (sk_Lin.bind _ fun _ => sk_Lin.at _ _ _ _) | exact sk_Lin.ite (sk_Lin.bind _ fun _ => sk_Lin.at _ _ _ _) sk_Lin.none | exact sk_Lin.ite (sk_Lin.bind _ fun _ => sk_Lin.at _ _ _ _) (sk_Lin.ite (sk_Lin.ite (sk_Lin.bind _ fun _ => sk_Lin.at _ _ _ _) sk_Lin.none) sk_Lin.none) | exact sk_Lin.sw _ _ _ _ _ _ _ _)
  case i2f =>
    rcases st with _ | ⟨v, st⟩
    · exact sk_Lin.none
    · cases v <;> dsimp only <;> (first | exact sk_Lin.none | exact sk_Lin.at _ _ _ _ | exact sk_Lin.ite (sk_Lin.at _ _ _ _) (sk_Lin.at _ _ _ _) | exact sk_Lin.ite (sk_Lin.at _ _ _ _) sk_Lin.none | exact sk_Lin.ite sk_Lin.none (sk_Lin.at _ _ _ _) | exact sk_Lin.bind _ fun _ => sk_Lin.at _ _ _ _ | exact sk_Lin.ite (sk_Lin.bind _ fun _ => sk_Lin.at _ _ _ _) (sk_Lin.bind _ fun _ => sk_Lin.at _ _ _ _) | exact sk_Lin.ite (sk_Lin.bind _ fun _ => sk_Lin.at _ _ _ _) sk_Lin.none | exact sk_Lin.ite (sk_Lin.bind _ fun _ => sk_Lin.at _ _ _ _) (sk_Lin.ite (sk_Lin.ite (sk_Lin.bind _ fun _ => sk_Lin.at _ _ _ _) sk_Lin.none) sk_Lin.none) | exact sk_Lin.sw _ _ _ _ _ _ _ _)
  case f2i =>
    rcases st with _ | ⟨v, st⟩
    · exact sk_Lin.none
    · cases v <;> dsimp only <;> (first | exact sk_Lin.none | exact sk_Lin.at _ _ _ _ | exact sk_Lin.ite (sk_Lin.at _ _ _ _) (sk_Lin.at _ _ _ _) | exact sk_Lin.ite (sk_Lin.at _ _ _ _) sk_Lin.none | exact sk_Lin.ite sk_Lin.none (sk_Lin.at _ _ _ _) | exact sk_Lin.bind _ fun _ => sk_Lin.at _ _ _ _ | exact sk_Lin.ite (sk_Lin.bind _ fun _ => sk_Lin.at _ _ _ _) (sk_Lin.bind _ fun _ => sk_Lin.at _ _ _ _) | exact sk_Lin.ite (sk_Lin.bind _ fun _ => sk_Lin.at _ _ _ _) sk_Lin.none | exact sk_Lin.ite (sk_Lin.bind _ fun _ => sk_Lin.at _ _ _ _) (sk_Lin.ite (sk_Lin.ite (sk_Lin.bind _ fun _ => sk_Lin.at _ _ _ _) sk_Lin.none) sk_Lin.none) | exact sk_Lin.sw _ _ _ _ _ _ _ _)
  case dup =>
    rcases st with _ | ⟨v, st⟩
    · exact sk_Lin.none
    · cases v <;> dsimp only <;> (first | exact sk_Lin.none | exact sk_Lin.at _ _ _ _ | exact sk_Lin.ite (sk_Lin.at _ _ _ _) (sk_Lin.at _ _ _ _) | exact sk_Lin.ite (sk_Lin.at _ _ _ _) sk_Lin.none | exact sk_Lin.ite sk_Lin.none (sk_Lin.at _ _ _ _) | exact sk_Lin.bind _ fun _ => sk_Lin.at _ _ _ _ | exact sk_Lin.ite (sk_Lin.bind _ fun _ => sk_Lin.at _ _ _ _) (sk_Lin.bind _ fun _ => sk_Lin.at _ _ _ _) | exact sk_Lin.ite (sk_Lin.bind _ fun _ => sk_Lin.at _ _ _ _) sk_Lin.none | exact sk_Lin.ite (sk_Lin.bind _ fun _ => sk_Lin.at _ _ _ _) (sk_Lin.ite (sk_Lin.ite (sk_Lin.bind _ fun _ => sk_Lin.at _ _ _ _) sk_Lin.none) sk_Lin.none) | exact sk_Lin.sw _ _ _ _ _ _ _ _)
  case pop =>
    rcases st with _ | ⟨v, st⟩
    · exact sk_Lin.none
    · cases v <;> dsimp only <;> (first | exact sk_Lin.none | exact sk_Lin.at _ _ _ _ | exact sk_Lin.ite (sk_Lin.at _ _ _ _) (sk_Lin.at _ _ _ _) | exact sk_Lin.ite (sk_Lin.at _ _ _ _) sk_Lin.none | exact sk_Lin.ite sk_Lin.none (sk_Lin.at _ _ _ _) | exact sk_Lin.bind _ fun _ => sk_Lin.at _ _ _ _ | exact sk_Lin.ite (sk_Lin.bind _ fun _ => sk_Lin.at _ _ _ _) (sk_Lin.bind _ fun _ => sk_Lin.at _ _ _ _) | exact sk_Lin.ite (sk_Lin.bind _ fun _ => sk_Lin.at _ _ _ _) sk_Lin.none | exact sk_Lin.ite (sk_Lin.bind _ fun _ => sk_Lin.at _ _ _ _) (sk_Lin.ite (sk_Lin.ite (sk_Lin.bind _ fun _ => sk_Lin.at _ _ _ _) sk_Lin.none) sk_Lin.none) | exact sk_Lin.sw _ _ _ _ _ _ _ _)
  case tableswitch d lo hi offs =>
    rcases st with _ | ⟨v, st⟩
    · exact sk_Lin.none
    · cases v <;> dsimp only <;> (first | exact sk_Lin.none | exact sk_Lin.at _ _ _ _ | exact sk_Lin.ite (sk_Lin.at _ _ _ _) (sk_Lin.at _ _ _ _) | exact sk_Lin.ite (sk_Lin.at _ _ _ _) sk_Lin.none | exact sk_Lin.ite sk_Lin.none (sk_Lin.at _ _ _ _) | exact sk_Lin.bind _ fun _ => sk_Lin.at _ _ _ _ | exact sk_Lin.ite (sk_Lin.bind _ fun _ => sk_Lin.at _ _ _ _) (sk_Lin.bind _ fun _ => sk_Lin.at _ _ _ _) | exact sk_Lin.ite (sk_Lin.bind _ fun _ => sk_Lin.at _ _ _ _) sk_Lin.none | exact sk_Lin.ite (sk_Lin.bind _ fun _ => sk_Lin.at _ _ _ _) (sk_Lin.ite (sk_Lin.ite (sk_Lin.bind _ fun _ => sk_Lin.at _ _ _ _) sk_Lin.none) sk_Lin.none) | exact sk_Lin.sw _ _ _ _ _ _ _ _)
  case ifCond c o =>
    rcases st with _ | ⟨v, st⟩
    · exact sk_Lin.none
    · cases v <;> dsimp only <;> (first | exact sk_Lin.none | exact sk_Lin.at _ _ _ _ | exact sk_Lin.ite (sk_Lin.at _ _ _ _) (sk_Lin.at _ _ _ _) | exact sk_Lin.ite (sk_Lin.at _ _ _ _) sk_Lin.none | exact sk_Lin.ite sk_Lin.none (sk_Lin.at _ _ _ _) | exact sk_Lin.bind _ fun _ => sk_Lin.at _ _ _ _ | exact sk_Lin.ite (sk_Lin.bind _ fun _ => sk_Lin.at _ _ _ _) (sk_Lin.bind _ fun _ => sk_Lin.at _ _ _ _) | exact sk_Lin.ite (sk_Lin.bind _ fun _ => sk_Lin.at _ _ _ _) sk_Lin.none | exact sk_Lin.ite (sk_Lin.bind _ fun _ => sk_Lin.at _ _ _ _) (sk_Lin.ite (sk_Lin.ite (sk_Lin.bind _ fun _ => sk_Lin.at _ _ _ _) sk_Lin.none) sk_Lin.none) | exact sk_Lin.sw _ _ _ _ _ _ _ _)
  case getfield n =>
    rcases st with _ | ⟨v, st⟩
    · exact sk_Lin.none
    · cases v <;> dsimp only <;> (first | exact sk_Lin.none | exact sk_Lin.at _ _ _ _ | exact sk_Lin.ite (sk_Lin.at _ _ _ _) (sk_Lin.at _ _ _ _) | exact sk_Lin.ite (sk_Lin.at _ _ _ _) sk_Lin.none | exact sk_Lin.ite sk_Lin.none (sk_Lin.at _ _ _ _) | exact sk_Lin.bind _ fun _ => sk_Lin.at _ _ _ _ | exact sk_Lin.ite (sk_Lin.bind _ fun _ => sk_Lin.at _ _ _ _) (sk_Lin.bind _ fun _ => sk_Lin.at _ _ _ _) | exact sk_Lin.ite (sk_Lin.bind _ fun _ => sk_Lin.at _ _ _ _) sk_Lin.none | exact sk_Lin.ite (sk_Lin.bind _ fun _ => sk_Lin.at _ _ _ _) (sk_Lin.ite (sk_Lin.ite (sk_Lin.bind _ fun _ => sk_Lin.at _ _ _ _) sk_Lin.none) sk_Lin.none) | exact sk_Lin.sw _ _ _ _ _ _ _ _)
  case arraylength =>
    rcases st with _ | ⟨v, st⟩
    · exact sk_Lin.none
    · cases v <;> dsimp only <;> (first | exact sk_Lin.none | exact sk_Lin.at _ _ _ _ | exact sk_Lin.ite (sk_Lin.at _ _ _ _) (sk_Lin.at _ _ _ _) | exact sk_Lin.ite (sk_Lin.at _ _ _ _) sk_Lin.none | exact sk_Lin.ite sk_Lin.none (sk_Lin.at _ _ _ _) | exact sk_Lin.bind _ fun _ => sk_Lin.at _ _ _ _ | exact sk_Lin.ite (sk_Lin.bind _ fun _ => sk_Lin.at _ _ _ _) (sk_Lin.bind _ fun _ => sk_Lin.at _ _ _ _) | exact sk_Lin.ite (sk_Lin.bind _ fun _ => sk_Lin.at _ _ _ _) sk_Lin.none | exact sk_Lin.ite (sk_Lin.bind _ fun _ => sk_Lin.at _ _ _ _) (sk_Lin.ite (sk_Lin.ite (sk_Lin.bind _ fun _ => sk_Lin.at _ _ _ _) sk_Lin.none) sk_Lin.none) | exact sk_Lin.sw _ _ _ _ _ _ _ _)
  case newarray t =>
    rcases st with _ | ⟨v, st⟩
    · exact sk_Lin.none
    · cases v <;> dsimp only <;> (first | exact sk_Lin.none | exact sk_Lin.at _ _ _ _ | exact sk_Lin.ite (sk_Lin.at _ _ _ _) (sk_Lin.at _ _ _ _) | exact sk_Lin.ite (sk_Lin.at _ _ _ _) sk_Lin.none | exact sk_Lin.ite sk_Lin.none (sk_Lin.at _ _ _ _) | exact sk_Lin.bind _ fun _ => sk_Lin.at _ _ _ _ | exact sk_Lin.ite (sk_Lin.bind _ fun _ => sk_Lin.at _ _ _ _) (sk_Lin.bind _ fun _ => sk_Lin.at _ _ _ _) | exact sk_Lin.ite (sk_Lin.bind _ fun _ => sk_Lin.at _ _ _ _) sk_Lin.none | exact sk_Lin.ite (sk_Lin.bind _ fun _ => sk_Lin.at _ _ _ _) (sk_Lin.ite (sk_Lin.ite (sk_Lin.bind _ fun _ => sk_Lin.at _ _ _ _) sk_Lin.none) sk_Lin.none) | exact sk_Lin.sw _ _ _ _ _ _ _ _)
  case anewarray n =>
    rcases st with _ | ⟨v, st⟩
    · exact sk_Lin.none
    · cases v <;> dsimp only <;> (first | exact sk_Lin.none | exact sk_Lin.at _ _ _ _ | exact sk_Lin.ite (sk_Lin.at _ _ _ _) (sk_Lin.at _ _ _ _) | exact sk_Lin.ite (sk_Lin.at _ _ _ _) sk_Lin.none | exact sk_Lin.ite sk_Lin.none (sk_Lin.at _ _ _ _) | exact sk_Lin.bind _ fun _ => sk_Lin.at _ _ _ _ | exact sk_Lin.ite (sk_Lin.bind _ fun _ => sk_Lin.at _ _ _ _) (sk_Lin.bind _ fun _ => sk_Lin.at _ _ _ _) | exact sk_Lin.ite (sk_Lin.bind _ fun _ => sk_Lin.at _ _ _ _) sk_Lin.none | exact sk_Lin.ite (sk_Lin.bind _ fun _ => sk_Lin.at _ _ _ _) (sk_Lin.ite (sk_Lin.ite (sk_Lin.bind _ fun _ => sk_Lin.at _ _ _ _) sk_Lin.none) sk_Lin.none) | exact sk_Lin.sw _ _ _ _ _ _ _ _)
  case iadd =>
    rcases st with _ | ⟨v, _ | ⟨u, st⟩⟩
    · exact sk_Lin.none
    · cases v <;> exact sk_Lin.none
    · cases v <;> cases u <;> dsimp only <;> (first | exact sk_Lin.none | exact sk_Lin.at _ _ _ _ | exact sk_Lin.ite (sk_Lin.at _ _ _ _) (sk_Lin.at _ _ _ _) | exact sk_Lin.ite (sk_Lin.at _ _ _ _) sk_Lin.none | exact sk_Lin.ite sk_Lin.none (sk_Lin.at _ _ _ _) | exact sk_Lin.bind _ fun _ => sk_Lin.at _ _ _ _ | exact sk_Lin.ite (sk_Lin.bind _ fun _ => sk_Lin.at _ _ _ _) (sk_Lin.bind _ fun _ => sk_Lin.at _ _ _ _) | exact sk_Lin.ite (sk_Lin.bind _ fun _ => sk_Lin.at _ _ _ _) sk_Lin.none | exact sk_Lin.ite (sk_Lin.bind _ fun _ => sk_Lin.at _ _ _ _) (sk_Lin.ite (sk_Lin.ite (sk_Lin.bind _ fun _ => sk_Lin.at _ _ _ _) sk_Lin.none) sk_Lin.none) | exact sk_Lin.sw _ _ _ _ _ _ _ _)
  case isub =>
    rcases st with _ | ⟨v, _ | ⟨u, st⟩⟩
    · exact sk_Lin.none
    · cases v <;> exact sk_Lin.none
    · cases v <;> cases u <;> dsimp only <;> (first | exact sk_Lin.none | exact sk_Lin.at _ _ _ _ | exact sk_Lin.ite (sk_Lin.at _ _ _ _) (sk_Lin.at _ _ _ _) | exact sk_Lin.ite (sk_Lin.at _ _ _ _) sk_Lin.none | exact sk_Lin.ite sk_Lin.none (sk_Lin.at _ _ _ _) | exact sk_Lin.bind _ fun _ => sk_Lin.at _ _ _ _ | exact sk_Lin.ite (sk_Lin.bind _ fun _ => sk_Lin.at _ _ _ _) (sk_Lin.bind _ fun _ => sk_Lin.at _ _ _ _) | exact sk_Lin.ite (sk_Lin.bind _ fun _ => sk_Lin.at _ _ _ _) sk_Lin.none | exact sk_Lin.ite (sk_Lin.bind _ fun _ => sk_Lin.at _ _ _ _) (sk_Lin.ite (sk_Lin.ite (sk_Lin.bind _ fun _ => sk_Lin.at _ _ _ _) sk_Lin.none) sk_Lin.none) | exact sk_Lin.sw _ _ _ _ _ _ _ _)
  case imul =>
    rcases st with _ | ⟨v, _ | ⟨u, st⟩⟩
    · exact sk_Lin.none
    · cases v <;> exact sk_Lin.none
    · cases v <;> cases u <;> dsimp only <;> (first | exact sk_Lin.none | exact sk_Lin.at _ _ _ _ | exact sk_Lin.ite (sk_Lin.at _ _ _ _) (sk_Lin.at _ _ _ _) | exact sk_Lin.ite (sk_Lin.at _ _ _ _) sk_Lin.none | exact sk_Lin.ite sk_Lin.none (sk_Lin.at _ _ _ _) | exact sk_Lin.bind _ fun _ => sk_Lin.at _ _ _ _ | exact sk_Lin.ite (sk_Lin.bind _ fun _ => sk_Lin.at _ _ _ _) (sk_Lin.bind _ fun _ => sk_Lin.at _ _ _ _) | exact sk_Lin.ite (sk_Lin.bind _ fun _ => sk_Lin.at _ _ _ _) sk_Lin.none | exact sk_Lin.ite (sk_Lin.bind _ fun _ => sk_Lin.at _ _ _ _) (sk_Lin.ite (sk_Lin.ite (sk_Lin.bind _ fun _ => sk_Lin.at _ _ _ _) sk_Lin.none) sk_Lin.none) | exact sk_Lin.sw _ _ _ _ _ _ _ _)
  case idiv =>
    rcases st with _ | ⟨v, _ | ⟨u, st⟩⟩
    · exact sk_Lin.none
    · cases v <;> exact sk_Lin.none
    · cases v <;> cases u <;> dsimp only <;> (first | exact sk_Lin.none | exact sk_Lin.at _ _ _ _ | exact sk_Lin.ite (sk_Lin.at _ _ _ _) (sk_Lin.at _ _ _ _) | exact sk_Lin.ite (sk_Lin.at _ _ _ _) sk_Lin.none | exact sk_Lin.ite sk_Lin.none (sk_Lin.at _ _ _ _) | exact sk_Lin.bind _ fun _ => sk_Lin.at _ _ _ _ | exact sk_Lin.ite (sk_Lin.bind _ fun _ => sk_Lin.at _ _ _ _) (sk_Lin.bind _ fun _ => sk_Lin.at _ _ _ _) | exact sk_Lin.ite (sk_Lin.bind _ fun _ => sk_Lin.at _ _ _ _) sk_Lin.none | exact sk_Lin.ite (sk_Lin.bind _ fun _ => sk_Lin.at _ _ _ _) (sk_Lin.ite (sk_Lin.ite (sk_Lin.bind _ fun _ => sk_Lin.at _ _ _ _) sk_Lin.none) sk_Lin.none) | exact sk_Lin.sw _ _ _ _ _ _ _ _)
  case irem =>
    rcases st with _ | ⟨v, _ | ⟨u, st⟩⟩
    · exact sk_Lin.none
    · cases v <;> exact sk_Lin.none
    · cases v <;> cases u <;> dsimp only <;> (first | exact sk_Lin.none | exact sk_Lin.at _ _ _ _ | exact sk_Lin.ite (sk_Lin.at _ _ _ _) (sk_Lin.at _ _ _ _) | exact sk_Lin.ite (sk_Lin.at _ _ _ _) sk_Lin.none | exact sk_Lin.ite sk_Lin.none (sk_Lin.at _ _ _ _) | exact sk_Lin.bind _ fun _ => sk_Lin.at _ _ _ _ | exact sk_Lin.ite (sk_Lin.bind _ fun _ => sk_Lin.at _ _ _ _) (sk_Lin.bind _ fun _ => sk_Lin.at _ _ _ _) | exact sk_Lin.ite (sk_Lin.bind _ fun _ => sk_Lin.at _ _ _ _) sk_Lin.none | exact sk_Lin.ite (sk_Lin.bind _ fun _ => sk_Lin.at _ _ _ _) (sk_Lin.ite (sk_Lin.ite (sk_Lin.bind _ fun _ => sk_Lin.at _ _ _ _) sk_Lin.none) sk_Lin.none) | exact sk_Lin.sw _ _ _ _ _ _ _ _)
  case iand =>
    rcases st with _ | ⟨v, _ | ⟨u, st⟩⟩
    · exact sk_Lin.none
    · cases v <;> exact sk_Lin.none
    · cases v <;> cases u <;> dsimp only <;> (first | exact sk_Lin.none | exact sk_Lin.at _ _ _ _ | exact sk_Lin.ite (sk_Lin.at _ _ _ _) (sk_Lin.at _ _ _ _) | exact sk_Lin.ite (sk_Lin.at _ _ _ _) sk_Lin.none | exact sk_Lin.ite sk_Lin.none (sk_Lin.at _ _ _ _) | exact sk_Lin.bind _ fun _ => sk_Lin.at _ _ _ _ | exact sk_Lin.ite (sk_Lin.bind _ fun _ => sk_Lin.at _ _ _ _) (sk_Lin.bind _ fun _ => sk_Lin.at _ _ _ _) | exact sk_Lin.ite (sk_Lin.bind _ fun _ => sk_Lin.at _ _ _ _) sk_Lin.none | exact sk_Lin.ite (sk_Lin.bind _ fun _ => sk_Lin.at _ _ _ _) (sk_Lin.ite (sk_Lin.ite (sk_Lin.bind _ fun _ => sk_Lin.at _ _ _ _) sk_Lin.none) sk_Lin.none) | exact sk_Lin.sw _ _ _ _ _ _ _ _)
  case ior =>
    rcases st with _ | ⟨v, _ | ⟨u, st⟩⟩
    · exact sk_Lin.none
    · cases v <;> exact sk_Lin.none
    · cases v <;> cases u <;> dsimp only <;> (first | exact sk_Lin.none | exact sk_Lin.at _ _ _ _ | exact sk_Lin.ite (sk_Lin.at _ _ _ _) (sk_Lin.at _ _ _ _) | exact sk_Lin.ite (sk_Lin.at _ _ _ _) sk_Lin.none | exact sk_Lin.ite sk_Lin.none (sk_Lin.at _ _ _ _) | exact sk_Lin.bind _ fun _ => sk_Lin.at _ _ _ _ | exact sk_Lin.ite (sk_Lin.bind _ fun _ => sk_Lin.at _ _ _ _) (sk_Lin.bind _ fun _ => sk_Lin.at _ _ _ _) | exact sk_Lin.ite (sk_Lin.bind _ fun _ => sk_Lin.at _ _ _ _) sk_Lin.none | exact sk_Lin.ite (sk_Lin.bind _ fun _ => sk_Lin.at _ _ _ _) (sk_Lin.ite (sk_Lin.ite (sk_Lin.bind _ fun _ => sk_Lin.at _ _ _ _) sk_Lin.none) sk_Lin.none) | exact sk_Lin.sw _ _ _ _ _ _ _ _)
  case ishl =>
    rcases st with _ | ⟨v, _ | ⟨u, st⟩⟩
    · exact sk_Lin.none
    · cases v <;> exact sk_Lin.none
    · cases v <;> cases u <;> dsimp only <;> (first | exact sk_Lin.none | exact sk_Lin.at _ _ _ _ | exact sk_Lin.ite (sk_Lin.at _ _ _ _) (sk_Lin.at _ _ _ _) | exact sk_Lin.ite (sk_Lin.at _ _ _ _) sk_Lin.none | exact sk_Lin.ite sk_Lin.none (sk_Lin.at _ _ _ _) | exact sk_Lin.bind _ fun _ => sk_Lin.at _ _ _ _ | exact sk_Lin.ite (sk_Lin.bind _ fun _ => sk_Lin.at _ _ _ _) (sk_Lin.bind _ fun _ => sk_Lin.at _ _ _ _) | exact sk_Lin.ite (sk_Lin.bind _ fun _ => sk_Lin.at _ _ _ _) sk_Lin.none | exact sk_Lin.ite (sk_Lin.bind _ fun _ => sk_Lin.at _ _ _ _) (sk_Lin.ite (sk_Lin.ite (sk_Lin.bind _ fun _ => sk_Lin.at _ _ _ _) sk_Lin.none) sk_Lin.none) | exact sk_Lin.sw _ _ _ _ _ _ _ _)
  case iushr =>
    rcases st with _ | ⟨v, _ | ⟨u, st⟩⟩
    · exact sk_Lin.none
    · cases v <;> exact sk_Lin.none
    · cases v <;> cases u <;> dsimp only <;> (first | exact sk_Lin.none | exact sk_Lin.at _ _ _ _ | exact sk_Lin.ite (sk_Lin.at _ _ _ _) (sk_Lin.at _ _ _ _) | exact sk_Lin.ite (sk_Lin.at _ _ _ _) sk_Lin.none | exact sk_Lin.ite sk_Lin.none (sk_Lin.at _ _ _ _) | exact sk_Lin.bind _ fun _ => sk_Lin.at _ _ _ _ | exact sk_Lin.ite (sk_Lin.bind _ fun _ => sk_Lin.at _ _ _ _) (sk_Lin.bind _ fun _ => sk_Lin.at _ _ _ _) | exact sk_Lin.ite (sk_Lin.bind _ fun _ => sk_Lin.at _ _ _ _) sk_Lin.none | exact sk_Lin.ite (sk_Lin.bind _ fun _ => sk_Lin.at _ _ _ _) (sk_Lin.ite (sk_Lin.ite (sk_Lin.bind _ fun _ => sk_Lin.at _ _ _ _) sk_Lin.none) sk_Lin.none) | exact sk_Lin.sw _ _ _ _ _ _ _ _)
  case fadd =>
    rcases st with _ | ⟨v, _ | ⟨u, st⟩⟩
    · exact sk_Lin.none
    · cases v <;> exact sk_Lin.none
    · cases v <;> cases u <;> dsimp only <;> (first | exact sk_Lin.none | exact sk_Lin.at _ _ _ _ | exact sk_Lin.ite (sk_Lin.at _ _ _ _) (sk_Lin.at _ _ _ _) | exact sk_Lin.ite (sk_Lin.at _ _ _ _) sk_Lin.none | exact sk_Lin.ite sk_Lin.none (sk_Lin.at _ _ _ _) | exact sk_Lin.bind _ fun _ => sk_Lin.at _ _ _ _ | exact sk_Lin.ite (sk_Lin.bind _ fun _ => sk_Lin.at _ _ _ _) (sk_Lin.bind _ fun _ => sk_Lin.at _ _ _ _) | exact sk_Lin.ite (sk_Lin.bind _ fun _ => sk_Lin.at _ _ _ _) sk_Lin.none | exact sk_Lin.ite (sk_Lin.bind _ fun _ => sk_Lin.at _ _ _ _) (sk_Lin.ite (sk_Lin.ite (sk_Lin.bind _ fun _ => sk_Lin.at _ _ _ _) sk_Lin.none) sk_Lin.none) | exact sk_Lin.sw _ _ _ _ _ _ _ _)
  case fsub =>
    rcases st with _ | ⟨v, _ | ⟨u, st⟩⟩
    · exact sk_Lin.none
    · cases v <;> exact sk_Lin.none
    · cases v <;> cases u <;> dsimp only <;> (first | exact sk_Lin.none | exact sk_Lin.at _ _ _ _ | exact sk_Lin.ite (sk_Lin.at _ _ _ _) (sk_Lin.at _ _ _ _) | exact sk_Lin.ite (sk_Lin.at _ _ _ _) sk_Lin.none | exact sk_Lin.ite sk_Lin.none (sk_Lin.at _ _ _ _) | exact sk_Lin.bind _ fun _ => sk_Lin.at _ _ _ _ | exact sk_Lin.ite (sk_Lin.bind _ fun _ => sk_Lin.at _ _ _ _) (sk_Lin.bind _ fun _ => sk_Lin.at _ _ _ _) | exact sk_Lin.ite (sk_Lin.bind _ fun _ => sk_Lin.at _ _ _ _) sk_Lin.none | exact sk_Lin.ite (sk_Lin.bind _ fun _ => sk_Lin.at _ _ _ _) (sk_Lin.ite (sk_Lin.ite (sk_Lin.bind _ fun _ => sk_Lin.at _ _ _ _) sk_Lin.none) sk_Lin.none) | exact sk_Lin.sw _ _ _ _ _ _ _ _)
  case fmul =>
    rcases st with _ | ⟨v, _ | ⟨u, st⟩⟩
    · exact sk_Lin.none
    · cases v <;> exact sk_Lin.none
    · cases v <;> cases u <;> dsimp only <;> (first | exact sk_Lin.none | exact sk_Lin.at _ _ _ _ | exact sk_Lin.ite (sk_Lin.at _ _ _ _) (sk_Lin.at _ _ _ _) | exact sk_Lin.ite (sk_Lin.at _ _ _ _) sk_Lin.none | exact sk_Lin.ite sk_Lin.none (sk_Lin.at _ _ _ _) | exact sk_Lin.bind _ fun _ => sk_Lin.at _ _ _ _ | exact sk_Lin.ite (sk_Lin.bind _ fun _ => sk_Lin.at _ _ _ _) (sk_Lin.bind _ fun _ => sk_Lin.at _ _ _ _) | exact sk_Lin.ite (sk_Lin.bind _ fun _ => sk_Lin.at _ _ _ _) sk_Lin.none | exact sk_Lin.ite (sk_Lin.bind _ fun _ => sk_Lin.at _ _ _ _) (sk_Lin.ite (sk_Lin.ite (sk_Lin.bind _ fun _ => sk_Lin.at _ _ _ _) sk_Lin.none) sk_Lin.none) | exact sk_Lin.sw _ _ _ _ _ _ _ _)
  case fdiv =>
    rcases st with _ | ⟨v, _ | ⟨u, st⟩⟩
    · exact sk_Lin.none
    · cases v <;> exact sk_Lin.none
    · cases v <;> cases u <;> dsimp only <;> (first | exact sk_Lin.none | exact sk_Lin.at _ _ _ _ | exact sk_Lin.ite (sk_Lin.at _ _ _ _) (sk_Lin.at _ _ _ _) | exact sk_Lin.ite (sk_Lin.at _ _ _ _) sk_Lin.none | exact sk_Lin.ite sk_Lin.none (sk_Lin.at _ _ _ _) | exact sk_Lin.bind _ fun _ => sk_Lin.at _ _ _ _ | exact sk_Lin.ite (sk_Lin.bind _ fun _ => sk_Lin.at _ _ _ _) (sk_Lin.bind _ fun _ => sk_Lin.at _ _ _ _) | exact sk_Lin.ite (sk_Lin.bind _ fun _ => sk_Lin.at _ _ _ _) sk_Lin.none | exact sk_Lin.ite (sk_Lin.bind _ fun _ => sk_Lin.at _ _ _ _) (sk_Lin.ite (sk_Lin.ite (sk_Lin.bind _ fun _ => sk_Lin.at _ _ _ _) sk_Lin.none) sk_Lin.none) | exact sk_Lin.sw _ _ _ _ _ _ _ _)
  case fcmp o =>
    rcases st with _ | ⟨v, _ | ⟨u, st⟩⟩
    · exact sk_Lin.none
    · cases v <;> exact sk_Lin.none
    · cases v <;> cases u <;> dsimp only <;> (first | exact sk_Lin.none | exact sk_Lin.at _ _ _ _ | exact sk_Lin.ite (sk_Lin.at _ _ _ _) (sk_Lin.at _ _ _ _) | exact sk_Lin.ite (sk_Lin.at _ _ _ _) sk_Lin.none | exact sk_Lin.ite sk_Lin.none (sk_Lin.at _ _ _ _) | exact sk_Lin.bind _ fun _ => sk_Lin.at _ _ _ _ | exact sk_Lin.ite (sk_Lin.bind _ fun _ => sk_Lin.at _ _ _ _) (sk_Lin.bind _ fun _ => sk_Lin.at _ _ _ _) | exact sk_Lin.ite (sk_Lin.bind _ fun _ => sk_Lin.at _ _ _ _) sk_Lin.none | exact sk_Lin.ite (sk_Lin.bind _ fun _ => sk_Lin.at _ _ _ _) (sk_Lin.ite (sk_Lin.ite (sk_Lin.bind _ fun _ => sk_Lin.at _ _ _ _) sk_Lin.none) sk_Lin.none) | exact sk_Lin.sw _ _ _ _ _ _ _ _)
  case if_icmp c o =>
    rcases st with _ | ⟨v, _ | ⟨u, st⟩⟩
    · exact sk_Lin.none
    · cases v <;> exact sk_Lin.none
    · cases v <;> cases u <;> dsimp only <;> (first | exact sk_Lin.none | exact sk_Lin.at _ _ _ _ | exact sk_Lin.ite (sk_Lin.at _ _ _ _) (sk_Lin.at _ _ _ _) | exact sk_Lin.ite (sk_Lin.at _ _ _ _) sk_Lin.none | exact sk_Lin.ite sk_Lin.none (sk_Lin.at _ _ _ _) | exact sk_Lin.bind _ fun _ => sk_Lin.at _ _ _ _ | exact sk_Lin.ite (sk_Lin.bind _ fun _ => sk_Lin.at _ _ _ _) (sk_Lin.bind _ fun _ => sk_Lin.at _ _ _ _) | exact sk_Lin.ite (sk_Lin.bind _ fun _ => sk_Lin.at _ _ _ _) sk_Lin.none | exact sk_Lin.ite (sk_Lin.bind _ fun _ => sk_Lin.at _ _ _ _) (sk_Lin.ite (sk_Lin.ite (sk_Lin.bind _ fun _ => sk_Lin.at _ _ _ _) sk_Lin.none) sk_Lin.none) | exact sk_Lin.sw _ _ _ _ _ _ _ _)
  case iaload =>
    rcases st with _ | ⟨v, _ | ⟨u, st⟩⟩
    · exact sk_Lin.none
    · cases v <;> exact sk_Lin.none
    · cases v <;> cases u <;> dsimp only <;> (first | exact sk_Lin.none | exact sk_Lin.at _ _ _ _ | exact sk_Lin.ite (sk_Lin.at _ _ _ _) (sk_Lin.at _ _ _ _) | exact sk_Lin.ite (sk_Lin.at _ _ _ _) sk_Lin.none | exact sk_Lin.ite sk_Lin.none (sk_Lin.at _ _ _ _) | exact sk_Lin.bind _ fun _ => sk_Lin.at _ _ _ _ | exact sk_Lin.ite (sk_Lin.bind _ fun _ => sk_Lin.at _ _ _ _) (sk_Lin.bind _ fun _ => sk_Lin.at _ _ _ _) | exact sk_Lin.ite (sk_Lin.bind _ fun _ => sk_Lin.at _ _ _ _) sk_Lin.none | exact sk_Lin.ite (sk_Lin.bind _ fun _ => sk_Lin.at _ _ _ _) (sk_Lin.ite (sk_Lin.ite (sk_Lin.bind _ fun _ => sk_Lin.at _ _ _ _) sk_Lin.none) sk_Lin.none) | exact sk_Lin.sw _ _ _ _ _ _ _ _)
  case aaload =>
    rcases st with _ | ⟨v, _ | ⟨u, st⟩⟩
    · exact sk_Lin.none
    · cases v <;> exact sk_Lin.none
    · cases v <;> cases u <;> dsimp only <;> (first | exact sk_Lin.none | exact sk_Lin.at _ _ _ _ | exact sk_Lin.ite (sk_Lin.at _ _ _ _) (sk_Lin.at _ _ _ _) | exact sk_Lin.ite (sk_Lin.at _ _ _ _) sk_Lin.none | exact sk_Lin.ite sk_Lin.none (sk_Lin.at _ _ _ _) | exact sk_Lin.bind _ fun _ => sk_Lin.at _ _ _ _ | exact sk_Lin.ite (sk_Lin.bind _ fun _ => sk_Lin.at _ _ _ _) (sk_Lin.bind _ fun _ => sk_Lin.at _ _ _ _) | exact sk_Lin.ite (sk_Lin.bind _ fun _ => sk_Lin.at _ _ _ _) sk_Lin.none | exact sk_Lin.ite (sk_Lin.bind _ fun _ => sk_Lin.at _ _ _ _) (sk_Lin.ite (sk_Lin.ite (sk_Lin.bind _ fun _ => sk_Lin.at _ _ _ _) sk_Lin.none) sk_Lin.none) | exact sk_Lin.sw _ _ _ _ _ _ _ _)
  case dup2 =>
    rcases st with _ | ⟨v, _ | ⟨u, st⟩⟩
    · exact sk_Lin.none
    · cases v <;> exact sk_Lin.none
    · cases v <;> cases u <;> dsimp only <;> (first | exact sk_Lin.none | exact sk_Lin.at _ _ _ _ | exact sk_Lin.ite (sk_Lin.at _ _ _ _) (sk_Lin.at _ _ _ _) | exact sk_Lin.ite (sk_Lin.at _ _ _ _) sk_Lin.none | exact sk_Lin.ite sk_Lin.none (sk_Lin.at _ _ _ _) | exact sk_Lin.bind _ fun _ => sk_Lin.at _ _ _ _ | exact sk_Lin.ite (sk_Lin.bind _ fun _ => sk_Lin.at _ _ _ _) (sk_Lin.bind _ fun _ => sk_Lin.at _ _ _ _) | exact sk_Lin.ite (sk_Lin.bind _ fun _ => sk_Lin.at _ _ _ _) sk_Lin.none | exact sk_Lin.ite (sk_Lin.bind _ fun _ => sk_Lin.at _ _ _ _) (sk_Lin.ite (sk_Lin.ite (sk_Lin.bind _ fun _ => sk_Lin.at _ _ _ _) sk_Lin.none) sk_Lin.none) | exact sk_Lin.sw _ _ _ _ _ _ _ _)
  case putfield n =>
    rcases st with _ | ⟨v, _ | ⟨u, st⟩⟩
    · exact sk_Lin.none
    · cases v <;> exact sk_Lin.none
    · cases v <;> cases u <;> dsimp only <;> (first | exact sk_Lin.none | exact sk_Lin.at _ _ _ _ | exact sk_Lin.ite (sk_Lin.at _ _ _ _) (sk_Lin.at _ _ _ _) | exact sk_Lin.ite (sk_Lin.at _ _ _ _) sk_Lin.none | exact sk_Lin.ite sk_Lin.none (sk_Lin.at _ _ _ _) | exact sk_Lin.bind _ fun _ => sk_Lin.at _ _ _ _ | exact sk_Lin.ite (sk_Lin.bind _ fun _ => sk_Lin.at _ _ _ _) (sk_Lin.bind _ fun _ => sk_Lin.at _ _ _ _) | exact sk_Lin.ite (sk_Lin.bind _ fun _ => sk_Lin.at _ _ _ _) sk_Lin.none | exact sk_Lin.ite (sk_Lin.bind _ fun _ => sk_Lin.at _ _ _ _) (sk_Lin.ite (sk_Lin.ite (sk_Lin.bind _ fun _ => sk_Lin.at _ _ _ _) sk_Lin.none) sk_Lin.none) | exact sk_Lin.sw _ _ _ _ _ _ _ _)
  case multianewarray n d =>
    rcases st with _ | ⟨v, _ | ⟨u, st⟩⟩
    · exact sk_Lin.none
    · cases v <;> exact sk_Lin.none
    · cases v <;> cases u <;> dsimp only <;> (first | exact sk_Lin.none | exact sk_Lin.at _ _ _ _ | exact sk_Lin.ite (sk_Lin.at _ _ _ _) (sk_Lin.at _ _ _ _) | exact sk_Lin.ite (sk_Lin.at _ _ _ _) sk_Lin.none | exact sk_Lin.ite sk_Lin.none (sk_Lin.at _ _ _ _) | exact sk_Lin.bind _ fun _ => sk_Lin.at _ _ _ _ | exact sk_Lin.ite (sk_Lin.bind _ fun _ => sk_Lin.at _ _ _ _) (sk_Lin.bind _ fun _ => sk_Lin.at _ _ _ _) | exact sk_Lin.ite (sk_Lin.bind _ fun _ => sk_Lin.at _ _ _ _) sk_Lin.none | exact sk_Lin.ite (sk_Lin.bind _ fun _ => sk_Lin.at _ _ _ _) (sk_Lin.ite (sk_Lin.ite (sk_Lin.bind _ fun _ => sk_Lin.at _ _ _ _) sk_Lin.none) sk_Lin.none) | exact sk_Lin.sw _ _ _ _ _ _ _ _)
  case iastore =>
    rcases st with _ | ⟨v, _ | ⟨u, _ | ⟨t, st⟩⟩⟩
    · exact sk_Lin.none
    · cases v <;> exact sk_Lin.none
    · cases v <;> cases u <;> exact sk_Lin.none
    · cases v <;> cases u <;> first | exact sk_Lin.none | (cases t <;> dsimp only <;> (first | exact sk_Lin.none | exact sk_Lin.at _ _ _ _ | exact sk_Lin.ite (sk_Lin.at _ _ _ _) (sk_Lin.at _ _ _ _) | exact sk_Lin.ite (sk_Lin.at _ _ _ _) sk_Lin.none | exact sk_Lin.ite sk_Lin.none (sk_Lin.at _ _ _ _) | exact sk_Lin.bind _ fun _ => sk_Lin.at _ _ _ _ | exact sk_Lin.ite (sk_Lin.bind _ fun _ => sk_Lin.at _ _ _ _) (sk_Lin.bind _ fun _ => sk_Lin.at _ _ _ _) | exact sk_Lin.ite (sk_Lin.bind _ fun _ => sk_Lin.at _ _ _ _) sk_Lin.none | exact sk_Lin.ite (sk_Lin.bind _ fun _ => sk_Lin.at _ _ _ _) (sk_Lin.ite (sk_Lin.ite (sk_Lin.bind _ fun _ => sk_Lin.at _ _ _ _) sk_Lin.none) sk_Lin.none) | exact sk_Lin.sw _ _ _ _ _ _ _ _))
  case aastore =>
    rcases st with _ | ⟨v, _ | ⟨u, _ | ⟨t, st⟩⟩⟩
    · exact sk_Lin.none
    · cases v <;> exact sk_Lin.none
    · cases v <;> cases u <;> exact sk_Lin.none
    · cases v <;> cases u <;> first | exact sk_Lin.none | (cases t <;> dsimp only <;> (first | exact sk_Lin.none | exact sk_Lin.at _ _ _ _ | exact sk_Lin.ite (sk_Lin.at _ _ _ _) (sk_Lin.at _ _ _ _) | exact sk_Lin.ite (sk_Lin.at _ _ _ _) sk_Lin.none | exact sk_Lin.ite sk_Lin.none (sk_Lin.at _ _ _ _) | exact sk_Lin.bind _ fun _ => sk_Lin.at _ _ _ _ | exact sk_Lin.ite (sk_Lin.bind _ fun _ => sk_Lin.at _ _ _ _) (sk_Lin.bind _ fun _ => sk_Lin.at _ _ _ _) | exact sk_Lin.ite (sk_Lin.bind _ fun _ => sk_Lin.at _ _ _ _) sk_Lin.none | exact sk_Lin.ite (sk_Lin.bind _ fun _ => sk_Lin.at _ _ _ _) (sk_Lin.ite (sk_Lin.ite (sk_Lin.bind _ fun _ => sk_Lin.at _ _ _ _) sk_Lin.none) sk_Lin.none) | exact sk_Lin.sw _ _ _ _ _ _ _ _))
  case invokevirtual n =>
    dsimp only
    generalize sk_pops (y + 1) [] st = q
    rcases q with _ | ⟨as, st⟩
    · exact sk_Lin.none
    · exact sk_Lin.ite (sk_Lin.push _ _ fun _ _ => sk_Lin.at _ _ _ _) sk_Lin.none
  case invokespecial n =>
    dsimp only
    refine sk_Lin.ite ?_ ?_
    · rcases st with _ | ⟨v, st⟩
      · exact sk_Lin.none
      · cases v <;> first | exact sk_Lin.none | exact sk_Lin.ite (sk_Lin.at _ _ _ _) sk_Lin.none
    · generalize sk_pops (y + 1) [] st = q
      rcases q with _ | ⟨as, st⟩
      · exact sk_Lin.none
      · exact sk_Lin.ite (sk_Lin.push _ _ fun _ _ => sk_Lin.at _ _ _ _) sk_Lin.none
  case invokestatic n =>
    dsimp only
    refine sk_Lin.ite (sk_Lin.ite ?_ ?_) ?_
    · split
      · exact sk_Lin.ite (sk_Lin.bind _ fun _ => sk_Lin.at _ _ _ _) sk_Lin.none
      · exact sk_Lin.none
    · rcases st with _ | ⟨v, st⟩
      · exact sk_Lin.none
      · cases v <;> first | exact sk_Lin.none | exact sk_Lin.ite (sk_Lin.at _ _ _ _) sk_Lin.none
    · generalize sk_pops y [] st = q
      rcases q with _ | ⟨as, st⟩
      · exact sk_Lin.none
      · exact sk_Lin.push _ _ fun _ _ => sk_Lin.at _ _ _ _
  case ireturn => exact sk_Lin.ret _
  case freturn => exact sk_Lin.ret _
  case return_ => exact sk_Lin.ret _
  all_goals exact sk_Lin.none
/-- one instruction of a table -/
def sk_one (cal : Nat → List Value → sk_W → Option sk_R) (fields : Nat → List Value) (rz : Bool) (tab : List sk_E) (k : sk_K) : sk_K := fun pc ls st w => match sk_find tab pc with
  | none => none
  | some (i, x, y, z) => sk_step cal fields rz i x y z pc ls st w k
theorem sk_one_lin (cal : Nat → List Value → sk_W → Option sk_R) (fields : Nat → List Value) (rz : Bool) (tab : List sk_E) (pc : Nat) (ls : sk_L) (st : List Value) (w : sk_W) : sk_Lin (fun k => sk_one cal fields rz tab k pc ls st w) := by
  unfold sk_one
  generalize sk_find tab pc = q
  rcases q with _ | ⟨i, x, y, z⟩
  · exact sk_Lin.none
  · exact sk_step_lin cal fields rz i x y z pc ls st w
/-- where a row of tries comes to, if it does -/
noncomputable def sk_lim (f : Nat → Option sk_R) : Option sk_R := @dite (Option sk_R) (∃ (r : sk_R) (n : Nat), f n = some r) (Classical.propDecidable _) (fun h => some (Classical.choose h)) (fun _ => none)
theorem sk_lim_ex {f : Nat → Option sk_R} {r : sk_R} (h : sk_lim f = some r) : ∃ n, f n = some r := by
  unfold sk_lim at h
  by_cases hc : ∃ (r : sk_R) (n : Nat), f n = some r
  · rw [dif_pos hc] at h
    cases h
    exact Classical.choose_spec hc
  · rw [dif_neg hc] at h
    cases h
theorem sk_mono {f : Nat → Option sk_R} (hm : ∀ n r, f n = some r → f (n + 1) = some r) {n : Nat} {r : sk_R} (h : f n = some r) (k : Nat) : f (n + k) = some r := by
  induction k with
  | zero => exact h
  | succ k ih => exact hm _ _ ih
theorem sk_lim_eq {f : Nat → Option sk_R} (hm : ∀ n r, f n = some r → f (n + 1) = some r) {n : Nat} {r : sk_R} (h : f n = some r) : sk_lim f = some r := by
  cases hl : sk_lim f with
  | none =>
    unfold sk_lim at hl
    rw [dif_pos ⟨r, n, h⟩] at hl
    cases hl
  | some r' =>
    obtain ⟨m, h'⟩ := sk_lim_ex hl
    have h1 := sk_mono hm h m
    have h2 := sk_mono hm h' n
    rw [Nat.add_comm] at h2
    exact h2.symm.trans h1
section DEN
variable (cal : Nat → List Value → sk_W → Option sk_R) (fields : Nat → List Value) (rz : Bool) (tab : List sk_E)
theorem sk_run_one (n pc : Nat) (ls : sk_L) (st : List Value) (w : sk_W) : sk_run cal fields rz tab (n + 1) pc ls st w = sk_one cal fields rz tab (sk_run cal fields rz tab n) pc ls st w := rfl
theorem sk_run_mono : ∀ (n pc : Nat) (ls : sk_L) (st : List Value) (w : sk_W) (r : sk_R), sk_run cal fields rz tab n pc ls st w = some r → sk_run cal fields rz tab (n + 1) pc ls st w = some r := by
  intro n
  induction n with
  | zero => intro pc ls st w r h; cases h
  | succ n ih =>
    intro pc ls st w r h
    rw [sk_run_one] at h ⊢
    rcases sk_one_lin cal fields rz tab pc ls st w _ _ h with h1 | ⟨pc', ls', st', w', h1, h2⟩
    · exact h1 _
    · exact h2 _ (ih _ _ _ _ _ h1)
/-- what comes of a place in a method -/
noncomputable def sk_den : sk_K := fun pc ls st w => sk_lim fun n => sk_run cal fields rz tab n pc ls st w
theorem sk_den_of {n pc : Nat} {ls : sk_L} {st : List Value} {w : sk_W} {r : sk_R} (h : sk_run cal fields rz tab n pc ls st w = some r) : sk_den cal fields rz tab pc ls st w = some r := sk_lim_eq (fun n r => sk_run_mono cal fields rz tab n pc ls st w r) h
theorem sk_den_ex {pc : Nat} {ls : sk_L} {st : List Value} {w : sk_W} {r : sk_R} (h : sk_den cal fields rz tab pc ls st w = some r) : ∃ n, sk_run cal fields rz tab n pc ls st w = some r := sk_lim_ex h
theorem sk_den_one (pc : Nat) (ls : sk_L) (st : List Value) (w : sk_W) : sk_den cal fields rz tab pc ls st w = sk_one cal fields rz tab (sk_den cal fields rz tab) pc ls st w := by
  cases h : sk_one cal fields rz tab (sk_den cal fields rz tab) pc ls st w with
  | some r =>
    rcases sk_one_lin cal fields rz tab pc ls st w _ _ h with h1 | ⟨pc', ls', st', w', h1, h2⟩
    · exact sk_den_of cal fields rz tab (n := 1) (h1 _)
    · obtain ⟨n, hn⟩ := sk_den_ex cal fields rz tab h1
      exact sk_den_of cal fields rz tab (n := n + 1) (h2 _ hn)
  | none =>
    cases h0 : sk_den cal fields rz tab pc ls st w with
    | none => rfl
    | some r =>
      obtain ⟨n, hn⟩ := sk_den_ex cal fields rz tab h0
      cases n with
      | zero => cases hn
      | succ n =>
        rw [sk_run_one] at hn
        rcases sk_one_lin cal fields rz tab pc ls st w _ _ hn with h1 | ⟨pc', ls', st', w', h1, h2⟩
        · exact absurd ((h1 (sk_den cal fields rz tab)).symm.trans h) (by simp)
        · exact absurd ((h2 (sk_den cal fields rz tab) (sk_den_of cal fields rz tab h1)).symm.trans h) (by simp)
def sk_in : Nat → List Nat → Bool
  | _, [] => false
  | p, q :: l => Nat.beq p q || sk_in p l
/-- n instructions, but not on from a cut point -/
def sk_go (k : sk_K) (cuts : List Nat) : Nat → sk_K
  | 0 => k
  | n + 1 => sk_one cal fields rz tab (fun pc ls st w => bif sk_in pc cuts then k pc ls st w else sk_go k cuts n pc ls st w)
theorem sk_den_go (cuts : List Nat) (n : Nat) : sk_go cal fields rz tab (sk_den cal fields rz tab) cuts n = sk_den cal fields rz tab := by
  induction n with
  | zero => rfl
  | succ n ih =>
    funext pc ls st w
    rw [sk_den_one cal fields rz tab]
    show sk_one cal fields rz tab (fun pc ls st w => bif sk_in pc cuts then sk_den cal fields rz tab pc ls st w else sk_go cal fields rz tab (sk_den cal fields rz tab) cuts n pc ls st w) pc ls st w = _
    congr 1
    funext pc ls st w
    rw [ih]
    cases sk_in pc cuts <;> rfl
/-- THE ROW TO UNFOLD BY: h is found by rfl -/
theorem sk_unf (cuts : List Nat) (n : Nat) {pc : Nat} {ls : sk_L} {st : List Value} {w : sk_W} {o : Option sk_R} (h : sk_go cal fields rz tab (sk_den cal fields rz tab) cuts n pc ls st w = o) : sk_den cal fields rz tab pc ls st w = o := by
  rw [← h, sk_den_go]
end DEN
end
section
/-! ===== the abstract world and the real heap ===== -/
def sk_am (b n0 : Nat) : Nat → Nat
  | 0 => b
  | a + 1 => n0 + a
def sk_tr (b n0 : Nat) : Value → Value
  | .ref a => .ref (sk_am b n0 a)
  | v => v
theorem sk_tr_cat (b n0 : Nat) (v : Value) : (sk_tr b n0 v).category = v.category := by cases v <;> rfl
def sk_ce (b n0 : Nat) (cA : Nat → ClassId) : sk_C → va_E
  | .inl (n, f) => .inl (cA 4, n, .inl f)
  | .inr (.inl (t, n, f)) => .inl (cA t, n, .inr (.inr (.inr (.inr fun j => (f j).map (sk_am b n0)))))
  | .inr (.inr (ci, fs)) => .inr (ci, fs.map (sk_tr b n0))
def sk_lay (b n0 : Nat) (cA : Nat → ClassId) (t : sk_W) : va_W := t.mapIdx fun j c => (n0 + j, sk_ce b n0 cA c)
theorem sk_lay_at {b n0 : Nat} {cA : Nat → ClassId} {t : sk_W} {j : Nat} {c : sk_C} (h : t[j]? = some c) : (sk_lay b n0 cA t)[j]? = some (n0 + j, sk_ce b n0 cA c) := by
  unfold sk_lay
  rw [List.getElem?_mapIdx, h]
  rfl
theorem sk_lay_set {b n0 : Nat} {cA : Nat → ClassId} {t : sk_W} {j : Nat} {c : sk_C} : (sk_lay b n0 cA t).set j (n0 + j, sk_ce b n0 cA c) = sk_lay b n0 cA (t.set j c) := by
  unfold sk_lay
  rw [List.mapIdx_set]
theorem sk_lay_push {b n0 : Nat} {cA : Nat → ClassId} {t : sk_W} {c : sk_C} : sk_lay b n0 cA t ++ [(n0 + t.length, sk_ce b n0 cA c)] = sk_lay b n0 cA (t ++ [c]) := by
  unfold sk_lay
  rw [List.mapIdx_append]
  simp
theorem sk_lay_D {b n0 : Nat} {cA : Nat → ClassId} {t : sk_W} : va_D (fun q : Nat => n0 ≤ q) (sk_lay b n0 cA t) := by
  have key : ∀ (i : Nat) (q : Nat × va_E), (sk_lay b n0 cA t)[i]? = some q → q.1 = n0 + i := by
    intro i q h
    unfold sk_lay at h
    rw [List.getElem?_mapIdx] at h
    cases ht : t[i]? with
    | none => rw [ht] at h; cases h
    | some c => rw [ht] at h; cases h; rfl
  refine ⟨fun i j p q hi hj hpq => ?_, fun k q hk => ?_⟩
  · have h1 := key i p hi
    have h2 := key j q hj
    omega
  · have h1 := key k q hk
    show n0 ≤ q.1
    omega
/-- the heap holds the world: cell 0 is the script, which lies in the start's heap H0; the others lie behind H0 -/
def sk_Rel (D : va_G) (cA : Nat → ClassId) (b : Nat) (X : Nat × (Nat → Int32)) (H0 : Heap) (w : sk_W) (H : Heap) : Prop :=
  ∃ t : sk_W, w = .inl X :: t ∧ va_P D vwCl (sk_lay b H0.size cA t) H ∧ H0.size ≤ H.size ∧ ∀ q : Nat, q < H0.size → H[q]? = H0[q]?
def sk_csz : sk_C → Nat
  | .inl (n, _) => n
  | .inr (.inl (_, n, _)) => n
  | .inr (.inr (_, fs)) => fs.length
def sk_sz (w : sk_W) : Nat := (w.map sk_csz).sum
theorem sk_sz_push (w u : sk_W) : sk_sz (w ++ u) = sk_sz w + sk_sz u := by simp [sk_sz]
theorem sk_sz_set {w : sk_W} {a : Nat} {c c' : sk_C} (h : w[a]? = some c) (hc : sk_csz c' = sk_csz c) : sk_sz (w.set a c') = sk_sz w := by
  induction w generalizing a with
  | nil => simp at h
  | cons d w ih =>
    cases a with
    | zero =>
      simp at h
      subst h
      simp [sk_sz, hc]
    | succ a =>
      simp at h
      have := ih h
      simp [sk_sz] at this ⊢
      exact this
/-- locals: what is set -/
def sk_lv (b n0 : Nat) : Nat → sk_L → List (Nat × Value)
  | _, [] => []
  | i, none :: l => sk_lv b n0 (i + 1) l
  | i, some v :: l => (i, sk_tr b n0 v) :: sk_lv b n0 (i + 1) l
theorem sk_lv_mem {b n0 : Nat} {ls : sk_L} {i : Nat} {q : Nat × Value} : q ∈ sk_lv b n0 i ls ↔ ∃ (j : Nat) (v : Value), ls[j]? = some (some v) ∧ q = (i + j, sk_tr b n0 v) := by
  induction ls generalizing i with
  | nil => simp [sk_lv]
  | cons a l ih =>
    have step : (∃ (j : Nat) (v : Value), (a :: l)[j]? = some (some v) ∧ q = (i + j, sk_tr b n0 v)) ↔ (∃ v, a = some v ∧ q = (i, sk_tr b n0 v)) ∨ ∃ (j : Nat) (v : Value), l[j]? = some (some v) ∧ q = (i + 1 + j, sk_tr b n0 v) := by
      constructor
      · rintro ⟨j, v, h1, h2⟩
        cases j with
        | zero => simp at h1; exact Or.inl ⟨v, h1, h2⟩
        | succ j => simp at h1; exact Or.inr ⟨j, v, h1, by rw [h2]; congr 1; omega⟩
      · rintro (⟨v, h1, h2⟩ | ⟨j, v, h1, h2⟩)
        · exact ⟨0, v, by simp [h1], h2⟩
        · exact ⟨j + 1, v, by simpa using h1, by rw [h2]; congr 1; omega⟩
    rw [step]
    cases a with
    | none => simp [sk_lv, ih]
    | some v => simp [sk_lv, ih]
theorem sk_at_get : ∀ (ls : sk_L) (k : Nat) (v : Value), sk_at ls k = some v ↔ ls[k]? = some (some v)
  | [], _, _ => by simp [sk_at]
  | a :: _, 0, v => by simp [sk_at]
  | _ :: l, k + 1, v => by simp [sk_at, sk_at_get l k v]
theorem sk_up_get : ∀ (ls : sk_L) (k : Nat) (v : Value) (j : Nat), (sk_up ls k v)[j]? = if j = k ∧ k < ls.length then some (some v) else ls[j]?
  | [], _, _, _ => by simp [sk_up]
  | a :: l, 0, v, j => by cases j <;> simp [sk_up]
  | a :: l, k + 1, v, j => by cases j <;> simp [sk_up, sk_up_get l k v]
theorem sk_up_len : ∀ (ls : sk_L) (k : Nat) (v : Value), (sk_up ls k v).length = ls.length
  | [], _, _ => rfl
  | _ :: _, 0, _ => rfl
  | _ :: l, k + 1, v => by simp [sk_up, sk_up_len l k v]
/-- locals are of one slot each -/
def sk_lok (nL : Nat) (ls : sk_L) : Prop := ls.length = nL ∧ ∀ v : Value, some v ∈ ls → v.category = 1
theorem sk_lok.up {nL : Nat} {ls : sk_L} (h : sk_lok nL ls) (k : Nat) {v : Value} (hv : v.category = 1) : sk_lok nL (sk_up ls k v) := by
  refine ⟨(sk_up_len _ _ _).trans h.1, fun u hu => ?_⟩
  obtain ⟨j, hj⟩ := List.getElem?_of_mem hu
  rw [sk_up_get] at hj
  by_cases hc : j = k ∧ k < ls.length
  · rw [if_pos hc] at hj
    cases hj
    exact hv
  · rw [if_neg hc] at hj
    exact h.2 u (List.mem_of_getElem? hj)
theorem sk_lv_at {b n0 nL : Nat} {ls : sk_L} {lsA : Array Slot} (h : lv_has lsA nL (sk_lv b n0 0 ls)) {k : Nat} {v : Value} (hv : sk_at ls k = some v) : lsA[k]? = some (.val (sk_tr b n0 v)) := by
  refine h.2.2 (k, sk_tr b n0 v) (sk_lv_mem.mpr ⟨k, v, (sk_at_get _ _ _).mp hv, by simp⟩)
/-- behind a store -/
theorem sk_lv_up {b n0 nL : Nat} {ls : sk_L} {lsA : Array Slot} {k : Nat} {v : Value} (hok : sk_lok nL ls) (h : lv_has lsA nL ((k, sk_tr b n0 v) :: (sk_lv b n0 0 ls).filter (fun q => !(q.1 == k) && !(q.1 + 1 == k && q.2.category == 2)))) : lv_has lsA nL (sk_lv b n0 0 (sk_up ls k v)) := by
  refine ⟨h.1, h.2.1, fun q hq => h.2.2 q ?_⟩
  obtain ⟨j, u, h1, h2⟩ := sk_lv_mem.mp hq
  rw [sk_up_get] at h1
  by_cases hc : j = k ∧ k < ls.length
  · rw [if_pos hc] at h1
    cases h1
    rw [h2, hc.1]
    simp
  · rw [if_neg hc] at h1
    have hjk : j ≠ k := fun e => hc ⟨e, by rw [← e]; exact (List.getElem?_eq_some_iff.mp h1).1⟩
    have hcat := hok.2 u (List.mem_of_getElem? h1)
    refine List.mem_cons_of_mem _ (List.mem_filter.mpr ⟨sk_lv_mem.mpr ⟨j, u, h1, h2⟩, ?_⟩)
    rw [h2]
    simp [sk_tr_cat, hcat, hjk]
/-- the arrays that the worlds hold: of parts, racks, sheets, int rows, ints -/
def sk_tys (cA : Nat → ClassId) : List (ClassId × FieldType) := [(cA 0, .object RX3), (cA 1, .object RX5), (cA 2, .object RX7), (cA 3, .array .int), (cA 4, .int)]
def sk_B : List Cond := lw_tbl.filter goodWord
theorem sk_B_good {w : Cond} (h : w ∈ sk_B) : (w.onTables && w.keeps) = true ∨ ∃ ty, w = .arrayClass ty := good_of_word (List.mem_filter.mp h).2
theorem sk_B_of {w : Cond} (h : w ∈ lw_tbl) (hg : goodWord w = true) : w ∈ sk_B := List.mem_filter.mpr ⟨h, hg⟩
/-- what the tables say besides -/
def sk_Tb (nest : List Cond) (Sx : State → Prop) (D : va_G) (cA : Nat → ClassId) (b : Nat) (X : Nat × (Nat → Int32)) (H0 : Heap) (s : State) : Prop :=
  va_K D vwCl (sk_tys cA) s ∧ (∀ x ∈ nest, va_Nw x s) ∧ (va_AO RX3 s ∧ va_AO RX5 s ∧ va_AO RX7 s) ∧ va_X b X.1 X.2 s H0 ∧ b < H0.size ∧ Sx s
end
section
/-! ===== an abstract instruction is a real one ===== -/
def sk_q (ci : Nat) : vw_C := (vwCl[ci]?).getD ("", fun _ => ("", "", "", false), 0)
def sk_ty (ci : Nat) : Nat → FieldType := match ci with
  | 0 => tyX1
  | 1 => tyX2
  | 2 => tyX3
  | 3 => tyX4
  | 4 => tyX5
  | 5 => tyX6
  | 6 => tyX7
  | 7 => tyX8
  | 8 => tyX9
  | 9 => tyX10
  | 10 => tyX11
  | _ => tyX12
def sk_fields (ci : Nat) : List Value := (List.range (sk_q ci).2.2).map fun k => defaultValue (sk_ty ci k)
/-- what the tables say of the kinds of objects -/
def sk_cls (ci : Nat) : Prop := vwCl[ci]? = some (sk_q ci) ∧ (∀ w ∈ u_ws (sk_q ci).1 (sk_q ci).2.1 (sk_q ci).2.2, w ∈ sk_B) ∧ (∀ k, k < (sk_q ci).2.2 → parseFieldDescriptor ((sk_q ci).2.1 k).2.2.1 = some (sk_ty ci k)) ∧ (∀ x, x < (sk_q ci).2.2 → ∀ y, y < (sk_q ci).2.2 → x ≠ y → ((sk_q ci).2.1 x).2.1 ≠ ((sk_q ci).2.1 y).2.1) ∧ Jvm.Cond.instantiable (sk_q ci).1 (sk_q ci).2.2 ∈ sk_B ∧ Jvm.Cond.initialized (sk_q ci).1 ∈ sk_B
theorem sk_fields_at (ci j : Nat) (h : j < (sk_q ci).2.2) : defaultValue (sk_ty ci j) = vp_V (sk_fields ci) j := by
  unfold vp_V sk_fields
  rw [List.getD_eq_getElem?_getD, List.getElem?_map, List.getElem?_range h]
  rfl
theorem sk_fields_len (ci : Nat) : (sk_fields ci).length = (sk_q ci).2.2 := by simp [sk_fields]
/-- place idx of own's pool is field k of the kind ci -/
def sk_fieldOK (own : String) (idx ci k : Nat) : Prop := sk_cls ci ∧ k < (sk_q ci).2.2 ∧ Jvm.Cond.fieldLink own idx ((sk_q ci).2.1 k).1 ((sk_q ci).2.1 k).2.1 ((sk_q ci).2.1 k).2.2.1 ∈ sk_B
def sk_refTy : FieldType → Bool
  | .object _ => true
  | .array _ => true
  | _ => false
def sk_putOK (own nm : String) (idx ci k z : Nat) : Prop := sk_fieldOK own idx ci k ∧ (z = 0 → ((sk_q ci).2.1 k).2.2.2 = false ∧ sk_ty ci k = .int) ∧ (z = 2 → ((sk_q ci).2.1 k).2.2.2 = false ∧ sk_ty ci k = .boolean) ∧ (z = 3 → ((sk_q ci).2.1 k).2.2.2 = true ∧ nm = "<init>" ∧ ((sk_q ci).2.1 k).1 = own ∧ sk_refTy (sk_ty ci k) = true)
theorem sk_ref_nar {ty : FieldType} (h : sk_refTy ty = true) (q : Nat) : narrow ty (.ref q) = .ref q ∧ fits ty (.ref q) = true := by
  cases ty <;> first | exact ⟨rfl, rfl⟩ | cases h
def sk_Good (p : Program) (l : Launch) (e : Env) (R : Room) (s : State) (m : MethodId) (args : Array Value) (below : List Frame) (meth : Method) (c : Code) (Q : State → Prop) (D : va_G) (cA : Nat → ClassId) (b : Nat) (X : Nat × (Nat → Int32)) (H0 : Heap) (w0 : sk_W) (nL pc : Nat) (ls : sk_L) (st : List Value) (w : sk_W) : Prop :=
  ∀ (H : Heap) (locs : List Loc) (lsA : Array Slot), sk_Rel D cA b X H0 w H → (∀ q ∈ locs, H0.size ≤ q.base) → w0.length ≤ w.length → sk_sz w0 ≤ sk_sz w → sk_lok nL ls → lv_has lsA nL (sk_lv b H0.size 0 ls) →
    W p l e R s m args below meth c H locs (w.length - w0.length) (sk_sz w - sk_sz w0) Q (F0 m pc lsA (st.map (sk_tr b H0.size)))
theorem sk_Rel.get {D : va_G} {cA : Nat → ClassId} {b : Nat} {X : Nat × (Nat → Int32)} {H0 H : Heap} {w : sk_W} (h : sk_Rel D cA b X H0 w H) {a : Nat} {c : sk_C} (ha : w[a]? = some c) : (a = 0 ∧ c = .inl X) ∨ ∃ (a' : Nat) (t : sk_W), a = a' + 1 ∧ w = .inl X :: t ∧ t[a']? = some c ∧ va_P D vwCl (sk_lay b H0.size cA t) H := by
  obtain ⟨t, rfl, hP, -⟩ := h
  cases a with
  | zero => simp at ha; exact Or.inl ⟨rfl, ha.symm⟩
  | succ a => exact Or.inr ⟨a, t, rfl, rfl, by simpa using ha, hP⟩
theorem sk_Rel.S {D : va_G} {cA : Nat → ClassId} {b : Nat} {X : Nat × (Nat → Int32)} {H0 H : Heap} {w : sk_W} {locs : List Loc} (h : sk_Rel D cA b X H0 w H) (hL : ∀ q ∈ locs, H0.size ≤ q.base) : va_S (fun q : Nat => H0.size ≤ q) H0 H locs := by
  obtain ⟨t, -, -, h1, h2⟩ := h
  exact ⟨h1, fun q hq _ => h2 q hq, hL⟩
theorem sk_Rel.of {D : va_G} {cA : Nat → ClassId} {b : Nat} {X : Nat × (Nat → Int32)} {H0 H : Heap} {t : sk_W} {locs : List Loc} (hP : va_P D vwCl (sk_lay b H0.size cA t) H) (hS : va_S (fun q : Nat => H0.size ≤ q) H0 H locs) : sk_Rel D cA b X H0 (.inl X :: t) H :=
  ⟨t, rfl, hP, hS.1, fun q hq => hS.2.1 q hq (Nat.not_le.mpr hq)⟩
theorem sk_geti_spec {w : sk_W} {a ci k : Nat} {v : Int32} (h : sk_geti w a ci k = some v) : ∃ fs, w[a]? = some (.inr (.inr (ci, fs))) ∧ fs[k]? = some (.int v) := by
  unfold sk_geti at h
  split at h
  · next c fs hw =>
    split at h
    · next hc =>
      subst hc
      split at h
      · next v' hf => cases h; exact ⟨fs, hw, hf⟩
      · cases h
    · cases h
  · cases h
theorem sk_getr_spec {w : sk_W} {a ci k : Nat} {v : Nat} (h : sk_getr w a ci k = some v) : ∃ fs, w[a]? = some (.inr (.inr (ci, fs))) ∧ fs[k]? = some (.ref v) := by
  unfold sk_getr at h
  split at h
  · next c fs hw =>
    split at h
    · next hc =>
      subst hc
      split at h
      · next v' hf => cases h; exact ⟨fs, hw, hf⟩
      · cases h
    · cases h
  · cases h
theorem sk_put_spec {w w1 : sk_W} {a ci k : Nat} {v : Value} (h : sk_put w a ci k v = some w1) : ∃ fs, w[a]? = some (.inr (.inr (ci, fs))) ∧ k < fs.length ∧ w1 = w.set a (.inr (.inr (ci, fs.set k v))) := by
  unfold sk_put at h
  split at h
  · next c fs hw =>
    split at h
    · next hc => cases h; obtain ⟨rfl, hk⟩ := hc; exact ⟨fs, hw, hk, rfl⟩
    · cases h
  · cases h
theorem sk_ald_spec {w : sk_W} {a : Nat} {i v : Int32} (h : sk_ald w a i = some v) : ∃ n f, w[a]? = some (.inl (n, f)) ∧ vp_in i n ∧ v = f i.toNatClampNeg := by
  unfold sk_ald at h
  split at h
  · next n f hw =>
    split at h
    · cases h
    · next hc => cases h; exact ⟨n, f, hw, hc, rfl⟩
  · cases h
theorem sk_ast_spec {w w1 : sk_W} {a : Nat} {i v : Int32} (h : sk_ast w a i v = some w1) : ∃ a' n f, a = a' + 1 ∧ w[a' + 1]? = some (.inl (n, f)) ∧ vp_in i n ∧ w1 = w.set (a' + 1) (.inl (n, upd f i.toNatClampNeg v)) := by
  unfold sk_ast at h
  split at h
  · cases h
  · next a' =>
    split at h
    · next n f hw =>
      split at h
      · cases h
      · next hc => cases h; exact ⟨a', n, f, rfl, hw, hc, rfl⟩
    · cases h
theorem sk_aldr_spec {w : sk_W} {a : Nat} {i : Int32} {v : Nat} (h : sk_aldr w a i = some v) : ∃ t n f, w[a]? = some (.inr (.inl (t, n, f))) ∧ t < 4 ∧ vp_in i n ∧ f i.toNatClampNeg = some v := by
  unfold sk_aldr at h
  split at h
  · next t n f hw =>
    split at h
    · next h4 =>
      split at h
      · cases h
      · next hc => exact ⟨t, n, f, hw, h4, hc, h⟩
    · cases h
  · cases h
theorem sk_len_spec {w : sk_W} {a : Nat} {v : Int32} (h : sk_len w a = some v) : ∃ n f, w[a]? = some (.inl (n, f)) ∧ v = Int32.ofNat n := by
  unfold sk_len at h
  split at h
  · next n f hw => cases h; exact ⟨n, f, hw, rfl⟩
  · cases h
theorem sk_isO_spec {w : sk_W} {a ci : Nat} (h : sk_isO w a ci = true) : ∃ fs, w[a]? = some (.inr (.inr (ci, fs))) := by
  unfold sk_isO at h
  split at h
  · next c fs hw => rw [beq_iff_eq] at h; subst h; exact ⟨fs, hw⟩
  · cases h
theorem sk_astr_spec {w w1 : sk_W} {a t ci : Nat} {i : Int32} {v : Nat} (h : sk_astr w a t ci i v = some w1) : ∃ n f fs, w[a]? = some (.inr (.inl (t, n, f))) ∧ w[v]? = some (.inr (.inr (ci, fs))) ∧ vp_in i n ∧ w1 = w.set a (.inr (.inl (t, n, va_up f i.toNatClampNeg (some v)))) := by
  unfold sk_astr at h
  split at h
  · next t' n f hw =>
    split at h
    · next hc =>
      obtain ⟨rfl, hc⟩ := hc
      obtain ⟨fs, hv⟩ := sk_isO_spec hc
      split at h
      · cases h
      · next hi => cases h; exact ⟨n, f, fs, hw, hv, hi, rfl⟩
    · cases h
  · cases h
theorem sk_copy_spec {w w1 : sk_W} {a0 a : Nat} {sp dp n : Int32} (h : sk_copy w a0 sp a dp n = some w1) : ∃ b0 b1 n0 n1 f g, a0 = b0 + 1 ∧ a = b1 + 1 ∧ w[b0 + 1]? = some (.inl (n0, f)) ∧ w[b1 + 1]? = some (.inl (n1, g)) ∧ (¬ sp < 0 ∧ ¬ dp < 0 ∧ ¬ n < 0 ∧ sp.toNatClampNeg + n.toNatClampNeg ≤ n0 ∧ dp.toNatClampNeg + n.toNatClampNeg ≤ n1) ∧ w1 = w.set (b1 + 1) (.inl (n1, va_cpy f g sp.toNatClampNeg dp.toNatClampNeg n.toNatClampNeg)) := by
  unfold sk_copy at h
  split at h
  · cases h
  · next b1 =>
    split at h
    · cases h
    · next b0 =>
      split at h
      · next n0 f hw0 =>
        split at h
        · next n1 g hw1 =>
          split at h
          · next hc => cases h; exact ⟨b0, b1, n0, n1, f, g, rfl, rfl, hw0, hw1, hc, rfl⟩
          · cases h
        · cases h
      · cases h
def sk_Cx (nest : List Jvm.Cond) (Sx : State → Prop) (D : va_G) (cA : Nat → ClassId) (b : Nat) (X : Nat × (Nat → Int32)) (H0 : Heap) (w0 : sk_W) (own nm : String) (cc : ByteArray) (nL : Nat) (p : Program) (s : State) (m : MethodId) (args : Array Value) (meth : Method) (c : Code) : Prop :=
  CallFix p m c cc nL s args sk_B own ∧ sk_Tb nest Sx D cA b X H0 s ∧ s.heap.size + 1 = H0.size + w0.length ∧ meth.name = nm
theorem sk_s_geti {p : Program} {l : Launch} {e : Env} {R : Room} {s : State} {m : MethodId} {args : Array Value} {below : List Frame} {meth : Method} {c : Code} {Q : State → Prop} {nest : List Jvm.Cond} {Sx : State → Prop} {D : va_G} {cA : Nat → ClassId} {b : Nat} {X : Nat × (Nat → Int32)} {H0 : Heap} {w0 : sk_W} {own nm : String} {cc : ByteArray} {nL : Nat} (hC : sk_Cx nest Sx D cA b X H0 w0 own nm cc nL p s m args meth c) {pc : Nat} {ls : sk_L} {st : List Value} {w : sk_W} {idx ci k : Nat} {v : Int32} {a0 : Nat} (hd : decode cc pc = .ok (.getfield idx, 3)) (hf : sk_fieldOK own idx ci k) (hv : sk_geti w a0 ci k = some v) (kk : sk_Good p l e R s m args below meth c Q D cA b X H0 w0 nL (pc + 3) ls (.int v :: st) w) : sk_Good p l e R s m args below meth c Q D cA b X H0 w0 nL pc ls (.ref a0 :: st) w := by
  obtain ⟨⟨hx, hb, hml, hown, hts⟩, ⟨hK, hN, hAO, hX, hbl, hSx⟩, hsz, hnm⟩ := hC
  intro H locs lsA hR hL h1 h2 h3 h4
  obtain ⟨⟨hc, hin, hty, hnn, -, -⟩, hk, hl⟩ := hf
  obtain ⟨fs, hw, hfs⟩ := sk_geti_spec hv
  rcases hR.get hw with ⟨-, h⟩ | ⟨a', t, rfl, rfl, ht, hP⟩
  · cases h
  refine va_get hx hb (C := (sk_q ci).1) (T := (sk_q ci).2.1) (N := (sk_q ci).2.2) hts hin hown hK hP a' (sk_lay_at ht) hc k hk (hts _ hl) (fun x hx => hx) (v := .int v) (by rw [List.getElem?_map, hfs]; rfl) hd ?_
  exact kk H locs lsA hR hL h1 h2 h3 h4
theorem sk_s_getr {p : Program} {l : Launch} {e : Env} {R : Room} {s : State} {m : MethodId} {args : Array Value} {below : List Frame} {meth : Method} {c : Code} {Q : State → Prop} {nest : List Jvm.Cond} {Sx : State → Prop} {D : va_G} {cA : Nat → ClassId} {b : Nat} {X : Nat × (Nat → Int32)} {H0 : Heap} {w0 : sk_W} {own nm : String} {cc : ByteArray} {nL : Nat} (hC : sk_Cx nest Sx D cA b X H0 w0 own nm cc nL p s m args meth c) {pc : Nat} {ls : sk_L} {st : List Value} {w : sk_W} {idx ci k : Nat} {v : Nat} {a0 : Nat} (hd : decode cc pc = .ok (.getfield idx, 3)) (hf : sk_fieldOK own idx ci k) (hv : sk_getr w a0 ci k = some v) (kk : sk_Good p l e R s m args below meth c Q D cA b X H0 w0 nL (pc + 3) ls (.ref v :: st) w) : sk_Good p l e R s m args below meth c Q D cA b X H0 w0 nL pc ls (.ref a0 :: st) w := by
  obtain ⟨⟨hx, hb, hml, hown, hts⟩, ⟨hK, hN, hAO, hX, hbl, hSx⟩, hsz, hnm⟩ := hC
  intro H locs lsA hR hL h1 h2 h3 h4
  obtain ⟨⟨hc, hin, hty, hnn, -, -⟩, hk, hl⟩ := hf
  obtain ⟨fs, hw, hfs⟩ := sk_getr_spec hv
  rcases hR.get hw with ⟨-, h⟩ | ⟨a', t, rfl, rfl, ht, hP⟩
  · cases h
  refine va_get hx hb (C := (sk_q ci).1) (T := (sk_q ci).2.1) (N := (sk_q ci).2.2) hts hin hown hK hP a' (sk_lay_at ht) hc k hk (hts _ hl) (fun x hx => hx) (v := sk_tr b H0.size (.ref v)) (by rw [List.getElem?_map, hfs]; rfl) hd ?_
  exact kk H locs lsA hR hL h1 h2 h3 h4
theorem sk_s_put0 {p : Program} {l : Launch} {e : Env} {R : Room} {s : State} {m : MethodId} {args : Array Value} {below : List Frame} {meth : Method} {c : Code} {Q : State → Prop} {nest : List Jvm.Cond} {Sx : State → Prop} {D : va_G} {cA : Nat → ClassId} {b : Nat} {X : Nat × (Nat → Int32)} {H0 : Heap} {w0 : sk_W} {own nm : String} {cc : ByteArray} {nL : Nat} (hC : sk_Cx nest Sx D cA b X H0 w0 own nm cc nL p s m args meth c) {pc : Nat} {ls : sk_L} {st : List Value} {w : sk_W} {idx ci k : Nat} {v : Int32} {a0 : Nat} {w1 : sk_W} (hd : decode cc pc = .ok (.putfield idx, 3)) (hf : sk_putOK own nm idx ci k 0) (hv : sk_put w a0 ci k (.int v) = some w1) (kk : sk_Good p l e R s m args below meth c Q D cA b X H0 w0 nL (pc + 3) ls st w1) : sk_Good p l e R s m args below meth c Q D cA b X H0 w0 nL pc ls (.int v :: .ref a0 :: st) w := by
  obtain ⟨⟨hx, hb, hml, hown, hts⟩, ⟨hK, hN, hAO, hX, hbl, hSx⟩, hsz, hnm⟩ := hC
  intro H locs lsA hR hL h1 h2 h3 h4
  obtain ⟨⟨⟨hc, hin, hty, hnn, -, -⟩, hk, hl⟩, z0, z2, z3⟩ := hf
  obtain ⟨fs, hw, hlt, rfl⟩ := sk_put_spec hv
  rcases hR.get hw with ⟨-, h⟩ | ⟨a', t, rfl, rfl, ht, hP⟩
  · cases h
  have z := z0 rfl
  refine va_put hx hb (C := (sk_q ci).1) (T := (sk_q ci).2.1) (N := (sk_q ci).2.2) hts hin (sk_ty ci) hty hnn hown hK hP sk_lay_D (hR.S hL) a' (sk_lay_at ht) hc k hk (hts _ hl) (fun x hx => hx) z.1 (hty k hk) (by rw [z.2]; rfl) (by rw [z.2]; rfl) (by rw [List.length_map]; exact hlt) hd (fun H1 locs1 hP1 hD1 hS1 => ?_)
  have e1 : (sk_lay b H0.size cA t).set a' (H0.size + a', .inr (ci, (fs.map (sk_tr b H0.size)).set k (sk_tr b H0.size (.int v)))) = sk_lay b H0.size cA (t.set a' (.inr (.inr (ci, fs.set k (.int v))))) := by
    rw [← sk_lay_set]
    show _ = (sk_lay b H0.size cA t).set a' (H0.size + a', .inr (ci, (fs.set k (.int v)).map (sk_tr b H0.size)))
    rw [List.map_set]
  have hP2 : va_P D vwCl (sk_lay b H0.size cA (t.set a' (.inr (.inr (ci, fs.set k (.int v)))))) H1 := by rw [← e1]; exact hP1
  have e2 : (.inl X :: t : sk_W).set (a' + 1) (.inr (.inr (ci, fs.set k (.int v)))) = .inl X :: t.set a' (.inr (.inr (ci, fs.set k (.int v)))) := rfl
  rw [e2] at kk
  have e3 : (.inl X :: t.set a' (.inr (.inr (ci, fs.set k (.int v)))) : sk_W).length = (.inl X :: t : sk_W).length := by simp
  have e4 : sk_sz (.inl X :: t.set a' (.inr (.inr (ci, fs.set k (.int v))))) = sk_sz (.inl X :: t) := by
    rw [← e2]
    exact sk_sz_set hw (by simp [sk_csz])
  have kk1 := kk H1 locs1 lsA (sk_Rel.of hP2 hS1) hS1.2.2 (by rw [e3]; exact h1) (by rw [e4]; exact h2) h3 h4
  rw [e3, e4] at kk1
  exact kk1
theorem sk_s_put2 {p : Program} {l : Launch} {e : Env} {R : Room} {s : State} {m : MethodId} {args : Array Value} {below : List Frame} {meth : Method} {c : Code} {Q : State → Prop} {nest : List Jvm.Cond} {Sx : State → Prop} {D : va_G} {cA : Nat → ClassId} {b : Nat} {X : Nat × (Nat → Int32)} {H0 : Heap} {w0 : sk_W} {own nm : String} {cc : ByteArray} {nL : Nat} (hC : sk_Cx nest Sx D cA b X H0 w0 own nm cc nL p s m args meth c) {pc : Nat} {ls : sk_L} {st : List Value} {w : sk_W} {idx ci k : Nat} {v : Int32} {a0 : Nat} {w1 : sk_W} (hd : decode cc pc = .ok (.putfield idx, 3)) (hf : sk_putOK own nm idx ci k 2) (h01 : v = 0 ∨ v = 1) (hv : sk_put w a0 ci k (.int v) = some w1) (kk : sk_Good p l e R s m args below meth c Q D cA b X H0 w0 nL (pc + 3) ls st w1) : sk_Good p l e R s m args below meth c Q D cA b X H0 w0 nL pc ls (.int v :: .ref a0 :: st) w := by
  obtain ⟨⟨hx, hb, hml, hown, hts⟩, ⟨hK, hN, hAO, hX, hbl, hSx⟩, hsz, hnm⟩ := hC
  intro H locs lsA hR hL h1 h2 h3 h4
  obtain ⟨⟨⟨hc, hin, hty, hnn, -, -⟩, hk, hl⟩, z0, z2, z3⟩ := hf
  obtain ⟨fs, hw, hlt, rfl⟩ := sk_put_spec hv
  rcases hR.get hw with ⟨-, h⟩ | ⟨a', t, rfl, rfl, ht, hP⟩
  · cases h
  have z := z2 rfl
  refine va_put hx hb (C := (sk_q ci).1) (T := (sk_q ci).2.1) (N := (sk_q ci).2.2) hts hin (sk_ty ci) hty hnn hown hK hP sk_lay_D (hR.S hL) a' (sk_lay_at ht) hc k hk (hts _ hl) (fun x hx => hx) z.1 (hty k hk) (by rw [z.2]; rcases h01 with rfl | rfl <;> rfl) (by rw [z.2]; rcases h01 with rfl | rfl <;> rfl) (by rw [List.length_map]; exact hlt) hd (fun H1 locs1 hP1 hD1 hS1 => ?_)
  have e1 : (sk_lay b H0.size cA t).set a' (H0.size + a', .inr (ci, (fs.map (sk_tr b H0.size)).set k (sk_tr b H0.size (.int v)))) = sk_lay b H0.size cA (t.set a' (.inr (.inr (ci, fs.set k (.int v))))) := by
    rw [← sk_lay_set]
    show _ = (sk_lay b H0.size cA t).set a' (H0.size + a', .inr (ci, (fs.set k (.int v)).map (sk_tr b H0.size)))
    rw [List.map_set]
  have hP2 : va_P D vwCl (sk_lay b H0.size cA (t.set a' (.inr (.inr (ci, fs.set k (.int v)))))) H1 := by rw [← e1]; exact hP1
  have e2 : (.inl X :: t : sk_W).set (a' + 1) (.inr (.inr (ci, fs.set k (.int v)))) = .inl X :: t.set a' (.inr (.inr (ci, fs.set k (.int v)))) := rfl
  rw [e2] at kk
  have e3 : (.inl X :: t.set a' (.inr (.inr (ci, fs.set k (.int v)))) : sk_W).length = (.inl X :: t : sk_W).length := by simp
  have e4 : sk_sz (.inl X :: t.set a' (.inr (.inr (ci, fs.set k (.int v))))) = sk_sz (.inl X :: t) := by
    rw [← e2]
    exact sk_sz_set hw (by simp [sk_csz])
  have kk1 := kk H1 locs1 lsA (sk_Rel.of hP2 hS1) hS1.2.2 (by rw [e3]; exact h1) (by rw [e4]; exact h2) h3 h4
  rw [e3, e4] at kk1
  exact kk1
theorem sk_s_put3 {p : Program} {l : Launch} {e : Env} {R : Room} {s : State} {m : MethodId} {args : Array Value} {below : List Frame} {meth : Method} {c : Code} {Q : State → Prop} {nest : List Jvm.Cond} {Sx : State → Prop} {D : va_G} {cA : Nat → ClassId} {b : Nat} {X : Nat × (Nat → Int32)} {H0 : Heap} {w0 : sk_W} {own nm : String} {cc : ByteArray} {nL : Nat} (hC : sk_Cx nest Sx D cA b X H0 w0 own nm cc nL p s m args meth c) {pc : Nat} {ls : sk_L} {st : List Value} {w : sk_W} {idx ci k : Nat} {v : Nat} {a0 : Nat} {w1 : sk_W} (hd : decode cc pc = .ok (.putfield idx, 3)) (hf : sk_putOK own nm idx ci k 3) (hv : sk_put w a0 ci k (.ref v) = some w1) (kk : sk_Good p l e R s m args below meth c Q D cA b X H0 w0 nL (pc + 3) ls st w1) : sk_Good p l e R s m args below meth c Q D cA b X H0 w0 nL pc ls (.ref v :: .ref a0 :: st) w := by
  obtain ⟨⟨hx, hb, hml, hown, hts⟩, ⟨hK, hN, hAO, hX, hbl, hSx⟩, hsz, hnm⟩ := hC
  intro H locs lsA hR hL h1 h2 h3 h4
  obtain ⟨⟨⟨hc, hin, hty, hnn, -, -⟩, hk, hl⟩, z0, z2, z3⟩ := hf
  obtain ⟨fs, hw, hlt, rfl⟩ := sk_put_spec hv
  rcases hR.get hw with ⟨-, h⟩ | ⟨a', t, rfl, rfl, ht, hP⟩
  · cases h
  have z := z3 rfl
  refine va_putF hx hb (C := (sk_q ci).1) (T := (sk_q ci).2.1) (N := (sk_q ci).2.2) hts hin (sk_ty ci) hty hnn hown hK hP sk_lay_D (hR.S hL) a' (sk_lay_at ht) hc k hk (hts _ hl) (fun x hx => hx) z.1 (by rw [hnm]; exact z.2.1) z.2.2.1 (hty k hk) (sk_ref_nar z.2.2.2 _).1 (sk_ref_nar z.2.2.2 _).2 (by rw [List.length_map]; exact hlt) hd (fun H1 locs1 hP1 hD1 hS1 => ?_)
  have e1 : (sk_lay b H0.size cA t).set a' (H0.size + a', .inr (ci, (fs.map (sk_tr b H0.size)).set k (sk_tr b H0.size (.ref v)))) = sk_lay b H0.size cA (t.set a' (.inr (.inr (ci, fs.set k (.ref v))))) := by
    rw [← sk_lay_set]
    show _ = (sk_lay b H0.size cA t).set a' (H0.size + a', .inr (ci, (fs.set k (.ref v)).map (sk_tr b H0.size)))
    rw [List.map_set]
  have hP2 : va_P D vwCl (sk_lay b H0.size cA (t.set a' (.inr (.inr (ci, fs.set k (.ref v)))))) H1 := by rw [← e1]; exact hP1
  have e2 : (.inl X :: t : sk_W).set (a' + 1) (.inr (.inr (ci, fs.set k (.ref v)))) = .inl X :: t.set a' (.inr (.inr (ci, fs.set k (.ref v)))) := rfl
  rw [e2] at kk
  have e3 : (.inl X :: t.set a' (.inr (.inr (ci, fs.set k (.ref v)))) : sk_W).length = (.inl X :: t : sk_W).length := by simp
  have e4 : sk_sz (.inl X :: t.set a' (.inr (.inr (ci, fs.set k (.ref v))))) = sk_sz (.inl X :: t) := by
    rw [← e2]
    exact sk_sz_set hw (by simp [sk_csz])
  have kk1 := kk H1 locs1 lsA (sk_Rel.of hP2 hS1) hS1.2.2 (by rw [e3]; exact h1) (by rw [e4]; exact h2) h3 h4
  rw [e3, e4] at kk1
  exact kk1
end
section
/-! ===== arrays, new cells, calls ===== -/
theorem sk_tr_dflt (b n0 : Nat) (ty : FieldType) : sk_tr b n0 (defaultValue ty) = defaultValue ty := by cases ty <;> rfl
theorem sk_after {p : Program} {l : Launch} {e : Env} {R : Room} {s : State} {m : MethodId} {args : Array Value} {below : List Frame} {meth : Method} {c : Code} {Q : State → Prop} {D : va_G} {cA : Nat → ClassId} {b : Nat} {X : Nat × (Nat → Int32)} {H0 : Heap} {w0 : sk_W} {nL : Nat} {t : sk_W} {a' pc : Nat} {ls : sk_L} {st : List Value} {cl c' : sk_C} {ev : va_E} {H1 : Heap} {locs1 : List Loc} {lsA : Array Slot} (hw : (.inl X :: t : sk_W)[a' + 1]? = some cl) (hcs : sk_csz c' = sk_csz cl) (he : ev = sk_ce b H0.size cA c') (hP1 : va_P D vwCl ((sk_lay b H0.size cA t).set a' (H0.size + a', ev)) H1) (hS1 : va_S (fun q : Nat => H0.size ≤ q) H0 H1 locs1)
    (kk : sk_Good p l e R s m args below meth c Q D cA b X H0 w0 nL pc ls st ((.inl X :: t : sk_W).set (a' + 1) c')) (h1 : w0.length ≤ (.inl X :: t : sk_W).length) (h2 : sk_sz w0 ≤ sk_sz (.inl X :: t)) (h3 : sk_lok nL ls) (h4 : lv_has lsA nL (sk_lv b H0.size 0 ls)) :
    W p l e R s m args below meth c H1 locs1 ((.inl X :: t : sk_W).length - w0.length) (sk_sz (.inl X :: t) - sk_sz w0) Q (F0 m pc lsA (st.map (sk_tr b H0.size))) := by
  subst he
  rw [sk_lay_set] at hP1
  have e2 : (.inl X :: t : sk_W).set (a' + 1) c' = .inl X :: t.set a' c' := rfl
  rw [e2] at kk
  have e3 : (.inl X :: t.set a' c' : sk_W).length = (.inl X :: t : sk_W).length := by simp
  have e4 : sk_sz (.inl X :: t.set a' c') = sk_sz (.inl X :: t) := by
    rw [← e2]
    exact sk_sz_set hw hcs
  have kk1 := kk H1 locs1 lsA (sk_Rel.of hP1 hS1) hS1.2.2 (by rw [e3]; exact h1) (by rw [e4]; exact h2) h3 h4
  rw [e3, e4] at kk1
  exact kk1
theorem sk_low {D : va_G} {cA : Nat → ClassId} {b n0 : Nat} {H : Heap} {t : sk_W} (hP : va_P D vwCl (sk_lay b n0 cA t) H) (h0 : n0 ≤ H.size) : n0 + t.length ≤ H.size := by
  cases ht : t.length with
  | zero => omega
  | succ k =>
    have hk : k < t.length := by omega
    have h1 := (hP k _ (sk_lay_at (List.getElem?_eq_getElem hk))).lt
    have h2 : n0 + k < H.size := h1
    omega
theorem sk_pushed {p : Program} {l : Launch} {e : Env} {R : Room} {s : State} {m : MethodId} {args : Array Value} {below : List Frame} {meth : Method} {c : Code} {Q : State → Prop} {D : va_G} {cA : Nat → ClassId} {b : Nat} {X : Nat × (Nat → Int32)} {H0 : Heap} {w0 : sk_W} {nL : Nat} {t : sk_W} {q pc ms : Nat} {ls : sk_L} {st : List Value} {c' : sk_C} {ev : va_E} {H1 : Heap} {locs1 : List Loc} {lsA : Array Slot} (hs : s.heap.size + 1 = H0.size + w0.length) (he : ev = sk_ce b H0.size cA c') (hms : ms = sk_csz c') (hP1 : va_P D vwCl (sk_lay b H0.size cA t ++ [(q, ev)]) H1) (hD1 : va_D (fun q : Nat => H0.size ≤ q) (sk_lay b H0.size cA t ++ [(q, ev)])) (hS1 : va_S (fun q : Nat => H0.size ≤ q) H0 H1 locs1)
    (kk : sk_Good p l e R s m args below meth c Q D cA b X H0 w0 nL pc ls (.ref (.inl X :: t : sk_W).length :: st) ((.inl X :: t : sk_W) ++ [c'])) (h1 : w0.length ≤ (.inl X :: t : sk_W).length) (h2 : sk_sz w0 ≤ sk_sz (.inl X :: t)) (h3 : sk_lok nL ls) (h4 : lv_has lsA nL (sk_lv b H0.size 0 ls)) :
    W p l e R s m args below meth c H1 locs1 ((.inl X :: t : sk_W).length - w0.length + 1) (sk_sz (.inl X :: t) - sk_sz w0 + ms) Q (F0 m pc lsA (.ref q :: st.map (sk_tr b H0.size))) := by
  subst he
  intro T hT X'
  have hup := X'.heapSize
  have hlen : (sk_lay b H0.size cA t).length = t.length := by simp [sk_lay]
  have hlast : (sk_lay b H0.size cA t ++ [(q, sk_ce b H0.size cA c')])[t.length]? = some (q, sk_ce b H0.size cA c') := by
    rw [List.getElem?_append_right (by omega), hlen]; simp
  have hq1 : H0.size ≤ q := hD1.2 _ _ hlast
  have hq2 : q < H1.size := (hP1 _ _ hlast).lt
  rw [hT] at hup
  have hlt : (.inl X :: t : sk_W).length = t.length + 1 := rfl
  have hq3 : q = H0.size + t.length := by
    rcases Nat.lt_or_ge q (H0.size + t.length) with hh | hh
    · have hj : q - H0.size < t.length := by omega
      have hat := sk_lay_at (b := b) (n0 := H0.size) (cA := cA) (List.getElem?_eq_getElem hj)
      have hat2 : (sk_lay b H0.size cA t ++ [(q, sk_ce b H0.size cA c')])[q - H0.size]? = some (H0.size + (q - H0.size), sk_ce b H0.size cA t[q - H0.size]) := by
        rw [List.getElem?_append_left (by omega)]; exact hat
      have := hD1.1 _ _ _ _ hat2 hlast (by show H0.size + (q - H0.size) = q; omega)
      omega
    · omega
  subst hq3
  rw [sk_lay_push] at hP1
  have e3 : ((.inl X :: t : sk_W) ++ [c']).length = (.inl X :: t : sk_W).length + 1 := by simp
  have e4 : sk_sz ((.inl X :: t : sk_W) ++ [c']) = sk_sz (.inl X :: t) + ms := by rw [sk_sz_push, hms]; simp [sk_sz]
  have kk1 := kk H1 locs1 lsA (sk_Rel.of hP1 hS1) hS1.2.2 (by rw [e3]; omega) (by rw [e4]; omega) h3 h4
  rw [e3, e4] at kk1
  have f3 : (.inl X :: t : sk_W).length + 1 - w0.length = (.inl X :: t : sk_W).length - w0.length + 1 := by omega
  have f4 : sk_sz (.inl X :: t) + ms - sk_sz w0 = sk_sz (.inl X :: t) - sk_sz w0 + ms := by omega
  rw [f3, f4] at kk1
  exact kk1 T hT X'
theorem sk_s_ald {p : Program} {l : Launch} {e : Env} {R : Room} {s : State} {m : MethodId} {args : Array Value} {below : List Frame} {meth : Method} {c : Code} {Q : State → Prop} {nest : List Jvm.Cond} {Sx : State → Prop} {D : va_G} {cA : Nat → ClassId} {b : Nat} {X : Nat × (Nat → Int32)} {H0 : Heap} {w0 : sk_W} {own nm : String} {cc : ByteArray} {nL : Nat} (hC : sk_Cx nest Sx D cA b X H0 w0 own nm cc nL p s m args meth c) {pc : Nat} {ls : sk_L} {st : List Value} {w : sk_W} {j v : Int32} {a0 : Nat} (hd : decode cc pc = .ok (.iaload, 1)) (hv : sk_ald w a0 j = some v) (kk : sk_Good p l e R s m args below meth c Q D cA b X H0 w0 nL (pc + 1) ls (.int v :: st) w) : sk_Good p l e R s m args below meth c Q D cA b X H0 w0 nL pc ls (.int j :: .ref a0 :: st) w := by
  obtain ⟨⟨hx, hb, hml, hown, hts⟩, ⟨hK, hN, hAO, hX, hbl, hSx⟩, hsz, hnm⟩ := hC
  intro H locs lsA hR hL h1 h2 h3 h4
  obtain ⟨n, f, hw, hin, rfl⟩ := sk_ald_spec hv
  rcases hR.get hw with ⟨rfl, h⟩ | ⟨a', t, rfl, rfl, ht, hP⟩
  · have h := Sum.inl.inj h
    subst h
    exact va_sld hx hb hX hbl (Nat.not_le.mpr hbl) (hR.S hL) hin hd (kk H locs lsA hR hL h1 h2 h3 h4)
  · exact va_iald hx hb hK hP a' 4 (sk_lay_at ht) rfl hin hd (kk H locs lsA hR hL h1 h2 h3 h4)
theorem sk_s_len {p : Program} {l : Launch} {e : Env} {R : Room} {s : State} {m : MethodId} {args : Array Value} {below : List Frame} {meth : Method} {c : Code} {Q : State → Prop} {nest : List Jvm.Cond} {Sx : State → Prop} {D : va_G} {cA : Nat → ClassId} {b : Nat} {X : Nat × (Nat → Int32)} {H0 : Heap} {w0 : sk_W} {own nm : String} {cc : ByteArray} {nL : Nat} (hC : sk_Cx nest Sx D cA b X H0 w0 own nm cc nL p s m args meth c) {pc : Nat} {ls : sk_L} {st : List Value} {w : sk_W} {v : Int32} {a0 : Nat} (hd : decode cc pc = .ok (.arraylength, 1)) (hv : sk_len w a0 = some v) (kk : sk_Good p l e R s m args below meth c Q D cA b X H0 w0 nL (pc + 1) ls (.int v :: st) w) : sk_Good p l e R s m args below meth c Q D cA b X H0 w0 nL pc ls (.ref a0 :: st) w := by
  obtain ⟨⟨hx, hb, hml, hown, hts⟩, ⟨hK, hN, hAO, hX, hbl, hSx⟩, hsz, hnm⟩ := hC
  intro H locs lsA hR hL h1 h2 h3 h4
  obtain ⟨n, f, hw, rfl⟩ := sk_len_spec hv
  rcases hR.get hw with ⟨rfl, h⟩ | ⟨a', t, rfl, rfl, ht, hP⟩
  · have h := Sum.inl.inj h
    subst h
    exact va_slen hx hb hX hbl (Nat.not_le.mpr hbl) (hR.S hL) hd (kk H locs lsA hR hL h1 h2 h3 h4)
  · exact va_alen hx hb hK hP a' 4 (sk_lay_at ht) rfl rfl hd (kk H locs lsA hR hL h1 h2 h3 h4)
theorem sk_s_ast {p : Program} {l : Launch} {e : Env} {R : Room} {s : State} {m : MethodId} {args : Array Value} {below : List Frame} {meth : Method} {c : Code} {Q : State → Prop} {nest : List Jvm.Cond} {Sx : State → Prop} {D : va_G} {cA : Nat → ClassId} {b : Nat} {X : Nat × (Nat → Int32)} {H0 : Heap} {w0 : sk_W} {own nm : String} {cc : ByteArray} {nL : Nat} (hC : sk_Cx nest Sx D cA b X H0 w0 own nm cc nL p s m args meth c) {pc : Nat} {ls : sk_L} {st : List Value} {w : sk_W} {j v : Int32} {a0 : Nat} {w1 : sk_W} (hd : decode cc pc = .ok (.iastore, 1)) (hv : sk_ast w a0 j v = some w1) (kk : sk_Good p l e R s m args below meth c Q D cA b X H0 w0 nL (pc + 1) ls st w1) : sk_Good p l e R s m args below meth c Q D cA b X H0 w0 nL pc ls (.int v :: .int j :: .ref a0 :: st) w := by
  obtain ⟨⟨hx, hb, hml, hown, hts⟩, ⟨hK, hN, hAO, hX, hbl, hSx⟩, hsz, hnm⟩ := hC
  intro H locs lsA hR hL h1 h2 h3 h4
  obtain ⟨a', n, f, rfl, hw, hin, rfl⟩ := sk_ast_spec hv
  rcases hR.get hw with ⟨h, -⟩ | ⟨a', t, h, rfl, ht, hP⟩
  · cases h
  cases h
  exact va_iast hx hb hK hP sk_lay_D (hR.S hL) _ 4 (sk_lay_at ht) rfl hin hd (fun H1 locs1 hP1 hD1 hS1 => sk_after hw (by rfl) (by rfl) hP1 hS1 kk h1 h2 h3 h4)
theorem sk_s_aldr {p : Program} {l : Launch} {e : Env} {R : Room} {s : State} {m : MethodId} {args : Array Value} {below : List Frame} {meth : Method} {c : Code} {Q : State → Prop} {nest : List Jvm.Cond} {Sx : State → Prop} {D : va_G} {cA : Nat → ClassId} {b : Nat} {X : Nat × (Nat → Int32)} {H0 : Heap} {w0 : sk_W} {own nm : String} {cc : ByteArray} {nL : Nat} (hC : sk_Cx nest Sx D cA b X H0 w0 own nm cc nL p s m args meth c) {pc : Nat} {ls : sk_L} {st : List Value} {w : sk_W} {j : Int32} {a0 v : Nat} (hd : decode cc pc = .ok (.aaload, 1)) (hv : sk_aldr w a0 j = some v) (kk : sk_Good p l e R s m args below meth c Q D cA b X H0 w0 nL (pc + 1) ls (.ref v :: st) w) : sk_Good p l e R s m args below meth c Q D cA b X H0 w0 nL pc ls (.int j :: .ref a0 :: st) w := by
  obtain ⟨⟨hx, hb, hml, hown, hts⟩, ⟨hK, hN, hAO, hX, hbl, hSx⟩, hsz, hnm⟩ := hC
  intro H locs lsA hR hL h1 h2 h3 h4
  obtain ⟨t0, n, f, hw, h40, hin, hf⟩ := sk_aldr_spec hv
  rcases hR.get hw with ⟨-, h⟩ | ⟨a', t, rfl, rfl, ht, hP⟩
  · cases h
  have hlt : j.toNatClampNeg < n := Nat.not_le.mp fun q => hin (Or.inr q)
  have key : ∀ ty : FieldType, (sk_tys cA)[t0]? = some (cA t0, ty) → ty.isReference = true → W p l e R s m args below meth c H locs ((.inl X :: t : sk_W).length - w0.length) (sk_sz (.inl X :: t) - sk_sz w0) Q (F0 m pc lsA ((.int j :: .ref (a' + 1) :: st).map (sk_tr b H0.size))) := by
    intro ty hty href
    have hcell := hP a' _ (sk_lay_at ht)
    refine W.aald (v := sk_tr b H0.size (.ref v)) (ty := ty) hx hb hcell ((hK.2 t0 _ hty).1 n (fun j => va_rf ((f j).map (sk_am b H0.size)))) href (fun q => by cases q) (by show ¬ (j < 0 ∨ (arrV _ _ _).slots.size ≤ _); rw [arrV_size]; exact hin) (by show (arrV _ _ _).slots[_]? = _; rw [arrV_read _ _ hlt]; show some (va_rf ((f j.toNatClampNeg).map _)) = _; rw [hf]; rfl) rfl rfl hd ?_
    exact kk H locs lsA hR hL h1 h2 h3 h4
  rcases (show t0 = 0 ∨ t0 = 1 ∨ t0 = 2 ∨ t0 = 3 by omega) with rfl | rfl | rfl | rfl <;> exact key _ rfl rfl
theorem sk_s_astr {p : Program} {l : Launch} {e : Env} {R : Room} {s : State} {m : MethodId} {args : Array Value} {below : List Frame} {meth : Method} {c : Code} {Q : State → Prop} {nest : List Jvm.Cond} {Sx : State → Prop} {D : va_G} {cA : Nat → ClassId} {b : Nat} {X : Nat × (Nat → Int32)} {H0 : Heap} {w0 : sk_W} {own nm : String} {cc : ByteArray} {nL : Nat} (hC : sk_Cx nest Sx D cA b X H0 w0 own nm cc nL p s m args meth c) {pc : Nat} {ls : sk_L} {st : List Value} {w : sk_W} {j : Int32} {a0 v t0 ci : Nat} {w1 : sk_W} (hd : decode cc pc = .ok (.aastore, 1)) (hcl : sk_cls ci) (htag : (sk_tys cA)[t0]? = some (cA t0, .object (sk_q ci).1)) (hv : sk_astr w a0 t0 ci j v = some w1) (kk : sk_Good p l e R s m args below meth c Q D cA b X H0 w0 nL (pc + 1) ls st w1) : sk_Good p l e R s m args below meth c Q D cA b X H0 w0 nL pc ls (.ref v :: .int j :: .ref a0 :: st) w := by
  obtain ⟨⟨hx, hb, hml, hown, hts⟩, ⟨hK, hN, hAO, hX, hbl, hSx⟩, hsz, hnm⟩ := hC
  intro H locs lsA hR hL h1 h2 h3 h4
  obtain ⟨n, f, fs, hw, hwv, hin, rfl⟩ := sk_astr_spec hv
  rcases hR.get hw with ⟨-, h⟩ | ⟨a', t, rfl, rfl, ht, hP⟩
  · cases h
  rcases hR.get hwv with ⟨-, h⟩ | ⟨v', t', rfl, e', ht', hP'⟩
  · cases h
  have e' := (List.cons.inj e').2
  subst e'
  refine va_astq hx hb hK hP sk_lay_D (hR.S hL) a' t0 v' ci (sk_lay_at ht) htag (sk_lay_at ht') hcl.1 hin hd (fun H1 locs1 hP1 hD1 hS1 => sk_after hw (by rfl) ?_ hP1 hS1 kk h1 h2 h3 h4)
  show (Sum.inl _ : va_E) = Sum.inl _
  congr 3
  refine congrArg _ (congrArg _ (congrArg _ ?_))
  congr 1
  funext k
  unfold va_up
  by_cases hk : k = j.toNatClampNeg
  · rw [if_pos hk, if_pos hk]; rfl
  · rw [if_neg hk, if_neg hk]
theorem sk_s_new {p : Program} {l : Launch} {e : Env} {R : Room} {s : State} {m : MethodId} {args : Array Value} {below : List Frame} {meth : Method} {c : Code} {Q : State → Prop} {nest : List Jvm.Cond} {Sx : State → Prop} {D : va_G} {cA : Nat → ClassId} {b : Nat} {X : Nat × (Nat → Int32)} {H0 : Heap} {w0 : sk_W} {own nm : String} {cc : ByteArray} {nL : Nat} (hC : sk_Cx nest Sx D cA b X H0 w0 own nm cc nL p s m args meth c) {pc : Nat} {ls : sk_L} {st : List Value} {w : sk_W} {idx ci : Nat} (hd : decode cc pc = .ok (.new idx, 3)) (hcl : sk_cls ci) (hlk : Jvm.Cond.classLink own idx (sk_q ci).1 ∈ sk_B) (hrm : w.length + 1 - w0.length ≤ R.cells ∧ sk_sz w + (sk_q ci).2.2 - sk_sz w0 ≤ R.slots) (kk : sk_Good p l e R s m args below meth c Q D cA b X H0 w0 nL (pc + 3) ls (.ref w.length :: st) (w ++ [.inr (.inr (ci, sk_fields ci))])) : sk_Good p l e R s m args below meth c Q D cA b X H0 w0 nL pc ls st w := by
  obtain ⟨⟨hx, hb, hml, hown, hts⟩, ⟨hK, hN, hAO, hX, hbl, hSx⟩, hsz, hnm⟩ := hC
  intro H locs lsA hR hL h1 h2 h3 h4
  obtain ⟨hc, hin, hty, hnn, hins, hini⟩ := hcl
  obtain ⟨t, rfl, hP, hlo, hh⟩ := id hR
  refine va_new hx hb (C := (sk_q ci).1) (T := (sk_q ci).2.1) (N := (sk_q ci).2.2) hts hin (sk_ty ci) hty hown (hts _ hlk) (hts _ hins) (hts _ hini) hK hP sk_lay_D (hR.S hL) (fun _ h => h) hc (fs := (sk_fields ci).map (sk_tr b H0.size)) (fun j hj => ?_) (by omega) (by omega) hd (fun q H1 hP1 hD1 hS1 => ?_)
  · rw [sk_fields_at ci j hj]
    unfold vp_V
    rw [List.getD_eq_getElem?_getD, List.getD_eq_getElem?_getD, List.getElem?_map]
    have hj' : j < (sk_fields ci).length := by rw [sk_fields_len]; exact hj
    rw [List.getElem?_eq_getElem hj']
    have e0 : (sk_fields ci)[j] = defaultValue (sk_ty ci j) := by simp [sk_fields]
    show (sk_fields ci)[j] = sk_tr b H0.size (sk_fields ci)[j]
    rw [e0]
    exact (sk_tr_dflt b H0.size _).symm
  · exact sk_pushed hsz rfl (by rw [sk_csz, sk_fields_len]) hP1 hD1 hS1 kk h1 h2 h3 h4
theorem sk_s_newa {p : Program} {l : Launch} {e : Env} {R : Room} {s : State} {m : MethodId} {args : Array Value} {below : List Frame} {meth : Method} {c : Code} {Q : State → Prop} {nest : List Jvm.Cond} {Sx : State → Prop} {D : va_G} {cA : Nat → ClassId} {b : Nat} {X : Nat × (Nat → Int32)} {H0 : Heap} {w0 : sk_W} {own nm : String} {cc : ByteArray} {nL : Nat} (hC : sk_Cx nest Sx D cA b X H0 w0 own nm cc nL p s m args meth c) {pc : Nat} {ls : sk_L} {st : List Value} {w : sk_W} {n : Int32} (hd : decode cc pc = .ok (.newarray .int, 2)) (hac : Jvm.Cond.arrayClass .int ∈ sk_B) (hn : ¬ n < 0 ∧ n.toNatClampNeg ≤ 100000) (hrm : w.length + 1 - w0.length ≤ R.cells ∧ sk_sz w + n.toNatClampNeg - sk_sz w0 ≤ R.slots) (kk : sk_Good p l e R s m args below meth c Q D cA b X H0 w0 nL (pc + 2) ls (.ref w.length :: st) (w ++ [.inl (n.toNatClampNeg, fun _ => 0)])) : sk_Good p l e R s m args below meth c Q D cA b X H0 w0 nL pc ls (.int n :: st) w := by
  obtain ⟨⟨hx, hb, hml, hown, hts⟩, ⟨hK, hN, hAO, hX, hbl, hSx⟩, hsz, hnm⟩ := hC
  intro H locs lsA hR hL h1 h2 h3 h4
  obtain ⟨t, rfl, hP, hlo, hh⟩ := id hR
  refine va_newa (atype := .int) hx hb (hts _ hac) (ty := .int) rfl hK hP sk_lay_D (hR.S hL) (fun _ h => h) (N' := n.toNatClampNeg) (a0 := (n.toNatClampNeg, .inl fun _ => 0)) (fun cA => rfl) hn.1 rfl (by show n.toNatClampNeg * 4 ≤ _; omega) (by omega) (by omega) hd (fun q cA' H1 hK1 hP1 hD1 hS1 => ?_)
  have e1 : cA' = cA 4 := by
    have g1 := (hK1.2 5 _ rfl).2
    have g2 := (hK.2 4 _ rfl).2
    exact Option.some.inj (g1.symm.trans g2)
  subst e1
  exact sk_pushed hsz rfl rfl hP1 hD1 hS1 kk h1 h2 h3 h4
theorem sk_s_newr {p : Program} {l : Launch} {e : Env} {R : Room} {s : State} {m : MethodId} {args : Array Value} {below : List Frame} {meth : Method} {c : Code} {Q : State → Prop} {nest : List Jvm.Cond} {Sx : State → Prop} {D : va_G} {cA : Nat → ClassId} {b : Nat} {X : Nat × (Nat → Int32)} {H0 : Heap} {w0 : sk_W} {own nm : String} {cc : ByteArray} {nL : Nat} (hC : sk_Cx nest Sx D cA b X H0 w0 own nm cc nL p s m args meth c) {pc : Nat} {ls : sk_L} {st : List Value} {w : sk_W} {n : Int32} {idx t0 : Nat} {CN : String} (hd : decode cc pc = .ok (.anewarray idx, 3)) (hlk : Jvm.Cond.classLink own idx CN ∈ sk_B) (hn : ¬ n < 0 ∧ n.toNatClampNeg ≤ 100000) (htag : t0 < 3 ∧ (sk_tys cA)[t0]? = some (cA t0, .object CN)) (hrm : w.length + 1 - w0.length ≤ R.cells ∧ sk_sz w + n.toNatClampNeg - sk_sz w0 ≤ R.slots) (kk : sk_Good p l e R s m args below meth c Q D cA b X H0 w0 nL (pc + 3) ls (.ref w.length :: st) (w ++ [.inr (.inl (t0, n.toNatClampNeg, fun _ => none))])) : sk_Good p l e R s m args below meth c Q D cA b X H0 w0 nL pc ls (.int n :: st) w := by
  obtain ⟨⟨hx, hb, hml, hown, hts⟩, ⟨hK, hN, hAO, hX, hbl, hSx⟩, hsz, hnm⟩ := hC
  intro H locs lsA hR hL h1 h2 h3 h4
  obtain ⟨t, rfl, hP, hlo, hh⟩ := id hR
  have hover : va_AO CN s := by
    obtain ⟨a0, a1, a2⟩ := hAO
    obtain ⟨ht3, htag⟩ := htag
    rcases (show t0 = 0 ∨ t0 = 1 ∨ t0 = 2 by omega) with rfl | rfl | rfl
    · have := congrArg Prod.snd (Option.some.inj htag); cases this; exact a0
    · have := congrArg Prod.snd (Option.some.inj htag); cases this; exact a1
    · have := congrArg Prod.snd (Option.some.inj htag); cases this; exact a2
  refine va_newq hx hb hown (hts _ hlk) hover hK hP sk_lay_D (hR.S hL) (fun _ h => h) (N' := n.toNatClampNeg) hn.1 rfl (by omega) (by omega) (by omega) hd (fun q cA' H1 hK1 hP1 hD1 hS1 => ?_)
  have e1 : cA' = cA t0 := by
    obtain ⟨_, _, _, _, _, g1⟩ := (hK1.2 5 _ rfl).2
    obtain ⟨_, _, _, _, _, g2⟩ := (hK.2 t0 _ htag.2).2
    exact Option.some.inj (g1.symm.trans g2)
  subst e1
  exact sk_pushed hsz rfl rfl hP1 hD1 hS1 kk h1 h2 h3 h4
theorem sk_s_copy {p : Program} {l : Launch} {e : Env} {R : Room} {s : State} {m : MethodId} {args : Array Value} {below : List Frame} {meth : Method} {c : Code} {Q : State → Prop} {nest : List Jvm.Cond} {Sx : State → Prop} {D : va_G} {cA : Nat → ClassId} {b : Nat} {X : Nat × (Nat → Int32)} {H0 : Heap} {w0 : sk_W} {own nm : String} {cc : ByteArray} {nL : Nat} (hC : sk_Cx nest Sx D cA b X H0 w0 own nm cc nL p s m args meth c) {pc : Nat} {ls : sk_L} {st : List Value} {w : sk_W} {idx a0 a1 : Nat} {sp dp n : Int32} {w1 : sk_W} (hls : ls.length = nL) (hd : decode cc pc = .ok (.invokestatic idx, 3)) (hlk : Jvm.Cond.methodLink own idx arraycopyName ∈ sk_B) (hwd : Jvm.Cond.native arraycopyName ∈ sk_B ∧ Jvm.Cond.static arraycopyName ∈ sk_B ∧ Jvm.Cond.initialized "java/lang/System" ∈ sk_B) (hst : (st.map fun v => v.category).sum ≤ 8) (hRf : 1 ≤ R.frames ∧ 80 ≤ R.locals) (hv : sk_copy w a0 sp a1 dp n = some w1) (kk : sk_Good p l e R s m args below meth c Q D cA b X H0 w0 nL (pc + 3) ls st w1) : sk_Good p l e R s m args below meth c Q D cA b X H0 w0 nL pc ls (.int n :: .int dp :: .ref a1 :: .int sp :: .ref a0 :: st) w := by
  obtain ⟨⟨hx, hb, hml, hown, hts⟩, ⟨hK, hN, hAO, hX, hbl, hSx⟩, hsz, hnm⟩ := hC
  intro H locs lsA hR hL h1 h2 h3 h4
  obtain ⟨b0, b1, n0, n1, f, g, rfl, rfl, hw0, hw1, ⟨c1, c2, c3, c4, c5⟩, rfl⟩ := sk_copy_spec hv
  rcases hR.get hw0 with ⟨h, -⟩ | ⟨b0', t, h, rfl, ht, hP⟩
  · cases h
  cases h
  rcases hR.get hw1 with ⟨h, -⟩ | ⟨b1', t', h, e', ht', hP'⟩
  · cases h
  cases h
  have e' := (List.cons.inj e').2
  subst e'
  have hstc : ((st.map (sk_tr b H0.size)).map fun v => v.category).sum ≤ 8 := by
    rw [List.map_map]
    have : ((fun v : Value => v.category) ∘ sk_tr b H0.size) = fun v : Value => v.category := by funext v; exact sk_tr_cat _ _ v
    rw [this]; exact hst
  have hnw : nativeFrameWords "java/lang/System" "arraycopy" 5 + 11 ≤ 72 := by decide +kernel
  exact va_copyi hx hb (by rw [hml]; exact h4.1.symm) hown (hts _ hlk) (hts _ hwd.1) (hts _ hwd.2.1) (hts _ hwd.2.2) hK hP sk_lay_D (hR.S hL) _ _ 4 4 (sk_lay_at ht) (sk_lay_at ht') rfl rfl rfl c1 c2 c3 c4 c5 (fun _ _ => rfl) hRf.1 (by have := hRf.2; omega) hd (fun H1 locs1 hP1 hD1 hS1 => sk_after hw1 (by rfl) (by rfl) hP1 hS1 kk h1 h2 h3 h4)
end
section
/-! ===== calls ===== -/
def sk_Pc (nest : List Jvm.Cond) (Sx : State → Prop) (D : va_G) (cA : Nat → ClassId) (b : Nat) (X : Nat × (Nat → Int32)) (H0 : Heap) (as : List Value) (w : sk_W) : Array Value → State → Prop := fun v U => v = (as.map (sk_tr b H0.size)).toArray ∧ sk_Rel D cA b X H0 w U.heap ∧ U.heap.size + 1 = H0.size + w.length ∧ sk_Tb nest Sx D cA b X H0 U
def sk_Qc (D : va_G) (cA : Nat → ClassId) (b : Nat) (X : Nat × (Nat → Int32)) (H0 : Heap) (r : Option Value) (w1 : sk_W) : Array Value → State → Outcome → State → Prop := fun _ _ o t => o = .returned (r.map (sk_tr b H0.size)) ∧ sk_Rel D cA b X H0 w1 t.heap
/-- the contract of one run of a method: from the world w with the arguments as it comes to r and w1 -/
def sk_Met (l : Launch) (nest : List Jvm.Cond) (Sx : State → Prop) (D : va_G) (cA : Nat → ClassId) (b : Nat) (X : Nat × (Nat → Int32)) (H0 : Heap) (y : MethodName) (bytes : ByteArray) (maxL : Nat) (ret : Option FieldType) (d : Nat) (as : List Value) (w : sk_W) (r : Option Value) (w1 : sk_W) : Prop :=
  Met l y (.code y bytes maxL ret :: sk_B) ({ frames := d, cells := w1.length - w.length, slots := sk_sz w1 - sk_sz w, locals := 80 * d }) (sk_Pc nest Sx D cA b X H0 as w) (sk_Qc D cA b X H0 r w1) (w1.length - w.length) (sk_sz w1 - sk_sz w) (fun q => H0.size ≤ q)
/-- the words that stay are of one form -/
def sk_nestOK (nest : List Jvm.Cond) : Prop := ∀ x ∈ nest, ∃ (o : String) (i : Nat) (y : MethodName) (h : String), x = .methodLinkNest o i y h
def sk_SxOK (Sx : State → Prop) : Prop := ∀ s U : State, s.WarmedH U.vm → Sx s → Sx U
theorem sk_Tb.warm {nest : List Jvm.Cond} {Sx : State → Prop} {D : va_G} {cA : Nat → ClassId} {b : Nat} {X : Nat × (Nat → Int32)} {H0 : Heap} {s U : State} (hn : sk_nestOK nest) (hx : sk_SxOK Sx) (hW : s.WarmedH U.vm) (h : sk_Tb nest Sx D cA b X H0 s) : sk_Tb nest Sx D cA b X H0 U := by
  obtain ⟨hK, hN, ⟨a1, a2, a3⟩, hX, hb, hS⟩ := h
  refine ⟨va_K.moved hW.alike hK, fun x hx => ?_, ⟨a1.moved hW.alike, a2.moved hW.alike, a3.moved hW.alike⟩, va_X.moved hW.alike hX, hb, hx s U hW hS⟩
  obtain ⟨o, i, y, h, rfl⟩ := hn x hx
  exact va_Nw.warmM hW (hN _ hx)
theorem sk_Pc_blind {nest : List Jvm.Cond} {Sx : State → Prop} {D : va_G} {cA : Nat → ClassId} {b : Nat} {X : Nat × (Nat → Int32)} {H0 : Heap} {as : List Value} {w : sk_W} (hn : sk_nestOK nest) (hx : sk_SxOK Sx) : FrameBlind (sk_Pc nest Sx D cA b X H0 as w) := by
  rintro v U g mk ⟨h1, h2, h3, h4⟩
  exact ⟨h1, h2, h3, sk_Tb.warm (s := U) (U := U.calling g mk v) hn hx (State.WarmedH.refl U) h4⟩
theorem sk_called {p : Program} {l : Launch} {e : Env} {R : Room} {s : State} {m : MethodId} {args : Array Value} {below : List Frame} {meth : Method} {c : Code} {Q : State → Prop} {D : va_G} {cA : Nat → ClassId} {b : Nat} {X : Nat × (Nat → Int32)} {H0 : Heap} {w0 : sk_W} {nL : Nat} {w w1 : sk_W} {pc : Nat} {ls : sk_L} {st st0 : List Value} {lsA : Array Slot} {A : Array Value} {r : Option Value} {H : Heap} {locs : List Loc} (hL : ∀ q ∈ locs, H0.size ≤ q.base) (hg : w.length ≤ w1.length ∧ sk_sz w ≤ sk_sz w1) (h1 : w0.length ≤ w.length) (h2 : sk_sz w0 ≤ sk_sz w) (h3 : sk_lok nL ls) (h4 : lv_has lsA nL (sk_lv b H0.size 0 ls))
    (hr : va_Run p l e R s m args below meth c H locs (w.length - w0.length) (sk_sz w - sk_sz w0) (w1.length - w.length) (sk_sz w1 - sk_sz w) (F0 m pc lsA st0) (st.map (sk_tr b H0.size)) (sk_Qc D cA b X H0 r w1 A) (fun q => H0.size ≤ q))
    (kk : sk_Good p l e R s m args below meth c Q D cA b X H0 w0 nL (pc + 3) ls (r.toList ++ st) w1) : W p l e R s m args below meth c H locs (w.length - w0.length) (sk_sz w - sk_sz w0) Q (F0 m pc lsA st0) := by
  intro T hT X'
  obtain ⟨v, st₀, t, T', L, h0, X2, hLf, e1, e2, ⟨hv, hR2⟩, hgo⟩ := hr T hT X'
  have hv := Outcome.returned.inj hv
  subst hv
  have k1 : w.length - w0.length + (w1.length - w.length) = w1.length - w0.length := by omega
  have k2 : sk_sz w - sk_sz w0 + (sk_sz w1 - sk_sz w) = sk_sz w1 - sk_sz w0 := by omega
  rw [k1, k2] at X2
  have kk1 := kk T'.heap (locs ++ L) lsA (by rw [e1]; exact hR2) (fun q hq => (List.mem_append.mp hq).elim (hL q) (hLf q)) (by omega) (by omega) h3 h4
  have k3 : (r.toList ++ st).map (sk_tr b H0.size) = (r.map (sk_tr b H0.size)).toList ++ st.map (sk_tr b H0.size) := by cases r <;> simp
  rw [k3] at kk1
  obtain ⟨t2, a1, b1⟩ := kk1 T' rfl X2
  exact ⟨t2, hgo t2 a1, b1⟩
/-- what the tables say of a callee -/
def sk_callee (y : MethodName) (bytes : ByteArray) (maxL : Nat) (ret : Option FieldType) (n : Nat) : Prop := Jvm.Cond.code y bytes maxL ret ∈ sk_B ∧ Jvm.Cond.initialized y.cls ∈ sk_B ∧ (y.cls ≠ "java/lang/invoke/MethodHandle" ∧ y.cls ≠ "java/lang/invoke/VarHandle" ∧ (parseMethodDescriptor y.desc).map (fun d => d.parameters.length) = some n) ∧ maxL ≤ 45
theorem sk_words {y : MethodName} {bytes : ByteArray} {maxL : Nat} {ret : Option FieldType} {n : Nat} (h : sk_callee y bytes maxL ret n) : GoodIn sk_B (Jvm.Cond.code y bytes maxL ret :: sk_B) := by
  intro w hw
  rcases List.mem_cons.mp hw with rfl | hw
  · exact ⟨h.1, sk_B_good h.1⟩
  · exact ⟨hw, sk_B_good hw⟩
theorem sk_cats {b n0 : Nat} {st : List Value} (h : (st.map fun v => v.category).sum ≤ 8) : ((st.map (sk_tr b n0)).map fun v => v.category).sum ≤ 8 := by
  rw [List.map_map]
  have : ((fun v : Value => v.category) ∘ sk_tr b n0) = fun v : Value => v.category := by funext v; exact sk_tr_cat _ _ v
  rw [this]
  exact h
theorem sk_pops_spec : ∀ (n : Nat) (acc st as rest : List Value), sk_pops n acc st = some (as, rest) → (∃ us : List Value, us.length = n ∧ as = us.reverse ++ acc ∧ st = us ++ rest ∧ ∀ v ∈ us, v.category = 1) ∧ (rest.map fun v => v.category).sum ≤ 8
  | 0, acc, st, as, rest, h => by
    unfold sk_pops at h
    split at h
    · next hc => cases h; exact ⟨⟨[], rfl, rfl, rfl, fun _ h => by cases h⟩, hc⟩
    · cases h
  | n + 1, acc, [], as, rest, h => by cases h
  | n + 1, acc, v :: st, as, rest, h => by
    unfold sk_pops at h
    split at h
    · next hc =>
      obtain ⟨⟨us, h1, h2, h3, h4⟩, h5⟩ := sk_pops_spec n (v :: acc) st as rest h
      refine ⟨⟨v :: us, by simp [h1], by rw [h2]; simp, by rw [h3]; rfl, fun u hu => ?_⟩, h5⟩
      rcases List.mem_cons.mp hu with rfl | hu
      · exact hc
      · exact h4 u hu
    · cases h
theorem sk_s_callV {p : Program} {l : Launch} {e : Env} {R : Room} {s : State} {m : MethodId} {args : Array Value} {below : List Frame} {meth : Method} {c : Code} {Q : State → Prop} {nest : List Jvm.Cond} {Sx : State → Prop} {D : va_G} {cA : Nat → ClassId} {b : Nat} {X : Nat × (Nat → Int32)} {H0 : Heap} {w0 : sk_W} {own nm : String} {cc : ByteArray} {nL : Nat} (hC : sk_Cx nest Sx D cA b X H0 w0 own nm cc nL p s m args meth c) {pc : Nat} {ls : sk_L} {st : List Value} {w : sk_W} (hn : sk_nestOK nest) (hsx : sk_SxOK Sx) {y : MethodName} {bytes : ByteArray} {maxL n idx ci d : Nat} {ret : Option FieldType} (hy : sk_callee y bytes maxL ret n) {as rest : List Value} {r : Option Value} {w1 : sk_W} (hM : sk_Met l nest Sx D cA b X H0 y bytes maxL ret d as w r w1) (hg : w.length ≤ w1.length ∧ sk_sz w ≤ sk_sz w1) (hRm : d + 1 ≤ R.frames ∧ 80 * (d + 1) ≤ R.locals ∧ w1.length - w0.length ≤ R.cells ∧ sk_sz w1 - sk_sz w0 ≤ R.slots) (hd : decode cc pc = .ok (.invokevirtual idx, 3)) (hlk : Jvm.Cond.methodLink own idx y ∈ sk_B ∧ Jvm.Cond.instanceMethod y ∈ sk_B ∧ Jvm.Cond.selects y.cls y y ∈ sk_B) (hci : sk_cls ci ∧ (sk_q ci).1 = y.cls) (hpop : sk_pops (n + 1) [] st = some (as, rest)) (hrc : sk_rcv w ci as = true) (kk : sk_Good p l e R s m args below meth c Q D cA b X H0 w0 nL (pc + 3) ls (r.toList ++ rest) w1) : sk_Good p l e R s m args below meth c Q D cA b X H0 w0 nL pc ls st w := by
  obtain ⟨⟨hx, hb, hml, hown, hts⟩, hT0, hsz, hnm⟩ := hC
  intro H locs lsA hR hL h1 h2 h3 h4 T hT X'
  have hup := X'.heapSize
  rw [hT] at hup
  have hsize : H.size + 1 = H0.size + w.length := by
    obtain ⟨t, rfl, hP, hlo, -⟩ := id hR
    have := sk_low hP hlo
    have hlt : (.inl X :: t : sk_W).length = t.length + 1 := rfl
    omega
  have hpre : ∀ U : State, U.heap = H → s.WarmedH U.vm → sk_Pc nest Sx D cA b X H0 as w (as.map (sk_tr b H0.size)).toArray U := fun U hU hW => ⟨rfl, by rw [hU]; exact hR, by rw [hU]; exact hsize, sk_Tb.warm hn hsx hW hT0⟩
  obtain ⟨⟨us, hu1, hu2, hu3, hu4⟩, hcat⟩ := sk_pops_spec _ _ _ _ _ hpop
  have hus : us = as.reverse := by rw [hu2]; simp
  subst hus
  subst hu3
  rcases as with _ | ⟨v0, As⟩
  · cases hrc
  cases v0 <;> try cases hrc
  rename_i a0
  obtain ⟨fs, hfs⟩ := sk_isO_spec (show sk_isO w a0 ci = true from hrc)
  have hrecv : ∃ cell : Cell, H[sk_am b H0.size a0]? = some cell ∧ cell.vm.isStatics = false ∧ s.vm.findClass y.cls = some cell.cls := by
    rcases hR.get hfs with ⟨-, h⟩ | ⟨a', t, rfl, rfl, ht, hP⟩
    · cases h
    have := va_recv hT0.1 hP hci.1.1 (sk_lay_at ht)
    rw [hci.2] at this
    exact this
  refine sk_called hL hg h1 h2 h3 h4 (va_runV (As := As.map (sk_tr b H0.size)) (b := sk_am b H0.size a0) (rest := rest.map (sk_tr b H0.size)) ⟨hx, hb, hml, hown, hts⟩ hM (cwV (C := y.cls) n hts ?_ rfl rfl rfl ⟨rfl, hy.2.2.1⟩ ⟨hRm.1, ?_⟩) ⟨sk_Pc_blind hn hsx, hrecv, hpre⟩ rfl ?_ h4.1 ?_ (lv_room (sk_cats hcat)) hd ⟨?_, ?_⟩) kk T hT X'
  · intro w hw
    rcases List.mem_append.mp hw with hw | hw
    · have hm : w ∈ sk_B := by
        simp only [List.mem_cons, List.not_mem_nil, or_false] at hw
        rcases hw with rfl | rfl | rfl | rfl
        · exact hlk.1
        · exact hlk.2.1
        · exact hlk.2.2
        · exact hy.2.1
      exact ⟨hm, sk_B_good hm⟩
    · exact sk_words hy w hw
  · have := hRm.2.1; have := hy.2.2.2; show 8 + (maxL + 11) + 80 * d ≤ R.locals; omega
  · rw [List.length_map]; simp at hu1; omega
  · simp [sk_tr]
  · have := hRm.2.2.1; omega
  · have := hRm.2.2.2; omega
theorem sk_s_callS {p : Program} {l : Launch} {e : Env} {R : Room} {s : State} {m : MethodId} {args : Array Value} {below : List Frame} {meth : Method} {c : Code} {Q : State → Prop} {nest : List Jvm.Cond} {Sx : State → Prop} {D : va_G} {cA : Nat → ClassId} {b : Nat} {X : Nat × (Nat → Int32)} {H0 : Heap} {w0 : sk_W} {own nm : String} {cc : ByteArray} {nL : Nat} (hC : sk_Cx nest Sx D cA b X H0 w0 own nm cc nL p s m args meth c) {pc : Nat} {ls : sk_L} {st : List Value} {w : sk_W} (hn : sk_nestOK nest) (hsx : sk_SxOK Sx) {y : MethodName} {bytes : ByteArray} {maxL n idx ci d : Nat} {ret : Option FieldType} (hy : sk_callee y bytes maxL ret n) {as rest : List Value} {r : Option Value} {w1 : sk_W} (hM : sk_Met l nest Sx D cA b X H0 y bytes maxL ret d as w r w1) (hg : w.length ≤ w1.length ∧ sk_sz w ≤ sk_sz w1) (hRm : d + 1 ≤ R.frames ∧ 80 * (d + 1) ≤ R.locals ∧ w1.length - w0.length ≤ R.cells ∧ sk_sz w1 - sk_sz w0 ≤ R.slots) (hd : decode cc pc = .ok (.invokestatic idx, 3)) (hlk : Jvm.Cond.methodLink own idx y ∈ sk_B ∧ Jvm.Cond.static y ∈ sk_B) (hpop : sk_pops n [] st = some (as, rest)) (kk : sk_Good p l e R s m args below meth c Q D cA b X H0 w0 nL (pc + 3) ls (r.toList ++ rest) w1) : sk_Good p l e R s m args below meth c Q D cA b X H0 w0 nL pc ls st w := by
  obtain ⟨⟨hx, hb, hml, hown, hts⟩, hT0, hsz, hnm⟩ := hC
  intro H locs lsA hR hL h1 h2 h3 h4 T hT X'
  have hup := X'.heapSize
  rw [hT] at hup
  have hsize : H.size + 1 = H0.size + w.length := by
    obtain ⟨t, rfl, hP, hlo, -⟩ := id hR
    have := sk_low hP hlo
    have hlt : (.inl X :: t : sk_W).length = t.length + 1 := rfl
    omega
  have hpre : ∀ U : State, U.heap = H → s.WarmedH U.vm → sk_Pc nest Sx D cA b X H0 as w (as.map (sk_tr b H0.size)).toArray U := fun U hU hW => ⟨rfl, by rw [hU]; exact hR, by rw [hU]; exact hsize, sk_Tb.warm hn hsx hW hT0⟩
  obtain ⟨⟨us, hu1, hu2, hu3, hu4⟩, hcat⟩ := sk_pops_spec _ _ _ _ _ hpop
  have hus : us = as.reverse := by rw [hu2]; simp
  subst hus
  subst hu3
  refine sk_called hL hg h1 h2 h3 h4 (va_runS (As := as.map (sk_tr b H0.size)) (rest := rest.map (sk_tr b H0.size)) ⟨hx, hb, hml, hown, hts⟩ hM (va_cwS n hts ?_ rfl rfl rfl hy.2.2.1 ⟨hRm.1, ?_⟩) ⟨sk_Pc_blind hn hsx, hpre⟩ rfl ?_ h4.1 ?_ (lv_room (sk_cats hcat)) hd ⟨?_, ?_⟩) kk T hT X'
  · intro w hw
    rcases List.mem_append.mp hw with hw | hw
    · have hm : w ∈ sk_B := by
        simp only [List.mem_cons, List.not_mem_nil, or_false] at hw
        rcases hw with rfl | rfl | rfl
        · exact hlk.1
        · exact hlk.2
        · exact hy.2.1
      exact ⟨hm, sk_B_good hm⟩
    · exact sk_words hy w hw
  · have := hRm.2.1; have := hy.2.2.2; show 8 + (maxL + 11) + 80 * d ≤ R.locals; omega
  · rw [List.length_map]; simp at hu1; omega
  · simp
  · have := hRm.2.2.1; omega
  · have := hRm.2.2.2; omega
theorem sk_s_callSN {p : Program} {l : Launch} {e : Env} {R : Room} {s : State} {m : MethodId} {args : Array Value} {below : List Frame} {meth : Method} {c : Code} {Q : State → Prop} {nest : List Jvm.Cond} {Sx : State → Prop} {D : va_G} {cA : Nat → ClassId} {b : Nat} {X : Nat × (Nat → Int32)} {H0 : Heap} {w0 : sk_W} {own nm : String} {cc : ByteArray} {nL : Nat} (hC : sk_Cx nest Sx D cA b X H0 w0 own nm cc nL p s m args meth c) {pc : Nat} {ls : sk_L} {st : List Value} {w : sk_W} (hn : sk_nestOK nest) (hsx : sk_SxOK Sx) {y : MethodName} {bytes : ByteArray} {maxL n idx ci d : Nat} {ret : Option FieldType} (hy : sk_callee y bytes maxL ret n) {as rest : List Value} {r : Option Value} {w1 : sk_W} (hM : sk_Met l nest Sx D cA b X H0 y bytes maxL ret d as w r w1) (hg : w.length ≤ w1.length ∧ sk_sz w ≤ sk_sz w1) (hRm : d + 1 ≤ R.frames ∧ 80 * (d + 1) ≤ R.locals ∧ w1.length - w0.length ≤ R.cells ∧ sk_sz w1 - sk_sz w0 ≤ R.slots) {host : String} (hd : decode cc pc = .ok (.invokestatic idx, 3)) (hlk : Jvm.Cond.methodLinkNest own idx y host ∈ nest ∧ Jvm.Cond.static y ∈ sk_B) (hpop : sk_pops n [] st = some (as, rest)) (kk : sk_Good p l e R s m args below meth c Q D cA b X H0 w0 nL (pc + 3) ls (r.toList ++ rest) w1) : sk_Good p l e R s m args below meth c Q D cA b X H0 w0 nL pc ls st w := by
  obtain ⟨⟨hx, hb, hml, hown, hts⟩, hT0, hsz, hnm⟩ := hC
  intro H locs lsA hR hL h1 h2 h3 h4 T hT X'
  have hup := X'.heapSize
  rw [hT] at hup
  have hsize : H.size + 1 = H0.size + w.length := by
    obtain ⟨t, rfl, hP, hlo, -⟩ := id hR
    have := sk_low hP hlo
    have hlt : (.inl X :: t : sk_W).length = t.length + 1 := rfl
    omega
  have hpre : ∀ U : State, U.heap = H → s.WarmedH U.vm → sk_Pc nest Sx D cA b X H0 as w (as.map (sk_tr b H0.size)).toArray U := fun U hU hW => ⟨rfl, by rw [hU]; exact hR, by rw [hU]; exact hsize, sk_Tb.warm hn hsx hW hT0⟩
  obtain ⟨⟨us, hu1, hu2, hu3, hu4⟩, hcat⟩ := sk_pops_spec _ _ _ _ _ hpop
  have hus : us = as.reverse := by rw [hu2]; simp
  subst hus
  subst hu3
  refine sk_called hL hg h1 h2 h3 h4 (va_runSN (As := as.map (sk_tr b H0.size)) (rest := rest.map (sk_tr b H0.size)) ⟨hx, hb, hml, hown, hts⟩ hM ⟨va_cnB n hts (sk_words hy) rfl rfl rfl (hT0.2.1 _ hlk.1) (hts _ hy.2.1) hy.2.2.1 ⟨hRm.1, ?_⟩, hts _ hlk.2, trivial⟩ ⟨sk_Pc_blind hn hsx, hpre⟩ rfl ?_ h4.1 ?_ (lv_room (sk_cats hcat)) hd ⟨?_, ?_⟩) kk T hT X'
  · have := hRm.2.1; have := hy.2.2.2; show 8 + (maxL + 11) + 80 * d ≤ R.locals; omega
  · rw [List.length_map]; simp at hu1; omega
  · simp
  · have := hRm.2.2.1; omega
  · have := hRm.2.2.2; omega
theorem sk_s_callI {p : Program} {l : Launch} {e : Env} {R : Room} {s : State} {m : MethodId} {args : Array Value} {below : List Frame} {meth : Method} {c : Code} {Q : State → Prop} {nest : List Jvm.Cond} {Sx : State → Prop} {D : va_G} {cA : Nat → ClassId} {b : Nat} {X : Nat × (Nat → Int32)} {H0 : Heap} {w0 : sk_W} {own nm : String} {cc : ByteArray} {nL : Nat} (hC : sk_Cx nest Sx D cA b X H0 w0 own nm cc nL p s m args meth c) {pc : Nat} {ls : sk_L} {st : List Value} {w : sk_W} (hn : sk_nestOK nest) (hsx : sk_SxOK Sx) {y : MethodName} {bytes : ByteArray} {maxL n idx ci d : Nat} (hy : sk_callee y bytes maxL none n) {as rest : List Value} {r : Option Value} {w1 : sk_W} (hM : sk_Met l nest Sx D cA b X H0 y bytes maxL none d as w r w1) (hg : w.length ≤ w1.length ∧ sk_sz w ≤ sk_sz w1) (hRm : d + 1 ≤ R.frames ∧ 80 * (d + 1) ≤ R.locals ∧ w1.length - w0.length ≤ R.cells ∧ sk_sz w1 - sk_sz w0 ≤ R.slots) (hd : decode cc pc = .ok (.invokespecial idx, 3)) (hlk : Jvm.Cond.methodLink own idx y ∈ sk_B ∧ Jvm.Cond.instanceMethod y ∈ sk_B ∧ y.name = "<init>") (hpop : sk_pops (n + 1) [] st = some (as, rest)) (hrc : sk_rcv w ci as = true) (kk : sk_Good p l e R s m args below meth c Q D cA b X H0 w0 nL (pc + 3) ls (r.toList ++ rest) w1) : sk_Good p l e R s m args below meth c Q D cA b X H0 w0 nL pc ls st w := by
  obtain ⟨⟨hx, hb, hml, hown, hts⟩, hT0, hsz, hnm⟩ := hC
  intro H locs lsA hR hL h1 h2 h3 h4 T hT X'
  have hup := X'.heapSize
  rw [hT] at hup
  have hsize : H.size + 1 = H0.size + w.length := by
    obtain ⟨t, rfl, hP, hlo, -⟩ := id hR
    have := sk_low hP hlo
    have hlt : (.inl X :: t : sk_W).length = t.length + 1 := rfl
    omega
  have hpre : ∀ U : State, U.heap = H → s.WarmedH U.vm → sk_Pc nest Sx D cA b X H0 as w (as.map (sk_tr b H0.size)).toArray U := fun U hU hW => ⟨rfl, by rw [hU]; exact hR, by rw [hU]; exact hsize, sk_Tb.warm hn hsx hW hT0⟩
  obtain ⟨⟨us, hu1, hu2, hu3, hu4⟩, hcat⟩ := sk_pops_spec _ _ _ _ _ hpop
  have hus : us = as.reverse := by rw [hu2]; simp
  subst hus
  subst hu3
  rcases as with _ | ⟨v0, As⟩
  · cases hrc
  cases v0 <;> try cases hrc
  rename_i a0
  refine sk_called hL hg h1 h2 h3 h4 (va_runI (As := As.map (sk_tr b H0.size)) (b := sk_am b H0.size a0) (rest := rest.map (sk_tr b H0.size)) ⟨hx, hb, hml, hown, hts⟩ hM (cwI n hts (sk_words hy) rfl rfl rfl (hts _ hy.2.1) (hts _ hlk.1) (hts _ hlk.2.1) hlk.2.2 hy.2.2.1 ⟨hRm.1, ?_⟩) ⟨sk_Pc_blind hn hsx, hpre⟩ rfl ?_ h4.1 ?_ (lv_room (sk_cats hcat)) hd ⟨?_, ?_⟩) kk T hT X'
  · have := hRm.2.1; have := hy.2.2.2; show 8 + (maxL + 11) + 80 * d ≤ R.locals; omega
  · rw [List.length_map]; simp at hu1; omega
  · simp [sk_tr]
  · have := hRm.2.2.1; omega
  · have := hRm.2.2.2; omega
theorem sk_s_callIN {p : Program} {l : Launch} {e : Env} {R : Room} {s : State} {m : MethodId} {args : Array Value} {below : List Frame} {meth : Method} {c : Code} {Q : State → Prop} {nest : List Jvm.Cond} {Sx : State → Prop} {D : va_G} {cA : Nat → ClassId} {b : Nat} {X : Nat × (Nat → Int32)} {H0 : Heap} {w0 : sk_W} {own nm : String} {cc : ByteArray} {nL : Nat} (hC : sk_Cx nest Sx D cA b X H0 w0 own nm cc nL p s m args meth c) {pc : Nat} {ls : sk_L} {st : List Value} {w : sk_W} (hn : sk_nestOK nest) (hsx : sk_SxOK Sx) {y : MethodName} {bytes : ByteArray} {maxL n idx ci d : Nat} (hy : sk_callee y bytes maxL none n) {as rest : List Value} {r : Option Value} {w1 : sk_W} (hM : sk_Met l nest Sx D cA b X H0 y bytes maxL none d as w r w1) (hg : w.length ≤ w1.length ∧ sk_sz w ≤ sk_sz w1) (hRm : d + 1 ≤ R.frames ∧ 80 * (d + 1) ≤ R.locals ∧ w1.length - w0.length ≤ R.cells ∧ sk_sz w1 - sk_sz w0 ≤ R.slots) {host : String} (hd : decode cc pc = .ok (.invokespecial idx, 3)) (hlk : Jvm.Cond.methodLinkNest own idx y host ∈ nest ∧ Jvm.Cond.instanceMethod y ∈ sk_B ∧ y.name = "<init>") (hpop : sk_pops (n + 1) [] st = some (as, rest)) (hrc : sk_rcv w ci as = true) (kk : sk_Good p l e R s m args below meth c Q D cA b X H0 w0 nL (pc + 3) ls (r.toList ++ rest) w1) : sk_Good p l e R s m args below meth c Q D cA b X H0 w0 nL pc ls st w := by
  obtain ⟨⟨hx, hb, hml, hown, hts⟩, hT0, hsz, hnm⟩ := hC
  intro H locs lsA hR hL h1 h2 h3 h4 T hT X'
  have hup := X'.heapSize
  rw [hT] at hup
  have hsize : H.size + 1 = H0.size + w.length := by
    obtain ⟨t, rfl, hP, hlo, -⟩ := id hR
    have := sk_low hP hlo
    have hlt : (.inl X :: t : sk_W).length = t.length + 1 := rfl
    omega
  have hpre : ∀ U : State, U.heap = H → s.WarmedH U.vm → sk_Pc nest Sx D cA b X H0 as w (as.map (sk_tr b H0.size)).toArray U := fun U hU hW => ⟨rfl, by rw [hU]; exact hR, by rw [hU]; exact hsize, sk_Tb.warm hn hsx hW hT0⟩
  obtain ⟨⟨us, hu1, hu2, hu3, hu4⟩, hcat⟩ := sk_pops_spec _ _ _ _ _ hpop
  have hus : us = as.reverse := by rw [hu2]; simp
  subst hus
  subst hu3
  rcases as with _ | ⟨v0, As⟩
  · cases hrc
  cases v0 <;> try cases hrc
  rename_i a0
  refine sk_called hL hg h1 h2 h3 h4 (va_runIN (As := As.map (sk_tr b H0.size)) (b := sk_am b H0.size a0) (rest := rest.map (sk_tr b H0.size)) ⟨hx, hb, hml, hown, hts⟩ hM ⟨va_cnB n hts (sk_words hy) rfl rfl rfl (hT0.2.1 _ hlk.1) (hts _ hy.2.1) hy.2.2.1 ⟨hRm.1, ?_⟩, hlk.2.2, hts _ hlk.2.1⟩ ⟨sk_Pc_blind hn hsx, hpre⟩ rfl ?_ h4.1 ?_ (lv_room (sk_cats hcat)) hd ⟨?_, ?_⟩) kk T hT X'
  · have := hRm.2.1; have := hy.2.2.2; show 8 + (maxL + 11) + 80 * d ≤ R.locals; omega
  · rw [List.length_map]; simp at hu1; omega
  · simp [sk_tr]
  · have := hRm.2.2.1; omega
  · have := hRm.2.2.2; omega
end
section
/-! ===== one instruction ===== -/
theorem sk_ldcwf {p : Program} {l : Launch} {e : Env} {R : Room} {s : State} {m : MethodId} {args : Array Value} {below : List Frame} {meth : Method} {c : Code} {H : Heap} {locs : List Loc} {cells slots : Nat} {Q : State → Prop} {cc : ByteArray} {pc : Nat} {ls : Array Slot} {rest : List Value} (hexec : p.tables.exec = Jvm.exec) (hb : c.code = cc) {own : String} {index : Nat} {v : UInt32} (hown : s.vm.findClass own = some m.cls) (hconst : (Jvm.Cond.constantFloat own index v).before args s = true) (hdg : decode cc pc = .ok (.ldc_w index, 3)) (k : W p l e R s m args below meth c H locs cells slots Q (F0 m (pc + 3) ls (.float v :: rest))) : W p l e R s m args below meth c H locs cells slots Q (F0 m pc ls rest) := by
  intro T hT X
  obtain ⟨t, a, b⟩ := k T hT X
  refine ⟨t, ?_, b⟩
  obtain ⟨k, cf, hk, hcf, hcp⟩ := Cond.constantFloat_spec hown hconst
  obtain ⟨k', hk', he⟩ := X.warmed.alike.2.2 _ _ hk
  have hdg' : decode c.code (F0 m pc ls rest).pc = .ok (.ldc_w index, 3) := by rw [hb]; exact hdg
  jvm_step X.here [hexec, hdg', ldc_w.wp_float (s := T) (f := F0 m pc ls rest) X.here.top hk' (by rw [he]; exact hcf) hcp]
  exact a
def sk_tagN : Nat → String
  | 0 => RX3
  | 1 => RX5
  | _ => RX7
theorem sk_tag {cA : Nat → ClassId} {t0 : Nat} (h : t0 < 3) : (sk_tys cA)[t0]? = some (cA t0, .object (sk_tagN t0)) := by
  rcases (show t0 = 0 ∨ t0 = 1 ∨ t0 = 2 by omega) with rfl | rfl | rfl <;> rfl
abbrev sk_I : Type := MethodName × ByteArray × Nat × Option FieldType
def sk_bits : MethodName := ⟨"java/lang/Float", "floatToRawIntBits", "(F)I"⟩
/-- how many bytes an instruction takes (a switch: z says it) -/
def sk_ilen : Instr → Nat → Nat
  | .bipush _, _ | .ldc _, _ | .iload _, _ | .fload _, _ | .aload _, _ | .istore _, _ | .fstore _, _ | .astore _, _ | .newarray _, _ => 2
  | .sipush _, _ | .ldc_w _, _ | .iinc _ _, _ | .goto _, _ | .ifCond _ _, _ | .if_icmp _ _, _ | .getfield _, _ | .putfield _, _ | .new _, _ | .anewarray _, _ | .invokevirtual _, _ | .invokespecial _, _ | .invokestatic _, _ => 3
  | .multianewarray _ _, _ => 4
  | .tableswitch _ _ _ _, z => z
  | _, _ => 1
/-- what the tables must say of an instruction -/
def sk_okI (inf : Nat → sk_I) (nest : List Jvm.Cond) (own nm : String) (nL : Nat) (i : Instr) (x y z pc : Nat) : Prop := match i with
  | .istore_n n => n.val < nL
  | .fstore_n n => n.val < nL
  | .astore_n n => n.val < nL
  | .istore n => n < nL
  | .fstore n => n < nL
  | .astore n => n < nL
  | .iinc n _ => n < nL
  | .goto o => (pc : Int) + o = (x : Int)
  | .ifCond _ o => (pc : Int) + o = (x : Int)
  | .if_icmp _ o => (pc : Int) + o = (x : Int)
  | .tableswitch d lo hi offs => 0 ≤ (pc : Int) + d ∧ (∀ o ∈ offs.toList, 0 ≤ (pc : Int) + o) ∧ hi + 1 = lo + offs.size
  | .ldc idx => Jvm.Cond.constant own idx (Int32.ofNat x) ∈ sk_B
  | .ldc_w idx => if y = 0 then Jvm.Cond.constant own idx (Int32.ofNat x) ∈ sk_B else Jvm.Cond.constantFloat own idx (UInt32.ofNat x) ∈ sk_B
  | .getfield idx => sk_fieldOK own idx x y
  | .putfield idx => sk_putOK own nm idx x y z
  | .aastore => sk_cls y ∧ x < 3 ∧ sk_tagN x = (sk_q y).1
  | .new idx => sk_cls x ∧ Jvm.Cond.classLink own idx (sk_q x).1 ∈ sk_B
  | .newarray t => t = .int ∧ Jvm.Cond.arrayClass .int ∈ sk_B
  | .anewarray idx => x < 3 ∧ Jvm.Cond.classLink own idx (sk_tagN x) ∈ sk_B
  | .multianewarray idx dm => dm = 2 ∧ Jvm.Cond.classLink own idx "[[I" ∈ sk_B ∧ Jvm.Cond.arrayClass .int ∈ sk_B
  | .invokevirtual idx => sk_callee (inf x).1 (inf x).2.1 (inf x).2.2.1 (inf x).2.2.2 y ∧ (Jvm.Cond.methodLink own idx (inf x).1 ∈ sk_B ∧ Jvm.Cond.instanceMethod (inf x).1 ∈ sk_B ∧ Jvm.Cond.selects (inf x).1.cls (inf x).1 (inf x).1 ∈ sk_B) ∧ sk_cls (z / 4) ∧ (sk_q (z / 4)).1 = (inf x).1.cls
  | .invokespecial idx => if x = 0 then Jvm.Cond.methodLink own idx objectInit ∈ sk_B ∧ Jvm.Cond.instanceMethod objectInit ∈ sk_B ∧ Jvm.Cond.code objectInit ⟨#[0xb1]⟩ 1 none ∈ sk_B
      else sk_callee (inf x).1 (inf x).2.1 (inf x).2.2.1 (inf x).2.2.2 y ∧ (inf x).2.2.2 = none ∧ (inf x).1.name = "<init>" ∧ Jvm.Cond.instanceMethod (inf x).1 ∈ sk_B ∧ (Jvm.Cond.methodLink own idx (inf x).1 ∈ sk_B ∨ ∃ host : String, Jvm.Cond.methodLinkNest own idx (inf x).1 host ∈ nest)
  | .invokestatic idx => if x = 0 then (if y = 5 then Jvm.Cond.methodLink own idx arraycopyName ∈ sk_B ∧ Jvm.Cond.native arraycopyName ∈ sk_B ∧ Jvm.Cond.static arraycopyName ∈ sk_B ∧ Jvm.Cond.initialized "java/lang/System" ∈ sk_B
        else Jvm.Cond.methodLink own idx sk_bits ∈ sk_B ∧ Jvm.Cond.native sk_bits ∈ sk_B ∧ Jvm.Cond.static sk_bits ∈ sk_B ∧ Jvm.Cond.initialized "java/lang/Float" ∈ sk_B)
      else sk_callee (inf x).1 (inf x).2.1 (inf x).2.2.1 (inf x).2.2.2 y ∧ Jvm.Cond.static (inf x).1 ∈ sk_B ∧ (Jvm.Cond.methodLink own idx (inf x).1 ∈ sk_B ∨ ∃ host : String, Jvm.Cond.methodLinkNest own idx (inf x).1 host ∈ nest)
  | _ => True
/-- the callees at depth d, in the state s: their runs are contracts, and worlds grow -/
def sk_calOK (l : Launch) (nest : List Jvm.Cond) (Sx : State → Prop) (D : va_G) (cA : Nat → ClassId) (b : Nat) (X : Nat × (Nat → Int32)) (H0 : Heap) (inf : Nat → sk_I) (d : Nat) (cal : Nat → List Value → sk_W → Option sk_R) : Prop :=
  ∀ (mi : Nat) (as : List Value) (w : sk_W) (r : sk_R), cal mi as w = some r → sk_Met l nest Sx D cA b X H0 (inf mi).1 (inf mi).2.1 (inf mi).2.2.1 (inf mi).2.2.2 d as w r.1 r.2 ∧ w.length ≤ r.2.length ∧ sk_sz w ≤ sk_sz r.2
theorem sk_push_spec {z : Nat} {o : Option sk_R} {k : List Value → sk_W → Option sk_R} {r : sk_R} (h : sk_push z o k = some r) : ∃ (v : Option Value) (w1 : sk_W), o = some (v, w1) ∧ k v.toList w1 = some r := by
  unfold sk_push at h
  rcases o with _ | ⟨_ | v, w⟩
  · split at h <;> cases h
  · split at h
    · exact ⟨none, w, rfl, h⟩
    · cases h
    · cases h
  · cases v <;> split at h <;> first | (cases h; done) | exact ⟨some _, w, rfl, h⟩
theorem sk_sw_spec {v : Int32} {pc d : Int} {k : Nat → Option sk_R} {r : sk_R} : ∀ (os : List Int) (lo : Int), sk_sw v pc d k lo os = some r → (∃ (j : Nat) (o : Int), os[j]? = some o ∧ v.toInt = lo + j ∧ k (pc + o).toNat = some r) ∨ ((v.toInt < lo ∨ lo + os.length ≤ v.toInt) ∧ k (pc + d).toNat = some r)
  | [], lo, h => Or.inr ⟨by simp; omega, h⟩
  | o :: os, lo, h => by
    unfold sk_sw at h
    split at h
    · next hv => exact Or.inl ⟨0, o, rfl, by omega, h⟩
    · next hv =>
      rcases sk_sw_spec os (lo + 1) h with ⟨j, o', h1, h2, h3⟩ | ⟨h1, h2⟩
      · exact Or.inl ⟨j + 1, o', h1, by omega, h3⟩
      · exact Or.inr ⟨by simp; omega, h2⟩
theorem sk_up_ok {b n0 nL k : Nat} {ls : sk_L} {v : Value} (h3 : sk_lok nL ls) (hv : v.category = 1) {ls' : Array Slot} (h' : lv_has ls' nL ((k, sk_tr b n0 v) :: (sk_lv b n0 0 ls).filter (fun q => !(q.1 == k) && !(q.1 + 1 == k && q.2.category == 2)))) : sk_lok nL (sk_up ls k v) ∧ lv_has ls' nL (sk_lv b n0 0 (sk_up ls k v)) := ⟨h3.up k hv, sk_lv_up h3 h'⟩
set_option maxHeartbeats 8000000 in
theorem sk_snd {p : Program} {l : Launch} {e : Env} {R : Room} {s : State} {m : MethodId} {args : Array Value} {below : List Frame} {meth : Method} {c : Code} {Q : State → Prop} {nest : List Jvm.Cond} {Sx : State → Prop} {D : va_G} {cA : Nat → ClassId} {b : Nat} {X : Nat × (Nat → Int32)} {H0 : Heap} {w0 : sk_W} {own nm : String} {cc : ByteArray} {nL : Nat} (hC : sk_Cx nest Sx D cA b X H0 w0 own nm cc nL p s m args meth c) (hn : sk_nestOK nest) (hsx : sk_SxOK Sx)
    {inf : Nat → sk_I} {d : Nat} {cal : Nat → List Value → sk_W → Option sk_R} (hcal : sk_calOK l nest Sx D cA b X H0 inf d cal) {rz : Bool} {i : Instr} {x y z pc : Nat} {ls : sk_L} {st : List Value} {w : sk_W} {k : sk_K} {r : sk_R}
    (hd : decode cc pc = .ok (i, sk_ilen i z)) (hO : sk_okI inf nest own nm nL i x y z pc) (h : sk_step cal sk_fields rz i x y z pc ls st w k = some r)
    (hgr : ∀ (pc' : Nat) (ls' : sk_L) (st' : List Value) (w1 : sk_W), k pc' ls' st' w1 = some r → w1.length ≤ r.2.length ∧ sk_sz w1 ≤ sk_sz r.2)
    (hRm : d + 1 ≤ R.frames ∧ 80 * (d + 1) ≤ R.locals ∧ r.2.length - w0.length ≤ R.cells ∧ sk_sz r.2 - sk_sz w0 ≤ R.slots)
    (hmul : ∀ (idx : Nat) (n j : Int32) (st : List Value), i = .multianewarray idx 2 → ¬ n < 0 ∧ ¬ j < 0 ∧ n.toNatClampNeg ≤ 1000 ∧ j.toNatClampNeg ≤ 100000 → Jvm.Cond.classLink own idx "[[I" ∈ sk_B → Jvm.Cond.arrayClass .int ∈ sk_B →
      w.length + (1 + n.toNatClampNeg) - w0.length ≤ R.cells ∧ sk_sz w + (n.toNatClampNeg + n.toNatClampNeg * j.toNatClampNeg) - sk_sz w0 ≤ R.slots →
      sk_Good p l e R s m args below meth c Q D cA b X H0 w0 nL (pc + 4) ls (.ref w.length :: st) (w ++ .inr (.inl (3, n.toNatClampNeg, fun q => if q < n.toNatClampNeg then some (w.length + 1 + q) else none)) :: List.replicate n.toNatClampNeg (.inl (j.toNatClampNeg, fun _ => 0))) → sk_Good p l e R s m args below meth c Q D cA b X H0 w0 nL pc ls (.int j :: .int n :: st) w)
    (hir : ∀ v : Int32, i = .ireturn → r = (some (.int v), w) → (rz = true → v = 0 ∨ v = 1) → sk_Good p l e R s m args below meth c Q D cA b X H0 w0 nL pc ls [.int v] w) (hfr : ∀ v : UInt32, i = .freturn → r = (some (.float v), w) → sk_Good p l e R s m args below meth c Q D cA b X H0 w0 nL pc ls [.float v] w) (hvr : i = .return_ → r = (none, w) → sk_Good p l e R s m args below meth c Q D cA b X H0 w0 nL pc ls [] w)
    (hk : ∀ (pc' : Nat) (ls' : sk_L) (st' : List Value) (w1 : sk_W), k pc' ls' st' w1 = some r → sk_Good p l e R s m args below meth c Q D cA b X H0 w0 nL pc' ls' st' w1) : sk_Good p l e R s m args below meth c Q D cA b X H0 w0 nL pc ls st w := by
  have hC0 := hC
  obtain ⟨⟨hx, hb, hml, hown, hts⟩, ⟨hK, hN, hAO, hX, hbl, hSx⟩, hsz, hnm⟩ := hC
  cases i
  case iconst n =>
    intro H locs lsA hR hL h1 h2 h3 h4
    exact lv_iconst hx hb hd rfl (hk _ _ _ _ h H locs lsA hR hL h1 h2 h3 h4)
  case bipush n =>
    intro H locs lsA hR hL h1 h2 h3 h4
    exact lv_bipush hx hb hd rfl (hk _ _ _ _ h H locs lsA hR hL h1 h2 h3 h4)
  case sipush n =>
    intro H locs lsA hR hL h1 h2 h3 h4
    exact lv_sipush hx hb hd rfl (hk _ _ _ _ h H locs lsA hR hL h1 h2 h3 h4)
  case ldc idx =>
    intro H locs lsA hR hL h1 h2 h3 h4
    exact lv_ldc hx hb hown (hts _ hO) hd (hk _ _ _ _ h H locs lsA hR hL h1 h2 h3 h4)
  case ldc_w idx =>
    unfold sk_step at h
    dsimp only at h
    unfold sk_okI at hO
    dsimp only at hO
    split at h
    · next hy =>
      rw [if_pos hy] at hO
      intro H locs lsA hR hL h1 h2 h3 h4
      exact lv_ldcw hx hb hown (hts _ hO) hd (hk _ _ _ _ h H locs lsA hR hL h1 h2 h3 h4)
    · next hy =>
      rw [if_neg hy] at hO
      intro H locs lsA hR hL h1 h2 h3 h4
      exact sk_ldcwf hx hb hown (hts _ hO) hd (hk _ _ _ _ h H locs lsA hR hL h1 h2 h3 h4)
  case fconst n =>
    intro H locs lsA hR hL h1 h2 h3 h4
    have h : k (pc + 1) ls (.float (if n = 0 then FP.fconst0 else if n = 1 then FP.fconst1 else FP.fconst2) :: st) w = some r := h
    rcases (show n = 0 ∨ n = 1 ∨ n = 2 by omega) with rfl | rfl | rfl
    · exact lv_fconst0 hx hb hd (hk _ _ _ _ h H locs lsA hR hL h1 h2 h3 h4)
    · exact lv_fconst1 hx hb hd (hk _ _ _ _ h H locs lsA hR hL h1 h2 h3 h4)
    · exact lv_fconst2 hx hb hd (hk _ _ _ _ h H locs lsA hR hL h1 h2 h3 h4)
  case iload_n n =>
    unfold sk_step at h
    dsimp only at h
    split at h
    · next v hv =>
      intro H locs lsA hR hL h1 h2 h3 h4
      exact lv_iload_n hx hb hd rfl (sk_lv_at h4 hv) (hk _ _ _ _ h H locs lsA hR hL h1 h2 h3 h4)
    · cases h
  case iload n =>
    unfold sk_step at h
    dsimp only at h
    split at h
    · next v hv =>
      intro H locs lsA hR hL h1 h2 h3 h4
      exact lv_iload hx hb hd (sk_lv_at h4 hv) (hk _ _ _ _ h H locs lsA hR hL h1 h2 h3 h4)
    · cases h
  case istore_n n =>
    unfold sk_step at h
    dsimp only at h
    split at h
    · next v st' =>
      intro H locs lsA hR hL h1 h2 h3 h4
      exact lv_istore_n hx hb hd rfl h4 hO rfl (fun ls' h' => hk _ _ _ _ h H locs ls' hR hL h1 h2 (sk_up_ok h3 rfl h').1 (sk_up_ok (v := .int v) h3 rfl h').2)
    · cases h
  case istore n =>
    unfold sk_step at h
    dsimp only at h
    split at h
    · next v st' =>
      intro H locs lsA hR hL h1 h2 h3 h4
      exact lv_istore hx hb hd h4 hO rfl (fun ls' h' => hk _ _ _ _ h H locs ls' hR hL h1 h2 (sk_up_ok h3 rfl h').1 (sk_up_ok (v := .int v) h3 rfl h').2)
    · cases h
  case fload_n n =>
    unfold sk_step at h
    dsimp only at h
    split at h
    · next v hv =>
      intro H locs lsA hR hL h1 h2 h3 h4
      exact lv_fload_n hx hb hd rfl (sk_lv_at h4 hv) (hk _ _ _ _ h H locs lsA hR hL h1 h2 h3 h4)
    · cases h
  case fload n =>
    unfold sk_step at h
    dsimp only at h
    split at h
    · next v hv =>
      intro H locs lsA hR hL h1 h2 h3 h4
      exact lv_fload hx hb hd (sk_lv_at h4 hv) (hk _ _ _ _ h H locs lsA hR hL h1 h2 h3 h4)
    · cases h
  case fstore_n n =>
    unfold sk_step at h
    dsimp only at h
    split at h
    · next v st' =>
      intro H locs lsA hR hL h1 h2 h3 h4
      exact lv_fstore_n hx hb hd rfl h4 hO rfl (fun ls' h' => hk _ _ _ _ h H locs ls' hR hL h1 h2 (sk_up_ok h3 rfl h').1 (sk_up_ok (v := .float v) h3 rfl h').2)
    · cases h
  case fstore n =>
    unfold sk_step at h
    dsimp only at h
    split at h
    · next v st' =>
      intro H locs lsA hR hL h1 h2 h3 h4
      exact lv_fstore hx hb hd h4 hO rfl (fun ls' h' => hk _ _ _ _ h H locs ls' hR hL h1 h2 (sk_up_ok h3 rfl h').1 (sk_up_ok (v := .float v) h3 rfl h').2)
    · cases h
  case aload_n n =>
    unfold sk_step at h
    dsimp only at h
    split at h
    · next v hv =>
      intro H locs lsA hR hL h1 h2 h3 h4
      exact lv_aload_n hx hb hd rfl (sk_lv_at h4 hv) (hk _ _ _ _ h H locs lsA hR hL h1 h2 h3 h4)
    · cases h
  case aload n =>
    unfold sk_step at h
    dsimp only at h
    split at h
    · next v hv =>
      intro H locs lsA hR hL h1 h2 h3 h4
      exact lv_aload hx hb hd (sk_lv_at h4 hv) (hk _ _ _ _ h H locs lsA hR hL h1 h2 h3 h4)
    · cases h
  case astore_n n =>
    unfold sk_step at h
    dsimp only at h
    split at h
    · next v st' =>
      intro H locs lsA hR hL h1 h2 h3 h4
      exact lv_astore_n hx hb hd rfl h4 hO rfl (fun ls' h' => hk _ _ _ _ h H locs ls' hR hL h1 h2 (sk_up_ok h3 rfl h').1 (sk_up_ok (v := .ref v) h3 rfl h').2)
    · cases h
  case astore n =>
    unfold sk_step at h
    dsimp only at h
    split at h
    · next v st' =>
      intro H locs lsA hR hL h1 h2 h3 h4
      exact lv_astore hx hb hd h4 hO rfl (fun ls' h' => hk _ _ _ _ h H locs ls' hR hL h1 h2 (sk_up_ok h3 rfl h').1 (sk_up_ok (v := .ref v) h3 rfl h').2)
    · cases h
  case iinc n cst =>
    unfold sk_step at h
    dsimp only at h
    split at h
    · next v hv =>
      intro H locs lsA hR hL h1 h2 h3 h4
      obtain ⟨q, hq⟩ := List.getElem?_of_mem (sk_lv_mem.mpr ⟨n, .int v, (sk_at_get _ _ _).mp hv, rfl⟩ : (0 + n, sk_tr b H0.size (.int v)) ∈ sk_lv b H0.size 0 ls)
      rw [Nat.zero_add] at hq
      exact lv_iinc hx hb hd h4 hq rfl hO rfl (fun ls' h' => hk _ _ _ _ h H locs ls' hR hL h1 h2 (sk_up_ok h3 rfl h').1 (sk_up_ok (v := .int _) h3 rfl h').2)
    · cases h
  case iadd =>
    unfold sk_step at h
    dsimp only at h
    split at h
    · next u v st' =>
      intro H locs lsA hR hL h1 h2 h3 h4
      exact lv_iadd hx hb hd (hk _ _ _ _ h H locs lsA hR hL h1 h2 h3 h4)
    · cases h
  case isub =>
    unfold sk_step at h
    dsimp only at h
    split at h
    · next u v st' =>
      intro H locs lsA hR hL h1 h2 h3 h4
      exact lv_isub hx hb hd (hk _ _ _ _ h H locs lsA hR hL h1 h2 h3 h4)
    · cases h
  case imul =>
    unfold sk_step at h
    dsimp only at h
    split at h
    · next u v st' =>
      intro H locs lsA hR hL h1 h2 h3 h4
      exact lv_imul hx hb hd (hk _ _ _ _ h H locs lsA hR hL h1 h2 h3 h4)
    · cases h
  case iand =>
    unfold sk_step at h
    dsimp only at h
    split at h
    · next u v st' =>
      intro H locs lsA hR hL h1 h2 h3 h4
      exact lv_iand hx hb hd (hk _ _ _ _ h H locs lsA hR hL h1 h2 h3 h4)
    · cases h
  case ior =>
    unfold sk_step at h
    dsimp only at h
    split at h
    · next u v st' =>
      intro H locs lsA hR hL h1 h2 h3 h4
      exact lv_ior hx hb hd (hk _ _ _ _ h H locs lsA hR hL h1 h2 h3 h4)
    · cases h
  case ishl =>
    unfold sk_step at h
    dsimp only at h
    split at h
    · next u v st' =>
      intro H locs lsA hR hL h1 h2 h3 h4
      exact lv_ishl hx hb hd (hk _ _ _ _ h H locs lsA hR hL h1 h2 h3 h4)
    · cases h
  case ineg =>
    unfold sk_step at h
    dsimp only at h
    split at h
    · next u st' =>
      intro H locs lsA hR hL h1 h2 h3 h4
      exact lv_ineg hx hb hd (hk _ _ _ _ h H locs lsA hR hL h1 h2 h3 h4)
    · cases h
  case i2f =>
    unfold sk_step at h
    dsimp only at h
    split at h
    · next u st' =>
      intro H locs lsA hR hL h1 h2 h3 h4
      exact lv_i2f hx hb hd (hk _ _ _ _ h H locs lsA hR hL h1 h2 h3 h4)
    · cases h
  case f2i =>
    unfold sk_step at h
    dsimp only at h
    split at h
    · next u st' =>
      intro H locs lsA hR hL h1 h2 h3 h4
      exact lv_f2i hx hb hd (hk _ _ _ _ h H locs lsA hR hL h1 h2 h3 h4)
    · cases h
  case iushr =>
    unfold sk_step at h
    dsimp only at h
    split at h
    · next u v st' =>
      intro H locs lsA hR hL h1 h2 h3 h4
      exact lv_iushr hx hb hd rfl (hk _ _ _ _ h H locs lsA hR hL h1 h2 h3 h4)
    · cases h
  case i2s =>
    unfold sk_step at h
    dsimp only at h
    split at h
    · next u st' =>
      intro H locs lsA hR hL h1 h2 h3 h4
      exact lv_i2s hx hb hd rfl (hk _ _ _ _ h H locs lsA hR hL h1 h2 h3 h4)
    · cases h
  case fcmp op =>
    unfold sk_step at h
    dsimp only at h
    split at h
    · next u v st' =>
      intro H locs lsA hR hL h1 h2 h3 h4
      exact lv_fcmp hx hb hd (hk _ _ _ _ h H locs lsA hR hL h1 h2 h3 h4)
    · cases h
  case idiv =>
    unfold sk_step at h
    dsimp only at h
    split at h
    · next u v st' =>
      split at h
      · cases h
      · next hq =>
        intro H locs lsA hR hL h1 h2 h3 h4
        exact lv_idiv hx hb hd hq (hk _ _ _ _ h H locs lsA hR hL h1 h2 h3 h4)
    · cases h
  case irem =>
    unfold sk_step at h
    dsimp only at h
    split at h
    · next u v st' =>
      split at h
      · cases h
      · next hq =>
        intro H locs lsA hR hL h1 h2 h3 h4
        exact lv_irem hx hb hd hq (hk _ _ _ _ h H locs lsA hR hL h1 h2 h3 h4)
    · cases h
  case fadd =>
    unfold sk_step at h
    dsimp only at h
    split at h
    · next u v st' =>
      split at h
      · next hq =>
        intro H locs lsA hR hL h1 h2 h3 h4
        exact lv_fadd hx hb hd hq (hk _ _ _ _ h H locs lsA hR hL h1 h2 h3 h4)
      · cases h
    · cases h
  case fsub =>
    unfold sk_step at h
    dsimp only at h
    split at h
    · next u v st' =>
      split at h
      · next hq =>
        intro H locs lsA hR hL h1 h2 h3 h4
        exact lv_fsub hx hb hd hq (hk _ _ _ _ h H locs lsA hR hL h1 h2 h3 h4)
      · cases h
    · cases h
  case fmul =>
    unfold sk_step at h
    dsimp only at h
    split at h
    · next u v st' =>
      split at h
      · next hq =>
        intro H locs lsA hR hL h1 h2 h3 h4
        exact lv_fmul hx hb hd hq (hk _ _ _ _ h H locs lsA hR hL h1 h2 h3 h4)
      · cases h
    · cases h
  case fdiv =>
    unfold sk_step at h
    dsimp only at h
    split at h
    · next u v st' =>
      split at h
      · next hq =>
        intro H locs lsA hR hL h1 h2 h3 h4
        exact lv_fdiv hx hb hd hq (hk _ _ _ _ h H locs lsA hR hL h1 h2 h3 h4)
      · cases h
    · cases h
  case dup =>
    unfold sk_step at h
    dsimp only at h
    split at h
    · next v st' =>
      intro H locs lsA hR hL h1 h2 h3 h4
      exact lv_dup hx hb hd rfl (hk _ _ _ _ h H locs lsA hR hL h1 h2 h3 h4)
    · next v st' =>
      intro H locs lsA hR hL h1 h2 h3 h4
      exact lv_dup hx hb hd rfl (hk _ _ _ _ h H locs lsA hR hL h1 h2 h3 h4)
    · cases h
  case dup2 =>
    unfold sk_step at h
    dsimp only at h
    split at h
    · next u v st' =>
      intro H locs lsA hR hL h1 h2 h3 h4
      exact lv_dup2_11 hx hb hd rfl rfl (hk _ _ _ _ h H locs lsA hR hL h1 h2 h3 h4)
    · cases h
  case pop =>
    unfold sk_step at h
    dsimp only at h
    split at h
    · next v st' =>
      intro H locs lsA hR hL h1 h2 h3 h4
      exact lv_pop hx hb hd rfl (hk _ _ _ _ h H locs lsA hR hL h1 h2 h3 h4)
    · cases h
  case goto o =>
    intro H locs lsA hR hL h1 h2 h3 h4
    exact lv_goto hx hb hd hO (hk _ _ _ _ h H locs lsA hR hL h1 h2 h3 h4)
  case ifCond cnd o =>
    unfold sk_step at h
    dsimp only at h
    split at h
    · next v st' =>
      intro H locs lsA hR hL h1 h2 h3 h4
      cases cnd
      case eq =>
        refine lv_if_eq hx hb hd hO (fun hc => ?_) (fun hc => ?_)
        · rw [if_pos (by simpa [sk_cond] using hc)] at h
          exact hk _ _ _ _ h H locs lsA hR hL h1 h2 h3 h4
        · rw [if_neg (by simpa [sk_cond] using hc)] at h
          exact hk _ _ _ _ h H locs lsA hR hL h1 h2 h3 h4
      case ne =>
        refine lv_if_ne hx hb hd hO (fun hc => ?_) (fun hc => ?_)
        · rw [if_pos (by simpa [sk_cond] using hc)] at h
          exact hk _ _ _ _ h H locs lsA hR hL h1 h2 h3 h4
        · rw [if_neg (by simpa [sk_cond] using hc)] at h
          exact hk _ _ _ _ h H locs lsA hR hL h1 h2 h3 h4
      case lt =>
        refine lv_if_lt hx hb hd hO (fun hc => ?_) (fun hc => ?_)
        · rw [if_pos (by simpa [sk_cond] using hc)] at h
          exact hk _ _ _ _ h H locs lsA hR hL h1 h2 h3 h4
        · rw [if_neg (by simpa [sk_cond] using hc)] at h
          exact hk _ _ _ _ h H locs lsA hR hL h1 h2 h3 h4
      case ge =>
        refine lv_if_ge hx hb hd hO (fun hc => ?_) (fun hc => ?_)
        · rw [if_pos (by simpa [sk_cond] using hc)] at h
          exact hk _ _ _ _ h H locs lsA hR hL h1 h2 h3 h4
        · rw [if_neg (by simpa [sk_cond] using hc)] at h
          exact hk _ _ _ _ h H locs lsA hR hL h1 h2 h3 h4
      case gt =>
        refine lv_if_gt hx hb hd hO (fun hc => ?_) (fun hc => ?_)
        · rw [if_pos (by simpa [sk_cond] using hc)] at h
          exact hk _ _ _ _ h H locs lsA hR hL h1 h2 h3 h4
        · rw [if_neg (by simpa [sk_cond] using hc)] at h
          exact hk _ _ _ _ h H locs lsA hR hL h1 h2 h3 h4
      case le =>
        refine lv_if_le hx hb hd hO (fun hc => ?_) (fun hc => ?_)
        · rw [if_pos (by simpa [sk_cond] using hc)] at h
          exact hk _ _ _ _ h H locs lsA hR hL h1 h2 h3 h4
        · rw [if_neg (by simpa [sk_cond] using hc)] at h
          exact hk _ _ _ _ h H locs lsA hR hL h1 h2 h3 h4
    · cases h
  case if_icmp cnd o =>
    unfold sk_step at h
    dsimp only at h
    split at h
    · next u v st' =>
      intro H locs lsA hR hL h1 h2 h3 h4
      cases cnd
      case eq =>
        refine lv_icmp_eq hx hb hd hO (fun hc => ?_) (fun hc => ?_)
        · rw [if_pos (by simpa [sk_cond] using hc)] at h
          exact hk _ _ _ _ h H locs lsA hR hL h1 h2 h3 h4
        · rw [if_neg (by simpa [sk_cond] using hc)] at h
          exact hk _ _ _ _ h H locs lsA hR hL h1 h2 h3 h4
      case ne =>
        refine lv_icmp_ne hx hb hd hO (fun hc => ?_) (fun hc => ?_)
        · rw [if_pos (by simpa [sk_cond] using hc)] at h
          exact hk _ _ _ _ h H locs lsA hR hL h1 h2 h3 h4
        · rw [if_neg (by simpa [sk_cond] using hc)] at h
          exact hk _ _ _ _ h H locs lsA hR hL h1 h2 h3 h4
      case lt =>
        refine lv_icmp_lt hx hb hd hO (fun hc => ?_) (fun hc => ?_)
        · rw [if_pos (by simpa [sk_cond] using hc)] at h
          exact hk _ _ _ _ h H locs lsA hR hL h1 h2 h3 h4
        · rw [if_neg (by simpa [sk_cond] using hc)] at h
          exact hk _ _ _ _ h H locs lsA hR hL h1 h2 h3 h4
      case ge =>
        refine lv_icmp_ge hx hb hd hO (fun hc => ?_) (fun hc => ?_)
        · rw [if_pos (by simpa [sk_cond] using hc)] at h
          exact hk _ _ _ _ h H locs lsA hR hL h1 h2 h3 h4
        · rw [if_neg (by simpa [sk_cond] using hc)] at h
          exact hk _ _ _ _ h H locs lsA hR hL h1 h2 h3 h4
      case gt =>
        refine lv_icmp_gt hx hb hd hO (fun hc => ?_) (fun hc => ?_)
        · rw [if_pos (by simpa [sk_cond] using hc)] at h
          exact hk _ _ _ _ h H locs lsA hR hL h1 h2 h3 h4
        · rw [if_neg (by simpa [sk_cond] using hc)] at h
          exact hk _ _ _ _ h H locs lsA hR hL h1 h2 h3 h4
      case le =>
        refine lv_icmp_le hx hb hd hO (fun hc => ?_) (fun hc => ?_)
        · rw [if_pos (by simpa [sk_cond] using hc)] at h
          exact hk _ _ _ _ h H locs lsA hR hL h1 h2 h3 h4
        · rw [if_neg (by simpa [sk_cond] using hc)] at h
          exact hk _ _ _ _ h H locs lsA hR hL h1 h2 h3 h4
    · cases h
  case tableswitch dd lo hi offs =>
    unfold sk_step at h
    dsimp only at h
    unfold sk_okI at hO
    dsimp only at hO
    obtain ⟨o1, o2, o3⟩ := hO
    split at h
    · next v st' =>
      rcases sk_sw_spec _ _ h with ⟨j, o, g1, g2, g3⟩ | ⟨g1, g2⟩
      · intro H locs lsA hR hL h1 h2 h3 h4
        have hj : offs[j]? = some o := by rw [← Array.getElem?_toList]; exact g1
        have hjl : j < offs.size := (Array.getElem?_eq_some_iff.mp hj).1
        have ho := o2 o (List.mem_of_getElem? g1)
        exact lv_tableIn hx hb hd (off := o) (tgt := ((pc : Int) + o).toNat) (by omega) (by omega) (by rw [show (v.toInt - lo).toNat = j by omega]; exact hj) (by omega) (hk _ _ _ _ g3 H locs lsA hR hL h1 h2 h3 h4)
      · intro H locs lsA hR hL h1 h2 h3 h4
        rw [Array.length_toList] at g1
        exact lv_tableOut hx hb hd (tgt := ((pc : Int) + dd).toNat) (by omega) (by omega) (hk _ _ _ _ g2 H locs lsA hR hL h1 h2 h3 h4)
    · cases h
  case getfield idx =>
    unfold sk_step at h
    dsimp only at h
    split at h
    · next v st' =>
      split at h
      · obtain ⟨q, hq, h⟩ := Option.bind_eq_some_iff.mp h
        exact sk_s_getr hC0 hd hO hq (hk _ _ _ _ h)
      · obtain ⟨q, hq, h⟩ := Option.bind_eq_some_iff.mp h
        exact sk_s_geti hC0 hd hO hq (hk _ _ _ _ h)
    · cases h
  case putfield idx =>
    unfold sk_step at h
    dsimp only at h
    split at h
    · next v u st' =>
      split at h
      · next hz =>
        subst hz
        obtain ⟨q, hq, h⟩ := Option.bind_eq_some_iff.mp h
        exact sk_s_put0 hC0 hd hO hq (hk _ _ _ _ h)
      · split at h
        · next hz =>
          subst hz
          split at h
          · next hv =>
            obtain ⟨q, hq, h⟩ := Option.bind_eq_some_iff.mp h
            exact sk_s_put2 hC0 hd hO hv hq (hk _ _ _ _ h)
          · cases h
        · cases h
    · next v u st' =>
      split at h
      · next hz =>
        subst hz
        obtain ⟨q, hq, h⟩ := Option.bind_eq_some_iff.mp h
        exact sk_s_put3 hC0 hd hO hq (hk _ _ _ _ h)
      · cases h
    · cases h
  case iaload =>
    unfold sk_step at h
    dsimp only at h
    split at h
    · next j v st' =>
      obtain ⟨q, hq, h⟩ := Option.bind_eq_some_iff.mp h
      exact sk_s_ald hC0 hd hq (hk _ _ _ _ h)
    · cases h
  case iastore =>
    unfold sk_step at h
    dsimp only at h
    split at h
    · next u j v st' =>
      obtain ⟨q, hq, h⟩ := Option.bind_eq_some_iff.mp h
      exact sk_s_ast hC0 hd hq (hk _ _ _ _ h)
    · cases h
  case aaload =>
    unfold sk_step at h
    dsimp only at h
    split at h
    · next j v st' =>
      obtain ⟨q, hq, h⟩ := Option.bind_eq_some_iff.mp h
      exact sk_s_aldr hC0 hd hq (hk _ _ _ _ h)
    · cases h
  case arraylength =>
    unfold sk_step at h
    dsimp only at h
    split at h
    · next v st' =>
      obtain ⟨q, hq, h⟩ := Option.bind_eq_some_iff.mp h
      exact sk_s_len hC0 hd hq (hk _ _ _ _ h)
    · cases h
  case aastore =>
    unfold sk_step at h
    dsimp only at h
    split at h
    · next u j v st' =>
      obtain ⟨q, hq, h⟩ := Option.bind_eq_some_iff.mp h
      exact sk_s_astr hC0 hd hO.1 (by rw [← hO.2.2]; exact sk_tag hO.2.1) hq (hk _ _ _ _ h)
    · cases h
  case new idx =>
    have hg := hgr _ _ _ _ h
    rw [List.length_append, sk_sz_push] at hg
    have e1 : sk_sz [(.inr (.inr (x, sk_fields x)) : sk_C)] = (sk_q x).2.2 := by simp [sk_sz, sk_csz, sk_fields_len]
    rw [e1] at hg
    have e2 : [(.inr (.inr (x, sk_fields x)) : sk_C)].length = 1 := rfl
    rw [e2] at hg
    exact sk_s_new hC0 hd hO.1 hO.2 ⟨by omega, by omega⟩ (hk _ _ _ _ h)
  case newarray t =>
    unfold sk_step at h
    dsimp only at h
    obtain ⟨rfl, hac⟩ := hO
    split at h
    · next n st' =>
      split at h
      · next hq =>
        have hg := hgr _ _ _ _ h
        rw [List.length_append, sk_sz_push] at hg
        have e1 : sk_sz [(.inl (n.toNatClampNeg, fun _ => 0) : sk_C)] = n.toNatClampNeg := by simp [sk_sz, sk_csz]
        rw [e1] at hg
        have e2 : [(.inl (n.toNatClampNeg, fun _ => 0) : sk_C)].length = 1 := rfl
        rw [e2] at hg
        exact sk_s_newa hC0 hd hac hq ⟨by omega, by omega⟩ (hk _ _ _ _ h)
      · cases h
    · cases h
  case anewarray idx =>
    unfold sk_step at h
    dsimp only at h
    split at h
    · next n st' =>
      split at h
      · next hq =>
        have hg := hgr _ _ _ _ h
        rw [List.length_append, sk_sz_push] at hg
        have e1 : sk_sz [(.inr (.inl (x, n.toNatClampNeg, fun _ => none)) : sk_C)] = n.toNatClampNeg := by simp [sk_sz, sk_csz]
        rw [e1] at hg
        have e2 : [(.inr (.inl (x, n.toNatClampNeg, fun _ => none)) : sk_C)].length = 1 := rfl
        rw [e2] at hg
        exact sk_s_newr hC0 hd hO.2 hq ⟨hO.1, sk_tag hO.1⟩ ⟨by omega, by omega⟩ (hk _ _ _ _ h)
      · cases h
    · cases h
  case multianewarray idx dm =>
    unfold sk_step at h
    dsimp only at h
    obtain ⟨rfl, hlk, hac⟩ := hO
    split at h
    · next j n st' =>
      split at h
      · next hq =>
        have hg := hgr _ _ _ _ h
        rw [List.length_append, sk_sz_push] at hg
        have e1 : sk_sz (.inr (.inl (3, n.toNatClampNeg, fun q => if q < n.toNatClampNeg then some (w.length + 1 + q) else none)) :: List.replicate n.toNatClampNeg (.inl (j.toNatClampNeg, fun _ => 0)) : sk_W) = n.toNatClampNeg + n.toNatClampNeg * j.toNatClampNeg := by simp [sk_sz, sk_csz]
        rw [e1, List.length_cons, List.length_replicate] at hg
        exact hmul idx n j st' rfl hq hlk hac ⟨by omega, by omega⟩ (hk _ _ _ _ h)
      · cases h
    · cases h
  case invokevirtual idx =>
    unfold sk_step at h
    dsimp only at h
    obtain ⟨hy, hlk, hci⟩ := hO
    split at h
    · next as st' hpop =>
      split at h
      · next hrc =>
        obtain ⟨v, w1, hq, h⟩ := sk_push_spec h
        have hgq := hcal _ _ _ _ hq
        dsimp only at hgq
        have hg2 := hgr _ _ _ _ h
        exact sk_s_callV hC0 hn hsx hy hgq.1 hgq.2 ⟨hRm.1, hRm.2.1, by have := hg2.1; omega, by have := hg2.2; omega⟩ hd hlk hci hpop hrc (hk _ _ _ _ h)
      · cases h
    · cases h
  case invokespecial idx =>
    unfold sk_step at h
    dsimp only at h
    unfold sk_okI at hO
    dsimp only at hO
    split at h
    · next hx0 =>
      rw [if_pos hx0] at hO
      split at h
      · next v st' =>
        split at h
        case isFalse => cases h
        case isTrue hcat =>
        intro H locs lsA hR hL h1 h2 h3 h4
        exact W.objInit hx hb hown (hts _ hO.1) (hts _ hO.2.1) (hts _ hO.2.2) rfl (h4.1.trans hml.symm) rfl hd (by omega) (by have := sk_cats (b := b) (n0 := H0.size) hcat; show 2 * 0 + _ + 12 ≤ _; omega) (hk _ _ _ _ h H locs lsA hR hL h1 h2 h3 h4)
      · cases h
    · next hx0 =>
      rw [if_neg hx0] at hO
      obtain ⟨hy, hret, hnm1, hin1, hlk⟩ := hO
      split at h
      · next as st' hpop =>
        split at h
        · next hrc =>
          obtain ⟨v, w1, hq, h⟩ := sk_push_spec h
          have hgq := hcal _ _ _ _ hq
          dsimp only at hgq
          have hg2 := hgr _ _ _ _ h
          rw [hret] at hy hgq
          rcases hlk with hlk | ⟨host, hlk⟩
          · exact sk_s_callI hC0 hn hsx hy hgq.1 hgq.2 ⟨hRm.1, hRm.2.1, by have := hg2.1; omega, by have := hg2.2; omega⟩ hd ⟨hlk, hin1, hnm1⟩ hpop hrc (hk _ _ _ _ h)
          · exact sk_s_callIN hC0 hn hsx hy hgq.1 hgq.2 ⟨hRm.1, hRm.2.1, by have := hg2.1; omega, by have := hg2.2; omega⟩ hd ⟨hlk, hin1, hnm1⟩ hpop hrc (hk _ _ _ _ h)
        · cases h
      · cases h
  case invokestatic idx =>
    unfold sk_step at h
    dsimp only at h
    unfold sk_okI at hO
    dsimp only at hO
    split at h
    · next hx0 =>
      rw [if_pos hx0] at hO
      split at h
      · next hy5 =>
        rw [if_pos hy5] at hO
        split at h
        · next n dp a1 sp a0 st' =>
          split at h
          · next hcat =>
            obtain ⟨q, hq, h⟩ := Option.bind_eq_some_iff.mp h
            intro H locs lsA hR hL h1 h2 h3 h4
            exact sk_s_copy hC0 h3.1 hd hO.1 hO.2 hcat ⟨by omega, by omega⟩ hq (hk _ _ _ _ h) H locs lsA hR hL h1 h2 h3 h4
          · cases h
        · cases h
      · next hy5 =>
        rw [if_neg hy5] at hO
        split at h
        · next v st' =>
          split at h
          · next hcat =>
            intro H locs lsA hR hL h1 h2 h3 h4
            exact vn_f2i hx hb (by rw [hml]; exact h4.1.symm) hown (hts _ hO.1) (hts _ hO.2.1) (hts _ hO.2.2.1) (hts _ hO.2.2.2) (by omega) (by have := sk_cats (b := b) (n0 := H0.size) hcat; omega) hd (hk _ _ _ _ h H locs lsA hR hL h1 h2 h3 h4)
          · cases h
        · cases h
    · next hx0 =>
      rw [if_neg hx0] at hO
      obtain ⟨hy, hst, hlk⟩ := hO
      split at h
      · next as st' hpop =>
        obtain ⟨v, w1, hq, h⟩ := sk_push_spec h
        have hgq := hcal _ _ _ _ hq
        dsimp only at hgq
        have hg2 := hgr _ _ _ _ h
        rcases hlk with hlk | ⟨host, hlk⟩
        · exact sk_s_callS hC0 hn hsx (ci := 0) hy hgq.1 hgq.2 ⟨hRm.1, hRm.2.1, by have := hg2.1; omega, by have := hg2.2; omega⟩ hd ⟨hlk, hst⟩ hpop (hk _ _ _ _ h)
        · exact sk_s_callSN hC0 hn hsx (ci := 0) hy hgq.1 hgq.2 ⟨hRm.1, hRm.2.1, by have := hg2.1; omega, by have := hg2.2; omega⟩ hd ⟨hlk, hst⟩ hpop (hk _ _ _ _ h)
      · cases h
  case ireturn =>
    unfold sk_step at h
    dsimp only at h
    split at h
    · next v =>
      split at h
      · next hz =>
        split at h
        · next hv => exact hir v rfl (Option.some.inj h).symm (fun _ => hv)
        · cases h
      · next hz => exact hir v rfl (Option.some.inj h).symm (fun q => absurd q hz)
    · cases h
  case freturn =>
    unfold sk_step at h
    dsimp only at h
    split at h
    · next v => exact hfr v rfl (Option.some.inj h).symm
    · cases h
  case return_ =>
    unfold sk_step at h
    dsimp only at h
    split at h
    · exact hvr rfl (Option.some.inj h).symm
    · cases h
  all_goals exact absurd h (fun q => by cases q)
end
section
/-! ===== runs ===== -/
theorem sk_gr_set {w w1 : sk_W} {r : sk_R} {a : Nat} {c c' : sk_C} (hw : w[a]? = some c) (hc : sk_csz c' = sk_csz c) (he : w1 = w.set a c') (h : w1.length ≤ r.2.length ∧ sk_sz w1 ≤ sk_sz r.2) : w.length ≤ r.2.length ∧ sk_sz w ≤ sk_sz r.2 := by
  subst he
  rw [List.length_set, sk_sz_set hw hc] at h
  exact h
theorem sk_gr_push {w u : sk_W} {r : sk_R} (h : (w ++ u).length ≤ r.2.length ∧ sk_sz (w ++ u) ≤ sk_sz r.2) : w.length ≤ r.2.length ∧ sk_sz w ≤ sk_sz r.2 := by
  rw [List.length_append, sk_sz_push] at h
  omega
set_option maxHeartbeats 8000000 in
theorem sk_step_gr {cal : Nat → List Value → sk_W → Option sk_R} (hcg : ∀ (mi : Nat) (as : List Value) (w : sk_W) (r : sk_R), cal mi as w = some r → w.length ≤ r.2.length ∧ sk_sz w ≤ sk_sz r.2) {fields : Nat → List Value} {rz : Bool} {i : Instr} {x y z pc : Nat} {ls : sk_L} {st : List Value} {w : sk_W} {k : sk_K} {r : sk_R}
    (h : sk_step cal fields rz i x y z pc ls st w k = some r) (hk : ∀ (pc' : Nat) (ls' : sk_L) (st' : List Value) (w1 : sk_W), k pc' ls' st' w1 = some r → w1.length ≤ r.2.length ∧ sk_sz w1 ≤ sk_sz r.2) : w.length ≤ r.2.length ∧ sk_sz w ≤ sk_sz r.2 := by
  cases i
  case iconst n =>
    exact hk _ _ _ _ h
  case bipush n =>
    exact hk _ _ _ _ h
  case sipush n =>
    exact hk _ _ _ _ h
  case ldc n =>
    exact hk _ _ _ _ h
  case fconst n =>
    exact hk _ _ _ _ h
  case goto n =>
    exact hk _ _ _ _ h
  case ldc_w n =>
    unfold sk_step at h
    dsimp only at h
    repeat' split at h
    all_goals first | exact hk _ _ _ _ h | (cases h; done)
  case iload_n n =>
    unfold sk_step at h
    dsimp only at h
    repeat' split at h
    all_goals first | exact hk _ _ _ _ h | (cases h; done)
  case iload n =>
    unfold sk_step at h
    dsimp only at h
    repeat' split at h
    all_goals first | exact hk _ _ _ _ h | (cases h; done)
  case fload_n n =>
    unfold sk_step at h
    dsimp only at h
    repeat' split at h
    all_goals first | exact hk _ _ _ _ h | (cases h; done)
  case fload n =>
    unfold sk_step at h
    dsimp only at h
    repeat' split at h
    all_goals first | exact hk _ _ _ _ h | (cases h; done)
  case aload_n n =>
    unfold sk_step at h
    dsimp only at h
    repeat' split at h
    all_goals first | exact hk _ _ _ _ h | (cases h; done)
  case aload n =>
    unfold sk_step at h
    dsimp only at h
    repeat' split at h
    all_goals first | exact hk _ _ _ _ h | (cases h; done)
  case istore_n n =>
    unfold sk_step at h
    dsimp only at h
    repeat' split at h
    all_goals first | exact hk _ _ _ _ h | (cases h; done)
  case istore n =>
    unfold sk_step at h
    dsimp only at h
    repeat' split at h
    all_goals first | exact hk _ _ _ _ h | (cases h; done)
  case fstore_n n =>
    unfold sk_step at h
    dsimp only at h
    repeat' split at h
    all_goals first | exact hk _ _ _ _ h | (cases h; done)
  case fstore n =>
    unfold sk_step at h
    dsimp only at h
    repeat' split at h
    all_goals first | exact hk _ _ _ _ h | (cases h; done)
  case astore_n n =>
    unfold sk_step at h
    dsimp only at h
    repeat' split at h
    all_goals first | exact hk _ _ _ _ h | (cases h; done)
  case astore n =>
    unfold sk_step at h
    dsimp only at h
    repeat' split at h
    all_goals first | exact hk _ _ _ _ h | (cases h; done)
  case iinc n q =>
    unfold sk_step at h
    dsimp only at h
    repeat' split at h
    all_goals first | exact hk _ _ _ _ h | (cases h; done)
  case iadd =>
    unfold sk_step at h
    dsimp only at h
    repeat' split at h
    all_goals first | exact hk _ _ _ _ h | (cases h; done)
  case isub =>
    unfold sk_step at h
    dsimp only at h
    repeat' split at h
    all_goals first | exact hk _ _ _ _ h | (cases h; done)
  case imul =>
    unfold sk_step at h
    dsimp only at h
    repeat' split at h
    all_goals first | exact hk _ _ _ _ h | (cases h; done)
  case idiv =>
    unfold sk_step at h
    dsimp only at h
    repeat' split at h
    all_goals first | exact hk _ _ _ _ h | (cases h; done)
  case irem =>
    unfold sk_step at h
    dsimp only at h
    repeat' split at h
    all_goals first | exact hk _ _ _ _ h | (cases h; done)
  case ineg =>
    unfold sk_step at h
    dsimp only at h
    repeat' split at h
    all_goals first | exact hk _ _ _ _ h | (cases h; done)
  case iand =>
    unfold sk_step at h
    dsimp only at h
    repeat' split at h
    all_goals first | exact hk _ _ _ _ h | (cases h; done)
  case ior =>
    unfold sk_step at h
    dsimp only at h
    repeat' split at h
    all_goals first | exact hk _ _ _ _ h | (cases h; done)
  case ishl =>
    unfold sk_step at h
    dsimp only at h
    repeat' split at h
    all_goals first | exact hk _ _ _ _ h | (cases h; done)
  case iushr =>
    unfold sk_step at h
    dsimp only at h
    repeat' split at h
    all_goals first | exact hk _ _ _ _ h | (cases h; done)
  case i2s =>
    unfold sk_step at h
    dsimp only at h
    repeat' split at h
    all_goals first | exact hk _ _ _ _ h | (cases h; done)
  case i2f =>
    unfold sk_step at h
    dsimp only at h
    repeat' split at h
    all_goals first | exact hk _ _ _ _ h | (cases h; done)
  case f2i =>
    unfold sk_step at h
    dsimp only at h
    repeat' split at h
    all_goals first | exact hk _ _ _ _ h | (cases h; done)
  case fadd =>
    unfold sk_step at h
    dsimp only at h
    repeat' split at h
    all_goals first | exact hk _ _ _ _ h | (cases h; done)
  case fsub =>
    unfold sk_step at h
    dsimp only at h
    repeat' split at h
    all_goals first | exact hk _ _ _ _ h | (cases h; done)
  case fmul =>
    unfold sk_step at h
    dsimp only at h
    repeat' split at h
    all_goals first | exact hk _ _ _ _ h | (cases h; done)
  case fdiv =>
    unfold sk_step at h
    dsimp only at h
    repeat' split at h
    all_goals first | exact hk _ _ _ _ h | (cases h; done)
  case fcmp o =>
    unfold sk_step at h
    dsimp only at h
    repeat' split at h
    all_goals first | exact hk _ _ _ _ h | (cases h; done)
  case dup =>
    unfold sk_step at h
    dsimp only at h
    repeat' split at h
    all_goals first | exact hk _ _ _ _ h | (cases h; done)
  case dup2 =>
    unfold sk_step at h
    dsimp only at h
    repeat' split at h
    all_goals first | exact hk _ _ _ _ h | (cases h; done)
  case pop =>
    unfold sk_step at h
    dsimp only at h
    repeat' split at h
    all_goals first | exact hk _ _ _ _ h | (cases h; done)
  case ifCond q o =>
    unfold sk_step at h
    dsimp only at h
    repeat' split at h
    all_goals first | exact hk _ _ _ _ h | (cases h; done)
  case if_icmp q o =>
    unfold sk_step at h
    dsimp only at h
    repeat' split at h
    all_goals first | exact hk _ _ _ _ h | (cases h; done)
  case tableswitch dd lo hi offs =>
    unfold sk_step at h
    dsimp only at h
    split at h
    · rcases sk_sw_spec _ _ h with ⟨j, o, g1, g2, g3⟩ | ⟨g1, g2⟩
      · exact hk _ _ _ _ g3
      · exact hk _ _ _ _ g2
    · cases h
  case getfield n =>
    unfold sk_step at h
    dsimp only at h
    repeat' split at h
    all_goals first | (cases h; done) | (obtain ⟨q, hq, h⟩ := Option.bind_eq_some_iff.mp h; exact hk _ _ _ _ h)
  case iaload =>
    unfold sk_step at h
    dsimp only at h
    repeat' split at h
    all_goals first | (cases h; done) | (obtain ⟨q, hq, h⟩ := Option.bind_eq_some_iff.mp h; exact hk _ _ _ _ h)
  case aaload =>
    unfold sk_step at h
    dsimp only at h
    repeat' split at h
    all_goals first | (cases h; done) | (obtain ⟨q, hq, h⟩ := Option.bind_eq_some_iff.mp h; exact hk _ _ _ _ h)
  case arraylength =>
    unfold sk_step at h
    dsimp only at h
    repeat' split at h
    all_goals first | (cases h; done) | (obtain ⟨q, hq, h⟩ := Option.bind_eq_some_iff.mp h; exact hk _ _ _ _ h)
  case putfield n =>
    unfold sk_step at h
    dsimp only at h
    repeat' split at h
    all_goals first | (cases h; done) | (obtain ⟨q, hq, h⟩ := Option.bind_eq_some_iff.mp h; obtain ⟨fs, e1, e2, e3⟩ := sk_put_spec hq; exact sk_gr_set e1 (by simp [sk_csz]) e3 (hk _ _ _ _ h))
  case iastore =>
    unfold sk_step at h
    dsimp only at h
    split at h
    · obtain ⟨q, hq, h⟩ := Option.bind_eq_some_iff.mp h
      obtain ⟨a', n, f, e0, e1, e2, e3⟩ := sk_ast_spec hq
      exact sk_gr_set e1 (by rfl) e3 (hk _ _ _ _ h)
    · cases h
  case aastore =>
    unfold sk_step at h
    dsimp only at h
    split at h
    · obtain ⟨q, hq, h⟩ := Option.bind_eq_some_iff.mp h
      obtain ⟨n, f, fs, e1, e2, e3, e4⟩ := sk_astr_spec hq
      exact sk_gr_set e1 (by rfl) e4 (hk _ _ _ _ h)
    · cases h
  case new n =>
    exact sk_gr_push (hk _ _ _ _ h)
  case newarray n =>
    unfold sk_step at h
    dsimp only at h
    split at h
    · split at h
      · exact sk_gr_push (hk _ _ _ _ h)
      · cases h
    · cases h
  case anewarray n =>
    unfold sk_step at h
    dsimp only at h
    split at h
    · split at h
      · exact sk_gr_push (hk _ _ _ _ h)
      · cases h
    · cases h
  case multianewarray n q =>
    unfold sk_step at h
    dsimp only at h
    split at h
    · split at h
      · exact sk_gr_push (hk _ _ _ _ h)
      · cases h
    · cases h
  case invokevirtual n =>
    unfold sk_step at h
    dsimp only at h
    split at h
    · split at h
      · obtain ⟨v, w1, hq, h⟩ := sk_push_spec h
        have h1 := hcg _ _ _ _ hq
        have h2 := hk _ _ _ _ h
        dsimp only at h1
        omega
      · cases h
    · cases h
  case invokespecial n =>
    unfold sk_step at h
    dsimp only at h
    split at h
    · split at h
      · split at h
        · exact hk _ _ _ _ h
        · cases h
      · cases h
    · split at h
      · split at h
        · obtain ⟨v, w1, hq, h⟩ := sk_push_spec h
          have h1 := hcg _ _ _ _ hq
          have h2 := hk _ _ _ _ h
          dsimp only at h1
          omega
        · cases h
      · cases h
  case invokestatic n =>
    unfold sk_step at h
    dsimp only at h
    split at h
    · split at h
      · split at h
        · split at h
          · obtain ⟨q, hq, h⟩ := Option.bind_eq_some_iff.mp h
            obtain ⟨b0, b1, n0, n1, f, g, e8, e9, e1, e2, e3, e4⟩ := sk_copy_spec hq
            exact sk_gr_set e2 (by rfl) e4 (hk _ _ _ _ h)
          · cases h
        · cases h
      · split at h
        · split at h
          · exact hk _ _ _ _ h
          · cases h
        · cases h
    · split at h
      · obtain ⟨v, w1, hq, h⟩ := sk_push_spec h
        have h1 := hcg _ _ _ _ hq
        have h2 := hk _ _ _ _ h
        dsimp only at h1
        omega
      · cases h
  case ireturn =>
    unfold sk_step at h
    dsimp only at h
    repeat' split at h
    all_goals first | (cases h; done) | (cases h; exact ⟨Nat.le_refl _, Nat.le_refl _⟩)
  case freturn =>
    unfold sk_step at h
    dsimp only at h
    repeat' split at h
    all_goals first | (cases h; done) | (cases h; exact ⟨Nat.le_refl _, Nat.le_refl _⟩)
  case return_ =>
    unfold sk_step at h
    dsimp only at h
    repeat' split at h
    all_goals first | (cases h; done) | (cases h; exact ⟨Nat.le_refl _, Nat.le_refl _⟩)
  all_goals exact absurd h (fun q => by cases q)
theorem sk_run_gr {cal : Nat → List Value → sk_W → Option sk_R} (hcg : ∀ (mi : Nat) (as : List Value) (w : sk_W) (r : sk_R), cal mi as w = some r → w.length ≤ r.2.length ∧ sk_sz w ≤ sk_sz r.2) {fields : Nat → List Value} {rz : Bool} {tab : List sk_E} : ∀ (n pc : Nat) (ls : sk_L) (st : List Value) (w : sk_W) (r : sk_R), sk_run cal fields rz tab n pc ls st w = some r → w.length ≤ r.2.length ∧ sk_sz w ≤ sk_sz r.2 := by
  intro n
  induction n with
  | zero => intro pc ls st w r h; cases h
  | succ n ih =>
    intro pc ls st w r h
    rw [sk_run_one] at h
    unfold sk_one at h
    split at h
    · cases h
    · exact sk_step_gr hcg h (fun pc' ls' st' w1 h1 => ih pc' ls' st' w1 r h1)
/-- a table tells the method's code -/
def sk_tabOK (inf : Nat → sk_I) (nest : List Jvm.Cond) (own nm : String) (cc : ByteArray) (nL : Nat) (tab : List sk_E) : Prop := ∀ (pc : Nat) (i : Instr) (x y z : Nat), sk_find tab pc = some (i, x, y, z) → decode cc pc = .ok (i, sk_ilen i z) ∧ sk_okI inf nest own nm nL i x y z pc
/-- the rule of 'new int[n][m]' -/
def sk_multiOK (Sx : State → Prop) : Prop := ∀ {p : Program} {l : Launch} {e : Env} {R : Room} {s : State} {m : MethodId} {args : Array Value} {below : List Frame} {meth : Method} {c : Code} {Q : State → Prop} {nest : List Jvm.Cond} {D : va_G} {cA : Nat → ClassId} {b : Nat} {X : Nat × (Nat → Int32)} {H0 : Heap} {w0 : sk_W} {own nm : String} {cc : ByteArray} {nL : Nat}, sk_Cx nest Sx D cA b X H0 w0 own nm cc nL p s m args meth c →
  ∀ {pc : Nat} {ls : sk_L} {w : sk_W} (idx : Nat) (n j : Int32) (st : List Value), decode cc pc = .ok (.multianewarray idx 2, 4) → ¬ n < 0 ∧ ¬ j < 0 ∧ n.toNatClampNeg ≤ 1000 ∧ j.toNatClampNeg ≤ 100000 → Jvm.Cond.classLink own idx "[[I" ∈ sk_B → Jvm.Cond.arrayClass .int ∈ sk_B →
      w.length + (1 + n.toNatClampNeg) - w0.length ≤ R.cells ∧ sk_sz w + (n.toNatClampNeg + n.toNatClampNeg * j.toNatClampNeg) - sk_sz w0 ≤ R.slots →
      sk_Good p l e R s m args below meth c Q D cA b X H0 w0 nL (pc + 4) ls (.ref w.length :: st) (w ++ .inr (.inl (3, n.toNatClampNeg, fun q => if q < n.toNatClampNeg then some (w.length + 1 + q) else none)) :: List.replicate n.toNatClampNeg (.inl (j.toNatClampNeg, fun _ => 0))) → sk_Good p l e R s m args below meth c Q D cA b X H0 w0 nL pc ls (.int j :: .int n :: st) w
theorem sk_run_snd {p : Program} {l : Launch} {e : Env} {R : Room} {s : State} {m : MethodId} {args : Array Value} {below : List Frame} {meth : Method} {c : Code} {Q : State → Prop} {nest : List Jvm.Cond} {Sx : State → Prop} {D : va_G} {cA : Nat → ClassId} {b : Nat} {X : Nat × (Nat → Int32)} {H0 : Heap} {w0 : sk_W} {own nm : String} {cc : ByteArray} {nL : Nat} (hC : sk_Cx nest Sx D cA b X H0 w0 own nm cc nL p s m args meth c) (hn : sk_nestOK nest) (hsx : sk_SxOK Sx) (hmul : sk_multiOK Sx)
    {inf : Nat → sk_I} {d : Nat} {cal : Nat → List Value → sk_W → Option sk_R} (hcal : sk_calOK l nest Sx D cA b X H0 inf d cal) {rz : Bool} {tab : List sk_E} (ht : sk_tabOK inf nest own nm cc nL tab) {r : sk_R} (hRm : d + 1 ≤ R.frames ∧ 80 * (d + 1) ≤ R.locals ∧ r.2.length - w0.length ≤ R.cells ∧ sk_sz r.2 - sk_sz w0 ≤ R.slots)
    (hir : ∀ (pc : Nat) (ls : sk_L) (v : Int32) (x y z : Nat), sk_find tab pc = some (.ireturn, x, y, z) → decode cc pc = .ok (.ireturn, 1) → r.1 = some (.int v) → (rz = true → v = 0 ∨ v = 1) → sk_Good p l e R s m args below meth c Q D cA b X H0 w0 nL pc ls [.int v] r.2) (hfr : ∀ (pc : Nat) (ls : sk_L) (v : UInt32) (x y z : Nat), sk_find tab pc = some (.freturn, x, y, z) → decode cc pc = .ok (.freturn, 1) → r.1 = some (.float v) → sk_Good p l e R s m args below meth c Q D cA b X H0 w0 nL pc ls [.float v] r.2) (hvr : ∀ (pc : Nat) (ls : sk_L) (x y z : Nat), sk_find tab pc = some (.return_, x, y, z) → decode cc pc = .ok (.return_, 1) → r.1 = none → sk_Good p l e R s m args below meth c Q D cA b X H0 w0 nL pc ls [] r.2) :
    ∀ (n pc : Nat) (ls : sk_L) (st : List Value) (w : sk_W), sk_run cal sk_fields rz tab n pc ls st w = some r → sk_Good p l e R s m args below meth c Q D cA b X H0 w0 nL pc ls st w := by
  intro n
  induction n with
  | zero => intro pc ls st w h; cases h
  | succ n ih =>
    intro pc ls st w h
    rw [sk_run_one] at h
    unfold sk_one at h
    split at h
    · cases h
    · next i x y z hf =>
      obtain ⟨hd, hO⟩ := ht _ _ _ _ _ hf
      refine sk_snd hC hn hsx hcal hd hO h (fun pc' ls' st' w1 h1 => sk_run_gr (fun mi as w r h => (hcal mi as w r h).2) _ _ _ _ _ _ h1) hRm ?_ ?_ ?_ ?_ (fun pc' ls' st' w1 h1 => ih _ _ _ _ h1)
      · intro idx n j st hi
        subst hi
        exact hmul hC idx n j st hd
      · intro v hi hr hz
        subst hi
        have e1 : r.2 = w := by rw [hr]
        rw [← e1]
        exact hir pc ls v x y z hf hd (by rw [hr]) hz
      · intro v hi hr
        subst hi
        have e1 : r.2 = w := by rw [hr]
        rw [← e1]
        exact hfr pc ls v x y z hf hd (by rw [hr])
      · intro hi hr
        subst hi
        have e1 : r.2 = w := by rw [hr]
        rw [← e1]
        exact hvr pc ls x y z hf hd (by rw [hr])
end
section
/-! ===== methods: what the abstract machine answers, the real one does ===== -/
/-- Met.ofW for a method that no entry runs instead, whatever its kin -/
theorem sk_ofWF {l : Launch} {y : MethodName} {ws ws' : List Jvm.Cond} {rm : Room} {Pc : Array Value → State → Prop} {Qc : Array Value → State → Outcome → State → Prop} {mc ms : Nat} {free : Addr → Prop} {cc : ByteArray} {maxL : Nat} {ret : Option FieldType}
    (hy : plainFor y = true) (hw : ws = Cond.code y cc maxL ret :: ws')
    (body : ∀ p e s m args below meth c s₁, BodyLoose p l y (headSpec ws rm) cc maxL ret e s m args below meth c s₁ → c.maxLocals = maxL → Pc args s →
      W p l e (headSpec ws rm).room s m args below meth c s.heap [] 0 0 (MQ below Qc args s mc ms free) (entryFrame m args maxL)) : Met l y ws rm Pc Qc mc ms free := by
  refine MetFree.of_bodySF (code := cc) (maxLocals := maxL) (ret := ret) hy ?_ ?_
  · intro args s m h hn
    obtain ⟨meth, c, h1, h2, h3, h4, h5, h6, -, -⟩ := Cond.code_spec hn (atoms_spec (ws := ws) h _ (by rw [hw]; exact List.mem_cons_self))
    exact ⟨meth, c, h1, h2, h3, h4, h5, h6⟩
  · intro p e s m args below meth c s₁ B hml hP _
    have hh0 : s₁.heap = s.heap := by rw [B.state]; rfl
    obtain ⟨t, a1, o, b1, b2, b3⟩ := body p e s m args below meth c s₁ B hml hP s₁ hh0 (Stand.of_body B)
    exact ⟨t, o, a1, b1, b2, ⟨b3.1, b3.2⟩⟩
def sk_rz (I : sk_I) : Bool := match I.2.2.2 with
  | some .boolean => true
  | _ => false
def sk_locs (as : List Value) (nL : Nat) : sk_L := as.map some ++ List.replicate (nL - as.length) none
/-- d: how many methods may stand open -/
noncomputable def sk_cal (prim : Nat → Option (List Value → sk_W → Option sk_R)) (inf : Nat → sk_I) (tabs : Nat → List sk_E) : Nat → Nat → List Value → sk_W → Option sk_R
  | 0, _, _, _ => none
  | d + 1, mi, as, w => match prim mi with
    | some f => if 6 ≤ d then f as w else none
    | none => if as.length ≤ (inf mi).2.2.1 ∧ as.all (fun v => v.category == 1) = true then sk_den (sk_cal prim inf tabs d) sk_fields (sk_rz (inf mi)) (tabs mi) 0 (sk_locs as (inf mi).2.2.1) [] w else none
def sk_retOK (ret : Option FieldType) (i : Instr) : Prop := match i with
  | .ireturn => ret = some .int ∨ ret = some .boolean
  | .freturn => ret = some .float
  | .return_ => ret = none
  | _ => True
def sk_mOK (inf : Nat → sk_I) (nest : List Jvm.Cond) (I : sk_I) (tab : List sk_E) : Prop := plainFor I.1 = true ∧ sk_tabOK inf nest I.1.cls I.1.name I.2.1 I.2.2.1 tab ∧ ∀ (pc : Nat) (i : Instr) (x y z : Nat), sk_find tab pc = some (i, x, y, z) → sk_retOK I.2.2.2 i
theorem sk_args_sl : ∀ (vs : List Value), (∀ v ∈ vs, v.category = 1) → (lg_sl vs).length = vs.length
  | [], _ => rfl
  | v :: vs, h => by
    have h1 : ¬ v.category = 2 := by rw [h v List.mem_cons_self]; decide
    have ih := sk_args_sl vs fun u hu => h u (List.mem_cons_of_mem _ hu)
    unfold lg_sl at ih ⊢
    rw [List.flatMap_cons, if_neg h1]
    simp [ih]
theorem sk_args_mem : ∀ (vs : List Value) (i j : Nat) (v : Value), (∀ v ∈ vs, v.category = 1) → vs[j]? = some v → (i + j, v) ∈ lv_args i vs
  | [], _, _, _, _, h => by simp at h
  | u :: vs, i, j, v, hc, h => by
    have h1 : ¬ u.category = 2 := by rw [hc u List.mem_cons_self]; decide
    unfold lv_args
    rw [if_neg h1]
    cases j with
    | zero => simp at h; subst h; exact List.mem_cons_self
    | succ j =>
      simp at h
      have := sk_args_mem vs (i + 1) j v (fun u hu => hc u (List.mem_cons_of_mem _ hu)) h
      rw [show i + (j + 1) = i + 1 + j by omega]
      exact List.mem_cons_of_mem _ this
theorem sk_locs_at {as : List Value} {nL j : Nat} {v : Value} (h : (sk_locs as nL)[j]? = some (some v)) : as[j]? = some v := by
  unfold sk_locs at h
  by_cases hj : j < as.length
  · rw [List.getElem?_append_left (by simpa using hj), List.getElem?_map] at h
    cases ha : as[j]? with
    | none => rw [ha] at h; cases h
    | some u => rw [ha] at h; cases h; rfl
  · rw [List.getElem?_append_right (by simpa using hj), List.getElem?_replicate] at h
    split at h <;> cases h
theorem sk_run_nil {cal : Nat → List Value → sk_W → Option sk_R} {fields : Nat → List Value} {rz : Bool} {n pc : Nat} {ls : sk_L} {st : List Value} {w : sk_W} : sk_run cal fields rz [] n pc ls st w = none := by
  cases n <;> rfl
theorem sk_entry {b n0 nL : Nat} {m : MethodId} {as : List Value} (hlen : as.length ≤ nL) (hcat : ∀ v ∈ as, v.category = 1) : ∃ lsA : Array Slot, entryFrame m (as.map (sk_tr b n0)).toArray nL = F0 m 0 lsA [] ∧ lv_has lsA nL (sk_lv b n0 0 (sk_locs as nL)) ∧ sk_lok nL (sk_locs as nL) := by
  have hc2 : ∀ v ∈ as.map (sk_tr b n0), v.category = 1 := fun v hv => by
    obtain ⟨u, hu, rfl⟩ := List.mem_map.mp hv
    rw [sk_tr_cat]
    exact hcat u hu
  have hl := lv_entry (as.map (sk_tr b n0)) (n := nL) (by rw [sk_args_sl _ hc2, List.length_map]; exact hlen)
  refine ⟨_, lg_entry_eq m (as.map (sk_tr b n0)) nL, ⟨hl.1, hl.2.1, fun q hq => hl.2.2 q ?_⟩, ?_, fun v hv => ?_⟩
  · obtain ⟨j, v, h1, rfl⟩ := sk_lv_mem.mp hq
    have h2 := sk_locs_at h1
    exact sk_args_mem _ 0 j _ hc2 (by rw [List.getElem?_map, h2]; rfl)
  · simp [sk_locs]; omega
  · unfold sk_locs at hv
    rcases List.mem_append.mp hv with h | h
    · obtain ⟨u, hu, e⟩ := List.mem_map.mp h
      cases e
      exact hcat _ hu
    · obtain ⟨-, e⟩ := List.mem_replicate.mp h
      cases e
theorem sk_cal_OK {l : Launch} {nest : List Jvm.Cond} {Sx : State → Prop} {D : va_G} {cA : Nat → ClassId} {b : Nat} {X : Nat × (Nat → Int32)} {H0 : Heap} (hn : sk_nestOK nest) (hsx : sk_SxOK Sx) (hmul : sk_multiOK Sx) {prim : Nat → Option (List Value → sk_W → Option sk_R)} {inf : Nat → sk_I} {tabs : Nat → List sk_E}
    (hm : ∀ mi : Nat, prim mi = none → tabs mi = [] ∨ sk_mOK inf nest (inf mi) (tabs mi))
    (hp : ∀ (mi : Nat) (f : List Value → sk_W → Option sk_R), prim mi = some f → ∀ (d : Nat) (as : List Value) (w : sk_W) (r : sk_R), 6 ≤ d → f as w = some r → sk_Met l nest Sx D cA b X H0 (inf mi).1 (inf mi).2.1 (inf mi).2.2.1 (inf mi).2.2.2 (d + 1) as w r.1 r.2 ∧ w.length ≤ r.2.length ∧ sk_sz w ≤ sk_sz r.2) :
    ∀ d : Nat, sk_calOK l nest Sx D cA b X H0 inf d (sk_cal prim inf tabs d) := by
  intro d
  induction d with
  | zero => intro mi as w r h; cases h
  | succ d ih =>
    intro mi as w r h
    unfold sk_cal at h
    split at h
    · next f hf =>
      split at h
      · next hd => exact hp mi f hf d as w r hd h
      · cases h
    · next hf =>
      split at h
      · next hc =>
        obtain ⟨hlen, hall⟩ := hc
        have hcat : ∀ v ∈ as, v.category = 1 := fun v hv => by simpa using List.all_eq_true.mp hall v hv
        obtain ⟨n, hrun⟩ := sk_den_ex _ _ _ _ h
        have hg := sk_run_gr (fun mi as w r h => (ih mi as w r h).2) _ _ _ _ _ _ hrun
        refine ⟨?_, hg⟩
        rcases hm mi hf with h0 | ⟨hpl, htab, hret⟩
        · rw [h0, sk_run_nil] at hrun
          cases hrun
        refine sk_ofWF (cc := (inf mi).2.1) (maxL := (inf mi).2.2.1) (ret := (inf mi).2.2.2) hpl rfl ?_
        intro p e s m args below meth c s₁ B hml hv
        obtain ⟨rfl, hR, hsize, hT⟩ := hv
        have hx := B.exec
        have hb := B.bytes
        have hr := B.returns
        have hts := atoms_spec (ws := Cond.code (inf mi).1 (inf mi).2.1 (inf mi).2.2.1 (inf mi).2.2.2 :: sk_B) B.pre
        have hown : s.vm.findClass (inf mi).1.cls = some m.cls := findClass_of_methodNamed B.named
        have hlocks := B.notSynchronized
        have hin : meth.name = (inf mi).1.name := (name_of_methodNamed B.named B.method).1
        have hC : sk_Cx nest Sx D cA b X H0 w (inf mi).1.cls (inf mi).1.name (inf mi).2.1 (inf mi).2.2.1 p s m (as.map (sk_tr b H0.size)).toArray meth c := ⟨⟨hx, hb, hml, hown, fun w hw => hts w (List.mem_cons_of_mem _ hw)⟩, hT, hsize, hin⟩
        obtain ⟨lsA, he, hlv, hlok⟩ := sk_entry (b := b) (n0 := H0.size) (m := m) hlen hcat
        rw [he]
        have hgood := sk_run_snd (l := l) (e := e) (R := { frames := d + 1, cells := r.2.length - w.length, slots := sk_sz r.2 - sk_sz w, locals := 80 * (d + 1) }) (below := below) (Q := MQ below (sk_Qc D cA b X H0 r.1 r.2) (as.map (sk_tr b H0.size)).toArray s (r.2.length - w.length) (sk_sz r.2 - sk_sz w) (fun q => H0.size ≤ q)) hC hn hsx hmul ih htab (rz := sk_rz (inf mi)) (r := r) ⟨Nat.le_refl _, Nat.le_refl _, Nat.le_refl _, Nat.le_refl _⟩ ?_ ?_ ?_ n 0 (sk_locs as (inf mi).2.2.1) [] w hrun
        · have := hgood s.heap [] lsA hR (fun _ h => by cases h) (Nat.le_refl _) (Nat.le_refl _) hlok hlv
          rw [Nat.sub_self, Nat.sub_self] at this
          exact this
        · intro pc ls v x y z hf hd hrv hz H locs lsA hR1 hL h1 h2 h3 h4
          have hq : ∀ t : State, t.heap = H → s.WarmedH t.vm → sk_Qc D cA b X H0 r.1 r.2 (as.map (sk_tr b H0.size)).toArray s (.returned (some (.int v))) t := fun t ht _ => ⟨by rw [hrv]; rfl, by rw [ht]; exact hR1⟩
          have hro : (inf mi).2.2.2 = some .int ∨ (inf mi).2.2.2 = some .boolean := hret pc _ _ _ _ hf
          rcases hro with hro | hro
          · exact W.iret hx hb (hr.trans hro) hq hL hd
          · refine W.zret hx hb (hr.trans hro) ?_ hq hL hd
            rcases hz (by unfold sk_rz; rw [hro]) with rfl | rfl <;> rfl
        · intro pc ls v x y z hf hd hrv H locs lsA hR1 hL h1 h2 h3 h4
          have hro : (inf mi).2.2.2 = some .float := hret pc _ _ _ _ hf
          exact W.fret hx hb (hr.trans hro) (fun t ht _ => ⟨by rw [hrv]; rfl, by rw [ht]; exact hR1⟩) hL hd
        · intro pc ls x y z hf hd hrv H locs lsA hR1 hL h1 h2 h3 h4
          have hro : (inf mi).2.2.2 = none := hret pc _ _ _ _ hf
          exact W.vret hx hb (hr.trans hro) (fun t ht _ => ⟨by rw [hrv]; rfl, by rw [ht]; exact hR1⟩) hL hd
      · cases h
end
section
/-! ===== new int[n][m] ===== -/
theorem sk_outer (c : ClassId) (N h0 : Nat) : ∀ i : Nat, Jvm.Free.Multi.outerC c N h0 i = arrV c N (fun j => va_rf (if j < i then some (h0 + 1 + j) else none))
  | 0 => by
    show ({ cls := c, slots := Array.replicate N .null, vm := .none } : Cell) = _
    rw [arrV_new]
    refine congrArg (arrV c N) (funext fun j => ?_)
    simp [va_rf]
  | i + 1 => by
    show (Jvm.Free.Multi.outerC c N h0 i).setSlot i (.ref (h0 + 1 + i)) = _
    rw [sk_outer c N h0 i, arrV_store]
    refine congrArg (arrV c N) (funext fun j => ?_)
    by_cases e : j = i
    · subst e
      simp [updV, va_rf]
    · by_cases h : j < i
      · simp [updV, e, h, Nat.lt_succ_of_lt h]
      · simp [updV, e, h, show ¬ j < i + 1 by omega]
theorem sk_multi_rule {Sx : State → Prop} (hA : ∀ s : State, Sx s → (Jvm.Cond.arrayOver (.array .int)).before #[] s = true) : sk_multiOK Sx := by
  intro p l e R s m args below meth c Q nest D cA b X H0 w0 own nm cc nL hC pc ls w idx n j st hd hn hlk hac hrm kk
  obtain ⟨⟨hx, hb, hml, hown, hts⟩, ⟨hK, hN, hAO, hX, hbl, hSx⟩, hsz, hnm⟩ := hC
  intro H locs lsA hR hL h1 h2 h3 h4 T hT Xs
  have hup := Xs.heapSize
  rw [hT] at hup
  obtain ⟨t, rfl, hP, hlo, hh⟩ := id hR
  have hlow := sk_low hP hlo
  have hlt : (.inl X :: t : sk_W).length = t.length + 1 := rfl
  have hHs : H.size = H0.size + t.length := by omega
  obtain ⟨vm₁, cA', comp, hW, fA, fC, hO, hI, X', step⟩ := Xs.multianewarray2F hx hown (hts _ hlk) (hA s hSx) (hts _ hac) (g := F0 m pc lsA (.int j :: .int n :: st.map (sk_tr b H0.size))) rfl (by rw [hb]; exact hd) rfl hn.1 hn.2.1 (by have := hn.2.2.1; omega) (by show j.toNatClampNeg * 4 ≤ _; have := hn.2.2.2; omega) (by have := hn.2.2.2; omega) rfl rfl (by have := hrm.1; omega) (by have := hrm.2; omega)
  have e3 : cA' = cA 3 := Option.some.inj (fA.symm.trans (hK.2 3 _ rfl).2)
  have e4 : comp = cA 4 := Option.some.inj (fC.symm.trans (hK.2 4 _ rfl).2)
  subst e3
  subst e4
  generalize hF : Jvm.Free.Multi.fill (T.setVm vm₁) (cA 3) (cA 4) n.toNatClampNeg j.toNatClampNeg (defaultValue .int) n.toNatClampNeg = F at X' step
  have hTh : (T.setVm vm₁).heap = H := hT
  obtain ⟨f1, f2, -, -⟩ := Jvm.Free.Multi.fill_facts (T.setVm vm₁) (cA 3) (cA 4) n.toNatClampNeg j.toNatClampNeg (defaultValue .int) n.toNatClampNeg
  rw [hF, hTh] at f1 f2
  have hold : ∀ x : Nat, x < H.size → F.heap[x]? = H[x]? := fun x hx => by
    have := Jvm.Free.Multi.fill_old (T.setVm vm₁) (cA 3) (cA 4) n.toNatClampNeg j.toNatClampNeg (defaultValue .int) (a := x) (by rw [hTh]; exact hx) n.toNatClampNeg
    rw [hF, hTh] at this
    exact this
  have hrow : ∀ i : Nat, i < n.toNatClampNeg → F.heap[H.size + 1 + i]? = some (vp_cell (cA 4) (j.toNatClampNeg, .inl fun _ => 0)) := fun i hi => by
    have := Jvm.Free.Multi.fill_inner (T.setVm vm₁) (cA 3) (cA 4) n.toNatClampNeg j.toNatClampNeg (defaultValue .int) n.toNatClampNeg i hi
    rw [hF, hTh] at this
    rw [this, vp_cell_i]
    show some ({ cls := cA 4, slots := Array.replicate j.toNatClampNeg (.int 0), vm := .none } : Cell) = _
    rw [arrV_new]
  rw [sk_outer] at f2
  have hP2 : va_P D vwCl (sk_lay b H0.size cA (t ++ .inr (.inl (3, n.toNatClampNeg, fun q => if q < n.toNatClampNeg then some ((.inl X :: t : sk_W).length + 1 + q) else none)) :: List.replicate n.toNatClampNeg (.inl (j.toNatClampNeg, fun _ => 0)))) F.heap := by
    intro q x hx
    unfold sk_lay at hx
    rw [List.getElem?_mapIdx] at hx
    rcases Nat.lt_or_ge q t.length with hq | hq
    · rw [List.getElem?_append_left hq, List.getElem?_eq_getElem hq] at hx
      cases hx
      refine (hP q _ (sk_lay_at (List.getElem?_eq_getElem hq))).kept (hold _ ?_)
      show H0.size + q < H.size
      omega
    · rw [List.getElem?_append_right hq] at hx
      cases hk : q - t.length with
      | zero =>
        rw [hk] at hx
        cases hx
        show F.heap[H0.size + q]? = some (vp_cell _ _)
        rw [show H0.size + q = H.size by omega, f2, vp_cell_q]
        refine congrArg some (congrArg (arrV (cA 3) n.toNatClampNeg) (funext fun i => congrArg va_rf ?_))
        by_cases hi : i < n.toNatClampNeg
        · rw [if_pos hi]
          show some _ = Option.map (sk_am b H0.size) (if i < n.toNatClampNeg then some ((.inl X :: t : sk_W).length + 1 + i) else none)
          rw [if_pos hi]
          show some _ = some (sk_am b H0.size (t.length + 1 + 1 + i))
          rw [show t.length + 1 + 1 + i = (t.length + 1 + i) + 1 by omega]
          show some _ = some (H0.size + (t.length + 1 + i))
          congr 1
          omega
        · rw [if_neg hi]
          show none = Option.map (sk_am b H0.size) (if i < n.toNatClampNeg then some ((.inl X :: t : sk_W).length + 1 + i) else none)
          rw [if_neg hi]
          rfl
      | succ i =>
        rw [hk, List.getElem?_cons_succ, List.getElem?_replicate] at hx
        split at hx
        · next hi =>
          cases hx
          show F.heap[H0.size + q]? = some (vp_cell _ _)
          rw [show H0.size + q = H.size + 1 + i by omega]
          exact hrow i hi
        · cases hx
  have hR2 : sk_Rel D cA b X H0 ((.inl X :: t : sk_W) ++ (.inr (.inl (3, n.toNatClampNeg, fun q => if q < n.toNatClampNeg then some ((.inl X :: t : sk_W).length + 1 + q) else none)) :: List.replicate n.toNatClampNeg (.inl (j.toNatClampNeg, fun _ => 0)) : sk_W)) F.heap :=
    ⟨_, rfl, hP2, by omega, fun q hq => (hold q (by omega)).trans (hh q hq)⟩
  have l1 : ((.inl X :: t : sk_W) ++ (.inr (.inl (3, n.toNatClampNeg, fun q => if q < n.toNatClampNeg then some ((.inl X :: t : sk_W).length + 1 + q) else none)) :: List.replicate n.toNatClampNeg (.inl (j.toNatClampNeg, fun _ => 0)) : sk_W)).length = (.inl X :: t : sk_W).length + 1 + n.toNatClampNeg := by simp; omega
  have l2 : sk_sz ((.inl X :: t : sk_W) ++ (.inr (.inl (3, n.toNatClampNeg, fun q => if q < n.toNatClampNeg then some ((.inl X :: t : sk_W).length + 1 + q) else none)) :: List.replicate n.toNatClampNeg (.inl (j.toNatClampNeg, fun _ => 0)) : sk_W)) = sk_sz (.inl X :: t) + n.toNatClampNeg + n.toNatClampNeg * j.toNatClampNeg := by rw [sk_sz_push]; simp [sk_sz, sk_csz]; omega
  have kk1 := kk F.heap locs lsA hR2 hL (by rw [l1]; omega) (by rw [l2]; omega) h3 h4
  rw [l1, l2] at kk1
  have g1 : (.inl X :: t : sk_W).length + 1 + n.toNatClampNeg - w0.length = (.inl X :: t : sk_W).length - w0.length + 1 + n.toNatClampNeg := by omega
  have g2 : sk_sz (.inl X :: t) + n.toNatClampNeg + n.toNatClampNeg * j.toNatClampNeg - sk_sz w0 = sk_sz (.inl X :: t) - sk_sz w0 + n.toNatClampNeg + n.toNatClampNeg * j.toNatClampNeg := by omega
  rw [g1, g2] at kk1
  obtain ⟨t2, a1, b1⟩ := kk1 F rfl X'
  refine ⟨t2, step t2 ?_, b1⟩
  have e9 : (Value.ref (.inl X :: t : sk_W).length :: st).map (sk_tr b H0.size) = .ref T.heap.size :: st.map (sk_tr b H0.size) := by
    rw [hT, hHs]
    rfl
  rw [e9] at a1
  exact a1
end
section
/-! ===== what the tables say, by places (written by program) ===== -/
theorem sk_memB (ws : List Jvm.Cond) (ps : List Nat) (hp : ws = ps.filterMap (fun i => lw_tbl[i]?)) (h : ws.all goodWord = true) : ∀ w ∈ ws, w ∈ sk_B := by
  intro w hw
  have h1 := List.all_eq_true.mp h w hw
  rw [hp] at hw
  obtain ⟨i, -, hi⟩ := List.mem_filterMap.mp hw
  exact sk_B_of (List.mem_of_getElem? hi) h1
def sk_ownL : List String := [RX0, RX1, RX2, RX3, RX4, RX5, RX6, RX7, RX8, RX9, RX10, RX11, RX12, RL, RJ7, RJ9, RJxf58ca]
def sk_own (o : Nat) : String := sk_ownL.getD o ""
def sk_infL : List sk_I := [(yL_law, code, 0, none),
  (yX11_isUnder, cX11_isUnder, 4, some .boolean),
  (yX12_kindOf, cX12_kindOf, 2, some .int),
  (yX0_of, cX0_of, 4, some .int),
  (yX0_single, cX0_single, 4, some .int),
  (yX0_tallest, cX0_tallest, 5, some .int),
  (yX0_together, cX0_together, 7, some .int),
  (yX0_isShared, cX0_isShared, 1, some .boolean),
  (yX0_shares, cX0_shares, 1, some .int),
  (yX0_weight, cX0_weight, 6, some .int),
  (yX1_init, cX1_init, 1, none),
  (yX1_takeFrom, cX1_takeFrom, 4, none),
  (yX1_leastStages, cX1_leastStages, 3, some .int),
  (yX1_stagesFrom, cX1_stagesFrom, 6, some .int),
  (yX1_cut, cX1_cut, 7, some .int),
  (yX1_isFree, cX1_isFree, 6, some .boolean),
  (yX1_numberPieces, cX1_numberPieces, 5, some .int),
  (yX2_init, cX2_init, 1, none),
  (yX2_runAll, cX2_runAll, 5, some .int),
  (yX2_layOne, cX2_layOne, 3, some .boolean),
  (yX2_find, cX2_find, 3, none),
  (yX2_findInWaste, cX2_findInWaste, 11, none),
  (yX2_findOnSkyline, cX2_findOnSkyline, 13, none),
  (yX2_settle, cX2_settle, 4, none),
  (yX3_init, cX3_init, 1, none),
  (yX3_begin, cX3_begin, 5, none),
  (yX3_becomeLike, cX3_becomeLike, 2, none),
  (yX3_lies, cX3_lies, 1, some .boolean),
  (yX3_isLaid, cX3_isLaid, 1, some .boolean),
  (yX3_lieAt, cX3_lieAt, 5, none),
  (yX3_ways, cX3_ways, 2, some .int),
  (yX3_acrossIf, cX3_acrossIf, 2, some .int),
  (yX3_tallIf, cX3_tallIf, 3, some .int),
  (yX3_mayLieAt, cX3_mayLieAt, 4, some .boolean),
  (yX3_isLike, cX3_isLike, 2, some .boolean),
  (yX4_init, cX4_init, 2, none),
  (yX4_becomeLike, cX4_becomeLike, 3, none),
  (yX4_empty, cX4_empty, 2, none),
  (yX4_clearLaid, cX4_clearLaid, 2, none),
  (yX4_isPart, cX4_isPart, 2, some .boolean),
  (yX4_isInOrder, cX4_isInOrder, 3, some .boolean),
  (yX4_hasLaid, cX4_hasLaid, 2, some .boolean),
  (yX4_lying, cX4_lying, 3, some .int),
  (yX4_top, cX4_top, 4, some .int),
  (yX4_orderAll, cX4_orderAll, 2, none),
  (yX4_mayBeOrder, cX4_mayBeOrder, 4, some .boolean),
  (yX4_orderBy, cX4_orderBy, 3, none),
  (yX4_exchange, cX4_exchange, 4, none),
  (yX4_segments, cX4_segments, 3, some .int),
  (yX4_segmentStart, cX4_segmentStart, 4, some .int),
  (yX4_segmentEnd, cX4_segmentEnd, 3, some .int),
  (yX4_topOfFixedIn, cX4_topOfFixedIn, 10, some .int),
  (yX4_restingY, cX4_restingY, 7, some .int),
  (yX4_wastedAt, cX4_wastedAt, 6, some .int),
  (yX4_touchingAt, cX4_touchingAt, 9, some .int),
  (yX4_costByRule, cX4_costByRule, 6, some .int),
  (yX4_raise, cX4_raise, 10, none),
  (yX4_area, cX4_area, 4, some .int),
  (yX4_middle, cX4_middle, 9, some .float),
  (yX4_fill, cX4_fill, 2, some .float),
  (yX4_unlikeParts, cX4_unlikeParts, 5, some .int),
  (yX4_unlikeOrders, cX4_unlikeOrders, 5, some .int),
  (yX5_init, cX5_init, 1, none),
  (yX5_isMissing, cX5_isMissing, 1, some .boolean),
  (yX5_begin, cX5_begin, 3, none),
  (yX5_empty, cX5_empty, 1, none),
  (yX5_takes, cX5_takes, 3, some .boolean),
  (yX5_firstPlaceOf, cX5_firstPlaceOf, 3, some .int),
  (yX6_init, cX6_init, 1, none),
  (yX6_findBest, cX6_findBest, 5, none),
  (yX6_findLayouts, cX6_findLayouts, 4, none),
  (yX6_mostAlike, cX6_mostAlike, 3, some .int),
  (yX6_goToNextOrder, cX6_goToNextOrder, 7, some .boolean),
  (yX6_readLayout, cX6_readLayout, 4, none),
  (yX6_numberOf, cX6_numberOf, 2, some .int),
  (yX6_countLayout, cX6_countLayout, 2, none),
  (yX6_isRow, cX6_isRow, 3, some .boolean),
  (yX6_sort, cX6_sort, 5, none),
  (yX7_init, cX7_init, 1, none),
  (yX7_isMissing, cX7_isMissing, 1, some .boolean),
  (yX7_begin, cX7_begin, 3, none),
  (yX7_firstUnlike, cX7_firstUnlike, 4, some .int),
  (yX8_init, cX8_init, 1, none),
  (yX8_take, cX8_take, 6, none),
  (yX9_init, cX9_init, 2, none),
  (yX9_append, cX9_append, 2, none),
  (yX9_read, cX9_read, 3, some .int),
  (yX9_look, cX9_look, 1, some .int),
  (yX9_skipBlanks, cX9_skipBlanks, 1, none),
  (yX9_readItem, cX9_readItem, 8, some .boolean),
  (yX9_kindOf, cX9_kindOf, 1, some .int),
  (yX9_isDigit, cX9_isDigit, 1, some .boolean),
  (yX9_readWidth, cX9_readWidth, 5, some .int),
  (yX9_readFigure, cX9_readFigure, 2, some .int),
  (yX9_readMarked, cX9_readMarked, 2, some .int),
  (yX10_init, cX10_init, 1, none),
  (yX10_becomeLike, cX10_becomeLike, 2, none),
  (yX10_add, cX10_add, 6, none),
  (yX10_takeCorner, cX10_takeCorner, 8, none),
  (yX10_drop, cX10_drop, 3, none),
  (yX10_isBehind, cX10_isBehind, 4, some .boolean),
  (yX11_init, cX11_init, 2, none),
  (yX11_feed, cX11_feed, 7, some .int),
  (yX11_strip, cX11_strip, 3, some .int),
  (yX11_parts, cX11_parts, 3, some .int),
  (yX11_told, cX11_told, 4, some .int),
  (yX11_taken, cX11_taken, 4, some .int),
  (yX11_fix, cX11_fix, 6, some .int),
  (yX11_order, cX11_order, 3, some .int),
  (yX11_swap, cX11_swap, 3, some .int),
  (yX11_rule, cX11_rule, 4, some .int),
  (yX11_place, cX11_place, 5, some .int),
  (yX11_lay, cX11_lay, 3, some .int),
  (yX11_run, cX11_run, 1, some .int),
  (yX11_sky, cX11_sky, 4, some .int),
  (yX11_waste, cX11_waste, 4, some .int),
  (yX11_bound, cX11_bound, 2, some .int),
  (yX11_best, cX11_best, 2, some .int),
  (yX11_layouts, cX11_layouts, 2, some .int),
  (yX11_stages, cX11_stages, 1, some .int),
  (yX11_centre, cX11_centre, 2, some .int),
  (yX11_drawn, cX11_drawn, 3, some .int),
  (yX11_chance, cX11_chance, 7, some .int),
  (yX11_tells, cX11_tells, 4, some .int),
  (yX11_rack, cX11_rack, 4, some .int),
  (yX11_puts, cX11_puts, 5, some .int),
  (yX11_moved, cX11_moved, 9, some .int),
  (yX11_laid, cX11_laid, 4, some .int),
  (yX11_image, cX11_image, 1, some .int),
  (yX11_back, cX11_back, 1, some .int),
  (yX11_count, cX11_count, 2, some .int),
  (yX11_sheet, cX11_sheet, 4, some .int),
  (yX11_put, cX11_put, 5, some .int),
  (yX11_copy, cX11_copy, 8, some .int),
  (yX11_isByte, cX11_isByte, 1, some .boolean),
  (yX11_isKind, cX11_isKind, 1, some .boolean),
  (yX11_isHolder, cX11_isHolder, 1, some .boolean),
  (yX11_isRange, cX11_isRange, 3, some .boolean),
  (yX11_greatestDivisor, cX11_greatestDivisor, 6, some .int),
  (yX11_bitsOf, cX11_bitsOf, 4, some .int),
  (yX11_emptyRacks, cX11_emptyRacks, 2, none),
  (yX11_topDrawn, cX11_topDrawn, 8, some .int),
  (yX11_rulesThatTell, cX11_rulesThatTell, 4, some .int),
  (yX11_pairsThatTell, cX11_pairsThatTell, 5, some .int),
  (yX12_in, cX12_in, 3, some .boolean),
  (yX12_init, cX12_init, 1, none),
  (yX12_keep, cX12_keep, 2, none),
  (yX12_layBack, cX12_layBack, 2, none),
  (yX12_isPart, cX12_isPart, 2, some .boolean),
  (yX12_isUnder, cX12_isUnder, 2, some .boolean),
  (yX12_mayTurn, cX12_mayTurn, 2, some .boolean),
  (yX12_w, cX12_w, 3, some .int),
  (yX12_t, cX12_t, 4, some .int),
  (yX12_mayLie, cX12_mayLie, 7, some .boolean),
  (yX12_wOf, cX12_wOf, 2, some .int),
  (yX12_tOf, cX12_tOf, 2, some .int),
  (yX12_areOver, cX12_areOver, 8, some .boolean),
  (yX12_isOverFixed, cX12_isOverFixed, 6, some .boolean),
  (yX12_feed, cX12_feed, 9, some .int),
  (yX12_strip, cX12_strip, 6, some .int),
  (yX12_byteAt, cX12_byteAt, 2, some .int),
  (yX12_isDigit, cX12_isDigit, 3, some .boolean),
  (yX12_isBlank, cX12_isBlank, 2, some .boolean),
  (yX12_reads, cX12_reads, 9, some .int),
  (yX12_parts, cX12_parts, 6, some .int),
  (yX12_told, cX12_told, 4, some .int),
  (yX12_taken, cX12_taken, 3, some .int),
  (yX12_liesLoose, cX12_liesLoose, 2, some .boolean),
  (yX12_isOrdered, cX12_isOrdered, 3, some .boolean),
  (yX12_fix, cX12_fix, 5, some .int),
  (yX12_order, cX12_order, 5, some .int),
  (yX12_exchange, cX12_exchange, 4, none),
  (yX12_swap, cX12_swap, 3, some .int),
  (yX12_rule, cX12_rule, 4, some .int),
  (yX12_wastedAt, cX12_wastedAt, 6, some .int),
  (yX12_yAt, cX12_yAt, 6, some .int),
  (yX12_touchingAt, cX12_touchingAt, 7, some .int),
  (yX12_valueAt, cX12_valueAt, 5, some .int),
  (yX12_finds, cX12_finds, 11, some .boolean),
  (yX12_addPiece, cX12_addPiece, 6, none),
  (yX12_intoPiece, cX12_intoPiece, 6, none),
  (yX12_ontoSky, cX12_ontoSky, 6, none),
  (yX12_lays, cX12_lays, 2, some .boolean),
  (yX12_clears, cX12_clears, 2, none),
  (yX12_runs, cX12_runs, 3, some .int),
  (yX12_top, cX12_top, 3, some .int),
  (yX12_place, cX12_place, 3, some .int),
  (yX12_lay, cX12_lay, 2, some .int),
  (yX12_run, cX12_run, 1, some .int),
  (yX12_sky, cX12_sky, 6, some .int),
  (yX12_waste, cX12_waste, 3, some .int),
  (yX12_by, cX12_by, 2, some .int),
  (yX12_counted, cX12_counted, 7, some .int),
  (yX12_summed, cX12_summed, 7, some .int),
  (yX12_tallest, cX12_tallest, 3, some .int),
  (yX12_boundOf, cX12_boundOf, 4, some .int),
  (yX12_bound, cX12_bound, 2, some .int),
  (yX12_sorts, cX12_sorts, 3, none),
  (yX12_steps, cX12_steps, 6, some .boolean),
  (yX12_bestTop, cX12_bestTop, 2, some .int),
  (yX12_best, cX12_best, 3, some .int),
  (yX12_tellsLayout, cX12_tellsLayout, 8, some .int),
  (yX12_areRowsAlike, cX12_areRowsAlike, 5, some .boolean),
  (yX12_layouts, cX12_layouts, 5, some .int),
  (yX12_low, cX12_low, 3, some .int),
  (yX12_high, cX12_high, 3, some .int),
  (yX12_isCut, cX12_isCut, 5, some .boolean),
  (yX12_areParted, cX12_areParted, 7, some .boolean),
  (yX12_cuts, cX12_cuts, 4, none),
  (yX12_areAlone, cX12_areAlone, 3, some .boolean),
  (yX12_stagesFrom, cX12_stagesFrom, 3, some .int),
  (yX12_stages, cX12_stages, 3, some .int),
  (yX12_isAnyThere, cX12_isAnyThere, 2, some .boolean),
  (yX12_centre, cX12_centre, 8, some .int),
  (yX12_drawnTop, cX12_drawnTop, 7, some .int),
  (yX12_drawn, cX12_drawn, 3, some .int),
  (yX12_chance, cX12_chance, 7, some .int),
  (yX12_firstOther, cX12_firstOther, 3, some .int),
  (yX12_runsTo, cX12_runsTo, 2, some .boolean),
  (yX12_tells, cX12_tells, 6, some .int),
  (yX12_isRack, cX12_isRack, 1, some .boolean),
  (yX12_emptyRacks, cX12_emptyRacks, 3, none),
  (yX12_rack, cX12_rack, 5, some .int),
  (yX12_isFor, cX12_isFor, 3, some .boolean),
  (yX12_puts, cX12_puts, 4, some .int),
  (yX12_moved, cX12_moved, 7, some .int),
  (yX12_laid, cX12_laid, 3, some .int),
  (yX12_image, cX12_image, 1, some .int),
  (yX12_back, cX12_back, 1, some .int),
  (yX12_areAlike, cX12_areAlike, 3, some .boolean),
  (yX12_unlike, cX12_unlike, 4, some .int),
  (yX12_orders, cX12_orders, 5, some .int),
  (yX12_count, cX12_count, 4, some .int),
  (yX12_isSheet, cX12_isSheet, 1, some .boolean),
  (yX12_sheet, cX12_sheet, 5, some .int),
  (yX12_put, cX12_put, 4, some .int),
  (yX12_copy, cX12_copy, 6, some .int),
  (yJxf58ca_isNaN_12338, cJxf58ca_isNaN_12338, 1, some .boolean),
  (yJxf58ca_floatToIntBits_5c35a, cJxf58ca_floatToIntBits_5c35a, 1, some .int),
  (yJ9_max_7cf53, cJ9_max_7cf53, 2, some .int),
  (yJ9_min_7cf53, cJ9_min_7cf53, 2, some .int),
  (yJ7_rangeCheck_23922, cJ7_rangeCheck_23922, 3, none),
  (yJ7_fill_53178, cJ7_fill_53178, 4, none),
  (yJ7_fill_fda19, cJ7_fill_fda19, 5, none),
  (yL_law, code, 4, some .boolean)]
def sk_inf (mi : Nat) : sk_I := sk_infL.getD mi (yL_law, code, 0, none)
def sk_codeW : List Jvm.Cond := ((sk_infL.drop 1).take 243).map fun I => Jvm.Cond.code I.1 I.2.1 I.2.2.1 I.2.2.2
set_option maxRecDepth 100000 in
theorem sk_codeW_ok : ∀ w ∈ sk_codeW, w ∈ sk_B := sk_memB _ [588, 1159, 785, 788, 791, 803, 809, 812, 806, 385, 885, 890, 894, 899, 903, 907, 304, 756, 715, 667, 671, 689, 720, 120, 562, 566, 578, 510, 615, 675, 619, 594, 681, 1023, 207, 820, 499, 503, 574, 607, 603, 916, 841, 631, 639, 647, 655, 765, 769, 773, 611, 693, 698, 706, 702, 741, 926, 930, 921, 1019, 1027, 416, 635, 980, 518, 989, 643, 351, 833, 856, 876, 847, 860, 864, 868, 872, 836, 435, 959, 1035, 963, 310, 685, 113, 491, 527, 539, 531, 535, 542, 550, 546, 554, 558, 214, 828, 733, 725, 729, 737, 105, 484, 495, 523, 570, 582, 599, 624, 651, 659, 663, 710, 752, 761, 778, 782, 816, 852, 881, 912, 938, 948, 955, 976, 985, 995, 1003, 1007, 1011, 1015, 1031, 1040, 1044, 487, 585, 627, 998, 951, 933, 514, 942, 968, 972, 1132, 1049, 1384, 1400, 1213, 1220, 1286, 1224, 1228, 1290, 1248, 1252, 1255, 1244, 1129, 1136, 1156, 1204, 1152, 1148, 1144, 1209, 1217, 1236, 1240, 1232, 1259, 1270, 1266, 1274, 1299, 1294, 1307, 1303, 1282, 1327, 1332, 1323, 1319, 1315, 1340, 1392, 1278, 1311, 1336, 1344, 1348, 1372, 1369, 1365, 1360, 1356, 1352, 1388, 1396, 1380, 1376, 1408, 1412, 1404, 1440, 1436, 1444, 1432, 1428, 1424, 1420, 1416, 1452, 1448, 1470, 1466, 1475, 1486, 1490, 1479, 1262, 1140, 1494, 1502, 1498, 1506, 1510, 1514, 1518, 1530, 1526, 1534, 1522, 1482, 1538, 1542, 1546, 1458, 1455, 794, 800, 748, 506, 745] rfl rfl
def sk_initW : List Jvm.Cond := ["SkylineNester", "SkylineNester$Bounds", "SkylineNester$Cuts", "SkylineNester$Layer", "SkylineNester$Part", "SkylineNester$Plan", "SkylineNester$Rack", "SkylineNester$Search", "SkylineNester$Sheet", "SkylineNester$Spot", "SkylineNester$Tape", "SkylineNester$Waste", "SkylineNesterModel", "java/lang/Float", "java/lang/Math", "java/util/Arrays", "java/lang/System"].map Jvm.Cond.initialized
theorem sk_initW_ok : ∀ w ∈ sk_initW, w ∈ sk_B := sk_memB _ [79, 98, 87, 84, 81, 82, 88, 86, 89, 85, 80, 83, 90, 100, 96, 91, 97] (by decide +kernel) (by decide +kernel)
def sk_instL : List Nat := [10, 11, 12, 13, 14, 15, 16, 17, 18, 19, 20, 21, 22, 23, 24, 25, 26, 27, 28, 29, 30, 31, 32, 33, 34, 35, 36, 37, 38, 39, 40, 41, 42, 43, 44, 45, 46, 47, 48, 49, 50, 51, 52, 53, 54, 55, 56, 57, 58, 59, 60, 61, 62, 63, 64, 65, 66, 67, 68, 69, 70, 71, 72, 73, 75, 76, 78, 79, 80, 81, 82, 83, 84, 85, 86, 87, 88, 89, 91, 92, 93, 94, 95, 96, 97, 98, 99, 100, 101, 102, 103, 104, 105, 106, 107, 108, 109, 110, 111, 112, 113, 114, 115, 116, 117, 118, 119, 120, 121, 122, 123, 124, 125, 126, 127, 128, 129, 130, 131, 132, 133, 140, 141, 142, 143, 145, 146, 147, 148, 150, 151, 152, 153, 154, 155, 157, 158, 159, 160, 161, 162, 163, 164, 165, 166, 167, 168, 169, 170, 171, 172, 173, 174, 175, 176, 177, 178, 179, 180, 181, 182, 183, 184, 185, 186, 187, 188, 189, 190, 192, 193, 194, 195, 196, 197, 198, 199, 200, 201, 202, 203, 204, 205, 206, 207, 208, 209, 210, 211, 212, 213, 214, 215, 216, 217, 218, 219, 221, 222, 223, 224, 225, 226, 227, 228, 229, 230, 231, 232, 234, 235, 236]
theorem sk_instW_ok : ∀ w ∈ sk_instL.map (fun mi => Jvm.Cond.instanceMethod (sk_inf mi).1), w ∈ sk_B := sk_memB _ [384, 883, 888, 893, 898, 902, 906, 303, 754, 713, 665, 670, 688, 719, 119, 560, 564, 576, 508, 613, 673, 617, 592, 679, 1021, 206, 818, 497, 501, 572, 605, 601, 914, 839, 629, 637, 645, 653, 763, 767, 771, 609, 691, 696, 704, 700, 739, 924, 928, 919, 1017, 1025, 415, 633, 978, 516, 987, 641, 350, 831, 854, 874, 846, 859, 867, 871, 434, 957, 1033, 961, 309, 683, 112, 489, 525, 538, 530, 534, 549, 545, 553, 557, 213, 826, 731, 723, 728, 736, 104, 482, 493, 521, 568, 580, 597, 622, 649, 657, 661, 708, 750, 759, 776, 780, 814, 850, 879, 910, 936, 946, 953, 974, 983, 993, 1001, 1005, 1009, 1013, 1029, 1038, 1042, 513, 941, 967, 971, 1048, 1383, 1399, 1212, 1285, 1223, 1227, 1289, 1247, 1251, 1243, 1127, 1134, 1155, 1203, 1151, 1147, 1142, 1207, 1215, 1235, 1239, 1230, 1257, 1269, 1264, 1272, 1298, 1293, 1306, 1302, 1281, 1326, 1331, 1322, 1318, 1314, 1339, 1391, 1276, 1309, 1334, 1342, 1346, 1368, 1364, 1359, 1355, 1350, 1387, 1395, 1379, 1374, 1407, 1411, 1402, 1439, 1435, 1443, 1431, 1427, 1423, 1419, 1414, 1451, 1446, 1469, 1464, 1473, 1485, 1489, 1477, 1139, 1492, 1501, 1496, 1504, 1508, 1512, 1516, 1529, 1525, 1533, 1520, 1536, 1540, 1544] (by decide +kernel) (by decide +kernel)
def sk_selL : List Nat := [11, 12, 13, 14, 15, 16, 18, 19, 20, 21, 22, 23, 25, 26, 27, 28, 29, 30, 31, 32, 33, 34, 36, 37, 38, 39, 40, 41, 42, 43, 44, 45, 46, 47, 48, 49, 50, 51, 52, 53, 54, 55, 56, 57, 58, 59, 60, 61, 63, 64, 65, 66, 67, 69, 70, 71, 72, 73, 75, 76, 79, 80, 81, 83, 85, 86, 87, 88, 89, 91, 92, 93, 94, 96, 97, 98, 99, 100, 102, 103, 104, 105, 106, 107, 108, 109, 110, 111, 112, 113, 114, 115, 116, 117, 118, 119, 120, 121, 122, 123, 124, 125, 126, 127, 128, 129, 130, 131, 132, 133, 140, 141, 142, 143, 146, 147, 148, 150, 151, 152, 153, 154, 155, 157, 158, 159, 160, 161, 162, 163, 164, 165, 166, 167, 168, 169, 170, 171, 172, 173, 174, 175, 176, 177, 178, 179, 180, 181, 182, 183, 184, 185, 186, 187, 188, 189, 190, 192, 193, 194, 195, 196, 197, 198, 199, 200, 201, 202, 203, 204, 205, 206, 207, 208, 209, 210, 211, 212, 213, 214, 215, 216, 217, 218, 219, 221, 222, 223, 224, 225, 226, 227, 228, 229, 230, 231, 232, 234, 235, 236]
theorem sk_selW_ok : ∀ w ∈ sk_selL.map (fun mi => Jvm.Cond.selects (sk_inf mi).1.cls (sk_inf mi).1 (sk_inf mi).1), w ∈ sk_B := sk_memB _ [884, 889, 17, 18, 19, 20, 755, 714, 666, 8, 9, 10, 561, 565, 577, 509, 614, 674, 618, 593, 680, 1022, 819, 498, 502, 573, 606, 602, 915, 840, 630, 638, 646, 654, 764, 768, 772, 610, 692, 697, 705, 701, 740, 925, 929, 920, 1018, 1026, 634, 979, 517, 988, 642, 832, 855, 875, 13, 14, 15, 16, 958, 1034, 962, 684, 490, 526, 3, 1, 2, 5, 4, 6, 7, 827, 732, 724, 11, 12, 483, 494, 522, 569, 581, 598, 623, 650, 658, 662, 709, 751, 760, 777, 781, 815, 851, 880, 911, 937, 947, 954, 975, 984, 994, 1002, 1006, 1010, 1014, 1030, 1039, 1043, 0, 21, 22, 23, 56, 60, 29, 39, 30, 31, 40, 35, 36, 34, 1128, 1135, 27, 28, 26, 25, 1143, 1208, 1216, 32, 33, 1231, 1258, 37, 1265, 1273, 42, 41, 44, 43, 38, 48, 49, 47, 46, 45, 50, 58, 1277, 1310, 1335, 1343, 1347, 54, 53, 52, 51, 1351, 57, 59, 55, 1375, 61, 62, 1403, 68, 67, 69, 66, 65, 64, 63, 1415, 70, 1447, 71, 1465, 1474, 72, 73, 1478, 24, 1493, 74, 1497, 1505, 1509, 1513, 1517, 76, 75, 77, 1521, 1537, 1541, 1545] (by decide +kernel) (by decide +kernel)
def sk_statL : List Nat := [1, 2, 3, 4, 5, 6, 7, 8, 9, 74, 77, 90, 134, 135, 136, 137, 138, 139, 144, 149, 156, 191, 220, 233, 237, 238, 239, 240, 241, 242, 243]
theorem sk_statW_ok : ∀ w ∈ sk_statL.map (fun mi => Jvm.Cond.static (sk_inf mi).1), w ∈ sk_B := sk_memB _ [587, 1158, 784, 787, 790, 802, 808, 811, 805, 863, 835, 541, 486, 584, 626, 997, 950, 932, 1131, 1219, 1254, 1371, 1261, 1481, 1457, 1454, 793, 799, 747, 505, 744] (by decide +kernel) (by decide +kernel)
def sk_FL : List (Nat × Nat × Nat × Nat) := [(11, 10, 10, 0), (11, 19, 10, 1), (11, 23, 10, 2), (11, 26, 10, 3), (11, 32, 10, 4), (11, 39, 10, 5), (11, 46, 10, 6), (11, 52, 10, 7), (11, 58, 10, 8), (11, 62, 10, 9), (11, 72, 8, 1), (11, 80, 3, 4), (11, 93, 3, 5), (11, 96, 3, 0), (11, 100, 8, 2), (11, 112, 2, 0), (11, 115, 2, 1), (11, 118, 2, 2), (11, 121, 2, 3), (11, 128, 2, 5), (11, 131, 2, 6), (11, 134, 2, 7), (11, 137, 2, 4), (11, 171, 3, 6), (11, 189, 3, 1), (11, 193, 3, 7), (11, 196, 3, 8), (11, 203, 1, 0), (11, 207, 7, 0), (11, 212, 7, 1), (11, 213, 7, 2), (11, 214, 7, 3), (11, 215, 7, 4), (11, 239, 3, 2), (11, 242, 3, 3), (11, 246, 9, 4), (11, 249, 9, 0), (11, 251, 9, 1), (11, 253, 9, 2), (11, 255, 9, 3), (11, 270, 5, 1), (11, 273, 5, 0), (11, 279, 5, 2), (11, 314, 6, 2), (11, 328, 4, 2), (11, 333, 4, 0), (11, 355, 6, 1), (11, 359, 6, 0), (0, 29, 3, 4), (0, 35, 3, 5), (0, 38, 3, 0), (0, 42, 2, 4), (0, 47, 2, 6), (0, 50, 2, 9), (0, 68, 2, 1), (0, 75, 2, 2), (1, 9, 0, 0), (1, 15, 0, 1), (1, 18, 0, 2), (1, 21, 0, 3), (1, 24, 0, 4), (1, 27, 0, 5), (1, 30, 0, 6), (1, 34, 3, 5), (1, 39, 3, 0), (1, 49, 2, 5), (1, 52, 2, 8), (1, 55, 2, 6), (1, 58, 2, 9), (2, 12, 1, 0), (2, 23, 3, 6), (2, 27, 3, 0), (2, 31, 3, 1), (2, 39, 7, 0), (2, 46, 3, 8), (2, 55, 3, 3), (2, 59, 3, 4), (2, 68, 9, 4), (2, 80, 9, 2), (2, 83, 9, 3), (2, 86, 9, 0), (2, 89, 9, 1), (2, 96, 7, 5), (2, 114, 7, 2), (2, 116, 7, 4), (2, 119, 7, 1), (2, 121, 7, 3), (2, 128, 2, 8), (2, 131, 2, 9), (2, 138, 2, 5), (2, 139, 2, 6), (3, 9, 2, 0), (3, 15, 2, 1), (3, 18, 2, 2), (3, 21, 2, 3), (3, 24, 2, 4), (3, 27, 2, 5), (3, 30, 2, 6), (3, 33, 2, 7), (3, 37, 2, 8), (3, 40, 2, 9), (4, 11, 3, 0), (4, 17, 3, 1), (4, 21, 3, 2), (4, 27, 3, 3), (4, 31, 3, 4), (4, 35, 3, 5), (4, 38, 3, 6), (4, 41, 3, 7), (4, 44, 3, 8), (4, 71, 9, 4), (4, 78, 2, 4), (4, 90, 2, 6), (4, 93, 2, 9), (4, 96, 4, 2), (4, 99, 4, 0), (4, 109, 2, 5), (4, 112, 2, 8), (5, 9, 4, 0), (5, 15, 4, 1), (5, 19, 4, 2), (5, 37, 3, 0), (5, 41, 2, 0), (6, 9, 5, 0), (6, 15, 5, 3), (6, 18, 5, 4), (6, 21, 5, 5), (6, 24, 5, 6), (6, 27, 5, 1), (6, 31, 3, 1), (6, 36, 3, 6), (6, 63, 5, 2), (6, 83, 5, 7), (6, 86, 3, 5), (6, 89, 3, 0), (6, 99, 2, 5), (6, 106, 3, 4), (6, 109, 2, 8), (6, 112, 2, 6), (6, 115, 2, 9), (7, 9, 6, 0), (7, 15, 6, 1), (7, 19, 6, 2), (7, 28, 3, 4), (7, 39, 3, 2), (8, 7, 7, 0), (8, 13, 7, 1), (8, 17, 7, 2), (8, 20, 7, 3), (8, 23, 7, 4), (8, 26, 7, 5), (9, 9, 8, 0), (9, 15, 8, 1), (9, 21, 8, 2), (9, 26, 8, 4), (9, 29, 8, 3), (10, 9, 9, 0), (10, 15, 9, 1), (10, 18, 9, 2), (10, 21, 9, 3), (10, 24, 9, 4), (12, 11, 11, 0), (12, 14, 11, 1), (12, 18, 11, 3), (12, 21, 11, 5), (12, 24, 11, 11), (12, 27, 11, 12), (12, 30, 11, 13), (12, 33, 11, 14), (12, 36, 11, 15), (12, 39, 11, 16), (12, 42, 11, 17), (12, 45, 11, 18), (12, 48, 11, 19), (12, 51, 11, 20), (12, 54, 11, 21), (12, 57, 11, 22), (12, 60, 11, 23), (12, 95, 11, 4), (12, 113, 11, 6), (12, 170, 11, 10), (12, 173, 11, 9), (12, 176, 11, 7), (12, 179, 11, 8), (12, 299, 11, 2)]
def sk_flw (q : Nat × Nat × Nat × Nat) : Jvm.Cond := .fieldLink (sk_own q.1) q.2.1 ((sk_q q.2.2.1).2.1 q.2.2.2).1 ((sk_q q.2.2.1).2.1 q.2.2.2).2.1 ((sk_q q.2.2.1).2.1 q.2.2.2).2.2.1
theorem sk_FL_ok : ∀ w ∈ sk_FL.map sk_flw, w ∈ sk_B := sk_memB _ [450, 451, 452, 453, 454, 455, 456, 457, 458, 459, 187, 262, 270, 248, 189, 124, 127, 129, 132, 139, 146, 151, 136, 275, 254, 277, 280, 343, 314, 317, 320, 323, 326, 257, 260, 231, 218, 221, 224, 227, 356, 354, 358, 442, 424, 420, 440, 438, 263, 269, 247, 134, 145, 159, 126, 130, 387, 388, 389, 390, 391, 392, 393, 268, 245, 137, 152, 143, 157, 342, 273, 246, 253, 313, 279, 259, 265, 230, 223, 226, 217, 220, 328, 319, 325, 316, 322, 155, 161, 141, 148, 122, 125, 128, 131, 133, 138, 144, 150, 153, 158, 244, 251, 255, 258, 261, 267, 272, 276, 278, 229, 135, 149, 162, 423, 419, 142, 156, 418, 421, 422, 249, 123, 353, 359, 360, 361, 362, 355, 252, 274, 357, 363, 271, 250, 140, 266, 154, 147, 160, 437, 439, 441, 264, 256, 312, 315, 318, 321, 324, 327, 185, 186, 188, 191, 190, 216, 219, 222, 225, 228, 1053, 1054, 1056, 1058, 1064, 1065, 1066, 1067, 1068, 1069, 1070, 1071, 1072, 1073, 1074, 1075, 1076, 1057, 1059, 1063, 1062, 1060, 1061, 1055] (by decide +kernel) (by decide +kernel)
def sk_ML : List (Nat × Nat × Nat) := [(11, 9, 84), (11, 18, 35), (11, 68, 134), (11, 76, 85), (11, 83, 37), (11, 86, 140), (11, 89, 86), (11, 103, 26), (11, 109, 39), (11, 124, 27), (11, 140, 135), (11, 143, 1), (11, 147, 32), (11, 151, 41), (11, 154, 40), (11, 157, 51), (11, 161, 29), (11, 165, 136), (11, 168, 44), (11, 174, 63), (11, 177, 45), (11, 181, 46), (11, 185, 47), (11, 199, 20), (11, 218, 38), (11, 221, 19), (11, 225, 18), (11, 229, 48), (11, 233, 49), (11, 236, 50), (11, 257, 3), (11, 263, 36), (11, 266, 69), (11, 276, 70), (11, 282, 71), (11, 285, 11), (11, 288, 12), (11, 291, 42), (11, 294, 59), (11, 298, 58), (11, 302, 139), (11, 306, 141), (11, 310, 138), (11, 313, 79), (11, 315, 81), (11, 318, 142), (11, 322, 143), (11, 325, 64), (11, 329, 66), (11, 336, 137), (11, 346, 43), (11, 349, 60), (11, 352, 61), (11, 358, 80), (11, 365, 65), (0, 9, 4), (0, 15, 239), (0, 21, 5), (0, 25, 6), (0, 53, 40), (0, 57, 32), (0, 61, 30), (0, 65, 240), (0, 71, 9), (0, 78, 7), (0, 81, 8), (1, 43, 27), (1, 61, 13), (1, 65, 240), (1, 71, 242), (1, 77, 14), (1, 81, 15), (1, 85, 16), (2, 18, 38), (2, 35, 20), (2, 43, 23), (2, 49, 21), (2, 52, 22), (2, 62, 30), (2, 73, 31), (2, 77, 32), (2, 92, 33), (2, 99, 83), (2, 103, 52), (2, 107, 53), (2, 110, 55), (2, 124, 29), (2, 134, 98), (2, 140, 56), (3, 43, 31), (3, 47, 32), (4, 49, 26), (4, 59, 96), (4, 62, 38), (4, 65, 242), (4, 74, 28), (4, 81, 27), (4, 84, 239), (4, 102, 67), (4, 106, 50), (4, 115, 51), (4, 119, 54), (4, 122, 97), (4, 126, 243), (4, 129, 43), (4, 133, 57), (4, 136, 34), (5, 22, 65), (5, 25, 242), (5, 31, 39), (6, 39, 77), (6, 43, 18), (6, 49, 43), (6, 59, 72), (6, 66, 73), (6, 70, 75), (6, 73, 239), (6, 79, 47), (6, 93, 27), (6, 102, 74), (6, 118, 76), (7, 22, 242), (7, 33, 240), (9, 32, 88), (9, 35, 89), (9, 39, 87), (9, 43, 90), (9, 47, 92), (9, 50, 93), (9, 53, 94), (9, 57, 25), (9, 61, 91), (10, 34, 100), (10, 38, 99), (10, 42, 97), (13, 9, 101), (13, 12, 145), (13, 13, 102), (13, 17, 158), (13, 18, 103), (13, 22, 159), (13, 23, 104), (13, 27, 164), (13, 28, 105), (13, 32, 165), (13, 33, 106), (13, 36, 166), (13, 37, 107), (13, 41, 169), (13, 42, 108), (13, 45, 170), (13, 46, 109), (13, 49, 172), (13, 50, 110), (13, 53, 173), (13, 54, 111), (13, 57, 186), (13, 58, 112), (13, 61, 187), (13, 62, 113), (13, 65, 188), (13, 66, 114), (13, 69, 189), (13, 70, 115), (13, 73, 190), (13, 74, 116), (13, 77, 196), (13, 78, 117), (13, 81, 200), (13, 82, 118), (13, 85, 203), (13, 86, 119), (13, 89, 211), (13, 90, 120), (13, 93, 213), (13, 94, 121), (13, 97, 215), (13, 98, 122), (13, 102, 216), (13, 103, 123), (13, 106, 219), (13, 107, 124), (13, 110, 222), (13, 111, 125), (13, 114, 224), (13, 115, 126), (13, 119, 225), (13, 120, 127), (13, 123, 226), (13, 124, 128), (13, 127, 227), (13, 128, 129), (13, 131, 228), (13, 132, 130), (13, 135, 232), (13, 136, 131), (13, 139, 234), (13, 140, 132), (13, 143, 235), (13, 144, 133), (13, 147, 236), (12, 69, 144), (12, 73, 149), (12, 77, 151), (12, 81, 152), (12, 84, 154), (12, 88, 155), (12, 91, 156), (12, 99, 221), (12, 102, 160), (12, 116, 162), (12, 120, 2), (12, 123, 161), (12, 126, 163), (12, 130, 148), (12, 133, 167), (12, 137, 168), (12, 140, 157), (12, 144, 220), (12, 147, 171), (12, 151, 239), (12, 156, 174), (12, 160, 176), (12, 164, 150), (12, 167, 153), (12, 182, 175), (12, 185, 177), (12, 188, 179), (12, 192, 178), (12, 195, 181), (12, 198, 180), (12, 201, 183), (12, 204, 182), (12, 207, 184), (12, 210, 192), (12, 213, 240), (12, 216, 194), (12, 219, 193), (12, 222, 191), (12, 225, 195), (12, 228, 146), (12, 232, 197), (12, 234, 185), (12, 237, 198), (12, 240, 147), (12, 243, 199), (12, 246, 201), (12, 250, 202), (12, 253, 204), (12, 256, 205), (12, 259, 206), (12, 262, 207), (12, 265, 209), (12, 268, 208), (12, 271, 210), (12, 274, 212), (12, 277, 238), (12, 284, 214), (12, 287, 217), (12, 290, 233), (12, 293, 218), (12, 296, 223), (12, 303, 229), (12, 306, 230), (12, 309, 231), (16, 59, 237), (14, 13, 241)]
theorem sk_ML_ok : ∀ w ∈ sk_ML.map (fun q => Jvm.Cond.methodLink (sk_own q.1) q.2.1 (sk_inf q.2.2).1), w ∈ sk_B := sk_memB _ [111, 205, 485, 488, 496, 511, 524, 563, 571, 575, 583, 586, 591, 600, 604, 608, 612, 625, 628, 632, 636, 644, 652, 664, 711, 712, 753, 762, 766, 774, 783, 817, 830, 853, 873, 882, 887, 913, 918, 927, 931, 939, 949, 956, 960, 965, 969, 977, 986, 996, 944, 1016, 1024, 1032, 515, 786, 792, 789, 801, 795, 796, 797, 798, 804, 807, 810, 886, 891, 908, 895, 896, 900, 904, 757, 716, 717, 668, 686, 672, 676, 677, 678, 682, 690, 695, 699, 721, 722, 738, 616, 620, 821, 825, 500, 504, 507, 917, 842, 640, 770, 694, 703, 742, 743, 922, 923, 1020, 981, 519, 990, 834, 837, 838, 844, 857, 865, 877, 848, 861, 862, 869, 1036, 964, 528, 532, 536, 540, 543, 551, 555, 559, 547, 734, 726, 730, 103, 1047, 481, 1126, 492, 1133, 520, 1141, 567, 1206, 579, 1214, 596, 1229, 621, 1256, 648, 1263, 656, 1271, 660, 1275, 707, 1308, 749, 1333, 758, 1341, 775, 1345, 779, 1349, 813, 1373, 849, 1401, 878, 1413, 909, 1445, 935, 1463, 945, 1472, 952, 1476, 973, 1491, 982, 1495, 992, 1503, 1000, 1507, 1004, 1511, 1008, 1515, 1012, 1519, 1028, 1535, 1037, 1539, 1041, 1543, 1130, 1218, 1221, 1225, 1245, 1249, 1253, 1137, 1153, 1149, 1157, 1201, 1145, 1210, 1233, 1237, 1241, 1260, 1267, 1295, 1296, 1304, 1283, 1287, 1291, 1300, 1324, 1279, 1320, 1329, 1312, 1316, 1337, 1366, 1361, 1357, 1362, 1370, 1353, 1381, 1385, 1389, 1393, 1397, 1377, 1405, 1409, 1437, 1433, 1441, 1429, 1421, 1425, 1417, 1449, 1453, 1467, 1483, 1480, 1487, 1499, 1527, 1523, 1531, 1456, 746] (by decide +kernel) (by decide +kernel)
def sk_NL : List (Nat × Nat × Nat) := [(11, 31, 17), (11, 38, 68), (11, 45, 10), (11, 66, 62), (11, 67, 78), (2, 11, 82), (3, 50, 1), (4, 26, 95), (4, 48, 24), (5, 44, 1), (9, 25, 24)]
def sk_nest : List Jvm.Cond := sk_NL.map fun q => Jvm.Cond.methodLinkNest (sk_own q.1) q.2.1 (sk_inf q.2.2).1 RX11
theorem sk_nest_ok : sk_nestOK sk_nest := by
  intro x hx
  obtain ⟨q, -, rfl⟩ := List.mem_map.mp hx
  exact ⟨_, _, _, _, rfl⟩
theorem sk_nest_tbl : ∀ w ∈ sk_nest, w ∈ lw_tbl := by
  intro w hw
  have h : sk_nest = [302, 349, 383, 414, 433, 308, 595, 212, 243, 991, 118].filterMap (fun i => lw_tbl[i]?) := by decide +kernel
  rw [h] at hw
  obtain ⟨i, -, hi⟩ := List.mem_filterMap.mp hw
  exact List.mem_of_getElem? hi
def sk_CL : List (Nat × Nat × Nat) := [(11, 7, 8), (11, 16, 3), (11, 29, 1), (11, 36, 5), (11, 43, 0), (11, 50, 4), (11, 56, 6), (2, 9, 7), (4, 9, 2), (4, 24, 9), (9, 19, 2), (13, 7, 10), (13, 10, 11)]
theorem sk_CL_ok : ∀ w ∈ sk_CL.map (fun q => Jvm.Cond.classLink (sk_own q.1) q.2.1 (sk_q q.2.2).1), w ∈ sk_B := sk_memB _ [109, 203, 300, 347, 381, 409, 411, 306, 209, 210, 115, 101, 1045] (by decide +kernel) (by decide +kernel)
def sk_oddW : List Jvm.Cond := [.classLink RX12 9 "[[I",
  .arrayClass .int,
  .constant RX11 367 1103515245,
  .constant RX12 283 1103515245,
  .constant RJxf58ca 77 2143289344,
  .constantFloat RX11 364 1258291200,
  .static arraycopyName,
  .native arraycopyName,
  .methodLink RX11 340 arraycopyName,
  .methodLink RX4 53 arraycopyName,
  .methodLink RX6 53 arraycopyName,
  .methodLink RX10 28 arraycopyName,
  .methodLink RX12 63 arraycopyName,
  .static sk_bits,
  .native sk_bits,
  .methodLink RJxf58ca 74 sk_bits,
  .methodLink RX11 1 objectInit,
  .methodLink RX1 3 objectInit,
  .methodLink RX2 3 objectInit,
  .methodLink RX3 3 objectInit,
  .methodLink RX4 3 objectInit,
  .methodLink RX5 3 objectInit,
  .methodLink RX6 3 objectInit,
  .methodLink RX7 3 objectInit,
  .methodLink RX8 1 objectInit,
  .methodLink RX9 3 objectInit,
  .methodLink RX10 3 objectInit,
  .methodLink RX12 3 objectInit,
  .instanceMethod objectInit,
  .code objectInit ⟨#[0xb1]⟩ 1 none]
theorem sk_oddW_ok : ∀ w ∈ sk_oddW, w ∈ sk_B := sk_memB _ [1051, 184, 943, 1471, 1462, 934, 823, 824, 999, 822, 843, 829, 1328, 1460, 1461, 1459, 106, 386, 305, 121, 208, 417, 352, 436, 311, 114, 215, 1050, 107, 108] (by decide +kernel) (by decide +kernel)
theorem sk_cls_0 : sk_cls 0 := ⟨rfl, sk_memB (u_ws RX1 TX1 7) [394, 396, 398, 400, 402, 404, 406] (by decide +kernel) (by decide +kernel), tyX1_ok, nmX1, sk_memB [Jvm.Cond.instantiable RX1 7, Jvm.Cond.initialized RX1] [382, 87] (by decide +kernel) (by decide +kernel) _ List.mem_cons_self, sk_memB [Jvm.Cond.instantiable RX1 7, Jvm.Cond.initialized RX1] [382, 87] (by decide +kernel) (by decide +kernel) _ (List.mem_cons_of_mem _ List.mem_cons_self)⟩
theorem sk_cls_1 : sk_cls 1 := ⟨rfl, sk_memB (u_ws RX2 TX2 1) [344] (by decide +kernel) (by decide +kernel), tyX2_ok, nmX2, sk_memB [Jvm.Cond.instantiable RX2 1, Jvm.Cond.initialized RX2] [301, 84] (by decide +kernel) (by decide +kernel) _ List.mem_cons_self, sk_memB [Jvm.Cond.instantiable RX2 1, Jvm.Cond.initialized RX2] [301, 84] (by decide +kernel) (by decide +kernel) _ (List.mem_cons_of_mem _ List.mem_cons_self)⟩
theorem sk_cls_2 : sk_cls 2 := ⟨rfl, sk_memB (u_ws RX3 TX3 10) [163, 165, 167, 169, 171, 173, 175, 177, 179, 181] (by decide +kernel) (by decide +kernel), tyX3_ok, nmX3, sk_memB [Jvm.Cond.instantiable RX3 10, Jvm.Cond.initialized RX3] [117, 81] (by decide +kernel) (by decide +kernel) _ List.mem_cons_self, sk_memB [Jvm.Cond.instantiable RX3 10, Jvm.Cond.initialized RX3] [117, 81] (by decide +kernel) (by decide +kernel) _ (List.mem_cons_of_mem _ List.mem_cons_self)⟩
theorem sk_cls_3 : sk_cls 3 := ⟨rfl, sk_memB (u_ws RX4 TX4 9) [281, 283, 285, 287, 289, 291, 293, 295, 297] (by decide +kernel) (by decide +kernel), tyX4_ok, nmX4, sk_memB [Jvm.Cond.instantiable RX4 9, Jvm.Cond.initialized RX4] [204, 82] (by decide +kernel) (by decide +kernel) _ List.mem_cons_self, sk_memB [Jvm.Cond.instantiable RX4 9, Jvm.Cond.initialized RX4] [204, 82] (by decide +kernel) (by decide +kernel) _ (List.mem_cons_of_mem _ List.mem_cons_self)⟩
theorem sk_cls_4 : sk_cls 4 := ⟨rfl, sk_memB (u_ws RX5 TX5 3) [425, 427, 429] (by decide +kernel) (by decide +kernel), tyX5_ok, nmX5, sk_memB [Jvm.Cond.instantiable RX5 3, Jvm.Cond.initialized RX5] [413, 88] (by decide +kernel) (by decide +kernel) _ List.mem_cons_self, sk_memB [Jvm.Cond.instantiable RX5 3, Jvm.Cond.initialized RX5] [413, 88] (by decide +kernel) (by decide +kernel) _ (List.mem_cons_of_mem _ List.mem_cons_self)⟩
theorem sk_cls_5 : sk_cls 5 := ⟨rfl, sk_memB (u_ws RX6 TX6 8) [364, 366, 368, 370, 372, 374, 376, 378] (by decide +kernel) (by decide +kernel), tyX6_ok, nmX6, sk_memB [Jvm.Cond.instantiable RX6 8, Jvm.Cond.initialized RX6] [348, 86] (by decide +kernel) (by decide +kernel) _ List.mem_cons_self, sk_memB [Jvm.Cond.instantiable RX6 8, Jvm.Cond.initialized RX6] [348, 86] (by decide +kernel) (by decide +kernel) _ (List.mem_cons_of_mem _ List.mem_cons_self)⟩
theorem sk_cls_6 : sk_cls 6 := ⟨rfl, sk_memB (u_ws RX7 TX7 3) [443, 445, 447] (by decide +kernel) (by decide +kernel), tyX7_ok, nmX7, sk_memB [Jvm.Cond.instantiable RX7 3, Jvm.Cond.initialized RX7] [432, 89] (by decide +kernel) (by decide +kernel) _ List.mem_cons_self, sk_memB [Jvm.Cond.instantiable RX7 3, Jvm.Cond.initialized RX7] [432, 89] (by decide +kernel) (by decide +kernel) _ (List.mem_cons_of_mem _ List.mem_cons_self)⟩
theorem sk_cls_7 : sk_cls 7 := ⟨rfl, sk_memB (u_ws RX8 TX8 6) [329, 331, 333, 335, 337, 339] (by decide +kernel) (by decide +kernel), tyX8_ok, nmX8, sk_memB [Jvm.Cond.instantiable RX8 6, Jvm.Cond.initialized RX8] [307, 85] (by decide +kernel) (by decide +kernel) _ List.mem_cons_self, sk_memB [Jvm.Cond.instantiable RX8 6, Jvm.Cond.initialized RX8] [307, 85] (by decide +kernel) (by decide +kernel) _ (List.mem_cons_of_mem _ List.mem_cons_self)⟩
theorem sk_cls_8 : sk_cls 8 := ⟨rfl, sk_memB (u_ws RX9 TX9 5) [192, 194, 196, 198, 200] (by decide +kernel) (by decide +kernel), tyX9_ok, nmX9, sk_memB [Jvm.Cond.instantiable RX9 5, Jvm.Cond.initialized RX9] [110, 80] (by decide +kernel) (by decide +kernel) _ List.mem_cons_self, sk_memB [Jvm.Cond.instantiable RX9 5, Jvm.Cond.initialized RX9] [110, 80] (by decide +kernel) (by decide +kernel) _ (List.mem_cons_of_mem _ List.mem_cons_self)⟩
theorem sk_cls_9 : sk_cls 9 := ⟨rfl, sk_memB (u_ws RX10 TX10 5) [232, 234, 236, 238, 240] (by decide +kernel) (by decide +kernel), tyX10_ok, nmX10, sk_memB [Jvm.Cond.instantiable RX10 5, Jvm.Cond.initialized RX10] [211, 83] (by decide +kernel) (by decide +kernel) _ List.mem_cons_self, sk_memB [Jvm.Cond.instantiable RX10 5, Jvm.Cond.initialized RX10] [211, 83] (by decide +kernel) (by decide +kernel) _ (List.mem_cons_of_mem _ List.mem_cons_self)⟩
theorem sk_cls_10 : sk_cls 10 := ⟨rfl, sk_memB (u_ws RX11 TX11 10) [460, 462, 464, 466, 468, 470, 472, 474, 476, 478] (by decide +kernel) (by decide +kernel), tyX11_ok, nmX11, sk_memB [Jvm.Cond.instantiable RX11 10, Jvm.Cond.initialized RX11] [102, 79] (by decide +kernel) (by decide +kernel) _ List.mem_cons_self, sk_memB [Jvm.Cond.instantiable RX11 10, Jvm.Cond.initialized RX11] [102, 79] (by decide +kernel) (by decide +kernel) _ (List.mem_cons_of_mem _ List.mem_cons_self)⟩
theorem sk_cls_11 : sk_cls 11 := ⟨rfl, sk_memB (u_ws RX12 TX12 24) [1077, 1079, 1081, 1083, 1085, 1087, 1089, 1091, 1093, 1095, 1097, 1099, 1101, 1103, 1105, 1107, 1109, 1111, 1113, 1115, 1117, 1119, 1121, 1123] (by decide +kernel) (by decide +kernel), tyX12_ok, nmX12, sk_memB [Jvm.Cond.instantiable RX12 24, Jvm.Cond.initialized RX12] [1046, 90] (by decide +kernel) (by decide +kernel) _ List.mem_cons_self, sk_memB [Jvm.Cond.instantiable RX12 24, Jvm.Cond.initialized RX12] [1046, 90] (by decide +kernel) (by decide +kernel) _ (List.mem_cons_of_mem _ List.mem_cons_self)⟩
theorem sk_cls_all : ∀ ci : Nat, ci < 12 → sk_cls ci := by
  intro ci h
  match ci, h with
  | 0, _ => exact sk_cls_0
  | 1, _ => exact sk_cls_1
  | 2, _ => exact sk_cls_2
  | 3, _ => exact sk_cls_3
  | 4, _ => exact sk_cls_4
  | 5, _ => exact sk_cls_5
  | 6, _ => exact sk_cls_6
  | 7, _ => exact sk_cls_7
  | 8, _ => exact sk_cls_8
  | 9, _ => exact sk_cls_9
  | 10, _ => exact sk_cls_10
  | 11, _ => exact sk_cls_11
  | ci + 12, h => omega
end
section
/-! ===== the check of a table ===== -/
def sk_argL : List Nat := [0, 2, 1, 2, 2, 1, 3, 1, 1, 4, 0, 1, 0, 1, 2, 4, 0, 0, 1, 2, 2, 2, 2, 2, 0, 4, 1, 0, 0, 4, 1, 1, 1, 3, 1, 0, 1, 1, 0, 1, 1, 0, 0, 0, 0, 1, 1, 2, 0, 1, 1, 4, 3, 3, 4, 5, 4, 0, 1, 0, 0, 0, 0, 0, 2, 0, 2, 1, 0, 2, 2, 0, 1, 1, 2, 0, 1, 2, 0, 0, 2, 1, 0, 5, 0, 1, 1, 0, 0, 1, 1, 0, 1, 0, 1, 0, 1, 4, 3, 1, 3, 0, 6, 1, 0, 2, 2, 3, 1, 2, 2, 2, 1, 0, 2, 2, 1, 1, 1, 0, 1, 2, 4, 2, 3, 3, 5, 2, 0, 0, 1, 3, 3, 5, 1, 1, 1, 3, 2, 1, 0, 2, 1, 1, 3, 0, 1, 1, 1, 2, 1, 2, 2, 4, 1, 1, 8, 4, 6, 1, 1, 2, 1, 0, 0, 2, 2, 0, 1, 3, 1, 2, 2, 2, 3, 3, 4, 4, 1, 4, 2, 2, 1, 0, 0, 0, 2, 1, 0, 2, 2, 2, 4, 2, 0, 1, 1, 0, 0, 0, 1, 2, 3, 1, 2, 2, 3, 3, 1, 0, 1, 0, 0, 1, 2, 2, 4, 1, 1, 2, 1, 0, 3, 2, 3, 5, 2, 0, 0, 2, 0, 0, 1, 1, 3, 3, 5, 1, 1, 2, 2, 3, 2, 4, 1]
def sk_calleeB (I : sk_I) (n : Nat) : Bool := decide (I.1.cls ≠ "java/lang/invoke/MethodHandle") && decide (I.1.cls ≠ "java/lang/invoke/VarHandle") && decide ((parseMethodDescriptor I.1.desc).map (fun d => d.parameters.length) = some n) && decide (I.2.2.1 ≤ 45) && decide (Jvm.Cond.initialized I.1.cls ∈ sk_initW)
theorem sk_calleeB_ok : (((sk_infL.drop 1).take 243).zip ((sk_argL.drop 1).take 243)).all (fun q => sk_calleeB q.1 q.2) = true := by decide +kernel
theorem sk_callee_ok {x : Nat} (h0 : 0 < x) (h1 : x < 244) : sk_callee (sk_inf x).1 (sk_inf x).2.1 (sk_inf x).2.2.1 (sk_inf x).2.2.2 (sk_argL.getD x 0) := by
  have l1 : sk_infL.length = 245 := rfl
  have l2 : sk_argL.length = 245 := rfl
  obtain ⟨k, rfl⟩ : ∃ k, x = k + 1 := ⟨x - 1, by omega⟩
  have e1 : ((sk_infL.drop 1).take 243)[k]? = some (sk_inf (k + 1)) := by
    rw [List.getElem?_take, if_pos (by omega), List.getElem?_drop, Nat.add_comm 1 k, List.getElem?_eq_getElem (by omega)]
    unfold sk_inf
    rw [List.getD_eq_getElem?_getD, List.getElem?_eq_getElem (by omega)]
    rfl
  have e2 : ((sk_argL.drop 1).take 243)[k]? = some (sk_argL.getD (k + 1) 0) := by
    rw [List.getElem?_take, if_pos (by omega), List.getElem?_drop, Nat.add_comm 1 k, List.getElem?_eq_getElem (by omega)]
    rw [List.getD_eq_getElem?_getD, List.getElem?_eq_getElem (by omega)]
    rfl
  have hm := List.all_eq_true.mp sk_calleeB_ok (sk_inf (k + 1), sk_argL.getD (k + 1) 0) (List.mem_of_getElem? (i := k) (by rw [List.getElem?_zip_eq_some]; exact ⟨e1, e2⟩))
  simp only [sk_calleeB, Bool.and_eq_true, decide_eq_true_eq] at hm
  obtain ⟨⟨⟨⟨h2, h3⟩, h4⟩, h5⟩, h6⟩ := hm
  refine ⟨sk_codeW_ok _ (List.mem_map.mpr ⟨_, List.mem_of_getElem? e1, rfl⟩), sk_initW_ok _ h6, ⟨h2, h3, h4⟩, h5⟩
def sk_chkI (o : Nat) (ini : Bool) (nL : Nat) (ret : Option FieldType) (i : Instr) (x y z pc : Nat) : Bool := match i with
  | .istore_n n => decide (n.val < nL)
  | .fstore_n n => decide (n.val < nL)
  | .astore_n n => decide (n.val < nL)
  | .istore n => decide (n < nL)
  | .fstore n => decide (n < nL)
  | .astore n => decide (n < nL)
  | .iinc n _ => decide (n < nL)
  | .goto q => decide ((pc : Int) + q = (x : Int))
  | .ifCond _ q => decide ((pc : Int) + q = (x : Int))
  | .if_icmp _ q => decide ((pc : Int) + q = (x : Int))
  | .tableswitch d lo hi offs => decide (0 ≤ (pc : Int) + d) && offs.toList.all (fun q => decide (0 ≤ (pc : Int) + q)) && decide (hi + 1 = lo + offs.size)
  | .ldc idx => decide (Jvm.Cond.constant (sk_own o) idx (Int32.ofNat x) ∈ sk_oddW)
  | .ldc_w idx => if y = 0 then decide (Jvm.Cond.constant (sk_own o) idx (Int32.ofNat x) ∈ sk_oddW) else decide (Jvm.Cond.constantFloat (sk_own o) idx (UInt32.ofNat x) ∈ sk_oddW)
  | .getfield idx => decide (x < 12) && decide (y < (sk_q x).2.2) && decide ((o, idx, x, y) ∈ sk_FL)
  | .putfield idx => decide (x < 12) && decide (y < (sk_q x).2.2) && decide ((o, idx, x, y) ∈ sk_FL) && (if z = 0 then !((sk_q x).2.1 y).2.2.2 && decide (sk_ty x y = .int) else if z = 2 then !((sk_q x).2.1 y).2.2.2 && decide (sk_ty x y = .boolean) else ((sk_q x).2.1 y).2.2.2 && ini && decide (((sk_q x).2.1 y).1 = sk_own o) && sk_refTy (sk_ty x y))
  | .aastore => decide (y < 12) && decide (x < 3) && decide (sk_tagN x = (sk_q y).1)
  | .new idx => decide (x < 12) && decide ((o, idx, x) ∈ sk_CL)
  | .newarray t => decide (t = .int)
  | .anewarray idx => decide (x < 3) && decide ((o, idx, 2 * x + 2) ∈ sk_CL)
  | .multianewarray idx dm => decide (dm = 2) && decide (o = 12) && decide (idx = 9)
  | .invokevirtual idx => decide (0 < x) && decide (x < 244) && decide (sk_argL.getD x 0 = y) && decide ((o, idx, x) ∈ sk_ML) && decide (x ∈ sk_instL) && decide (x ∈ sk_selL) && decide (z / 4 < 12) && decide ((sk_q (z / 4)).1 = (sk_inf x).1.cls)
  | .invokespecial idx => if x = 0 then decide (Jvm.Cond.methodLink (sk_own o) idx objectInit ∈ sk_oddW)
      else decide (0 < x) && decide (x < 244) && decide (sk_argL.getD x 0 = y) && (decide ((o, idx, x) ∈ sk_ML) || decide ((o, idx, x) ∈ sk_NL)) && decide (x ∈ sk_instL) && decide ((sk_inf x).2.2.2 = none) && decide ((sk_inf x).1.name = "<init>")
  | .invokestatic idx => if x = 0 then (if y = 5 then decide (Jvm.Cond.methodLink (sk_own o) idx arraycopyName ∈ sk_oddW) else decide (Jvm.Cond.methodLink (sk_own o) idx sk_bits ∈ sk_oddW))
      else decide (0 < x) && decide (x < 244) && decide (sk_argL.getD x 0 = y) && (decide ((o, idx, x) ∈ sk_ML) || decide ((o, idx, x) ∈ sk_NL)) && decide (x ∈ sk_statL)
  | .ireturn => decide (ret = some .int ∨ ret = some .boolean)
  | .freturn => decide (ret = some .float)
  | .return_ => decide (ret = none)
  | _ => true
theorem sk_tagQ {x : Nat} (h : x < 3) : sk_tagN x = (sk_q (2 * x + 2)).1 := by
  rcases (show x = 0 ∨ x = 1 ∨ x = 2 by omega) with rfl | rfl | rfl <;> rfl
theorem sk_link {o idx x : Nat} (h : (o, idx, x) ∈ sk_ML) : Jvm.Cond.methodLink (sk_own o) idx (sk_inf x).1 ∈ sk_B := sk_ML_ok _ (List.mem_map.mpr ⟨_, h, rfl⟩)
theorem sk_linkN {o idx x : Nat} (h : (o, idx, x) ∈ sk_NL) : Jvm.Cond.methodLinkNest (sk_own o) idx (sk_inf x).1 RX11 ∈ sk_nest := List.mem_map.mpr ⟨_, h, rfl⟩
theorem sk_odd {w : Jvm.Cond} (h : w ∈ sk_oddW) : w ∈ sk_B := sk_oddW_ok w h
theorem sk_chkI_ok {o nL : Nat} {ini : Bool} {ret : Option FieldType} {i : Instr} {x y z pc : Nat} {nm : String} (hini : ini = true → nm = "<init>") (h : sk_chkI o ini nL ret i x y z pc = true) : sk_okI sk_inf sk_nest (sk_own o) nm nL i x y z pc ∧ sk_retOK ret i := by
  cases i
  case istore_n n => exact ⟨of_decide_eq_true (p := n.val < nL) h, trivial⟩
  case fstore_n n => exact ⟨of_decide_eq_true (p := n.val < nL) h, trivial⟩
  case astore_n n => exact ⟨of_decide_eq_true (p := n.val < nL) h, trivial⟩
  case istore n => exact ⟨of_decide_eq_true (p := n < nL) h, trivial⟩
  case fstore n => exact ⟨of_decide_eq_true (p := n < nL) h, trivial⟩
  case astore n => exact ⟨of_decide_eq_true (p := n < nL) h, trivial⟩
  case iinc n q => exact ⟨of_decide_eq_true (p := n < nL) h, trivial⟩
  case goto q => exact ⟨of_decide_eq_true (p := (pc : Int) + q = (x : Int)) h, trivial⟩
  case ifCond c q => exact ⟨of_decide_eq_true (p := (pc : Int) + q = (x : Int)) h, trivial⟩
  case if_icmp c q => exact ⟨of_decide_eq_true (p := (pc : Int) + q = (x : Int)) h, trivial⟩
  case tableswitch d lo hi offs =>
    unfold sk_chkI at h
    simp only [Bool.and_eq_true, decide_eq_true_eq, List.all_eq_true] at h
    exact ⟨⟨h.1.1, h.1.2, h.2⟩, trivial⟩
  case ldc idx => exact ⟨sk_odd (of_decide_eq_true h), trivial⟩
  case ldc_w idx =>
    refine ⟨?_, trivial⟩
    unfold sk_chkI at h
    unfold sk_okI
    dsimp only at h ⊢
    split at h
    · next hy => rw [if_pos hy]; exact sk_odd (of_decide_eq_true h)
    · next hy => rw [if_neg hy]; exact sk_odd (of_decide_eq_true h)
  case getfield idx =>
    unfold sk_chkI at h
    simp only [Bool.and_eq_true, decide_eq_true_eq] at h
    exact ⟨⟨sk_cls_all x h.1.1, h.1.2, sk_FL_ok _ (List.mem_map.mpr ⟨_, h.2, rfl⟩)⟩, trivial⟩
  case putfield idx =>
    unfold sk_chkI at h
    simp only [Bool.and_eq_true, decide_eq_true_eq] at h
    obtain ⟨⟨⟨h1, h2⟩, h3⟩, h4⟩ := h
    refine ⟨⟨⟨sk_cls_all x h1, h2, sk_FL_ok _ (List.mem_map.mpr ⟨_, h3, rfl⟩)⟩, fun hz => ?_, fun hz => ?_, fun hz => ?_⟩, trivial⟩
    · subst hz
      simpa using h4
    · subst hz
      simpa using h4
    · subst hz
      have h5 : (((sk_q x).2.1 y).2.2.2 = true ∧ ini = true ∧ ((sk_q x).2.1 y).1 = sk_own o) ∧ sk_refTy (sk_ty x y) = true := by simpa [and_assoc] using h4
      exact ⟨h5.1.1, hini h5.1.2.1, h5.1.2.2, h5.2⟩
  case aastore =>
    unfold sk_chkI at h
    simp only [Bool.and_eq_true, decide_eq_true_eq] at h
    exact ⟨⟨sk_cls_all y h.1.1, h.1.2, h.2⟩, trivial⟩
  case new idx =>
    unfold sk_chkI at h
    simp only [Bool.and_eq_true, decide_eq_true_eq] at h
    exact ⟨⟨sk_cls_all x h.1, sk_CL_ok _ (List.mem_map.mpr ⟨_, h.2, rfl⟩)⟩, trivial⟩
  case newarray t => exact ⟨⟨of_decide_eq_true h, sk_odd (by decide +kernel)⟩, trivial⟩
  case anewarray idx =>
    unfold sk_chkI at h
    simp only [Bool.and_eq_true, decide_eq_true_eq] at h
    refine ⟨⟨h.1, ?_⟩, trivial⟩
    rw [sk_tagQ h.1]
    exact sk_CL_ok _ (List.mem_map.mpr ⟨_, h.2, rfl⟩)
  case multianewarray idx dm =>
    unfold sk_chkI at h
    simp only [Bool.and_eq_true, decide_eq_true_eq] at h
    obtain ⟨⟨rfl, rfl⟩, rfl⟩ := h
    exact ⟨⟨rfl, sk_odd (by decide +kernel), sk_odd (by decide +kernel)⟩, trivial⟩
  case invokevirtual idx =>
    unfold sk_chkI at h
    simp only [Bool.and_eq_true, decide_eq_true_eq] at h
    obtain ⟨⟨⟨⟨⟨⟨⟨h1, h2⟩, h3⟩, h4⟩, h5⟩, h6⟩, h7⟩, h8⟩ := h
    subst h3
    exact ⟨⟨sk_callee_ok h1 h2, ⟨sk_link h4, sk_instW_ok _ (List.mem_map.mpr ⟨_, h5, rfl⟩), sk_selW_ok _ (List.mem_map.mpr ⟨_, h6, rfl⟩)⟩, sk_cls_all _ h7, h8⟩, trivial⟩
  case invokespecial idx =>
    refine ⟨?_, trivial⟩
    unfold sk_chkI at h
    unfold sk_okI
    dsimp only at h ⊢
    split at h
    · next hx =>
      rw [if_pos hx]
      exact ⟨sk_odd (of_decide_eq_true h), sk_odd (by decide +kernel), sk_odd (by decide +kernel)⟩
    · next hx =>
      rw [if_neg hx]
      simp only [Bool.and_eq_true, Bool.or_eq_true, decide_eq_true_eq] at h
      obtain ⟨⟨⟨⟨⟨⟨h1, h2⟩, h3⟩, h4⟩, h5⟩, h6⟩, h7⟩ := h
      subst h3
      exact ⟨sk_callee_ok h1 h2, h6, h7, sk_instW_ok _ (List.mem_map.mpr ⟨_, h5, rfl⟩), h4.elim (fun q => Or.inl (sk_link q)) (fun q => Or.inr ⟨_, sk_linkN q⟩)⟩
  case invokestatic idx =>
    refine ⟨?_, trivial⟩
    unfold sk_chkI at h
    unfold sk_okI
    dsimp only at h ⊢
    split at h
    · next hx =>
      rw [if_pos hx]
      split at h
      · next hy =>
        rw [if_pos hy]
        exact ⟨sk_odd (of_decide_eq_true h), sk_odd (by decide +kernel), sk_odd (by decide +kernel), sk_initW_ok _ (by decide +kernel)⟩
      · next hy =>
        rw [if_neg hy]
        exact ⟨sk_odd (of_decide_eq_true h), sk_odd (by decide +kernel), sk_odd (by decide +kernel), sk_initW_ok _ (by decide +kernel)⟩
    · next hx =>
      rw [if_neg hx]
      simp only [Bool.and_eq_true, Bool.or_eq_true, decide_eq_true_eq] at h
      obtain ⟨⟨⟨⟨h1, h2⟩, h3⟩, h4⟩, h5⟩ := h
      subst h3
      exact ⟨sk_callee_ok h1 h2, sk_statW_ok _ (List.mem_map.mpr ⟨_, h5, rfl⟩), h4.elim (fun q => Or.inl (sk_link q)) (fun q => Or.inr ⟨_, sk_linkN q⟩)⟩
  case ireturn => exact ⟨trivial, of_decide_eq_true (p := ret = some .int ∨ ret = some .boolean) h⟩
  case freturn => exact ⟨trivial, of_decide_eq_true (p := ret = some .float) h⟩
  case return_ => exact ⟨trivial, of_decide_eq_true (p := ret = none) h⟩
  all_goals exact ⟨trivial, trivial⟩
def sk_chk (o : Nat) (ini : Bool) (I : sk_I) (e : sk_E) : Bool := decide (decode I.2.1 e.1 = .ok (e.2.1, sk_ilen e.2.1 e.2.2.2.2)) && sk_chkI o ini I.2.2.1 I.2.2.2 e.2.1 e.2.2.1 e.2.2.2.1 e.2.2.2.2 e.1
theorem sk_find_mem : ∀ (l : List sk_E) (pc : Nat) (q : Instr × Nat × Nat × Nat), sk_find l pc = some q → (pc, q) ∈ l
  | [], _, _, h => by cases h
  | e :: l, pc, q, h => by
    unfold sk_find at h
    cases hb : Nat.beq e.1 pc with
    | true =>
      rw [hb] at h
      cases h
      have := Nat.eq_of_beq_eq_true hb
      subst this
      exact List.mem_cons_self
    | false =>
      rw [hb] at h
      exact List.mem_cons_of_mem _ (sk_find_mem l pc q h)
theorem sk_mOK_of {I : sk_I} {tab : List sk_E} (o : Nat) (ini : Bool) (ho : sk_own o = I.1.cls) (hini : ini = true → I.1.name = "<init>") (hpl : plainFor I.1 = true) (h : tab.all (sk_chk o ini I) = true) : sk_mOK sk_inf sk_nest I tab := by
  have key : ∀ (pc : Nat) (i : Instr) (x y z : Nat), sk_find tab pc = some (i, x, y, z) → decode I.2.1 pc = .ok (i, sk_ilen i z) ∧ sk_okI sk_inf sk_nest (sk_own o) I.1.name I.2.2.1 i x y z pc ∧ sk_retOK I.2.2.2 i := by
    intro pc i x y z hf
    have h1 := List.all_eq_true.mp h _ (sk_find_mem tab pc _ hf)
    unfold sk_chk at h1
    rw [Bool.and_eq_true, decide_eq_true_eq] at h1
    exact ⟨h1.1, sk_chkI_ok hini h1.2⟩
  refine ⟨hpl, fun pc i x y z hf => ⟨(key pc i x y z hf).1, ?_⟩, fun pc i x y z hf => (key pc i x y z hf).2.2⟩
  rw [← ho]
  exact (key pc i x y z hf).2.1
end
section
/-! ===== tables of the methods (written by program) ===== -/
def sk_t3 : List sk_E := [(0, .iload_n 1, 0, 0, 0), (1, .bipush 8, 0, 0, 0), (3, .if_icmp .eq 9, 12, 0, 0), (6, .aload_n 0, 0, 0, 0), (7, .iload_n 1, 0, 0, 0), (8, .invokestatic 9, 4, 2, 1), (11, .ireturn, 0, 0, 0), (12, .iconst 0, 0, 0, 0), (13, .istore_n 2, 0, 0, 0), (14, .iconst 0, 0, 0, 0), (15, .istore_n 3, 0, 0, 0), (16, .iload_n 3, 0, 0, 0), (17, .bipush 8, 0, 0, 0), (19, .if_icmp .ge 19, 38, 0, 0), (22, .iload_n 2, 0, 0, 0), (23, .aload_n 0, 0, 0, 0), (24, .iload_n 3, 0, 0, 0), (25, .invokestatic 9, 4, 2, 1), (28, .invokestatic 15, 239, 2, 1), (31, .istore_n 2, 0, 0, 0), (32, .iinc 3 1, 0, 0, 0), (35, .goto (-19), 16, 0, 0), (38, .iload_n 2, 0, 0, 0), (39, .ireturn, 0, 0, 0)]
set_option maxRecDepth 100000 in
theorem sk_k3 : sk_mOK sk_inf sk_nest (sk_inf 3) sk_t3 := sk_mOK_of 0 false rfl (fun h => absurd h (by decide)) (by decide +kernel) (by decide +kernel)
def sk_t4 : List sk_E := [(0, .iload_n 1, 0, 0, 0), (1, .iconst 1, 0, 0, 0), (2, .if_icmp .ne 8, 10, 0, 0), (5, .aload_n 0, 0, 0, 0), (6, .invokestatic 21, 5, 1, 1), (9, .ireturn, 0, 0, 0), (10, .iload_n 1, 0, 0, 0), (11, .bipush 7, 0, 0, 0), (13, .if_icmp .eq 10, 23, 0, 0), (16, .aload_n 0, 0, 0, 0), (17, .iload_n 1, 0, 0, 0), (18, .iconst 0, 0, 0, 0), (19, .invokestatic 25, 6, 3, 1), (22, .ireturn, 0, 0, 0), (23, .iconst 0, 0, 0, 0), (24, .istore_n 2, 0, 0, 0), (25, .iconst 1, 0, 0, 0), (26, .istore_n 3, 0, 0, 0), (27, .iload_n 3, 0, 0, 0), (28, .aload_n 0, 0, 0, 0), (29, .getfield 29, 3, 4, 0), (32, .iconst 2, 0, 0, 0), (33, .idiv, 0, 0, 0), (34, .if_icmp .gt 20, 54, 0, 0), (37, .iload_n 2, 0, 0, 0), (38, .aload_n 0, 0, 0, 0), (39, .iload_n 1, 0, 0, 0), (40, .iload_n 3, 0, 0, 0), (41, .invokestatic 25, 6, 3, 1), (44, .invokestatic 15, 239, 2, 1), (47, .istore_n 2, 0, 0, 0), (48, .iinc 3 1, 0, 0, 0), (51, .goto (-24), 27, 0, 0), (54, .iload_n 2, 0, 0, 0), (55, .ireturn, 0, 0, 0)]
set_option maxRecDepth 100000 in
theorem sk_k4 : sk_mOK sk_inf sk_nest (sk_inf 4) sk_t4 := sk_mOK_of 0 false rfl (fun h => absurd h (by decide)) (by decide +kernel) (by decide +kernel)
def sk_t5 : List sk_E := [(0, .iconst 0, 0, 0, 0), (1, .istore_n 1, 0, 0, 0), (2, .iconst 0, 0, 0, 0), (3, .istore_n 2, 0, 0, 0), (4, .iload_n 2, 0, 0, 0), (5, .aload_n 0, 0, 0, 0), (6, .getfield 35, 3, 5, 0), (9, .if_icmp .ge 87, 96, 0, 0), (12, .aload_n 0, 0, 0, 0), (13, .getfield 38, 3, 0, 1), (16, .iload_n 2, 0, 0, 0), (17, .aaload, 0, 0, 0), (18, .astore_n 3, 0, 0, 0), (19, .aload_n 3, 0, 0, 0), (20, .getfield 42, 2, 4, 0), (23, .iconst 1, 0, 0, 0), (24, .if_icmp .ne 20, 44, 0, 0), (27, .iload_n 1, 0, 0, 0), (28, .aload_n 3, 0, 0, 0), (29, .getfield 47, 2, 6, 0), (32, .aload_n 3, 0, 0, 0), (33, .getfield 50, 2, 9, 0), (36, .iadd, 0, 0, 0), (37, .invokestatic 15, 239, 2, 1), (40, .istore_n 1, 0, 0, 0), (41, .goto 49, 90, 0, 0), (44, .aload_n 0, 0, 0, 0), (45, .iload_n 2, 0, 0, 0), (46, .invokevirtual 53, 40, 1, 13), (49, .ifCond .eq 41, 90, 0, 0), (52, .aload_n 3, 0, 0, 0), (53, .iconst 0, 0, 0, 0), (54, .invokevirtual 57, 32, 1, 9), (57, .istore 4, 0, 0, 0), (59, .aload_n 3, 0, 0, 0), (60, .aload_n 0, 0, 0, 0), (61, .getfield 29, 3, 4, 0), (64, .invokevirtual 61, 30, 1, 9), (67, .iconst 2, 0, 0, 0), (68, .if_icmp .ne 15, 83, 0, 0), (71, .iload 4, 0, 0, 0), (73, .aload_n 3, 0, 0, 0), (74, .iconst 1, 0, 0, 0), (75, .invokevirtual 57, 32, 1, 9), (78, .invokestatic 65, 240, 2, 1), (81, .istore 4, 0, 0, 0), (83, .iload_n 1, 0, 0, 0), (84, .iload 4, 0, 0, 0), (86, .invokestatic 15, 239, 2, 1), (89, .istore_n 1, 0, 0, 0), (90, .iinc 2 1, 0, 0, 0), (93, .goto (-89), 4, 0, 0), (96, .iload_n 1, 0, 0, 0), (97, .ireturn, 0, 0, 0)]
set_option maxRecDepth 100000 in
theorem sk_k5 : sk_mOK sk_inf sk_nest (sk_inf 5) sk_t5 := sk_mOK_of 0 false rfl (fun h => absurd h (by decide)) (by decide +kernel) (by decide +kernel)
def sk_t6 : List sk_E := [(0, .iconst 0, 0, 0, 0), (1, .istore_n 3, 0, 0, 0), (2, .iconst 0, 0, 0, 0), (3, .istore 4, 0, 0, 0), (5, .iload 4, 0, 0, 0), (7, .aload_n 0, 0, 0, 0), (8, .getfield 35, 3, 5, 0), (11, .if_icmp .ge 117, 128, 0, 0), (14, .aload_n 0, 0, 0, 0), (15, .getfield 38, 3, 0, 1), (18, .iload 4, 0, 0, 0), (20, .aaload, 0, 0, 0), (21, .astore 5, 0, 0, 0), (23, .aload 5, 0, 0, 0), (25, .getfield 42, 2, 4, 0), (28, .iconst 1, 0, 0, 0), (29, .if_icmp .eq 15, 44, 0, 0), (32, .aload_n 0, 0, 0, 0), (33, .iload 4, 0, 0, 0), (35, .invokevirtual 53, 40, 1, 13), (38, .ifCond .ne 6, 44, 0, 0), (41, .goto 81, 122, 0, 0), (44, .iload_n 1, 0, 0, 0), (45, .iload_n 2, 0, 0, 0), (46, .aload 5, 0, 0, 0), (48, .getfield 68, 2, 1, 0), (51, .aload_n 0, 0, 0, 0), (52, .getfield 29, 3, 4, 0), (55, .invokestatic 71, 9, 4, 1), (58, .aload 5, 0, 0, 0), (60, .iconst 0, 0, 0, 0), (61, .invokevirtual 57, 32, 1, 9), (64, .imul, 0, 0, 0), (65, .istore 6, 0, 0, 0), (67, .aload 5, 0, 0, 0), (69, .getfield 42, 2, 4, 0), (72, .iconst 1, 0, 0, 0), (73, .if_icmp .eq 44, 117, 0, 0), (76, .aload 5, 0, 0, 0), (78, .aload_n 0, 0, 0, 0), (79, .getfield 29, 3, 4, 0), (82, .invokevirtual 61, 30, 1, 9), (85, .iconst 2, 0, 0, 0), (86, .if_icmp .ne 31, 117, 0, 0), (89, .iload 6, 0, 0, 0), (91, .iload_n 1, 0, 0, 0), (92, .iload_n 2, 0, 0, 0), (93, .aload 5, 0, 0, 0), (95, .getfield 75, 2, 2, 0), (98, .aload_n 0, 0, 0, 0), (99, .getfield 29, 3, 4, 0), (102, .invokestatic 71, 9, 4, 1), (105, .aload 5, 0, 0, 0), (107, .iconst 1, 0, 0, 0), (108, .invokevirtual 57, 32, 1, 9), (111, .imul, 0, 0, 0), (112, .invokestatic 65, 240, 2, 1), (115, .istore 6, 0, 0, 0), (117, .iload_n 3, 0, 0, 0), (118, .iload 6, 0, 0, 0), (120, .iadd, 0, 0, 0), (121, .istore_n 3, 0, 0, 0), (122, .iinc 4 1, 0, 0, 0), (125, .goto (-120), 5, 0, 0), (128, .iload_n 1, 0, 0, 0), (129, .iconst 2, 0, 0, 0), (130, .if_icmp .ne 7, 137, 0, 0), (133, .iconst 1, 0, 0, 0), (134, .goto 7, 141, 0, 0), (137, .aload_n 0, 0, 0, 0), (138, .getfield 29, 3, 4, 0), (141, .istore 4, 0, 0, 0), (143, .iload_n 1, 0, 0, 0), (144, .invokestatic 78, 7, 1, 1), (147, .ifCond .eq 14, 161, 0, 0), (150, .iload_n 1, 0, 0, 0), (151, .invokestatic 81, 8, 1, 1), (154, .aload_n 0, 0, 0, 0), (155, .getfield 29, 3, 4, 0), (158, .imul, 0, 0, 0), (159, .istore 4, 0, 0, 0), (161, .iload_n 3, 0, 0, 0), (162, .iload 4, 0, 0, 0), (164, .iadd, 0, 0, 0), (165, .iconst 1, 0, 0, 0), (166, .isub, 0, 0, 0), (167, .iload 4, 0, 0, 0), (169, .idiv, 0, 0, 0), (170, .ireturn, 0, 0, 0)]
set_option maxRecDepth 100000 in
theorem sk_k6 : sk_mOK sk_inf sk_nest (sk_inf 6) sk_t6 := sk_mOK_of 0 false rfl (fun h => absurd h (by decide)) (by decide +kernel) (by decide +kernel)
def sk_t7 : List sk_E := [(0, .iload_n 0, 0, 0, 0), (1, .iconst 2, 0, 0, 0), (2, .if_icmp .le 13, 15, 0, 0), (5, .iload_n 0, 0, 0, 0), (6, .bipush 6, 0, 0, 0), (8, .if_icmp .gt 7, 15, 0, 0), (11, .iconst 1, 0, 0, 0), (12, .goto 4, 16, 0, 0), (15, .iconst 0, 0, 0, 0), (16, .ireturn, 0, 0, 0)]
set_option maxRecDepth 100000 in
theorem sk_k7 : sk_mOK sk_inf sk_nest (sk_inf 7) sk_t7 := sk_mOK_of 0 false rfl (fun h => absurd h (by decide)) (by decide +kernel) (by decide +kernel)
def sk_t8 : List sk_E := [(0, .iload_n 0, 0, 0, 0), (1, .iconst 2, 0, 0, 0), (2, .isub, 0, 0, 0), (3, .ireturn, 0, 0, 0)]
set_option maxRecDepth 100000 in
theorem sk_k8 : sk_mOK sk_inf sk_nest (sk_inf 8) sk_t8 := sk_mOK_of 0 false rfl (fun h => absurd h (by decide)) (by decide +kernel) (by decide +kernel)
def sk_t9 : List sk_E := [(0, .iload_n 0, 0, 0, 0), (1, .ifCond .ne 5, 6, 0, 0), (4, .iload_n 2, 0, 0, 0), (5, .ireturn, 0, 0, 0), (6, .iload_n 0, 0, 0, 0), (7, .iconst 2, 0, 0, 0), (8, .if_icmp .ne 16, 24, 0, 0), (11, .iconst 2, 0, 0, 0), (12, .iload_n 2, 0, 0, 0), (13, .imul, 0, 0, 0), (14, .iload_n 3, 0, 0, 0), (15, .if_icmp .le 7, 22, 0, 0), (18, .iconst 1, 0, 0, 0), (19, .goto 4, 23, 0, 0), (22, .iconst 0, 0, 0, 0), (23, .ireturn, 0, 0, 0), (24, .iload_n 0, 0, 0, 0), (25, .invokestatic 78, 7, 1, 1), (28, .ifCond .eq 38, 66, 0, 0), (31, .iload_n 0, 0, 0, 0), (32, .invokestatic 81, 8, 1, 1), (35, .istore 4, 0, 0, 0), (37, .iload 4, 0, 0, 0), (39, .iconst 1, 0, 0, 0), (40, .iadd, 0, 0, 0), (41, .iload_n 2, 0, 0, 0), (42, .imul, 0, 0, 0), (43, .istore 5, 0, 0, 0), (45, .iload 5, 0, 0, 0), (47, .iload_n 3, 0, 0, 0), (48, .irem, 0, 0, 0), (49, .ifCond .ne 10, 59, 0, 0), (52, .iload 4, 0, 0, 0), (54, .iload_n 2, 0, 0, 0), (55, .imul, 0, 0, 0), (56, .goto 9, 65, 0, 0), (59, .iload 5, 0, 0, 0), (61, .iload_n 3, 0, 0, 0), (62, .idiv, 0, 0, 0), (63, .iload_n 3, 0, 0, 0), (64, .imul, 0, 0, 0), (65, .ireturn, 0, 0, 0), (66, .iload_n 2, 0, 0, 0), (67, .iload_n 3, 0, 0, 0), (68, .iload_n 1, 0, 0, 0), (69, .isub, 0, 0, 0), (70, .if_icmp .le 5, 75, 0, 0), (73, .iload_n 3, 0, 0, 0), (74, .ireturn, 0, 0, 0), (75, .iload_n 2, 0, 0, 0), (76, .iload_n 1, 0, 0, 0), (77, .if_icmp .lt 7, 84, 0, 0), (80, .iload_n 2, 0, 0, 0), (81, .goto 4, 85, 0, 0), (84, .iconst 0, 0, 0, 0), (85, .ireturn, 0, 0, 0)]
set_option maxRecDepth 100000 in
theorem sk_k9 : sk_mOK sk_inf sk_nest (sk_inf 9) sk_t9 := sk_mOK_of 0 false rfl (fun h => absurd h (by decide)) (by decide +kernel) (by decide +kernel)
def sk_t10 : List sk_E := [(0, .aload_n 0, 0, 0, 0), (1, .invokespecial 3, 0, 0, 0), (4, .aload_n 0, 0, 0, 0), (5, .bipush 10, 0, 0, 0), (7, .newarray .int, 0, 0, 0), (9, .putfield 9, 0, 0, 3), (12, .aload_n 0, 0, 0, 0), (13, .bipush 10, 0, 0, 0), (15, .newarray .int, 0, 0, 0), (17, .putfield 15, 0, 1, 3), (20, .aload_n 0, 0, 0, 0), (21, .bipush 10, 0, 0, 0), (23, .newarray .int, 0, 0, 0), (25, .putfield 18, 0, 2, 3), (28, .aload_n 0, 0, 0, 0), (29, .bipush 10, 0, 0, 0), (31, .newarray .int, 0, 0, 0), (33, .putfield 21, 0, 3, 3), (36, .aload_n 0, 0, 0, 0), (37, .bipush 10, 0, 0, 0), (39, .newarray .int, 0, 0, 0), (41, .putfield 24, 0, 4, 3), (44, .aload_n 0, 0, 0, 0), (45, .bipush 10, 0, 0, 0), (47, .newarray .int, 0, 0, 0), (49, .putfield 27, 0, 5, 3), (52, .return_, 0, 0, 0)]
set_option maxRecDepth 100000 in
theorem sk_k10 : sk_mOK sk_inf sk_nest (sk_inf 10) sk_t10 := sk_mOK_of 1 true rfl (fun h => rfl) (by decide +kernel) (by decide +kernel)
def sk_t11 : List sk_E := [(0, .aload_n 0, 0, 0, 0), (1, .iconst 0, 0, 0, 0), (2, .putfield 30, 0, 6, 0), (5, .iconst 0, 0, 0, 0), (6, .istore_n 2, 0, 0, 0), (7, .iload_n 2, 0, 0, 0), (8, .aload_n 1, 0, 0, 0), (9, .getfield 34, 3, 5, 0), (12, .if_icmp .ge 98, 110, 0, 0), (15, .aload_n 1, 0, 0, 0), (16, .getfield 39, 3, 0, 1), (19, .iload_n 2, 0, 0, 0), (20, .aaload, 0, 0, 0), (21, .astore_n 3, 0, 0, 0), (22, .aload_n 3, 0, 0, 0), (23, .invokevirtual 43, 27, 0, 9), (26, .ifCond .ne 6, 32, 0, 0), (29, .goto 75, 104, 0, 0), (32, .aload_n 0, 0, 0, 0), (33, .getfield 9, 0, 0, 1), (36, .aload_n 0, 0, 0, 0), (37, .getfield 30, 0, 6, 0), (40, .aload_n 3, 0, 0, 0), (41, .getfield 49, 2, 5, 0), (44, .iastore, 0, 0, 0), (45, .aload_n 0, 0, 0, 0), (46, .getfield 15, 0, 1, 1), (49, .aload_n 0, 0, 0, 0), (50, .getfield 30, 0, 6, 0), (53, .aload_n 3, 0, 0, 0), (54, .getfield 49, 2, 5, 0), (57, .aload_n 3, 0, 0, 0), (58, .getfield 52, 2, 8, 0), (61, .iadd, 0, 0, 0), (62, .iastore, 0, 0, 0), (63, .aload_n 0, 0, 0, 0), (64, .getfield 18, 0, 2, 1), (67, .aload_n 0, 0, 0, 0), (68, .getfield 30, 0, 6, 0), (71, .aload_n 3, 0, 0, 0), (72, .getfield 55, 2, 6, 0), (75, .iastore, 0, 0, 0), (76, .aload_n 0, 0, 0, 0), (77, .getfield 21, 0, 3, 1), (80, .aload_n 0, 0, 0, 0), (81, .getfield 30, 0, 6, 0), (84, .aload_n 3, 0, 0, 0), (85, .getfield 55, 2, 6, 0), (88, .aload_n 3, 0, 0, 0), (89, .getfield 58, 2, 9, 0), (92, .iadd, 0, 0, 0), (93, .iastore, 0, 0, 0), (94, .aload_n 0, 0, 0, 0), (95, .dup, 0, 0, 0), (96, .getfield 30, 0, 6, 0), (99, .iconst 1, 0, 0, 0), (100, .iadd, 0, 0, 0), (101, .putfield 30, 0, 6, 0), (104, .iinc 2 1, 0, 0, 0), (107, .goto (-100), 7, 0, 0), (110, .return_, 0, 0, 0)]
set_option maxRecDepth 100000 in
theorem sk_k11 : sk_mOK sk_inf sk_nest (sk_inf 11) sk_t11 := sk_mOK_of 1 false rfl (fun h => absurd h (by decide)) (by decide +kernel) (by decide +kernel)
def sk_t12 : List sk_E := [(0, .aload_n 0, 0, 0, 0), (1, .getfield 30, 0, 6, 0), (4, .iconst 1, 0, 0, 0), (5, .if_icmp .gt 5, 10, 0, 0), (8, .iconst 0, 0, 0, 0), (9, .ireturn, 0, 0, 0), (10, .aload_n 0, 0, 0, 0), (11, .iconst 1, 0, 0, 0), (12, .invokevirtual 61, 13, 1, 1), (15, .istore_n 1, 0, 0, 0), (16, .aload_n 0, 0, 0, 0), (17, .iconst 0, 0, 0, 0), (18, .invokevirtual 61, 13, 1, 1), (21, .istore_n 2, 0, 0, 0), (22, .iload_n 1, 0, 0, 0), (23, .iconst (-1), 0, 0, 0), (24, .if_icmp .ne 5, 29, 0, 0), (27, .iload_n 2, 0, 0, 0), (28, .ireturn, 0, 0, 0), (29, .iload_n 2, 0, 0, 0), (30, .iconst (-1), 0, 0, 0), (31, .if_icmp .ne 7, 38, 0, 0), (34, .iload_n 1, 0, 0, 0), (35, .goto 8, 43, 0, 0), (38, .iload_n 1, 0, 0, 0), (39, .iload_n 2, 0, 0, 0), (40, .invokestatic 65, 240, 2, 1), (43, .ireturn, 0, 0, 0)]
set_option maxRecDepth 100000 in
theorem sk_k12 : sk_mOK sk_inf sk_nest (sk_inf 12) sk_t12 := sk_mOK_of 1 false rfl (fun h => absurd h (by decide)) (by decide +kernel) (by decide +kernel)
def sk_t13 : List sk_E := [(0, .aload_n 0, 0, 0, 0), (1, .getfield 24, 0, 4, 1), (4, .iconst 0, 0, 0, 0), (5, .invokestatic 71, 242, 2, 0), (8, .iconst 1, 0, 0, 0), (9, .istore_n 2, 0, 0, 0), (10, .iload_n 1, 0, 0, 0), (11, .istore_n 3, 0, 0, 0), (12, .iconst 1, 0, 0, 0), (13, .istore 4, 0, 0, 0), (15, .iload 4, 0, 0, 0), (17, .bipush 10, 0, 0, 0), (19, .if_icmp .ge 75, 94, 0, 0), (22, .iload_n 3, 0, 0, 0), (23, .ifCond .eq 18, 41, 0, 0), (26, .aload_n 0, 0, 0, 0), (27, .aload_n 0, 0, 0, 0), (28, .getfield 9, 0, 0, 1), (31, .aload_n 0, 0, 0, 0), (32, .getfield 15, 0, 1, 1), (35, .invokevirtual 77, 14, 2, 1), (38, .goto 15, 53, 0, 0), (41, .aload_n 0, 0, 0, 0), (42, .aload_n 0, 0, 0, 0), (43, .getfield 18, 0, 2, 1), (46, .aload_n 0, 0, 0, 0), (47, .getfield 21, 0, 3, 1), (50, .invokevirtual 77, 14, 2, 1), (53, .istore 5, 0, 0, 0), (55, .iload 5, 0, 0, 0), (57, .aload_n 0, 0, 0, 0), (58, .getfield 30, 0, 6, 0), (61, .if_icmp .ne 6, 67, 0, 0), (64, .iload 4, 0, 0, 0), (66, .ireturn, 0, 0, 0), (67, .iload 5, 0, 0, 0), (69, .iload_n 2, 0, 0, 0), (70, .if_icmp .ne 5, 75, 0, 0), (73, .iconst (-1), 0, 0, 0), (74, .ireturn, 0, 0, 0), (75, .iload 5, 0, 0, 0), (77, .istore_n 2, 0, 0, 0), (78, .iload_n 3, 0, 0, 0), (79, .ifCond .ne 7, 86, 0, 0), (82, .iconst 1, 0, 0, 0), (83, .goto 4, 87, 0, 0), (86, .iconst 0, 0, 0, 0), (87, .istore_n 3, 0, 0, 0), (88, .iinc 4 1, 0, 0, 0), (91, .goto (-76), 15, 0, 0), (94, .iconst (-1), 0, 0, 0), (95, .ireturn, 0, 0, 0)]
set_option maxRecDepth 100000 in
theorem sk_k13 : sk_mOK sk_inf sk_nest (sk_inf 13) sk_t13 := sk_mOK_of 1 false rfl (fun h => absurd h (by decide)) (by decide +kernel) (by decide +kernel)
def sk_t14 : List sk_E := [(0, .iconst 0, 0, 0, 0), (1, .istore_n 3, 0, 0, 0), (2, .iload_n 3, 0, 0, 0), (3, .aload_n 0, 0, 0, 0), (4, .getfield 30, 0, 6, 0), (7, .if_icmp .ge 110, 117, 0, 0), (10, .iconst (-1), 0, 0, 0), (11, .istore 4, 0, 0, 0), (13, .iconst 0, 0, 0, 0), (14, .istore 5, 0, 0, 0), (16, .iload 5, 0, 0, 0), (18, .aload_n 0, 0, 0, 0), (19, .getfield 30, 0, 6, 0), (22, .if_icmp .ge 81, 103, 0, 0), (25, .aload_n 0, 0, 0, 0), (26, .getfield 24, 0, 4, 1), (29, .iload 5, 0, 0, 0), (31, .iaload, 0, 0, 0), (32, .aload_n 0, 0, 0, 0), (33, .getfield 24, 0, 4, 1), (36, .iload_n 3, 0, 0, 0), (37, .iaload, 0, 0, 0), (38, .if_icmp .ne 17, 55, 0, 0), (41, .aload_n 1, 0, 0, 0), (42, .iload 5, 0, 0, 0), (44, .iaload, 0, 0, 0), (45, .aload_n 1, 0, 0, 0), (46, .iload_n 3, 0, 0, 0), (47, .iaload, 0, 0, 0), (48, .if_icmp .gt 7, 55, 0, 0), (51, .iconst 1, 0, 0, 0), (52, .goto 4, 56, 0, 0), (55, .iconst 0, 0, 0, 0), (56, .istore 6, 0, 0, 0), (58, .iload 6, 0, 0, 0), (60, .ifCond .eq 37, 97, 0, 0), (63, .aload_n 1, 0, 0, 0), (64, .iload 5, 0, 0, 0), (66, .iaload, 0, 0, 0), (67, .iload 4, 0, 0, 0), (69, .if_icmp .le 28, 97, 0, 0), (72, .aload_n 0, 0, 0, 0), (73, .aload_n 0, 0, 0, 0), (74, .getfield 24, 0, 4, 1), (77, .iload_n 3, 0, 0, 0), (78, .iaload, 0, 0, 0), (79, .aload_n 1, 0, 0, 0), (80, .iload 5, 0, 0, 0), (82, .iaload, 0, 0, 0), (83, .aload_n 1, 0, 0, 0), (84, .aload_n 2, 0, 0, 0), (85, .invokevirtual 81, 15, 4, 1), (88, .ifCond .eq 9, 97, 0, 0), (91, .aload_n 1, 0, 0, 0), (92, .iload 5, 0, 0, 0), (94, .iaload, 0, 0, 0), (95, .istore 4, 0, 0, 0), (97, .iinc 5 1, 0, 0, 0), (100, .goto (-84), 16, 0, 0), (103, .aload_n 0, 0, 0, 0), (104, .getfield 27, 0, 5, 1), (107, .iload_n 3, 0, 0, 0), (108, .iload 4, 0, 0, 0), (110, .iastore, 0, 0, 0), (111, .iinc 3 1, 0, 0, 0), (114, .goto (-112), 2, 0, 0), (117, .aload_n 0, 0, 0, 0), (118, .invokevirtual 85, 16, 0, 1), (121, .ireturn, 0, 0, 0)]
set_option maxRecDepth 100000 in
theorem sk_k14 : sk_mOK sk_inf sk_nest (sk_inf 14) sk_t14 := sk_mOK_of 1 false rfl (fun h => absurd h (by decide)) (by decide +kernel) (by decide +kernel)
def sk_t15 : List sk_E := [(0, .iconst 0, 0, 0, 0), (1, .istore 5, 0, 0, 0), (3, .iload 5, 0, 0, 0), (5, .aload_n 0, 0, 0, 0), (6, .getfield 30, 0, 6, 0), (9, .if_icmp .ge 39, 48, 0, 0), (12, .aload_n 0, 0, 0, 0), (13, .getfield 24, 0, 4, 1), (16, .iload 5, 0, 0, 0), (18, .iaload, 0, 0, 0), (19, .iload_n 1, 0, 0, 0), (20, .if_icmp .ne 22, 42, 0, 0), (23, .aload_n 3, 0, 0, 0), (24, .iload 5, 0, 0, 0), (26, .iaload, 0, 0, 0), (27, .iload_n 2, 0, 0, 0), (28, .if_icmp .ge 14, 42, 0, 0), (31, .iload_n 2, 0, 0, 0), (32, .aload 4, 0, 0, 0), (34, .iload 5, 0, 0, 0), (36, .iaload, 0, 0, 0), (37, .if_icmp .ge 5, 42, 0, 0), (40, .iconst 0, 0, 0, 0), (41, .ireturn, 0, 0, 0), (42, .iinc 5 1, 0, 0, 0), (45, .goto (-42), 3, 0, 0), (48, .iconst 1, 0, 0, 0), (49, .ireturn, 0, 0, 0)]
set_option maxRecDepth 100000 in
theorem sk_k15 : sk_mOK sk_inf sk_nest (sk_inf 15) sk_t15 := sk_mOK_of 1 false rfl (fun h => absurd h (by decide)) (by decide +kernel) (by decide +kernel)
def sk_t16 : List sk_E := [(0, .iconst 0, 0, 0, 0), (1, .istore_n 1, 0, 0, 0), (2, .aload_n 0, 0, 0, 0), (3, .getfield 30, 0, 6, 0), (6, .iconst 1, 0, 0, 0), (7, .isub, 0, 0, 0), (8, .istore_n 2, 0, 0, 0), (9, .iload_n 2, 0, 0, 0), (10, .ifCond .lt 77, 87, 0, 0), (13, .iload_n 2, 0, 0, 0), (14, .istore_n 3, 0, 0, 0), (15, .iload_n 2, 0, 0, 0), (16, .iconst 1, 0, 0, 0), (17, .isub, 0, 0, 0), (18, .istore 4, 0, 0, 0), (20, .iload 4, 0, 0, 0), (22, .ifCond .lt 44, 66, 0, 0), (25, .aload_n 0, 0, 0, 0), (26, .getfield 24, 0, 4, 1), (29, .iload 4, 0, 0, 0), (31, .iaload, 0, 0, 0), (32, .aload_n 0, 0, 0, 0), (33, .getfield 24, 0, 4, 1), (36, .iload_n 2, 0, 0, 0), (37, .iaload, 0, 0, 0), (38, .if_icmp .ne 22, 60, 0, 0), (41, .aload_n 0, 0, 0, 0), (42, .getfield 27, 0, 5, 1), (45, .iload 4, 0, 0, 0), (47, .iaload, 0, 0, 0), (48, .aload_n 0, 0, 0, 0), (49, .getfield 27, 0, 5, 1), (52, .iload_n 2, 0, 0, 0), (53, .iaload, 0, 0, 0), (54, .if_icmp .ne 6, 60, 0, 0), (57, .iload 4, 0, 0, 0), (59, .istore_n 3, 0, 0, 0), (60, .iinc 4 (-1), 0, 0, 0), (63, .goto (-43), 20, 0, 0), (66, .iload_n 3, 0, 0, 0), (67, .iload_n 2, 0, 0, 0), (68, .if_icmp .ne 6, 74, 0, 0), (71, .iinc 1 1, 0, 0, 0), (74, .aload_n 0, 0, 0, 0), (75, .getfield 24, 0, 4, 1), (78, .iload_n 2, 0, 0, 0), (79, .iload_n 3, 0, 0, 0), (80, .iastore, 0, 0, 0), (81, .iinc 2 (-1), 0, 0, 0), (84, .goto (-75), 9, 0, 0), (87, .iload_n 1, 0, 0, 0), (88, .ireturn, 0, 0, 0)]
set_option maxRecDepth 100000 in
theorem sk_k16 : sk_mOK sk_inf sk_nest (sk_inf 16) sk_t16 := sk_mOK_of 1 false rfl (fun h => absurd h (by decide)) (by decide +kernel) (by decide +kernel)
def sk_t17 : List sk_E := [(0, .aload_n 0, 0, 0, 0), (1, .invokespecial 3, 0, 0, 0), (4, .aload_n 0, 0, 0, 0), (5, .new 9, 7, 0, 0), (8, .dup, 0, 0, 0), (9, .invokespecial 11, 82, 0, 28), (12, .putfield 12, 1, 0, 3), (15, .return_, 0, 0, 0)]
set_option maxRecDepth 100000 in
theorem sk_k17 : sk_mOK sk_inf sk_nest (sk_inf 17) sk_t17 := sk_mOK_of 2 true rfl (fun h => rfl) (by decide +kernel) (by decide +kernel)
def sk_t18 : List sk_E := [(0, .iconst 0, 0, 0, 0), (1, .istore_n 2, 0, 0, 0), (2, .aload_n 1, 0, 0, 0), (3, .invokevirtual 18, 38, 0, 12), (6, .iconst 0, 0, 0, 0), (7, .istore_n 3, 0, 0, 0), (8, .iload_n 3, 0, 0, 0), (9, .aload_n 1, 0, 0, 0), (10, .getfield 23, 3, 6, 0), (13, .if_icmp .ge 49, 62, 0, 0), (16, .aload_n 1, 0, 0, 0), (17, .getfield 27, 3, 0, 1), (20, .aload_n 1, 0, 0, 0), (21, .getfield 31, 3, 1, 1), (24, .iload_n 3, 0, 0, 0), (25, .iaload, 0, 0, 0), (26, .aaload, 0, 0, 0), (27, .astore 4, 0, 0, 0), (29, .aload_n 0, 0, 0, 0), (30, .aload_n 1, 0, 0, 0), (31, .aload 4, 0, 0, 0), (33, .invokevirtual 35, 20, 2, 4), (36, .aload_n 0, 0, 0, 0), (37, .getfield 12, 1, 0, 1), (40, .getfield 39, 7, 0, 0), (43, .ifCond .eq 13, 56, 0, 0), (46, .aload_n 0, 0, 0, 0), (47, .aload_n 1, 0, 0, 0), (48, .aload 4, 0, 0, 0), (50, .invokevirtual 43, 23, 2, 4), (53, .iinc 2 1, 0, 0, 0), (56, .iinc 3 1, 0, 0, 0), (59, .goto (-51), 8, 0, 0), (62, .iload_n 2, 0, 0, 0), (63, .ireturn, 0, 0, 0)]
set_option maxRecDepth 100000 in
theorem sk_k18 : sk_mOK sk_inf sk_nest (sk_inf 18) sk_t18 := sk_mOK_of 2 false rfl (fun h => absurd h (by decide)) (by decide +kernel) (by decide +kernel)
def sk_t19 : List sk_E := [(0, .aload_n 0, 0, 0, 0), (1, .aload_n 1, 0, 0, 0), (2, .aload_n 2, 0, 0, 0), (3, .invokevirtual 35, 20, 2, 4), (6, .aload_n 0, 0, 0, 0), (7, .getfield 12, 1, 0, 1), (10, .getfield 39, 7, 0, 0), (13, .ifCond .eq 9, 22, 0, 0), (16, .aload_n 0, 0, 0, 0), (17, .aload_n 1, 0, 0, 0), (18, .aload_n 2, 0, 0, 0), (19, .invokevirtual 43, 23, 2, 4), (22, .aload_n 0, 0, 0, 0), (23, .getfield 12, 1, 0, 1), (26, .getfield 39, 7, 0, 0), (29, .ireturn, 0, 0, 0)]
set_option maxRecDepth 100000 in
theorem sk_k19 : sk_mOK sk_inf sk_nest (sk_inf 19) sk_t19 := sk_mOK_of 2 false rfl (fun h => absurd h (by decide)) (by decide +kernel) (by decide +kernel)
def sk_t20 : List sk_E := [(0, .aload_n 0, 0, 0, 0), (1, .getfield 12, 1, 0, 1), (4, .iconst 0, 0, 0, 0), (5, .putfield 39, 7, 0, 2), (8, .aload_n 1, 0, 0, 0), (9, .getfield 46, 3, 8, 0), (12, .ifCond .eq 9, 21, 0, 0), (15, .aload_n 0, 0, 0, 0), (16, .aload_n 1, 0, 0, 0), (17, .aload_n 2, 0, 0, 0), (18, .invokevirtual 49, 21, 2, 4), (21, .aload_n 0, 0, 0, 0), (22, .getfield 12, 1, 0, 1), (25, .getfield 39, 7, 0, 0), (28, .ifCond .ne 9, 37, 0, 0), (31, .aload_n 0, 0, 0, 0), (32, .aload_n 1, 0, 0, 0), (33, .aload_n 2, 0, 0, 0), (34, .invokevirtual 52, 22, 2, 4), (37, .return_, 0, 0, 0)]
set_option maxRecDepth 100000 in
theorem sk_k20 : sk_mOK sk_inf sk_nest (sk_inf 20) sk_t20 := sk_mOK_of 2 false rfl (fun h => absurd h (by decide)) (by decide +kernel) (by decide +kernel)
def sk_t21 : List sk_E := [(0, .aload_n 1, 0, 0, 0), (1, .getfield 55, 3, 3, 1), (4, .astore_n 3, 0, 0, 0), (5, .aload_n 2, 0, 0, 0), (6, .aload_n 1, 0, 0, 0), (7, .getfield 59, 3, 4, 0), (10, .invokevirtual 62, 30, 1, 9), (13, .istore 4, 0, 0, 0), (15, .iconst 0, 0, 0, 0), (16, .istore 5, 0, 0, 0), (18, .iload 5, 0, 0, 0), (20, .aload_n 3, 0, 0, 0), (21, .getfield 68, 9, 4, 0), (24, .if_icmp .ge 178, 202, 0, 0), (27, .iconst 0, 0, 0, 0), (28, .istore 6, 0, 0, 0), (30, .iload 6, 0, 0, 0), (32, .iload 4, 0, 0, 0), (34, .if_icmp .ge 162, 196, 0, 0), (37, .iload 6, 0, 0, 0), (39, .iconst 1, 0, 0, 0), (40, .if_icmp .ne 7, 47, 0, 0), (43, .iconst 1, 0, 0, 0), (44, .goto 4, 48, 0, 0), (47, .iconst 0, 0, 0, 0), (48, .istore 7, 0, 0, 0), (50, .aload_n 2, 0, 0, 0), (51, .iload 7, 0, 0, 0), (53, .invokevirtual 73, 31, 1, 9), (56, .istore 8, 0, 0, 0), (58, .aload_n 2, 0, 0, 0), (59, .iload 7, 0, 0, 0), (61, .invokevirtual 77, 32, 1, 9), (64, .istore 9, 0, 0, 0), (66, .iload 8, 0, 0, 0), (68, .aload_n 3, 0, 0, 0), (69, .getfield 80, 9, 2, 1), (72, .iload 5, 0, 0, 0), (74, .iaload, 0, 0, 0), (75, .if_icmp .gt 115, 190, 0, 0), (78, .iload 9, 0, 0, 0), (80, .aload_n 3, 0, 0, 0), (81, .getfield 83, 9, 3, 1), (84, .iload 5, 0, 0, 0), (86, .iaload, 0, 0, 0), (87, .if_icmp .le 6, 93, 0, 0), (90, .goto 100, 190, 0, 0), (93, .aload_n 2, 0, 0, 0), (94, .aload_n 3, 0, 0, 0), (95, .getfield 86, 9, 0, 1), (98, .iload 5, 0, 0, 0), (100, .iaload, 0, 0, 0), (101, .aload_n 3, 0, 0, 0), (102, .getfield 89, 9, 1, 1), (105, .iload 5, 0, 0, 0), (107, .iaload, 0, 0, 0), (108, .iconst 0, 0, 0, 0), (109, .invokevirtual 92, 33, 3, 9), (112, .ifCond .ne 6, 118, 0, 0), (115, .goto 75, 190, 0, 0), (118, .aload_n 3, 0, 0, 0), (119, .getfield 80, 9, 2, 1), (122, .iload 5, 0, 0, 0), (124, .iaload, 0, 0, 0), (125, .aload_n 3, 0, 0, 0), (126, .getfield 83, 9, 3, 1), (129, .iload 5, 0, 0, 0), (131, .iaload, 0, 0, 0), (132, .imul, 0, 0, 0), (133, .iload 8, 0, 0, 0), (135, .iload 9, 0, 0, 0), (137, .imul, 0, 0, 0), (138, .isub, 0, 0, 0), (139, .istore 10, 0, 0, 0), (141, .aload_n 0, 0, 0, 0), (142, .getfield 12, 1, 0, 1), (145, .getfield 39, 7, 0, 0), (148, .ifCond .eq 15, 163, 0, 0), (151, .iload 10, 0, 0, 0), (153, .aload_n 0, 0, 0, 0), (154, .getfield 12, 1, 0, 1), (157, .getfield 96, 7, 5, 0), (160, .if_icmp .ge 30, 190, 0, 0), (163, .aload_n 0, 0, 0, 0), (164, .getfield 12, 1, 0, 1), (167, .aload_n 3, 0, 0, 0), (168, .getfield 86, 9, 0, 1), (171, .iload 5, 0, 0, 0), (173, .iaload, 0, 0, 0), (174, .aload_n 3, 0, 0, 0), (175, .getfield 89, 9, 1, 1), (178, .iload 5, 0, 0, 0), (180, .iaload, 0, 0, 0), (181, .iload 7, 0, 0, 0), (183, .iload 5, 0, 0, 0), (185, .iload 10, 0, 0, 0), (187, .invokevirtual 99, 83, 5, 28), (190, .iinc 6 1, 0, 0, 0), (193, .goto (-163), 30, 0, 0), (196, .iinc 5 1, 0, 0, 0), (199, .goto (-181), 18, 0, 0), (202, .return_, 0, 0, 0)]
set_option maxRecDepth 100000 in
theorem sk_k21 : sk_mOK sk_inf sk_nest (sk_inf 21) sk_t21 := sk_mOK_of 2 false rfl (fun h => absurd h (by decide)) (by decide +kernel) (by decide +kernel)
def sk_t22 : List sk_E := [(0, .aload_n 2, 0, 0, 0), (1, .aload_n 1, 0, 0, 0), (2, .getfield 59, 3, 4, 0), (5, .invokevirtual 62, 30, 1, 9), (8, .istore_n 3, 0, 0, 0), (9, .iconst 0, 0, 0, 0), (10, .istore 4, 0, 0, 0), (12, .iload 4, 0, 0, 0), (14, .aload_n 1, 0, 0, 0), (15, .getfield 59, 3, 4, 0), (18, .if_icmp .ge 198, 216, 0, 0), (21, .iconst 0, 0, 0, 0), (22, .istore 5, 0, 0, 0), (24, .iload 5, 0, 0, 0), (26, .iload_n 3, 0, 0, 0), (27, .if_icmp .ge 183, 210, 0, 0), (30, .iload 5, 0, 0, 0), (32, .iconst 1, 0, 0, 0), (33, .if_icmp .ne 7, 40, 0, 0), (36, .iconst 1, 0, 0, 0), (37, .goto 4, 41, 0, 0), (40, .iconst 0, 0, 0, 0), (41, .istore 6, 0, 0, 0), (43, .aload_n 2, 0, 0, 0), (44, .iload 6, 0, 0, 0), (46, .invokevirtual 73, 31, 1, 9), (49, .istore 7, 0, 0, 0), (51, .aload_n 2, 0, 0, 0), (52, .iload 6, 0, 0, 0), (54, .invokevirtual 77, 32, 1, 9), (57, .istore 8, 0, 0, 0), (59, .iload 4, 0, 0, 0), (61, .iload 7, 0, 0, 0), (63, .iadd, 0, 0, 0), (64, .aload_n 1, 0, 0, 0), (65, .getfield 59, 3, 4, 0), (68, .if_icmp .le 6, 74, 0, 0), (71, .goto 133, 204, 0, 0), (74, .aload_n 1, 0, 0, 0), (75, .iload 4, 0, 0, 0), (77, .iload 7, 0, 0, 0), (79, .iload 8, 0, 0, 0), (81, .invokevirtual 103, 52, 3, 13), (84, .istore 9, 0, 0, 0), (86, .aload_n 1, 0, 0, 0), (87, .iload 4, 0, 0, 0), (89, .iload 9, 0, 0, 0), (91, .iload 7, 0, 0, 0), (93, .invokevirtual 107, 53, 3, 13), (96, .istore 10, 0, 0, 0), (98, .aload_n 2, 0, 0, 0), (99, .iload 4, 0, 0, 0), (101, .iload 9, 0, 0, 0), (103, .iload 10, 0, 0, 0), (105, .invokevirtual 92, 33, 3, 9), (108, .ifCond .ne 6, 114, 0, 0), (111, .goto 93, 204, 0, 0), (114, .aload_n 1, 0, 0, 0), (115, .iload 4, 0, 0, 0), (117, .iload 9, 0, 0, 0), (119, .iload 7, 0, 0, 0), (121, .iload 8, 0, 0, 0), (123, .iload 10, 0, 0, 0), (125, .invokevirtual 110, 55, 5, 13), (128, .istore 11, 0, 0, 0), (130, .aload_n 0, 0, 0, 0), (131, .getfield 12, 1, 0, 1), (134, .getfield 39, 7, 0, 0), (137, .ifCond .eq 39, 176, 0, 0), (140, .iload 11, 0, 0, 0), (142, .aload_n 0, 0, 0, 0), (143, .getfield 12, 1, 0, 1), (146, .getfield 96, 7, 5, 0), (149, .if_icmp .lt 27, 176, 0, 0), (152, .iload 11, 0, 0, 0), (154, .aload_n 0, 0, 0, 0), (155, .getfield 12, 1, 0, 1), (158, .getfield 96, 7, 5, 0), (161, .if_icmp .ne 19, 180, 0, 0), (164, .iload 9, 0, 0, 0), (166, .aload_n 0, 0, 0, 0), (167, .getfield 12, 1, 0, 1), (170, .getfield 114, 7, 2, 0), (173, .if_icmp .ge 7, 180, 0, 0), (176, .iconst 1, 0, 0, 0), (177, .goto 4, 181, 0, 0), (180, .iconst 0, 0, 0, 0), (181, .istore 12, 0, 0, 0), (183, .iload 12, 0, 0, 0), (185, .ifCond .eq 19, 204, 0, 0), (188, .aload_n 0, 0, 0, 0), (189, .getfield 12, 1, 0, 1), (192, .iload 4, 0, 0, 0), (194, .iload 9, 0, 0, 0), (196, .iload 6, 0, 0, 0), (198, .iconst (-1), 0, 0, 0), (199, .iload 11, 0, 0, 0), (201, .invokevirtual 99, 83, 5, 28), (204, .iinc 5 1, 0, 0, 0), (207, .goto (-183), 24, 0, 0), (210, .iinc 4 1, 0, 0, 0), (213, .goto (-201), 12, 0, 0), (216, .return_, 0, 0, 0)]
set_option maxRecDepth 100000 in
theorem sk_k22 : sk_mOK sk_inf sk_nest (sk_inf 22) sk_t22 := sk_mOK_of 2 false rfl (fun h => absurd h (by decide)) (by decide +kernel) (by decide +kernel)
def sk_t23 : List sk_E := [(0, .aload_n 0, 0, 0, 0), (1, .getfield 12, 1, 0, 1), (4, .getfield 116, 7, 4, 0), (7, .iconst (-1), 0, 0, 0), (8, .if_icmp .eq 7, 15, 0, 0), (11, .iconst 1, 0, 0, 0), (12, .goto 4, 16, 0, 0), (15, .iconst 0, 0, 0, 0), (16, .istore_n 3, 0, 0, 0), (17, .aload_n 2, 0, 0, 0), (18, .aload_n 0, 0, 0, 0), (19, .getfield 12, 1, 0, 1), (22, .getfield 119, 7, 1, 0), (25, .aload_n 0, 0, 0, 0), (26, .getfield 12, 1, 0, 1), (29, .getfield 114, 7, 2, 0), (32, .aload_n 0, 0, 0, 0), (33, .getfield 12, 1, 0, 1), (36, .getfield 121, 7, 3, 0), (39, .iload_n 3, 0, 0, 0), (40, .ifCond .eq 7, 47, 0, 0), (43, .iconst 3, 0, 0, 0), (44, .goto 4, 48, 0, 0), (47, .iconst 2, 0, 0, 0), (48, .invokevirtual 124, 29, 4, 8), (51, .iload_n 3, 0, 0, 0), (52, .ifCond .eq 28, 80, 0, 0), (55, .aload_n 1, 0, 0, 0), (56, .getfield 55, 3, 3, 1), (59, .aload_n 0, 0, 0, 0), (60, .getfield 12, 1, 0, 1), (63, .getfield 116, 7, 4, 0), (66, .aload_n 2, 0, 0, 0), (67, .getfield 128, 2, 8, 0), (70, .aload_n 2, 0, 0, 0), (71, .getfield 131, 2, 9, 0), (74, .invokevirtual 134, 98, 3, 36), (77, .goto 23, 100, 0, 0), (80, .aload_n 1, 0, 0, 0), (81, .aload_n 2, 0, 0, 0), (82, .getfield 138, 2, 5, 0), (85, .aload_n 2, 0, 0, 0), (86, .getfield 139, 2, 6, 0), (89, .aload_n 2, 0, 0, 0), (90, .getfield 128, 2, 8, 0), (93, .aload_n 2, 0, 0, 0), (94, .getfield 131, 2, 9, 0), (97, .invokevirtual 140, 56, 4, 12), (100, .return_, 0, 0, 0)]
set_option maxRecDepth 100000 in
theorem sk_k23 : sk_mOK sk_inf sk_nest (sk_inf 23) sk_t23 := sk_mOK_of 2 false rfl (fun h => absurd h (by decide)) (by decide +kernel) (by decide +kernel)
def sk_t24 : List sk_E := [(0, .aload_n 0, 0, 0, 0), (1, .invokespecial 3, 0, 0, 0), (4, .return_, 0, 0, 0)]
set_option maxRecDepth 100000 in
theorem sk_k24 : sk_mOK sk_inf sk_nest (sk_inf 24) sk_t24 := sk_mOK_of 3 true rfl (fun h => rfl) (by decide +kernel) (by decide +kernel)
def sk_t25 : List sk_E := [(0, .aload_n 0, 0, 0, 0), (1, .iload_n 1, 0, 0, 0), (2, .putfield 9, 2, 0, 0), (5, .aload_n 0, 0, 0, 0), (6, .iload_n 2, 0, 0, 0), (7, .putfield 15, 2, 1, 0), (10, .aload_n 0, 0, 0, 0), (11, .iload_n 3, 0, 0, 0), (12, .putfield 18, 2, 2, 0), (15, .aload_n 0, 0, 0, 0), (16, .iload 4, 0, 0, 0), (18, .putfield 21, 2, 3, 0), (21, .return_, 0, 0, 0)]
set_option maxRecDepth 100000 in
theorem sk_k25 : sk_mOK sk_inf sk_nest (sk_inf 25) sk_t25 := sk_mOK_of 3 false rfl (fun h => absurd h (by decide)) (by decide +kernel) (by decide +kernel)
def sk_t26 : List sk_E := [(0, .aload_n 0, 0, 0, 0), (1, .aload_n 1, 0, 0, 0), (2, .getfield 9, 2, 0, 0), (5, .putfield 9, 2, 0, 0), (8, .aload_n 0, 0, 0, 0), (9, .aload_n 1, 0, 0, 0), (10, .getfield 15, 2, 1, 0), (13, .putfield 15, 2, 1, 0), (16, .aload_n 0, 0, 0, 0), (17, .aload_n 1, 0, 0, 0), (18, .getfield 18, 2, 2, 0), (21, .putfield 18, 2, 2, 0), (24, .aload_n 0, 0, 0, 0), (25, .aload_n 1, 0, 0, 0), (26, .getfield 21, 2, 3, 0), (29, .putfield 21, 2, 3, 0), (32, .aload_n 0, 0, 0, 0), (33, .aload_n 1, 0, 0, 0), (34, .getfield 24, 2, 4, 0), (37, .putfield 24, 2, 4, 0), (40, .aload_n 0, 0, 0, 0), (41, .aload_n 1, 0, 0, 0), (42, .getfield 27, 2, 5, 0), (45, .putfield 27, 2, 5, 0), (48, .aload_n 0, 0, 0, 0), (49, .aload_n 1, 0, 0, 0), (50, .getfield 30, 2, 6, 0), (53, .putfield 30, 2, 6, 0), (56, .aload_n 0, 0, 0, 0), (57, .aload_n 1, 0, 0, 0), (58, .getfield 33, 2, 7, 0), (61, .putfield 33, 2, 7, 2), (64, .aload_n 0, 0, 0, 0), (65, .aload_n 1, 0, 0, 0), (66, .getfield 37, 2, 8, 0), (69, .putfield 37, 2, 8, 0), (72, .aload_n 0, 0, 0, 0), (73, .aload_n 1, 0, 0, 0), (74, .getfield 40, 2, 9, 0), (77, .putfield 40, 2, 9, 0), (80, .return_, 0, 0, 0)]
set_option maxRecDepth 100000 in
theorem sk_k26 : sk_mOK sk_inf sk_nest (sk_inf 26) sk_t26 := sk_mOK_of 3 false rfl (fun h => absurd h (by decide)) (by decide +kernel) (by decide +kernel)
def sk_t27 : List sk_E := [(0, .aload_n 0, 0, 0, 0), (1, .getfield 24, 2, 4, 0), (4, .ifCond .eq 7, 11, 0, 0), (7, .iconst 1, 0, 0, 0), (8, .goto 4, 12, 0, 0), (11, .iconst 0, 0, 0, 0), (12, .ireturn, 0, 0, 0)]
set_option maxRecDepth 100000 in
theorem sk_k27 : sk_mOK sk_inf sk_nest (sk_inf 27) sk_t27 := sk_mOK_of 3 false rfl (fun h => absurd h (by decide)) (by decide +kernel) (by decide +kernel)
def sk_t28 : List sk_E := [(0, .aload_n 0, 0, 0, 0), (1, .getfield 24, 2, 4, 0), (4, .iconst 2, 0, 0, 0), (5, .if_icmp .eq 11, 16, 0, 0), (8, .aload_n 0, 0, 0, 0), (9, .getfield 24, 2, 4, 0), (12, .iconst 3, 0, 0, 0), (13, .if_icmp .ne 7, 20, 0, 0), (16, .iconst 1, 0, 0, 0), (17, .goto 4, 21, 0, 0), (20, .iconst 0, 0, 0, 0), (21, .ireturn, 0, 0, 0)]
set_option maxRecDepth 100000 in
theorem sk_k28 : sk_mOK sk_inf sk_nest (sk_inf 28) sk_t28 := sk_mOK_of 3 false rfl (fun h => absurd h (by decide)) (by decide +kernel) (by decide +kernel)
def sk_t29 : List sk_E := [(0, .aload_n 0, 0, 0, 0), (1, .iload_n 1, 0, 0, 0), (2, .putfield 27, 2, 5, 0), (5, .aload_n 0, 0, 0, 0), (6, .iload_n 2, 0, 0, 0), (7, .putfield 30, 2, 6, 0), (10, .aload_n 0, 0, 0, 0), (11, .iload_n 3, 0, 0, 0), (12, .putfield 33, 2, 7, 2), (15, .aload_n 0, 0, 0, 0), (16, .iload 4, 0, 0, 0), (18, .putfield 24, 2, 4, 0), (21, .aload_n 0, 0, 0, 0), (22, .aload_n 0, 0, 0, 0), (23, .iload_n 3, 0, 0, 0), (24, .invokevirtual 43, 31, 1, 9), (27, .putfield 37, 2, 8, 0), (30, .aload_n 0, 0, 0, 0), (31, .aload_n 0, 0, 0, 0), (32, .iload_n 3, 0, 0, 0), (33, .invokevirtual 47, 32, 1, 9), (36, .putfield 40, 2, 9, 0), (39, .return_, 0, 0, 0)]
set_option maxRecDepth 100000 in
theorem sk_k29 : sk_mOK sk_inf sk_nest (sk_inf 29) sk_t29 := sk_mOK_of 3 false rfl (fun h => absurd h (by decide)) (by decide +kernel) (by decide +kernel)
def sk_t30 : List sk_E := [(0, .aload_n 0, 0, 0, 0), (1, .getfield 9, 2, 0, 0), (4, .iconst 1, 0, 0, 0), (5, .invokestatic 50, 1, 2, 41), (8, .ifCond .eq 15, 23, 0, 0), (11, .aload_n 0, 0, 0, 0), (12, .getfield 18, 2, 2, 0), (15, .iload_n 1, 0, 0, 0), (16, .if_icmp .gt 7, 23, 0, 0), (19, .iconst 2, 0, 0, 0), (20, .goto 4, 24, 0, 0), (23, .iconst 1, 0, 0, 0), (24, .ireturn, 0, 0, 0)]
set_option maxRecDepth 100000 in
theorem sk_k30 : sk_mOK sk_inf sk_nest (sk_inf 30) sk_t30 := sk_mOK_of 3 false rfl (fun h => absurd h (by decide)) (by decide +kernel) (by decide +kernel)
def sk_t31 : List sk_E := [(0, .iload_n 1, 0, 0, 0), (1, .ifCond .eq 10, 11, 0, 0), (4, .aload_n 0, 0, 0, 0), (5, .getfield 18, 2, 2, 0), (8, .goto 7, 15, 0, 0), (11, .aload_n 0, 0, 0, 0), (12, .getfield 15, 2, 1, 0), (15, .ireturn, 0, 0, 0)]
set_option maxRecDepth 100000 in
theorem sk_k31 : sk_mOK sk_inf sk_nest (sk_inf 31) sk_t31 := sk_mOK_of 3 false rfl (fun h => absurd h (by decide)) (by decide +kernel) (by decide +kernel)
def sk_t32 : List sk_E := [(0, .iload_n 1, 0, 0, 0), (1, .ifCond .eq 10, 11, 0, 0), (4, .aload_n 0, 0, 0, 0), (5, .getfield 15, 2, 1, 0), (8, .goto 7, 15, 0, 0), (11, .aload_n 0, 0, 0, 0), (12, .getfield 18, 2, 2, 0), (15, .istore_n 2, 0, 0, 0), (16, .aload_n 0, 0, 0, 0), (17, .getfield 9, 2, 0, 0), (20, .iconst 3, 0, 0, 0), (21, .invokestatic 50, 1, 2, 41), (24, .ifCond .eq 9, 33, 0, 0), (27, .iload_n 2, 0, 0, 0), (28, .iconst 1, 0, 0, 0), (29, .iadd, 0, 0, 0), (30, .goto 4, 34, 0, 0), (33, .iload_n 2, 0, 0, 0), (34, .ireturn, 0, 0, 0)]
set_option maxRecDepth 100000 in
theorem sk_k32 : sk_mOK sk_inf sk_nest (sk_inf 32) sk_t32 := sk_mOK_of 3 false rfl (fun h => absurd h (by decide)) (by decide +kernel) (by decide +kernel)
def sk_t33 : List sk_E := [(0, .aload_n 0, 0, 0, 0), (1, .getfield 21, 2, 3, 0), (4, .iconst 1, 0, 0, 0), (5, .if_icmp .ge 5, 10, 0, 0), (8, .iconst 0, 0, 0, 0), (9, .ireturn, 0, 0, 0), (10, .aload_n 0, 0, 0, 0), (11, .getfield 9, 2, 0, 0), (14, .iconst 2, 0, 0, 0), (15, .invokestatic 50, 1, 2, 41), (18, .ifCond .eq 14, 32, 0, 0), (21, .iload_n 1, 0, 0, 0), (22, .aload_n 0, 0, 0, 0), (23, .getfield 21, 2, 3, 0), (26, .irem, 0, 0, 0), (27, .ifCond .eq 5, 32, 0, 0), (30, .iconst 0, 0, 0, 0), (31, .ireturn, 0, 0, 0), (32, .aload_n 0, 0, 0, 0), (33, .getfield 9, 2, 0, 0), (36, .iconst 4, 0, 0, 0), (37, .invokestatic 50, 1, 2, 41), (40, .ifCond .eq 14, 54, 0, 0), (43, .iload_n 2, 0, 0, 0), (44, .aload_n 0, 0, 0, 0), (45, .getfield 21, 2, 3, 0), (48, .irem, 0, 0, 0), (49, .ifCond .eq 5, 54, 0, 0), (52, .iconst 0, 0, 0, 0), (53, .ireturn, 0, 0, 0), (54, .aload_n 0, 0, 0, 0), (55, .getfield 9, 2, 0, 0), (58, .iconst 5, 0, 0, 0), (59, .invokestatic 50, 1, 2, 41), (62, .ifCond .eq 11, 73, 0, 0), (65, .iload_n 3, 0, 0, 0), (66, .aload_n 0, 0, 0, 0), (67, .getfield 21, 2, 3, 0), (70, .if_icmp .ge 7, 77, 0, 0), (73, .iconst 1, 0, 0, 0), (74, .goto 4, 78, 0, 0), (77, .iconst 0, 0, 0, 0), (78, .ireturn, 0, 0, 0)]
set_option maxRecDepth 100000 in
theorem sk_k33 : sk_mOK sk_inf sk_nest (sk_inf 33) sk_t33 := sk_mOK_of 3 false rfl (fun h => absurd h (by decide)) (by decide +kernel) (by decide +kernel)
def sk_t34 : List sk_E := [(0, .aload_n 0, 0, 0, 0), (1, .getfield 9, 2, 0, 0), (4, .aload_n 1, 0, 0, 0), (5, .getfield 9, 2, 0, 0), (8, .if_icmp .ne 40, 48, 0, 0), (11, .aload_n 0, 0, 0, 0), (12, .getfield 15, 2, 1, 0), (15, .aload_n 1, 0, 0, 0), (16, .getfield 15, 2, 1, 0), (19, .if_icmp .ne 29, 48, 0, 0), (22, .aload_n 0, 0, 0, 0), (23, .getfield 18, 2, 2, 0), (26, .aload_n 1, 0, 0, 0), (27, .getfield 18, 2, 2, 0), (30, .if_icmp .ne 18, 48, 0, 0), (33, .aload_n 0, 0, 0, 0), (34, .getfield 21, 2, 3, 0), (37, .aload_n 1, 0, 0, 0), (38, .getfield 21, 2, 3, 0), (41, .if_icmp .ne 7, 48, 0, 0), (44, .iconst 1, 0, 0, 0), (45, .goto 4, 49, 0, 0), (48, .iconst 0, 0, 0, 0), (49, .ireturn, 0, 0, 0)]
set_option maxRecDepth 100000 in
theorem sk_k34 : sk_mOK sk_inf sk_nest (sk_inf 34) sk_t34 := sk_mOK_of 3 false rfl (fun h => absurd h (by decide)) (by decide +kernel) (by decide +kernel)
def sk_t35 : List sk_E := [(0, .aload_n 0, 0, 0, 0), (1, .invokespecial 3, 0, 0, 0), (4, .aload_n 0, 0, 0, 0), (5, .bipush 10, 0, 0, 0), (7, .anewarray 9, 0, 0, 0), (10, .putfield 11, 3, 0, 3), (13, .aload_n 0, 0, 0, 0), (14, .bipush 10, 0, 0, 0), (16, .newarray .int, 0, 0, 0), (18, .putfield 17, 3, 1, 3), (21, .aload_n 0, 0, 0, 0), (22, .bipush 20, 0, 0, 0), (24, .newarray .int, 0, 0, 0), (26, .putfield 21, 3, 2, 3), (29, .aload_n 0, 0, 0, 0), (30, .new 24, 9, 0, 0), (33, .dup, 0, 0, 0), (34, .invokespecial 26, 95, 0, 36), (37, .putfield 27, 3, 3, 3), (40, .aload_n 0, 0, 0, 0), (41, .bipush 10, 0, 0, 0), (43, .putfield 31, 3, 4, 0), (46, .aload_n 0, 0, 0, 0), (47, .iconst 0, 0, 0, 0), (48, .putfield 35, 3, 5, 0), (51, .aload_n 0, 0, 0, 0), (52, .iconst 0, 0, 0, 0), (53, .putfield 38, 3, 6, 0), (56, .aload_n 0, 0, 0, 0), (57, .iconst 0, 0, 0, 0), (58, .putfield 41, 3, 7, 0), (61, .aload_n 0, 0, 0, 0), (62, .iconst 1, 0, 0, 0), (63, .putfield 44, 3, 8, 2), (66, .iconst 0, 0, 0, 0), (67, .istore_n 1, 0, 0, 0), (68, .iload_n 1, 0, 0, 0), (69, .bipush 10, 0, 0, 0), (71, .if_icmp .ge 22, 93, 0, 0), (74, .aload_n 0, 0, 0, 0), (75, .getfield 11, 3, 0, 1), (78, .iload_n 1, 0, 0, 0), (79, .new 9, 2, 0, 0), (82, .dup, 0, 0, 0), (83, .invokespecial 48, 24, 0, 8), (86, .aastore, 0, 2, 0), (87, .iinc 1 1, 0, 0, 0), (90, .goto (-22), 68, 0, 0), (93, .return_, 0, 0, 0)]
set_option maxRecDepth 100000 in
theorem sk_k35 : sk_mOK sk_inf sk_nest (sk_inf 35) sk_t35 := sk_mOK_of 4 true rfl (fun h => rfl) (by decide +kernel) (by decide +kernel)
def sk_t36 : List sk_E := [(0, .iconst 0, 0, 0, 0), (1, .istore_n 2, 0, 0, 0), (2, .iload_n 2, 0, 0, 0), (3, .aload_n 1, 0, 0, 0), (4, .getfield 35, 3, 5, 0), (7, .if_icmp .ge 24, 31, 0, 0), (10, .aload_n 0, 0, 0, 0), (11, .getfield 11, 3, 0, 1), (14, .iload_n 2, 0, 0, 0), (15, .aaload, 0, 0, 0), (16, .aload_n 1, 0, 0, 0), (17, .getfield 11, 3, 0, 1), (20, .iload_n 2, 0, 0, 0), (21, .aaload, 0, 0, 0), (22, .invokevirtual 49, 26, 1, 8), (25, .iinc 2 1, 0, 0, 0), (28, .goto (-26), 2, 0, 0), (31, .aload_n 1, 0, 0, 0), (32, .getfield 17, 3, 1, 1), (35, .iconst 0, 0, 0, 0), (36, .aload_n 0, 0, 0, 0), (37, .getfield 17, 3, 1, 1), (40, .iconst 0, 0, 0, 0), (41, .aload_n 1, 0, 0, 0), (42, .getfield 38, 3, 6, 0), (45, .invokestatic 53, 0, 5, 0), (48, .aload_n 1, 0, 0, 0), (49, .getfield 21, 3, 2, 1), (52, .iconst 0, 0, 0, 0), (53, .aload_n 0, 0, 0, 0), (54, .getfield 21, 3, 2, 1), (57, .iconst 0, 0, 0, 0), (58, .aload_n 1, 0, 0, 0), (59, .getfield 31, 3, 4, 0), (62, .invokestatic 53, 0, 5, 0), (65, .aload_n 0, 0, 0, 0), (66, .getfield 27, 3, 3, 1), (69, .aload_n 1, 0, 0, 0), (70, .getfield 27, 3, 3, 1), (73, .invokevirtual 59, 96, 1, 36), (76, .aload_n 0, 0, 0, 0), (77, .aload_n 1, 0, 0, 0), (78, .getfield 31, 3, 4, 0), (81, .putfield 31, 3, 4, 0), (84, .aload_n 0, 0, 0, 0), (85, .aload_n 1, 0, 0, 0), (86, .getfield 35, 3, 5, 0), (89, .putfield 35, 3, 5, 0), (92, .aload_n 0, 0, 0, 0), (93, .aload_n 1, 0, 0, 0), (94, .getfield 38, 3, 6, 0), (97, .putfield 38, 3, 6, 0), (100, .aload_n 0, 0, 0, 0), (101, .aload_n 1, 0, 0, 0), (102, .getfield 41, 3, 7, 0), (105, .putfield 41, 3, 7, 0), (108, .aload_n 0, 0, 0, 0), (109, .aload_n 1, 0, 0, 0), (110, .getfield 44, 3, 8, 0), (113, .putfield 44, 3, 8, 2), (116, .return_, 0, 0, 0)]
set_option maxRecDepth 100000 in
theorem sk_k36 : sk_mOK sk_inf sk_nest (sk_inf 36) sk_t36 := sk_mOK_of 4 false rfl (fun h => absurd h (by decide)) (by decide +kernel) (by decide +kernel)
def sk_t37 : List sk_E := [(0, .aload_n 0, 0, 0, 0), (1, .iload_n 1, 0, 0, 0), (2, .putfield 31, 3, 4, 0), (5, .aload_n 0, 0, 0, 0), (6, .iconst 0, 0, 0, 0), (7, .putfield 35, 3, 5, 0), (10, .aload_n 0, 0, 0, 0), (11, .iconst 0, 0, 0, 0), (12, .putfield 38, 3, 6, 0), (15, .aload_n 0, 0, 0, 0), (16, .invokevirtual 62, 38, 0, 12), (19, .return_, 0, 0, 0)]
set_option maxRecDepth 100000 in
theorem sk_k37 : sk_mOK sk_inf sk_nest (sk_inf 37) sk_t37 := sk_mOK_of 4 false rfl (fun h => absurd h (by decide)) (by decide +kernel) (by decide +kernel)
def sk_t38 : List sk_E := [(0, .aload_n 0, 0, 0, 0), (1, .getfield 21, 3, 2, 1), (4, .iconst 0, 0, 0, 0), (5, .invokestatic 65, 242, 2, 0), (8, .aload_n 0, 0, 0, 0), (9, .getfield 27, 3, 3, 1), (12, .iconst 0, 0, 0, 0), (13, .putfield 71, 9, 4, 0), (16, .iconst 0, 0, 0, 0), (17, .istore_n 1, 0, 0, 0), (18, .iload_n 1, 0, 0, 0), (19, .aload_n 0, 0, 0, 0), (20, .getfield 35, 3, 5, 0), (23, .if_icmp .ge 31, 54, 0, 0), (26, .aload_n 0, 0, 0, 0), (27, .getfield 11, 3, 0, 1), (30, .iload_n 1, 0, 0, 0), (31, .aaload, 0, 0, 0), (32, .invokevirtual 74, 28, 0, 9), (35, .ifCond .eq 13, 48, 0, 0), (38, .aload_n 0, 0, 0, 0), (39, .getfield 11, 3, 0, 1), (42, .iload_n 1, 0, 0, 0), (43, .aaload, 0, 0, 0), (44, .iconst 0, 0, 0, 0), (45, .putfield 78, 2, 4, 0), (48, .iinc 1 1, 0, 0, 0), (51, .goto (-33), 18, 0, 0), (54, .return_, 0, 0, 0)]
set_option maxRecDepth 100000 in
theorem sk_k38 : sk_mOK sk_inf sk_nest (sk_inf 38) sk_t38 := sk_mOK_of 4 false rfl (fun h => absurd h (by decide)) (by decide +kernel) (by decide +kernel)
def sk_t39 : List sk_E := [(0, .iload_n 1, 0, 0, 0), (1, .ifCond .lt 15, 16, 0, 0), (4, .iload_n 1, 0, 0, 0), (5, .aload_n 0, 0, 0, 0), (6, .getfield 35, 3, 5, 0), (9, .if_icmp .ge 7, 16, 0, 0), (12, .iconst 1, 0, 0, 0), (13, .goto 4, 17, 0, 0), (16, .iconst 0, 0, 0, 0), (17, .ireturn, 0, 0, 0)]
set_option maxRecDepth 100000 in
theorem sk_k39 : sk_mOK sk_inf sk_nest (sk_inf 39) sk_t39 := sk_mOK_of 4 false rfl (fun h => absurd h (by decide)) (by decide +kernel) (by decide +kernel)
def sk_t40 : List sk_E := [(0, .iconst 0, 0, 0, 0), (1, .istore_n 2, 0, 0, 0), (2, .iload_n 2, 0, 0, 0), (3, .aload_n 0, 0, 0, 0), (4, .getfield 38, 3, 6, 0), (7, .if_icmp .ge 21, 28, 0, 0), (10, .aload_n 0, 0, 0, 0), (11, .getfield 17, 3, 1, 1), (14, .iload_n 2, 0, 0, 0), (15, .iaload, 0, 0, 0), (16, .iload_n 1, 0, 0, 0), (17, .if_icmp .ne 5, 22, 0, 0), (20, .iconst 1, 0, 0, 0), (21, .ireturn, 0, 0, 0), (22, .iinc 2 1, 0, 0, 0), (25, .goto (-23), 2, 0, 0), (28, .iconst 0, 0, 0, 0), (29, .ireturn, 0, 0, 0)]
set_option maxRecDepth 100000 in
theorem sk_k40 : sk_mOK sk_inf sk_nest (sk_inf 40) sk_t40 := sk_mOK_of 4 false rfl (fun h => absurd h (by decide)) (by decide +kernel) (by decide +kernel)
def sk_t41 : List sk_E := [(0, .iconst 0, 0, 0, 0), (1, .istore_n 1, 0, 0, 0), (2, .iload_n 1, 0, 0, 0), (3, .aload_n 0, 0, 0, 0), (4, .getfield 35, 3, 5, 0), (7, .if_icmp .ge 23, 30, 0, 0), (10, .aload_n 0, 0, 0, 0), (11, .getfield 11, 3, 0, 1), (14, .iload_n 1, 0, 0, 0), (15, .aaload, 0, 0, 0), (16, .invokevirtual 74, 28, 0, 9), (19, .ifCond .eq 5, 24, 0, 0), (22, .iconst 1, 0, 0, 0), (23, .ireturn, 0, 0, 0), (24, .iinc 1 1, 0, 0, 0), (27, .goto (-25), 2, 0, 0), (30, .iconst 0, 0, 0, 0), (31, .ireturn, 0, 0, 0)]
set_option maxRecDepth 100000 in
theorem sk_k41 : sk_mOK sk_inf sk_nest (sk_inf 41) sk_t41 := sk_mOK_of 4 false rfl (fun h => absurd h (by decide)) (by decide +kernel) (by decide +kernel)
def sk_t42 : List sk_E := [(0, .iconst 0, 0, 0, 0), (1, .istore_n 1, 0, 0, 0), (2, .iconst 0, 0, 0, 0), (3, .istore_n 2, 0, 0, 0), (4, .iload_n 2, 0, 0, 0), (5, .aload_n 0, 0, 0, 0), (6, .getfield 35, 3, 5, 0), (9, .if_icmp .ge 24, 33, 0, 0), (12, .aload_n 0, 0, 0, 0), (13, .getfield 11, 3, 0, 1), (16, .iload_n 2, 0, 0, 0), (17, .aaload, 0, 0, 0), (18, .invokevirtual 81, 27, 0, 9), (21, .ifCond .eq 6, 27, 0, 0), (24, .iinc 1 1, 0, 0, 0), (27, .iinc 2 1, 0, 0, 0), (30, .goto (-26), 4, 0, 0), (33, .iload_n 1, 0, 0, 0), (34, .ireturn, 0, 0, 0)]
set_option maxRecDepth 100000 in
theorem sk_k42 : sk_mOK sk_inf sk_nest (sk_inf 42) sk_t42 := sk_mOK_of 4 false rfl (fun h => absurd h (by decide)) (by decide +kernel) (by decide +kernel)
def sk_t43 : List sk_E := [(0, .iconst 0, 0, 0, 0), (1, .istore_n 1, 0, 0, 0), (2, .iconst 0, 0, 0, 0), (3, .istore_n 2, 0, 0, 0), (4, .iload_n 2, 0, 0, 0), (5, .aload_n 0, 0, 0, 0), (6, .getfield 31, 3, 4, 0), (9, .if_icmp .ge 20, 29, 0, 0), (12, .iload_n 1, 0, 0, 0), (13, .aload_n 0, 0, 0, 0), (14, .getfield 21, 3, 2, 1), (17, .iload_n 2, 0, 0, 0), (18, .iaload, 0, 0, 0), (19, .invokestatic 84, 239, 2, 1), (22, .istore_n 1, 0, 0, 0), (23, .iinc 2 1, 0, 0, 0), (26, .goto (-22), 4, 0, 0), (29, .iconst 0, 0, 0, 0), (30, .istore_n 2, 0, 0, 0), (31, .iload_n 2, 0, 0, 0), (32, .aload_n 0, 0, 0, 0), (33, .getfield 35, 3, 5, 0), (36, .if_icmp .ge 38, 74, 0, 0), (39, .aload_n 0, 0, 0, 0), (40, .getfield 11, 3, 0, 1), (43, .iload_n 2, 0, 0, 0), (44, .aaload, 0, 0, 0), (45, .astore_n 3, 0, 0, 0), (46, .aload_n 3, 0, 0, 0), (47, .getfield 78, 2, 4, 0), (50, .iconst 1, 0, 0, 0), (51, .if_icmp .ne 17, 68, 0, 0), (54, .iload_n 1, 0, 0, 0), (55, .aload_n 3, 0, 0, 0), (56, .getfield 90, 2, 6, 0), (59, .aload_n 3, 0, 0, 0), (60, .getfield 93, 2, 9, 0), (63, .iadd, 0, 0, 0), (64, .invokestatic 84, 239, 2, 1), (67, .istore_n 1, 0, 0, 0), (68, .iinc 2 1, 0, 0, 0), (71, .goto (-40), 31, 0, 0), (74, .iload_n 1, 0, 0, 0), (75, .ireturn, 0, 0, 0)]
set_option maxRecDepth 100000 in
theorem sk_k43 : sk_mOK sk_inf sk_nest (sk_inf 43) sk_t43 := sk_mOK_of 4 false rfl (fun h => absurd h (by decide)) (by decide +kernel) (by decide +kernel)
def sk_t44 : List sk_E := [(0, .aload_n 0, 0, 0, 0), (1, .iconst 0, 0, 0, 0), (2, .putfield 38, 3, 6, 0), (5, .iconst 0, 0, 0, 0), (6, .istore_n 1, 0, 0, 0), (7, .iload_n 1, 0, 0, 0), (8, .aload_n 0, 0, 0, 0), (9, .getfield 35, 3, 5, 0), (12, .if_icmp .ge 42, 54, 0, 0), (15, .aload_n 0, 0, 0, 0), (16, .getfield 11, 3, 0, 1), (19, .iload_n 1, 0, 0, 0), (20, .aaload, 0, 0, 0), (21, .getfield 78, 2, 4, 0), (24, .iconst 1, 0, 0, 0), (25, .if_icmp .eq 23, 48, 0, 0), (28, .aload_n 0, 0, 0, 0), (29, .getfield 17, 3, 1, 1), (32, .aload_n 0, 0, 0, 0), (33, .getfield 38, 3, 6, 0), (36, .iload_n 1, 0, 0, 0), (37, .iastore, 0, 0, 0), (38, .aload_n 0, 0, 0, 0), (39, .dup, 0, 0, 0), (40, .getfield 38, 3, 6, 0), (43, .iconst 1, 0, 0, 0), (44, .iadd, 0, 0, 0), (45, .putfield 38, 3, 6, 0), (48, .iinc 1 1, 0, 0, 0), (51, .goto (-44), 7, 0, 0), (54, .return_, 0, 0, 0)]
set_option maxRecDepth 100000 in
theorem sk_k44 : sk_mOK sk_inf sk_nest (sk_inf 44) sk_t44 := sk_mOK_of 4 false rfl (fun h => absurd h (by decide)) (by decide +kernel) (by decide +kernel)
def sk_t45 : List sk_E := [(0, .iconst 0, 0, 0, 0), (1, .istore_n 2, 0, 0, 0), (2, .iload_n 2, 0, 0, 0), (3, .aload_n 1, 0, 0, 0), (4, .getfield 96, 4, 2, 0), (7, .if_icmp .ge 48, 55, 0, 0), (10, .aload_n 1, 0, 0, 0), (11, .getfield 99, 4, 0, 1), (14, .iload_n 2, 0, 0, 0), (15, .iaload, 0, 0, 0), (16, .istore_n 3, 0, 0, 0), (17, .iload_n 3, 0, 0, 0), (18, .iconst (-1), 0, 0, 0), (19, .if_icmp .ne 6, 25, 0, 0), (22, .goto 27, 49, 0, 0), (25, .aload_n 0, 0, 0, 0), (26, .getfield 11, 3, 0, 1), (29, .iload_n 3, 0, 0, 0), (30, .aaload, 0, 0, 0), (31, .getfield 78, 2, 4, 0), (34, .iconst 1, 0, 0, 0), (35, .if_icmp .eq 12, 47, 0, 0), (38, .aload_n 1, 0, 0, 0), (39, .iload_n 3, 0, 0, 0), (40, .invokevirtual 102, 67, 1, 17), (43, .iload_n 2, 0, 0, 0), (44, .if_icmp .eq 5, 49, 0, 0), (47, .iconst 0, 0, 0, 0), (48, .ireturn, 0, 0, 0), (49, .iinc 2 1, 0, 0, 0), (52, .goto (-50), 2, 0, 0), (55, .iconst 1, 0, 0, 0), (56, .ireturn, 0, 0, 0)]
set_option maxRecDepth 100000 in
theorem sk_k45 : sk_mOK sk_inf sk_nest (sk_inf 45) sk_t45 := sk_mOK_of 4 false rfl (fun h => absurd h (by decide)) (by decide +kernel) (by decide +kernel)
def sk_t46 : List sk_E := [(0, .aload_n 0, 0, 0, 0), (1, .iconst 0, 0, 0, 0), (2, .putfield 38, 3, 6, 0), (5, .iconst 0, 0, 0, 0), (6, .istore_n 2, 0, 0, 0), (7, .iload_n 2, 0, 0, 0), (8, .aload_n 1, 0, 0, 0), (9, .getfield 96, 4, 2, 0), (12, .if_icmp .ge 44, 56, 0, 0), (15, .aload_n 1, 0, 0, 0), (16, .getfield 99, 4, 0, 1), (19, .iload_n 2, 0, 0, 0), (20, .iaload, 0, 0, 0), (21, .iconst (-1), 0, 0, 0), (22, .if_icmp .eq 28, 50, 0, 0), (25, .aload_n 0, 0, 0, 0), (26, .getfield 17, 3, 1, 1), (29, .aload_n 0, 0, 0, 0), (30, .getfield 38, 3, 6, 0), (33, .aload_n 1, 0, 0, 0), (34, .getfield 99, 4, 0, 1), (37, .iload_n 2, 0, 0, 0), (38, .iaload, 0, 0, 0), (39, .iastore, 0, 0, 0), (40, .aload_n 0, 0, 0, 0), (41, .dup, 0, 0, 0), (42, .getfield 38, 3, 6, 0), (45, .iconst 1, 0, 0, 0), (46, .iadd, 0, 0, 0), (47, .putfield 38, 3, 6, 0), (50, .iinc 2 1, 0, 0, 0), (53, .goto (-46), 7, 0, 0), (56, .return_, 0, 0, 0)]
set_option maxRecDepth 100000 in
theorem sk_k46 : sk_mOK sk_inf sk_nest (sk_inf 46) sk_t46 := sk_mOK_of 4 false rfl (fun h => absurd h (by decide)) (by decide +kernel) (by decide +kernel)
def sk_t47 : List sk_E := [(0, .aload_n 0, 0, 0, 0), (1, .getfield 17, 3, 1, 1), (4, .iload_n 1, 0, 0, 0), (5, .iaload, 0, 0, 0), (6, .istore_n 3, 0, 0, 0), (7, .aload_n 0, 0, 0, 0), (8, .getfield 17, 3, 1, 1), (11, .iload_n 1, 0, 0, 0), (12, .aload_n 0, 0, 0, 0), (13, .getfield 17, 3, 1, 1), (16, .iload_n 2, 0, 0, 0), (17, .iaload, 0, 0, 0), (18, .iastore, 0, 0, 0), (19, .aload_n 0, 0, 0, 0), (20, .getfield 17, 3, 1, 1), (23, .iload_n 2, 0, 0, 0), (24, .iload_n 3, 0, 0, 0), (25, .iastore, 0, 0, 0), (26, .return_, 0, 0, 0)]
set_option maxRecDepth 100000 in
theorem sk_k47 : sk_mOK sk_inf sk_nest (sk_inf 47) sk_t47 := sk_mOK_of 4 false rfl (fun h => absurd h (by decide)) (by decide +kernel) (by decide +kernel)
def sk_t48 : List sk_E := [(0, .iconst 1, 0, 0, 0), (1, .istore_n 1, 0, 0, 0), (2, .iconst 1, 0, 0, 0), (3, .istore_n 2, 0, 0, 0), (4, .iload_n 2, 0, 0, 0), (5, .aload_n 0, 0, 0, 0), (6, .getfield 31, 3, 4, 0), (9, .if_icmp .ge 29, 38, 0, 0), (12, .aload_n 0, 0, 0, 0), (13, .getfield 21, 3, 2, 1), (16, .iload_n 2, 0, 0, 0), (17, .iaload, 0, 0, 0), (18, .aload_n 0, 0, 0, 0), (19, .getfield 21, 3, 2, 1), (22, .iload_n 2, 0, 0, 0), (23, .iconst 1, 0, 0, 0), (24, .isub, 0, 0, 0), (25, .iaload, 0, 0, 0), (26, .if_icmp .eq 6, 32, 0, 0), (29, .iinc 1 1, 0, 0, 0), (32, .iinc 2 1, 0, 0, 0), (35, .goto (-31), 4, 0, 0), (38, .iload_n 1, 0, 0, 0), (39, .ireturn, 0, 0, 0)]
set_option maxRecDepth 100000 in
theorem sk_k48 : sk_mOK sk_inf sk_nest (sk_inf 48) sk_t48 := sk_mOK_of 4 false rfl (fun h => absurd h (by decide)) (by decide +kernel) (by decide +kernel)
def sk_t49 : List sk_E := [(0, .iconst 0, 0, 0, 0), (1, .istore_n 2, 0, 0, 0), (2, .iconst 0, 0, 0, 0), (3, .istore_n 3, 0, 0, 0), (4, .iload_n 3, 0, 0, 0), (5, .iload_n 1, 0, 0, 0), (6, .if_icmp .ge 23, 29, 0, 0), (9, .iload_n 2, 0, 0, 0), (10, .aload_n 0, 0, 0, 0), (11, .getfield 31, 3, 4, 0), (14, .if_icmp .ge 15, 29, 0, 0), (17, .aload_n 0, 0, 0, 0), (18, .iload_n 2, 0, 0, 0), (19, .invokevirtual 106, 50, 1, 13), (22, .istore_n 2, 0, 0, 0), (23, .iinc 3 1, 0, 0, 0), (26, .goto (-22), 4, 0, 0), (29, .iload_n 2, 0, 0, 0), (30, .aload_n 0, 0, 0, 0), (31, .getfield 31, 3, 4, 0), (34, .if_icmp .ge 7, 41, 0, 0), (37, .iload_n 2, 0, 0, 0), (38, .goto 4, 42, 0, 0), (41, .iconst (-1), 0, 0, 0), (42, .ireturn, 0, 0, 0)]
set_option maxRecDepth 100000 in
theorem sk_k49 : sk_mOK sk_inf sk_nest (sk_inf 49) sk_t49 := sk_mOK_of 4 false rfl (fun h => absurd h (by decide)) (by decide +kernel) (by decide +kernel)
def sk_t50 : List sk_E := [(0, .iload_n 1, 0, 0, 0), (1, .iconst 1, 0, 0, 0), (2, .iadd, 0, 0, 0), (3, .istore_n 2, 0, 0, 0), (4, .iload_n 2, 0, 0, 0), (5, .aload_n 0, 0, 0, 0), (6, .getfield 31, 3, 4, 0), (9, .if_icmp .ge 24, 33, 0, 0), (12, .aload_n 0, 0, 0, 0), (13, .getfield 21, 3, 2, 1), (16, .iload_n 2, 0, 0, 0), (17, .iaload, 0, 0, 0), (18, .aload_n 0, 0, 0, 0), (19, .getfield 21, 3, 2, 1), (22, .iload_n 1, 0, 0, 0), (23, .iaload, 0, 0, 0), (24, .if_icmp .ne 9, 33, 0, 0), (27, .iinc 2 1, 0, 0, 0), (30, .goto (-26), 4, 0, 0), (33, .iload_n 2, 0, 0, 0), (34, .ireturn, 0, 0, 0)]
set_option maxRecDepth 100000 in
theorem sk_k50 : sk_mOK sk_inf sk_nest (sk_inf 50) sk_t50 := sk_mOK_of 4 false rfl (fun h => absurd h (by decide)) (by decide +kernel) (by decide +kernel)
def sk_t51 : List sk_E := [(0, .iconst (-1), 0, 0, 0), (1, .istore 5, 0, 0, 0), (3, .iconst 0, 0, 0, 0), (4, .istore 6, 0, 0, 0), (6, .iload 6, 0, 0, 0), (8, .aload_n 0, 0, 0, 0), (9, .getfield 35, 3, 5, 0), (12, .if_icmp .ge 136, 148, 0, 0), (15, .aload_n 0, 0, 0, 0), (16, .getfield 11, 3, 0, 1), (19, .iload 6, 0, 0, 0), (21, .aaload, 0, 0, 0), (22, .astore 7, 0, 0, 0), (24, .aload 7, 0, 0, 0), (26, .getfield 78, 2, 4, 0), (29, .iconst 1, 0, 0, 0), (30, .if_icmp .eq 6, 36, 0, 0), (33, .goto 109, 142, 0, 0), (36, .aload 7, 0, 0, 0), (38, .getfield 109, 2, 5, 0), (41, .iload_n 1, 0, 0, 0), (42, .iload_n 3, 0, 0, 0), (43, .iadd, 0, 0, 0), (44, .if_icmp .ge 22, 66, 0, 0), (47, .iload_n 1, 0, 0, 0), (48, .aload 7, 0, 0, 0), (50, .getfield 109, 2, 5, 0), (53, .aload 7, 0, 0, 0), (55, .getfield 112, 2, 8, 0), (58, .iadd, 0, 0, 0), (59, .if_icmp .ge 7, 66, 0, 0), (62, .iconst 1, 0, 0, 0), (63, .goto 4, 67, 0, 0), (66, .iconst 0, 0, 0, 0), (67, .istore 8, 0, 0, 0), (69, .aload 7, 0, 0, 0), (71, .getfield 90, 2, 6, 0), (74, .iload_n 2, 0, 0, 0), (75, .iload 4, 0, 0, 0), (77, .iadd, 0, 0, 0), (78, .if_icmp .ge 22, 100, 0, 0), (81, .iload_n 2, 0, 0, 0), (82, .aload 7, 0, 0, 0), (84, .getfield 90, 2, 6, 0), (87, .aload 7, 0, 0, 0), (89, .getfield 93, 2, 9, 0), (92, .iadd, 0, 0, 0), (93, .if_icmp .ge 7, 100, 0, 0), (96, .iconst 1, 0, 0, 0), (97, .goto 4, 101, 0, 0), (100, .iconst 0, 0, 0, 0), (101, .istore 9, 0, 0, 0), (103, .iload 8, 0, 0, 0), (105, .ifCond .eq 37, 142, 0, 0), (108, .iload 9, 0, 0, 0), (110, .ifCond .eq 32, 142, 0, 0), (113, .aload 7, 0, 0, 0), (115, .getfield 90, 2, 6, 0), (118, .aload 7, 0, 0, 0), (120, .getfield 93, 2, 9, 0), (123, .iadd, 0, 0, 0), (124, .iload 5, 0, 0, 0), (126, .if_icmp .le 16, 142, 0, 0), (129, .aload 7, 0, 0, 0), (131, .getfield 90, 2, 6, 0), (134, .aload 7, 0, 0, 0), (136, .getfield 93, 2, 9, 0), (139, .iadd, 0, 0, 0), (140, .istore 5, 0, 0, 0), (142, .iinc 6 1, 0, 0, 0), (145, .goto (-139), 6, 0, 0), (148, .iload 5, 0, 0, 0), (150, .ireturn, 0, 0, 0)]
set_option maxRecDepth 100000 in
theorem sk_k51 : sk_mOK sk_inf sk_nest (sk_inf 51) sk_t51 := sk_mOK_of 4 false rfl (fun h => absurd h (by decide)) (by decide +kernel) (by decide +kernel)
def sk_t52 : List sk_E := [(0, .iconst 0, 0, 0, 0), (1, .istore 4, 0, 0, 0), (3, .iload_n 1, 0, 0, 0), (4, .istore 5, 0, 0, 0), (6, .iload 5, 0, 0, 0), (8, .iload_n 1, 0, 0, 0), (9, .iload_n 2, 0, 0, 0), (10, .iadd, 0, 0, 0), (11, .if_icmp .ge 30, 41, 0, 0), (14, .aload_n 0, 0, 0, 0), (15, .getfield 21, 3, 2, 1), (18, .iload 5, 0, 0, 0), (20, .iaload, 0, 0, 0), (21, .iload 4, 0, 0, 0), (23, .if_icmp .le 12, 35, 0, 0), (26, .aload_n 0, 0, 0, 0), (27, .getfield 21, 3, 2, 1), (30, .iload 5, 0, 0, 0), (32, .iaload, 0, 0, 0), (33, .istore 4, 0, 0, 0), (35, .iinc 5 1, 0, 0, 0), (38, .goto (-32), 6, 0, 0), (41, .iconst 0, 0, 0, 0), (42, .istore 5, 0, 0, 0), (44, .iload 5, 0, 0, 0), (46, .bipush 10, 0, 0, 0), (48, .if_icmp .ge 33, 81, 0, 0), (51, .aload_n 0, 0, 0, 0), (52, .iload_n 1, 0, 0, 0), (53, .iload 4, 0, 0, 0), (55, .iload_n 2, 0, 0, 0), (56, .iload_n 3, 0, 0, 0), (57, .invokevirtual 115, 51, 4, 13), (60, .istore 6, 0, 0, 0), (62, .iload 6, 0, 0, 0), (64, .iconst (-1), 0, 0, 0), (65, .if_icmp .ne 6, 71, 0, 0), (68, .goto 13, 81, 0, 0), (71, .iload 6, 0, 0, 0), (73, .istore 4, 0, 0, 0), (75, .iinc 5 1, 0, 0, 0), (78, .goto (-34), 44, 0, 0), (81, .iload 4, 0, 0, 0), (83, .ireturn, 0, 0, 0)]
set_option maxRecDepth 100000 in
theorem sk_k52 : sk_mOK sk_inf sk_nest (sk_inf 52) sk_t52 := sk_mOK_of 4 false rfl (fun h => absurd h (by decide)) (by decide +kernel) (by decide +kernel)
def sk_t53 : List sk_E := [(0, .iconst 0, 0, 0, 0), (1, .istore 4, 0, 0, 0), (3, .iload_n 1, 0, 0, 0), (4, .istore 5, 0, 0, 0), (6, .iload 5, 0, 0, 0), (8, .iload_n 1, 0, 0, 0), (9, .iload_n 3, 0, 0, 0), (10, .iadd, 0, 0, 0), (11, .if_icmp .ge 23, 34, 0, 0), (14, .iload 4, 0, 0, 0), (16, .iload_n 2, 0, 0, 0), (17, .aload_n 0, 0, 0, 0), (18, .getfield 21, 3, 2, 1), (21, .iload 5, 0, 0, 0), (23, .iaload, 0, 0, 0), (24, .isub, 0, 0, 0), (25, .iadd, 0, 0, 0), (26, .istore 4, 0, 0, 0), (28, .iinc 5 1, 0, 0, 0), (31, .goto (-25), 6, 0, 0), (34, .iload 4, 0, 0, 0), (36, .ireturn, 0, 0, 0)]
set_option maxRecDepth 100000 in
theorem sk_k53 : sk_mOK sk_inf sk_nest (sk_inf 53) sk_t53 := sk_mOK_of 4 false rfl (fun h => absurd h (by decide)) (by decide +kernel) (by decide +kernel)
def sk_t54 : List sk_E := [(0, .iconst 0, 0, 0, 0), (1, .istore 5, 0, 0, 0), (3, .iload_n 1, 0, 0, 0), (4, .istore 6, 0, 0, 0), (6, .iload 6, 0, 0, 0), (8, .iload_n 1, 0, 0, 0), (9, .iload_n 3, 0, 0, 0), (10, .iadd, 0, 0, 0), (11, .if_icmp .ge 23, 34, 0, 0), (14, .aload_n 0, 0, 0, 0), (15, .getfield 21, 3, 2, 1), (18, .iload 6, 0, 0, 0), (20, .iaload, 0, 0, 0), (21, .iload_n 2, 0, 0, 0), (22, .if_icmp .ne 6, 28, 0, 0), (25, .iinc 5 1, 0, 0, 0), (28, .iinc 6 1, 0, 0, 0), (31, .goto (-25), 6, 0, 0), (34, .iconst 0, 0, 0, 0), (35, .istore 6, 0, 0, 0), (37, .iload 6, 0, 0, 0), (39, .iconst 2, 0, 0, 0), (40, .if_icmp .ge 79, 119, 0, 0), (43, .iload 6, 0, 0, 0), (45, .ifCond .ne 9, 54, 0, 0), (48, .iload_n 1, 0, 0, 0), (49, .iconst 1, 0, 0, 0), (50, .isub, 0, 0, 0), (51, .goto 6, 57, 0, 0), (54, .iload_n 1, 0, 0, 0), (55, .iload_n 3, 0, 0, 0), (56, .iadd, 0, 0, 0), (57, .istore 7, 0, 0, 0), (59, .iload 7, 0, 0, 0), (61, .ifCond .lt 12, 73, 0, 0), (64, .iload 7, 0, 0, 0), (66, .aload_n 0, 0, 0, 0), (67, .getfield 31, 3, 4, 0), (70, .if_icmp .lt 8, 78, 0, 0), (73, .iload 4, 0, 0, 0), (75, .goto 12, 87, 0, 0), (78, .aload_n 0, 0, 0, 0), (79, .getfield 21, 3, 2, 1), (82, .iload 7, 0, 0, 0), (84, .iaload, 0, 0, 0), (85, .iload_n 2, 0, 0, 0), (86, .isub, 0, 0, 0), (87, .istore 8, 0, 0, 0), (89, .iload 8, 0, 0, 0), (91, .ifCond .le 22, 113, 0, 0), (94, .iload 5, 0, 0, 0), (96, .iload 8, 0, 0, 0), (98, .iload 4, 0, 0, 0), (100, .if_icmp .ge 8, 108, 0, 0), (103, .iload 8, 0, 0, 0), (105, .goto 5, 110, 0, 0), (108, .iload 4, 0, 0, 0), (110, .iadd, 0, 0, 0), (111, .istore 5, 0, 0, 0), (113, .iinc 6 1, 0, 0, 0), (116, .goto (-79), 37, 0, 0), (119, .iload 5, 0, 0, 0), (121, .ireturn, 0, 0, 0)]
set_option maxRecDepth 100000 in
theorem sk_k54 : sk_mOK sk_inf sk_nest (sk_inf 54) sk_t54 := sk_mOK_of 4 false rfl (fun h => absurd h (by decide)) (by decide +kernel) (by decide +kernel)
def sk_t55 : List sk_E := [(0, .aload_n 0, 0, 0, 0), (1, .getfield 41, 3, 7, 0), (4, .tableswitch 47 1 3 #[28, 31, 36], 0, 0, 28), (32, .iload 5, 0, 0, 0), (34, .ireturn, 0, 0, 0), (35, .iload_n 2, 0, 0, 0), (36, .iload 4, 0, 0, 0), (38, .iadd, 0, 0, 0), (39, .ireturn, 0, 0, 0), (40, .aload_n 0, 0, 0, 0), (41, .iload_n 1, 0, 0, 0), (42, .iload_n 2, 0, 0, 0), (43, .iload_n 3, 0, 0, 0), (44, .iload 4, 0, 0, 0), (46, .invokevirtual 119, 54, 4, 13), (49, .ineg, 0, 0, 0), (50, .ireturn, 0, 0, 0), (51, .iload_n 2, 0, 0, 0), (52, .ireturn, 0, 0, 0)]
set_option maxRecDepth 100000 in
theorem sk_k55 : sk_mOK sk_inf sk_nest (sk_inf 55) sk_t55 := sk_mOK_of 4 false rfl (fun h => absurd h (by decide)) (by decide +kernel) (by decide +kernel)
def sk_t56 : List sk_E := [(0, .iload_n 1, 0, 0, 0), (1, .iload_n 3, 0, 0, 0), (2, .iadd, 0, 0, 0), (3, .istore 5, 0, 0, 0), (5, .iload_n 1, 0, 0, 0), (6, .istore 6, 0, 0, 0), (8, .iload_n 1, 0, 0, 0), (9, .istore 7, 0, 0, 0), (11, .iload 7, 0, 0, 0), (13, .iload 5, 0, 0, 0), (15, .if_icmp .ge 94, 109, 0, 0), (18, .aload_n 0, 0, 0, 0), (19, .getfield 21, 3, 2, 1), (22, .iload 7, 0, 0, 0), (24, .iaload, 0, 0, 0), (25, .istore 8, 0, 0, 0), (27, .iload 7, 0, 0, 0), (29, .iconst 1, 0, 0, 0), (30, .iadd, 0, 0, 0), (31, .iload 5, 0, 0, 0), (33, .if_icmp .ge 20, 53, 0, 0), (36, .aload_n 0, 0, 0, 0), (37, .getfield 21, 3, 2, 1), (40, .iload 7, 0, 0, 0), (42, .iconst 1, 0, 0, 0), (43, .iadd, 0, 0, 0), (44, .iaload, 0, 0, 0), (45, .iload 8, 0, 0, 0), (47, .if_icmp .ne 6, 53, 0, 0), (50, .goto 53, 103, 0, 0), (53, .iload 7, 0, 0, 0), (55, .iconst 1, 0, 0, 0), (56, .iadd, 0, 0, 0), (57, .iload 6, 0, 0, 0), (59, .isub, 0, 0, 0), (60, .istore 9, 0, 0, 0), (62, .aload_n 0, 0, 0, 0), (63, .iload 6, 0, 0, 0), (65, .iload 8, 0, 0, 0), (67, .iload 9, 0, 0, 0), (69, .iload_n 2, 0, 0, 0), (70, .iload 8, 0, 0, 0), (72, .isub, 0, 0, 0), (73, .invokevirtual 115, 51, 4, 13), (76, .iconst (-1), 0, 0, 0), (77, .if_icmp .ne 20, 97, 0, 0), (80, .aload_n 0, 0, 0, 0), (81, .getfield 27, 3, 3, 1), (84, .iload 6, 0, 0, 0), (86, .iload 8, 0, 0, 0), (88, .iload 9, 0, 0, 0), (90, .iload_n 2, 0, 0, 0), (91, .iload 8, 0, 0, 0), (93, .isub, 0, 0, 0), (94, .invokevirtual 122, 97, 4, 36), (97, .iload 7, 0, 0, 0), (99, .iconst 1, 0, 0, 0), (100, .iadd, 0, 0, 0), (101, .istore 6, 0, 0, 0), (103, .iinc 7 1, 0, 0, 0), (106, .goto (-95), 11, 0, 0), (109, .aload_n 0, 0, 0, 0), (110, .getfield 21, 3, 2, 1), (113, .iload_n 1, 0, 0, 0), (114, .iload 5, 0, 0, 0), (116, .iload_n 2, 0, 0, 0), (117, .iload 4, 0, 0, 0), (119, .iadd, 0, 0, 0), (120, .invokestatic 126, 243, 4, 0), (123, .return_, 0, 0, 0)]
set_option maxRecDepth 100000 in
theorem sk_k56 : sk_mOK sk_inf sk_nest (sk_inf 56) sk_t56 := sk_mOK_of 4 false rfl (fun h => absurd h (by decide)) (by decide +kernel) (by decide +kernel)
end
section
/-! ===== tables of the methods (written by program) ===== -/
def sk_t57 : List sk_E := [(0, .iconst 0, 0, 0, 0), (1, .istore_n 1, 0, 0, 0), (2, .iconst 0, 0, 0, 0), (3, .istore_n 2, 0, 0, 0), (4, .iload_n 2, 0, 0, 0), (5, .aload_n 0, 0, 0, 0), (6, .getfield 35, 3, 5, 0), (9, .if_icmp .ge 35, 44, 0, 0), (12, .aload_n 0, 0, 0, 0), (13, .getfield 11, 3, 0, 1), (16, .iload_n 2, 0, 0, 0), (17, .aaload, 0, 0, 0), (18, .astore_n 3, 0, 0, 0), (19, .aload_n 3, 0, 0, 0), (20, .invokevirtual 81, 27, 0, 9), (23, .ifCond .eq 15, 38, 0, 0), (26, .iload_n 1, 0, 0, 0), (27, .aload_n 3, 0, 0, 0), (28, .getfield 112, 2, 8, 0), (31, .aload_n 3, 0, 0, 0), (32, .getfield 93, 2, 9, 0), (35, .imul, 0, 0, 0), (36, .iadd, 0, 0, 0), (37, .istore_n 1, 0, 0, 0), (38, .iinc 2 1, 0, 0, 0), (41, .goto (-37), 4, 0, 0), (44, .iload_n 1, 0, 0, 0), (45, .ireturn, 0, 0, 0)]
set_option maxRecDepth 100000 in
theorem sk_k57 : sk_mOK sk_inf sk_nest (sk_inf 57) sk_t57 := sk_mOK_of 4 false rfl (fun h => absurd h (by decide)) (by decide +kernel) (by decide +kernel)
def sk_t58 : List sk_E := [(0, .fconst 0, 0, 0, 0), (1, .fstore_n 2, 0, 0, 0), (2, .fconst 0, 0, 0, 0), (3, .fstore_n 3, 0, 0, 0), (4, .iconst 0, 0, 0, 0), (5, .istore 4, 0, 0, 0), (7, .iload 4, 0, 0, 0), (9, .aload_n 0, 0, 0, 0), (10, .getfield 35, 3, 5, 0), (13, .if_icmp .ge 101, 114, 0, 0), (16, .aload_n 0, 0, 0, 0), (17, .getfield 11, 3, 0, 1), (20, .iload 4, 0, 0, 0), (22, .aaload, 0, 0, 0), (23, .astore 5, 0, 0, 0), (25, .aload 5, 0, 0, 0), (27, .invokevirtual 81, 27, 0, 9), (30, .ifCond .ne 6, 36, 0, 0), (33, .goto 75, 108, 0, 0), (36, .aload 5, 0, 0, 0), (38, .getfield 112, 2, 8, 0), (41, .aload 5, 0, 0, 0), (43, .getfield 93, 2, 9, 0), (46, .imul, 0, 0, 0), (47, .i2f, 0, 0, 0), (48, .fstore 6, 0, 0, 0), (50, .iload_n 1, 0, 0, 0), (51, .ifCond .eq 11, 62, 0, 0), (54, .aload 5, 0, 0, 0), (56, .getfield 90, 2, 6, 0), (59, .goto 8, 67, 0, 0), (62, .aload 5, 0, 0, 0), (64, .getfield 109, 2, 5, 0), (67, .i2f, 0, 0, 0), (68, .fstore 7, 0, 0, 0), (70, .iload_n 1, 0, 0, 0), (71, .ifCond .eq 11, 82, 0, 0), (74, .aload 5, 0, 0, 0), (76, .getfield 93, 2, 9, 0), (79, .goto 8, 87, 0, 0), (82, .aload 5, 0, 0, 0), (84, .getfield 112, 2, 8, 0), (87, .i2f, 0, 0, 0), (88, .fstore 8, 0, 0, 0), (90, .fload_n 2, 0, 0, 0), (91, .fload 6, 0, 0, 0), (93, .fadd, 0, 0, 0), (94, .fstore_n 2, 0, 0, 0), (95, .fload_n 3, 0, 0, 0), (96, .fload 6, 0, 0, 0), (98, .fload 7, 0, 0, 0), (100, .fload 8, 0, 0, 0), (102, .fconst 2, 0, 0, 0), (103, .fdiv, 0, 0, 0), (104, .fadd, 0, 0, 0), (105, .fmul, 0, 0, 0), (106, .fadd, 0, 0, 0), (107, .fstore_n 3, 0, 0, 0), (108, .iinc 4 1, 0, 0, 0), (111, .goto (-104), 7, 0, 0), (114, .fload_n 2, 0, 0, 0), (115, .fconst 0, 0, 0, 0), (116, .fcmp .l, 0, 0, 0), (117, .ifCond .le 9, 126, 0, 0), (120, .fload_n 3, 0, 0, 0), (121, .fload_n 2, 0, 0, 0), (122, .fdiv, 0, 0, 0), (123, .goto 4, 127, 0, 0), (126, .fconst 0, 0, 0, 0), (127, .freturn, 0, 0, 0)]
set_option maxRecDepth 100000 in
theorem sk_k58 : sk_mOK sk_inf sk_nest (sk_inf 58) sk_t58 := sk_mOK_of 4 false rfl (fun h => absurd h (by decide)) (by decide +kernel) (by decide +kernel)
def sk_t59 : List sk_E := [(0, .aload_n 0, 0, 0, 0), (1, .getfield 31, 3, 4, 0), (4, .aload_n 0, 0, 0, 0), (5, .invokevirtual 129, 43, 0, 13), (8, .imul, 0, 0, 0), (9, .i2f, 0, 0, 0), (10, .fstore_n 1, 0, 0, 0), (11, .fload_n 1, 0, 0, 0), (12, .fconst 0, 0, 0, 0), (13, .fcmp .l, 0, 0, 0), (14, .ifCond .le 13, 27, 0, 0), (17, .aload_n 0, 0, 0, 0), (18, .invokevirtual 133, 57, 0, 13), (21, .i2f, 0, 0, 0), (22, .fload_n 1, 0, 0, 0), (23, .fdiv, 0, 0, 0), (24, .goto 4, 28, 0, 0), (27, .fconst 0, 0, 0, 0), (28, .freturn, 0, 0, 0)]
set_option maxRecDepth 100000 in
theorem sk_k59 : sk_mOK sk_inf sk_nest (sk_inf 59) sk_t59 := sk_mOK_of 4 false rfl (fun h => absurd h (by decide)) (by decide +kernel) (by decide +kernel)
def sk_t60 : List sk_E := [(0, .iconst 0, 0, 0, 0), (1, .istore_n 1, 0, 0, 0), (2, .iconst 0, 0, 0, 0), (3, .istore_n 2, 0, 0, 0), (4, .iload_n 2, 0, 0, 0), (5, .aload_n 0, 0, 0, 0), (6, .getfield 35, 3, 5, 0), (9, .if_icmp .ge 54, 63, 0, 0), (12, .iconst 1, 0, 0, 0), (13, .istore_n 3, 0, 0, 0), (14, .iconst 0, 0, 0, 0), (15, .istore 4, 0, 0, 0), (17, .iload 4, 0, 0, 0), (19, .iload_n 2, 0, 0, 0), (20, .if_icmp .ge 30, 50, 0, 0), (23, .aload_n 0, 0, 0, 0), (24, .getfield 11, 3, 0, 1), (27, .iload 4, 0, 0, 0), (29, .aaload, 0, 0, 0), (30, .aload_n 0, 0, 0, 0), (31, .getfield 11, 3, 0, 1), (34, .iload_n 2, 0, 0, 0), (35, .aaload, 0, 0, 0), (36, .invokevirtual 136, 34, 1, 9), (39, .ifCond .eq 5, 44, 0, 0), (42, .iconst 0, 0, 0, 0), (43, .istore_n 3, 0, 0, 0), (44, .iinc 4 1, 0, 0, 0), (47, .goto (-30), 17, 0, 0), (50, .iload_n 3, 0, 0, 0), (51, .ifCond .eq 6, 57, 0, 0), (54, .iinc 1 1, 0, 0, 0), (57, .iinc 2 1, 0, 0, 0), (60, .goto (-56), 4, 0, 0), (63, .iload_n 1, 0, 0, 0), (64, .ireturn, 0, 0, 0)]
set_option maxRecDepth 100000 in
theorem sk_k60 : sk_mOK sk_inf sk_nest (sk_inf 60) sk_t60 := sk_mOK_of 4 false rfl (fun h => absurd h (by decide)) (by decide +kernel) (by decide +kernel)
def sk_t61 : List sk_E := [(0, .iconst 1, 0, 0, 0), (1, .istore_n 1, 0, 0, 0), (2, .iconst 0, 0, 0, 0), (3, .istore_n 2, 0, 0, 0), (4, .iload_n 2, 0, 0, 0), (5, .aload_n 0, 0, 0, 0), (6, .getfield 38, 3, 6, 0), (9, .if_icmp .ge 66, 75, 0, 0), (12, .iconst 1, 0, 0, 0), (13, .istore_n 3, 0, 0, 0), (14, .iconst 0, 0, 0, 0), (15, .istore 4, 0, 0, 0), (17, .iload 4, 0, 0, 0), (19, .iload_n 2, 0, 0, 0), (20, .if_icmp .ge 41, 61, 0, 0), (23, .aload_n 0, 0, 0, 0), (24, .getfield 11, 3, 0, 1), (27, .aload_n 0, 0, 0, 0), (28, .getfield 17, 3, 1, 1), (31, .iload 4, 0, 0, 0), (33, .iaload, 0, 0, 0), (34, .aaload, 0, 0, 0), (35, .aload_n 0, 0, 0, 0), (36, .getfield 11, 3, 0, 1), (39, .aload_n 0, 0, 0, 0), (40, .getfield 17, 3, 1, 1), (43, .iload_n 2, 0, 0, 0), (44, .iaload, 0, 0, 0), (45, .aaload, 0, 0, 0), (46, .invokevirtual 136, 34, 1, 9), (49, .ifCond .eq 6, 55, 0, 0), (52, .iinc 3 1, 0, 0, 0), (55, .iinc 4 1, 0, 0, 0), (58, .goto (-41), 17, 0, 0), (61, .iload_n 1, 0, 0, 0), (62, .iload_n 2, 0, 0, 0), (63, .iconst 1, 0, 0, 0), (64, .iadd, 0, 0, 0), (65, .imul, 0, 0, 0), (66, .iload_n 3, 0, 0, 0), (67, .idiv, 0, 0, 0), (68, .istore_n 1, 0, 0, 0), (69, .iinc 2 1, 0, 0, 0), (72, .goto (-68), 4, 0, 0), (75, .iload_n 1, 0, 0, 0), (76, .ireturn, 0, 0, 0)]
set_option maxRecDepth 100000 in
theorem sk_k61 : sk_mOK sk_inf sk_nest (sk_inf 61) sk_t61 := sk_mOK_of 4 false rfl (fun h => absurd h (by decide)) (by decide +kernel) (by decide +kernel)
def sk_t62 : List sk_E := [(0, .aload_n 0, 0, 0, 0), (1, .invokespecial 3, 0, 0, 0), (4, .aload_n 0, 0, 0, 0), (5, .bipush 10, 0, 0, 0), (7, .newarray .int, 0, 0, 0), (9, .putfield 9, 4, 0, 3), (12, .aload_n 0, 0, 0, 0), (13, .iconst (-1), 0, 0, 0), (14, .putfield 15, 4, 1, 0), (17, .aload_n 0, 0, 0, 0), (18, .iconst 0, 0, 0, 0), (19, .putfield 19, 4, 2, 0), (22, .return_, 0, 0, 0)]
set_option maxRecDepth 100000 in
theorem sk_k62 : sk_mOK sk_inf sk_nest (sk_inf 62) sk_t62 := sk_mOK_of 5 true rfl (fun h => rfl) (by decide +kernel) (by decide +kernel)
def sk_t63 : List sk_E := [(0, .aload_n 0, 0, 0, 0), (1, .getfield 15, 4, 1, 0), (4, .iconst (-1), 0, 0, 0), (5, .if_icmp .ne 7, 12, 0, 0), (8, .iconst 1, 0, 0, 0), (9, .goto 4, 13, 0, 0), (12, .iconst 0, 0, 0, 0), (13, .ireturn, 0, 0, 0)]
set_option maxRecDepth 100000 in
theorem sk_k63 : sk_mOK sk_inf sk_nest (sk_inf 63) sk_t63 := sk_mOK_of 5 false rfl (fun h => absurd h (by decide)) (by decide +kernel) (by decide +kernel)
def sk_t64 : List sk_E := [(0, .aload_n 0, 0, 0, 0), (1, .iload_n 1, 0, 0, 0), (2, .putfield 15, 4, 1, 0), (5, .aload_n 0, 0, 0, 0), (6, .iload_n 2, 0, 0, 0), (7, .putfield 19, 4, 2, 0), (10, .aload_n 0, 0, 0, 0), (11, .invokevirtual 22, 65, 0, 16), (14, .return_, 0, 0, 0)]
set_option maxRecDepth 100000 in
theorem sk_k64 : sk_mOK sk_inf sk_nest (sk_inf 64) sk_t64 := sk_mOK_of 5 false rfl (fun h => absurd h (by decide)) (by decide +kernel) (by decide +kernel)
def sk_t65 : List sk_E := [(0, .aload_n 0, 0, 0, 0), (1, .getfield 9, 4, 0, 1), (4, .iconst (-1), 0, 0, 0), (5, .invokestatic 25, 242, 2, 0), (8, .return_, 0, 0, 0)]
set_option maxRecDepth 100000 in
theorem sk_k65 : sk_mOK sk_inf sk_nest (sk_inf 65) sk_t65 := sk_mOK_of 5 false rfl (fun h => absurd h (by decide)) (by decide +kernel) (by decide +kernel)
def sk_t66 : List sk_E := [(0, .iload_n 2, 0, 0, 0), (1, .iconst (-1), 0, 0, 0), (2, .if_icmp .eq 30, 32, 0, 0), (5, .aload_n 1, 0, 0, 0), (6, .iload_n 2, 0, 0, 0), (7, .invokevirtual 31, 39, 1, 13), (10, .ifCond .eq 26, 36, 0, 0), (13, .aload_n 1, 0, 0, 0), (14, .getfield 37, 3, 0, 1), (17, .iload_n 2, 0, 0, 0), (18, .aaload, 0, 0, 0), (19, .getfield 41, 2, 0, 0), (22, .aload_n 0, 0, 0, 0), (23, .getfield 15, 4, 1, 0), (26, .invokestatic 44, 1, 2, 41), (29, .ifCond .eq 7, 36, 0, 0), (32, .iconst 1, 0, 0, 0), (33, .goto 4, 37, 0, 0), (36, .iconst 0, 0, 0, 0), (37, .ireturn, 0, 0, 0)]
set_option maxRecDepth 100000 in
theorem sk_k66 : sk_mOK sk_inf sk_nest (sk_inf 66) sk_t66 := sk_mOK_of 5 false rfl (fun h => absurd h (by decide)) (by decide +kernel) (by decide +kernel)
def sk_t67 : List sk_E := [(0, .iconst 0, 0, 0, 0), (1, .istore_n 2, 0, 0, 0), (2, .iload_n 2, 0, 0, 0), (3, .aload_n 0, 0, 0, 0), (4, .getfield 19, 4, 2, 0), (7, .if_icmp .ge 21, 28, 0, 0), (10, .aload_n 0, 0, 0, 0), (11, .getfield 9, 4, 0, 1), (14, .iload_n 2, 0, 0, 0), (15, .iaload, 0, 0, 0), (16, .iload_n 1, 0, 0, 0), (17, .if_icmp .ne 5, 22, 0, 0), (20, .iload_n 2, 0, 0, 0), (21, .ireturn, 0, 0, 0), (22, .iinc 2 1, 0, 0, 0), (25, .goto (-23), 2, 0, 0), (28, .iconst (-1), 0, 0, 0), (29, .ireturn, 0, 0, 0)]
set_option maxRecDepth 100000 in
theorem sk_k67 : sk_mOK sk_inf sk_nest (sk_inf 67) sk_t67 := sk_mOK_of 5 false rfl (fun h => absurd h (by decide)) (by decide +kernel) (by decide +kernel)
def sk_t68 : List sk_E := [(0, .aload_n 0, 0, 0, 0), (1, .invokespecial 3, 0, 0, 0), (4, .aload_n 0, 0, 0, 0), (5, .iconst 5, 0, 0, 0), (6, .newarray .int, 0, 0, 0), (8, .putfield 9, 5, 0, 3), (11, .aload_n 0, 0, 0, 0), (12, .bipush 120, 0, 0, 0), (14, .newarray .int, 0, 0, 0), (16, .putfield 15, 5, 3, 3), (19, .aload_n 0, 0, 0, 0), (20, .sipush 1200, 0, 0, 0), (23, .newarray .int, 0, 0, 0), (25, .putfield 18, 5, 4, 3), (28, .aload_n 0, 0, 0, 0), (29, .bipush 10, 0, 0, 0), (31, .newarray .int, 0, 0, 0), (33, .putfield 21, 5, 5, 3), (36, .aload_n 0, 0, 0, 0), (37, .bipush 10, 0, 0, 0), (39, .newarray .int, 0, 0, 0), (41, .putfield 24, 5, 6, 3), (44, .return_, 0, 0, 0)]
set_option maxRecDepth 100000 in
theorem sk_k68 : sk_mOK sk_inf sk_nest (sk_inf 68) sk_t68 := sk_mOK_of 6 true rfl (fun h => rfl) (by decide +kernel) (by decide +kernel)
def sk_t69 : List sk_E := [(0, .aload_n 0, 0, 0, 0), (1, .iconst (-1), 0, 0, 0), (2, .putfield 27, 5, 1, 0), (5, .aload_n 1, 0, 0, 0), (6, .getfield 31, 3, 1, 1), (9, .aload_n 1, 0, 0, 0), (10, .getfield 36, 3, 6, 0), (13, .invokestatic 39, 77, 2, 20), (16, .iconst 0, 0, 0, 0), (17, .istore_n 3, 0, 0, 0), (18, .iload_n 3, 0, 0, 0), (19, .bipush 120, 0, 0, 0), (21, .if_icmp .ge 88, 109, 0, 0), (24, .aload_n 2, 0, 0, 0), (25, .aload_n 1, 0, 0, 0), (26, .invokevirtual 43, 18, 1, 5), (29, .aload_n 1, 0, 0, 0), (30, .getfield 36, 3, 6, 0), (33, .if_icmp .ne 7, 40, 0, 0), (36, .iconst 1, 0, 0, 0), (37, .goto 4, 41, 0, 0), (40, .iconst 0, 0, 0, 0), (41, .istore 4, 0, 0, 0), (43, .iload 4, 0, 0, 0), (45, .ifCond .eq 47, 92, 0, 0), (48, .aload_n 0, 0, 0, 0), (49, .getfield 27, 5, 1, 0), (52, .iconst (-1), 0, 0, 0), (53, .if_icmp .eq 14, 67, 0, 0), (56, .aload_n 1, 0, 0, 0), (57, .invokevirtual 49, 43, 0, 13), (60, .aload_n 0, 0, 0, 0), (61, .getfield 27, 5, 1, 0), (64, .if_icmp .ge 28, 92, 0, 0), (67, .aload_n 0, 0, 0, 0), (68, .aload_n 1, 0, 0, 0), (69, .invokevirtual 49, 43, 0, 13), (72, .putfield 27, 5, 1, 0), (75, .aload_n 1, 0, 0, 0), (76, .getfield 31, 3, 1, 1), (79, .iconst 0, 0, 0, 0), (80, .aload_n 0, 0, 0, 0), (81, .getfield 9, 5, 0, 1), (84, .iconst 0, 0, 0, 0), (85, .aload_n 1, 0, 0, 0), (86, .getfield 36, 3, 6, 0), (89, .invokestatic 53, 0, 5, 0), (92, .aload_n 0, 0, 0, 0), (93, .aload_n 1, 0, 0, 0), (94, .invokevirtual 59, 72, 1, 21), (97, .ifCond .ne 6, 103, 0, 0), (100, .goto 9, 109, 0, 0), (103, .iinc 3 1, 0, 0, 0), (106, .goto (-88), 18, 0, 0), (109, .return_, 0, 0, 0)]
set_option maxRecDepth 100000 in
theorem sk_k69 : sk_mOK sk_inf sk_nest (sk_inf 69) sk_t69 := sk_mOK_of 6 false rfl (fun h => absurd h (by decide)) (by decide +kernel) (by decide +kernel)
def sk_t70 : List sk_E := [(0, .aload_n 0, 0, 0, 0), (1, .iconst 0, 0, 0, 0), (2, .putfield 63, 5, 2, 0), (5, .aload_n 1, 0, 0, 0), (6, .getfield 31, 3, 1, 1), (9, .aload_n 1, 0, 0, 0), (10, .getfield 36, 3, 6, 0), (13, .invokestatic 39, 77, 2, 20), (16, .iconst 0, 0, 0, 0), (17, .istore_n 3, 0, 0, 0), (18, .iload_n 3, 0, 0, 0), (19, .bipush 120, 0, 0, 0), (21, .if_icmp .ge 41, 62, 0, 0), (24, .aload_n 2, 0, 0, 0), (25, .aload_n 1, 0, 0, 0), (26, .invokevirtual 43, 18, 1, 5), (29, .aload_n 1, 0, 0, 0), (30, .getfield 36, 3, 6, 0), (33, .if_icmp .ne 12, 45, 0, 0), (36, .aload_n 0, 0, 0, 0), (37, .aload_n 1, 0, 0, 0), (38, .invokevirtual 66, 73, 1, 20), (41, .aload_n 0, 0, 0, 0), (42, .invokevirtual 70, 75, 0, 20), (45, .aload_n 0, 0, 0, 0), (46, .aload_n 1, 0, 0, 0), (47, .invokevirtual 59, 72, 1, 21), (50, .ifCond .ne 6, 56, 0, 0), (53, .goto 9, 62, 0, 0), (56, .iinc 3 1, 0, 0, 0), (59, .goto (-41), 18, 0, 0), (62, .return_, 0, 0, 0)]
set_option maxRecDepth 100000 in
theorem sk_k70 : sk_mOK sk_inf sk_nest (sk_inf 70) sk_t70 := sk_mOK_of 6 false rfl (fun h => absurd h (by decide)) (by decide +kernel) (by decide +kernel)
def sk_t71 : List sk_E := [(0, .iconst 0, 0, 0, 0), (1, .istore_n 1, 0, 0, 0), (2, .iconst 0, 0, 0, 0), (3, .istore_n 2, 0, 0, 0), (4, .iload_n 2, 0, 0, 0), (5, .aload_n 0, 0, 0, 0), (6, .getfield 63, 5, 2, 0), (9, .if_icmp .ge 20, 29, 0, 0), (12, .iload_n 1, 0, 0, 0), (13, .aload_n 0, 0, 0, 0), (14, .getfield 15, 5, 3, 1), (17, .iload_n 2, 0, 0, 0), (18, .iaload, 0, 0, 0), (19, .invokestatic 73, 239, 2, 1), (22, .istore_n 1, 0, 0, 0), (23, .iinc 2 1, 0, 0, 0), (26, .goto (-22), 4, 0, 0), (29, .iload_n 1, 0, 0, 0), (30, .ireturn, 0, 0, 0)]
set_option maxRecDepth 100000 in
theorem sk_k71 : sk_mOK sk_inf sk_nest (sk_inf 71) sk_t71 := sk_mOK_of 6 false rfl (fun h => absurd h (by decide)) (by decide +kernel) (by decide +kernel)
def sk_t72 : List sk_E := [(0, .aload_n 1, 0, 0, 0), (1, .getfield 31, 3, 1, 1), (4, .astore_n 2, 0, 0, 0), (5, .aload_n 1, 0, 0, 0), (6, .getfield 36, 3, 6, 0), (9, .iconst 2, 0, 0, 0), (10, .isub, 0, 0, 0), (11, .istore_n 3, 0, 0, 0), (12, .iload_n 3, 0, 0, 0), (13, .ifCond .lt 20, 33, 0, 0), (16, .aload_n 2, 0, 0, 0), (17, .iload_n 3, 0, 0, 0), (18, .iaload, 0, 0, 0), (19, .aload_n 2, 0, 0, 0), (20, .iload_n 3, 0, 0, 0), (21, .iconst 1, 0, 0, 0), (22, .iadd, 0, 0, 0), (23, .iaload, 0, 0, 0), (24, .if_icmp .le 9, 33, 0, 0), (27, .iinc 3 (-1), 0, 0, 0), (30, .goto (-18), 12, 0, 0), (33, .iload_n 3, 0, 0, 0), (34, .ifCond .ge 5, 39, 0, 0), (37, .iconst 0, 0, 0, 0), (38, .ireturn, 0, 0, 0), (39, .aload_n 1, 0, 0, 0), (40, .getfield 36, 3, 6, 0), (43, .iconst 1, 0, 0, 0), (44, .isub, 0, 0, 0), (45, .istore 4, 0, 0, 0), (47, .iload 4, 0, 0, 0), (49, .iload_n 3, 0, 0, 0), (50, .if_icmp .le 19, 69, 0, 0), (53, .aload_n 2, 0, 0, 0), (54, .iload 4, 0, 0, 0), (56, .iaload, 0, 0, 0), (57, .aload_n 2, 0, 0, 0), (58, .iload_n 3, 0, 0, 0), (59, .iaload, 0, 0, 0), (60, .if_icmp .ge 9, 69, 0, 0), (63, .iinc 4 (-1), 0, 0, 0), (66, .goto (-19), 47, 0, 0), (69, .aload_n 1, 0, 0, 0), (70, .iload_n 3, 0, 0, 0), (71, .iload 4, 0, 0, 0), (73, .invokevirtual 79, 47, 2, 12), (76, .iload_n 3, 0, 0, 0), (77, .iconst 1, 0, 0, 0), (78, .iadd, 0, 0, 0), (79, .istore 5, 0, 0, 0), (81, .aload_n 1, 0, 0, 0), (82, .getfield 36, 3, 6, 0), (85, .iconst 1, 0, 0, 0), (86, .isub, 0, 0, 0), (87, .istore 6, 0, 0, 0), (89, .iload 5, 0, 0, 0), (91, .iload 6, 0, 0, 0), (93, .if_icmp .ge 20, 113, 0, 0), (96, .aload_n 1, 0, 0, 0), (97, .iload 5, 0, 0, 0), (99, .iload 6, 0, 0, 0), (101, .invokevirtual 79, 47, 2, 12), (104, .iinc 5 1, 0, 0, 0), (107, .iinc 6 (-1), 0, 0, 0), (110, .goto (-21), 89, 0, 0), (113, .iconst 1, 0, 0, 0), (114, .ireturn, 0, 0, 0)]
set_option maxRecDepth 100000 in
theorem sk_k72 : sk_mOK sk_inf sk_nest (sk_inf 72) sk_t72 := sk_mOK_of 6 false rfl (fun h => absurd h (by decide)) (by decide +kernel) (by decide +kernel)
def sk_t73 : List sk_E := [(0, .aload_n 0, 0, 0, 0), (1, .iconst 0, 0, 0, 0), (2, .putfield 83, 5, 7, 0), (5, .iconst 0, 0, 0, 0), (6, .istore_n 2, 0, 0, 0), (7, .iload_n 2, 0, 0, 0), (8, .aload_n 1, 0, 0, 0), (9, .getfield 86, 3, 5, 0), (12, .if_icmp .ge 80, 92, 0, 0), (15, .aload_n 1, 0, 0, 0), (16, .getfield 89, 3, 0, 1), (19, .iload_n 2, 0, 0, 0), (20, .aaload, 0, 0, 0), (21, .astore_n 3, 0, 0, 0), (22, .aload_n 3, 0, 0, 0), (23, .invokevirtual 93, 27, 0, 9), (26, .ifCond .ne 6, 32, 0, 0), (29, .goto 57, 86, 0, 0), (32, .aload_n 0, 0, 0, 0), (33, .getfield 21, 5, 5, 1), (36, .aload_n 0, 0, 0, 0), (37, .getfield 83, 5, 7, 0), (40, .aload_n 3, 0, 0, 0), (41, .aload_n 3, 0, 0, 0), (42, .getfield 99, 2, 5, 0), (45, .invokestatic 102, 74, 2, 21), (48, .iastore, 0, 0, 0), (49, .aload_n 0, 0, 0, 0), (50, .getfield 24, 5, 6, 1), (53, .aload_n 0, 0, 0, 0), (54, .getfield 83, 5, 7, 0), (57, .aload_n 3, 0, 0, 0), (58, .aload_n 1, 0, 0, 0), (59, .getfield 106, 3, 4, 0), (62, .aload_n 3, 0, 0, 0), (63, .getfield 99, 2, 5, 0), (66, .isub, 0, 0, 0), (67, .aload_n 3, 0, 0, 0), (68, .getfield 109, 2, 8, 0), (71, .isub, 0, 0, 0), (72, .invokestatic 102, 74, 2, 21), (75, .iastore, 0, 0, 0), (76, .aload_n 0, 0, 0, 0), (77, .dup, 0, 0, 0), (78, .getfield 83, 5, 7, 0), (81, .iconst 1, 0, 0, 0), (82, .iadd, 0, 0, 0), (83, .putfield 83, 5, 7, 0), (86, .iinc 2 1, 0, 0, 0), (89, .goto (-82), 7, 0, 0), (92, .aload_n 0, 0, 0, 0), (93, .getfield 21, 5, 5, 1), (96, .aload_n 0, 0, 0, 0), (97, .getfield 83, 5, 7, 0), (100, .invokestatic 39, 77, 2, 20), (103, .aload_n 0, 0, 0, 0), (104, .getfield 24, 5, 6, 1), (107, .aload_n 0, 0, 0, 0), (108, .getfield 83, 5, 7, 0), (111, .invokestatic 39, 77, 2, 20), (114, .iconst 0, 0, 0, 0), (115, .istore_n 2, 0, 0, 0), (116, .iload_n 2, 0, 0, 0), (117, .aload_n 0, 0, 0, 0), (118, .getfield 83, 5, 7, 0), (121, .if_icmp .ge 24, 145, 0, 0), (124, .aload_n 0, 0, 0, 0), (125, .getfield 21, 5, 5, 1), (128, .iload_n 2, 0, 0, 0), (129, .iaload, 0, 0, 0), (130, .aload_n 0, 0, 0, 0), (131, .getfield 24, 5, 6, 1), (134, .iload_n 2, 0, 0, 0), (135, .iaload, 0, 0, 0), (136, .if_icmp .ne 9, 145, 0, 0), (139, .iinc 2 1, 0, 0, 0), (142, .goto (-26), 116, 0, 0), (145, .iload_n 2, 0, 0, 0), (146, .aload_n 0, 0, 0, 0), (147, .getfield 83, 5, 7, 0), (150, .if_icmp .ge 35, 185, 0, 0), (153, .aload_n 0, 0, 0, 0), (154, .getfield 24, 5, 6, 1), (157, .iload_n 2, 0, 0, 0), (158, .iaload, 0, 0, 0), (159, .aload_n 0, 0, 0, 0), (160, .getfield 21, 5, 5, 1), (163, .iload_n 2, 0, 0, 0), (164, .iaload, 0, 0, 0), (165, .if_icmp .ge 20, 185, 0, 0), (168, .aload_n 0, 0, 0, 0), (169, .getfield 24, 5, 6, 1), (172, .iconst 0, 0, 0, 0), (173, .aload_n 0, 0, 0, 0), (174, .getfield 21, 5, 5, 1), (177, .iconst 0, 0, 0, 0), (178, .aload_n 0, 0, 0, 0), (179, .getfield 83, 5, 7, 0), (182, .invokestatic 53, 0, 5, 0), (185, .return_, 0, 0, 0)]
set_option maxRecDepth 100000 in
theorem sk_k73 : sk_mOK sk_inf sk_nest (sk_inf 73) sk_t73 := sk_mOK_of 6 false rfl (fun h => absurd h (by decide)) (by decide +kernel) (by decide +kernel)
def sk_t74 : List sk_E := [(0, .aload_n 0, 0, 0, 0), (1, .getfield 112, 2, 6, 0), (4, .bipush 32, 0, 0, 0), (6, .imul, 0, 0, 0), (7, .iload_n 1, 0, 0, 0), (8, .iadd, 0, 0, 0), (9, .bipush 32, 0, 0, 0), (11, .imul, 0, 0, 0), (12, .aload_n 0, 0, 0, 0), (13, .getfield 109, 2, 8, 0), (16, .iadd, 0, 0, 0), (17, .bipush 32, 0, 0, 0), (19, .imul, 0, 0, 0), (20, .aload_n 0, 0, 0, 0), (21, .getfield 115, 2, 9, 0), (24, .iadd, 0, 0, 0), (25, .ireturn, 0, 0, 0)]
set_option maxRecDepth 100000 in
theorem sk_k74 : sk_mOK sk_inf sk_nest (sk_inf 74) sk_t74 := sk_mOK_of 6 false rfl (fun h => absurd h (by decide)) (by decide +kernel) (by decide +kernel)
def sk_t75 : List sk_E := [(0, .iconst 0, 0, 0, 0), (1, .istore_n 1, 0, 0, 0), (2, .iload_n 1, 0, 0, 0), (3, .aload_n 0, 0, 0, 0), (4, .getfield 63, 5, 2, 0), (7, .if_icmp .ge 28, 35, 0, 0), (10, .aload_n 0, 0, 0, 0), (11, .iload_n 1, 0, 0, 0), (12, .invokevirtual 118, 76, 1, 21), (15, .ifCond .eq 14, 29, 0, 0), (18, .aload_n 0, 0, 0, 0), (19, .getfield 15, 5, 3, 1), (22, .iload_n 1, 0, 0, 0), (23, .dup2, 0, 0, 0), (24, .iaload, 0, 0, 0), (25, .iconst 1, 0, 0, 0), (26, .iadd, 0, 0, 0), (27, .iastore, 0, 0, 0), (28, .return_, 0, 0, 0), (29, .iinc 1 1, 0, 0, 0), (32, .goto (-30), 2, 0, 0), (35, .aload_n 0, 0, 0, 0), (36, .getfield 63, 5, 2, 0), (39, .bipush 120, 0, 0, 0), (41, .if_icmp .lt 4, 45, 0, 0), (44, .return_, 0, 0, 0), (45, .aload_n 0, 0, 0, 0), (46, .getfield 21, 5, 5, 1), (49, .iconst 0, 0, 0, 0), (50, .aload_n 0, 0, 0, 0), (51, .getfield 18, 5, 4, 1), (54, .aload_n 0, 0, 0, 0), (55, .getfield 63, 5, 2, 0), (58, .bipush 10, 0, 0, 0), (60, .imul, 0, 0, 0), (61, .aload_n 0, 0, 0, 0), (62, .getfield 83, 5, 7, 0), (65, .invokestatic 53, 0, 5, 0), (68, .aload_n 0, 0, 0, 0), (69, .getfield 15, 5, 3, 1), (72, .aload_n 0, 0, 0, 0), (73, .getfield 63, 5, 2, 0), (76, .iconst 1, 0, 0, 0), (77, .iastore, 0, 0, 0), (78, .aload_n 0, 0, 0, 0), (79, .dup, 0, 0, 0), (80, .getfield 63, 5, 2, 0), (83, .iconst 1, 0, 0, 0), (84, .iadd, 0, 0, 0), (85, .putfield 63, 5, 2, 0), (88, .return_, 0, 0, 0)]
set_option maxRecDepth 100000 in
theorem sk_k75 : sk_mOK sk_inf sk_nest (sk_inf 75) sk_t75 := sk_mOK_of 6 false rfl (fun h => absurd h (by decide)) (by decide +kernel) (by decide +kernel)
def sk_t76 : List sk_E := [(0, .iconst 0, 0, 0, 0), (1, .istore_n 2, 0, 0, 0), (2, .iload_n 2, 0, 0, 0), (3, .aload_n 0, 0, 0, 0), (4, .getfield 83, 5, 7, 0), (7, .if_icmp .ge 31, 38, 0, 0), (10, .aload_n 0, 0, 0, 0), (11, .getfield 18, 5, 4, 1), (14, .iload_n 1, 0, 0, 0), (15, .bipush 10, 0, 0, 0), (17, .imul, 0, 0, 0), (18, .iload_n 2, 0, 0, 0), (19, .iadd, 0, 0, 0), (20, .iaload, 0, 0, 0), (21, .aload_n 0, 0, 0, 0), (22, .getfield 21, 5, 5, 1), (25, .iload_n 2, 0, 0, 0), (26, .iaload, 0, 0, 0), (27, .if_icmp .eq 5, 32, 0, 0), (30, .iconst 0, 0, 0, 0), (31, .ireturn, 0, 0, 0), (32, .iinc 2 1, 0, 0, 0), (35, .goto (-33), 2, 0, 0), (38, .iconst 1, 0, 0, 0), (39, .ireturn, 0, 0, 0)]
set_option maxRecDepth 100000 in
theorem sk_k76 : sk_mOK sk_inf sk_nest (sk_inf 76) sk_t76 := sk_mOK_of 6 false rfl (fun h => absurd h (by decide)) (by decide +kernel) (by decide +kernel)
def sk_t77 : List sk_E := [(0, .iconst 1, 0, 0, 0), (1, .istore_n 2, 0, 0, 0), (2, .iload_n 2, 0, 0, 0), (3, .iload_n 1, 0, 0, 0), (4, .if_icmp .ge 52, 56, 0, 0), (7, .aload_n 0, 0, 0, 0), (8, .iload_n 2, 0, 0, 0), (9, .iaload, 0, 0, 0), (10, .istore_n 3, 0, 0, 0), (11, .iload_n 2, 0, 0, 0), (12, .istore 4, 0, 0, 0), (14, .iload 4, 0, 0, 0), (16, .ifCond .le 29, 45, 0, 0), (19, .aload_n 0, 0, 0, 0), (20, .iload 4, 0, 0, 0), (22, .iconst 1, 0, 0, 0), (23, .isub, 0, 0, 0), (24, .iaload, 0, 0, 0), (25, .iload_n 3, 0, 0, 0), (26, .if_icmp .le 19, 45, 0, 0), (29, .aload_n 0, 0, 0, 0), (30, .iload 4, 0, 0, 0), (32, .aload_n 0, 0, 0, 0), (33, .iload 4, 0, 0, 0), (35, .iconst 1, 0, 0, 0), (36, .isub, 0, 0, 0), (37, .iaload, 0, 0, 0), (38, .iastore, 0, 0, 0), (39, .iinc 4 (-1), 0, 0, 0), (42, .goto (-28), 14, 0, 0), (45, .aload_n 0, 0, 0, 0), (46, .iload 4, 0, 0, 0), (48, .iload_n 3, 0, 0, 0), (49, .iastore, 0, 0, 0), (50, .iinc 2 1, 0, 0, 0), (53, .goto (-51), 2, 0, 0), (56, .return_, 0, 0, 0)]
set_option maxRecDepth 100000 in
theorem sk_k77 : sk_mOK sk_inf sk_nest (sk_inf 77) sk_t77 := sk_mOK_of 6 false rfl (fun h => absurd h (by decide)) (by decide +kernel) (by decide +kernel)
def sk_t78 : List sk_E := [(0, .aload_n 0, 0, 0, 0), (1, .invokespecial 3, 0, 0, 0), (4, .aload_n 0, 0, 0, 0), (5, .bipush 40, 0, 0, 0), (7, .newarray .int, 0, 0, 0), (9, .putfield 9, 6, 0, 3), (12, .aload_n 0, 0, 0, 0), (13, .iconst (-1), 0, 0, 0), (14, .putfield 15, 6, 1, 0), (17, .aload_n 0, 0, 0, 0), (18, .iconst 0, 0, 0, 0), (19, .putfield 19, 6, 2, 0), (22, .return_, 0, 0, 0)]
set_option maxRecDepth 100000 in
theorem sk_k78 : sk_mOK sk_inf sk_nest (sk_inf 78) sk_t78 := sk_mOK_of 7 true rfl (fun h => rfl) (by decide +kernel) (by decide +kernel)
def sk_t79 : List sk_E := [(0, .aload_n 0, 0, 0, 0), (1, .getfield 15, 6, 1, 0), (4, .iconst (-1), 0, 0, 0), (5, .if_icmp .ne 7, 12, 0, 0), (8, .iconst 1, 0, 0, 0), (9, .goto 4, 13, 0, 0), (12, .iconst 0, 0, 0, 0), (13, .ireturn, 0, 0, 0)]
set_option maxRecDepth 100000 in
theorem sk_k79 : sk_mOK sk_inf sk_nest (sk_inf 79) sk_t79 := sk_mOK_of 7 false rfl (fun h => absurd h (by decide)) (by decide +kernel) (by decide +kernel)
def sk_t80 : List sk_E := [(0, .aload_n 0, 0, 0, 0), (1, .iload_n 1, 0, 0, 0), (2, .putfield 15, 6, 1, 0), (5, .aload_n 0, 0, 0, 0), (6, .iload_n 2, 0, 0, 0), (7, .putfield 19, 6, 2, 0), (10, .aload_n 0, 0, 0, 0), (11, .getfield 9, 6, 0, 1), (14, .iconst 0, 0, 0, 0), (15, .invokestatic 22, 242, 2, 0), (18, .return_, 0, 0, 0)]
set_option maxRecDepth 100000 in
theorem sk_k80 : sk_mOK sk_inf sk_nest (sk_inf 80) sk_t80 := sk_mOK_of 7 false rfl (fun h => absurd h (by decide)) (by decide +kernel) (by decide +kernel)
def sk_t81 : List sk_E := [(0, .aload_n 0, 0, 0, 0), (1, .getfield 19, 6, 2, 0), (4, .aload_n 1, 0, 0, 0), (5, .getfield 28, 3, 4, 0), (8, .invokestatic 33, 240, 2, 1), (11, .istore_n 2, 0, 0, 0), (12, .iconst 0, 0, 0, 0), (13, .istore_n 3, 0, 0, 0), (14, .iload_n 3, 0, 0, 0), (15, .iload_n 2, 0, 0, 0), (16, .if_icmp .ge 26, 42, 0, 0), (19, .aload_n 0, 0, 0, 0), (20, .getfield 9, 6, 0, 1), (23, .iload_n 3, 0, 0, 0), (24, .iaload, 0, 0, 0), (25, .aload_n 1, 0, 0, 0), (26, .getfield 39, 3, 2, 1), (29, .iload_n 3, 0, 0, 0), (30, .iaload, 0, 0, 0), (31, .if_icmp .eq 5, 36, 0, 0), (34, .iload_n 3, 0, 0, 0), (35, .ireturn, 0, 0, 0), (36, .iinc 3 1, 0, 0, 0), (39, .goto (-25), 14, 0, 0), (42, .aload_n 0, 0, 0, 0), (43, .getfield 19, 6, 2, 0), (46, .aload_n 1, 0, 0, 0), (47, .getfield 28, 3, 4, 0), (50, .if_icmp .ne 7, 57, 0, 0), (53, .iconst (-1), 0, 0, 0), (54, .goto 4, 58, 0, 0), (57, .iload_n 2, 0, 0, 0), (58, .ireturn, 0, 0, 0)]
set_option maxRecDepth 100000 in
theorem sk_k81 : sk_mOK sk_inf sk_nest (sk_inf 81) sk_t81 := sk_mOK_of 7 false rfl (fun h => absurd h (by decide)) (by decide +kernel) (by decide +kernel)
def sk_t82 : List sk_E := [(0, .aload_n 0, 0, 0, 0), (1, .invokespecial 1, 0, 0, 0), (4, .return_, 0, 0, 0)]
set_option maxRecDepth 100000 in
theorem sk_k82 : sk_mOK sk_inf sk_nest (sk_inf 82) sk_t82 := sk_mOK_of 8 true rfl (fun h => rfl) (by decide +kernel) (by decide +kernel)
def sk_t83 : List sk_E := [(0, .aload_n 0, 0, 0, 0), (1, .iconst 1, 0, 0, 0), (2, .putfield 7, 7, 0, 2), (5, .aload_n 0, 0, 0, 0), (6, .iload_n 1, 0, 0, 0), (7, .putfield 13, 7, 1, 0), (10, .aload_n 0, 0, 0, 0), (11, .iload_n 2, 0, 0, 0), (12, .putfield 17, 7, 2, 0), (15, .aload_n 0, 0, 0, 0), (16, .iload_n 3, 0, 0, 0), (17, .putfield 20, 7, 3, 2), (20, .aload_n 0, 0, 0, 0), (21, .iload 4, 0, 0, 0), (23, .putfield 23, 7, 4, 0), (26, .aload_n 0, 0, 0, 0), (27, .iload 5, 0, 0, 0), (29, .putfield 26, 7, 5, 0), (32, .return_, 0, 0, 0)]
set_option maxRecDepth 100000 in
theorem sk_k83 : sk_mOK sk_inf sk_nest (sk_inf 83) sk_t83 := sk_mOK_of 8 false rfl (fun h => absurd h (by decide)) (by decide +kernel) (by decide +kernel)
def sk_t84 : List sk_E := [(0, .aload_n 0, 0, 0, 0), (1, .invokespecial 3, 0, 0, 0), (4, .aload_n 0, 0, 0, 0), (5, .bipush 60, 0, 0, 0), (7, .newarray .int, 0, 0, 0), (9, .putfield 9, 8, 0, 3), (12, .aload_n 0, 0, 0, 0), (13, .iconst 0, 0, 0, 0), (14, .putfield 15, 8, 1, 0), (17, .aload_n 0, 0, 0, 0), (18, .bipush 10, 0, 0, 0), (20, .anewarray 19, 0, 0, 0), (23, .putfield 21, 8, 2, 3), (26, .iconst 0, 0, 0, 0), (27, .istore_n 1, 0, 0, 0), (28, .iload_n 1, 0, 0, 0), (29, .bipush 10, 0, 0, 0), (31, .if_icmp .ge 22, 53, 0, 0), (34, .aload_n 0, 0, 0, 0), (35, .getfield 21, 8, 2, 1), (38, .iload_n 1, 0, 0, 0), (39, .new 19, 2, 0, 0), (42, .dup, 0, 0, 0), (43, .invokespecial 25, 24, 0, 8), (46, .aastore, 0, 2, 0), (47, .iinc 1 1, 0, 0, 0), (50, .goto (-22), 28, 0, 0), (53, .return_, 0, 0, 0)]
set_option maxRecDepth 100000 in
theorem sk_k84 : sk_mOK sk_inf sk_nest (sk_inf 84) sk_t84 := sk_mOK_of 9 true rfl (fun h => rfl) (by decide +kernel) (by decide +kernel)
def sk_t85 : List sk_E := [(0, .aload_n 0, 0, 0, 0), (1, .getfield 15, 8, 1, 0), (4, .bipush 60, 0, 0, 0), (6, .if_icmp .lt 4, 10, 0, 0), (9, .return_, 0, 0, 0), (10, .aload_n 0, 0, 0, 0), (11, .getfield 9, 8, 0, 1), (14, .aload_n 0, 0, 0, 0), (15, .getfield 15, 8, 1, 0), (18, .iload_n 1, 0, 0, 0), (19, .iastore, 0, 0, 0), (20, .aload_n 0, 0, 0, 0), (21, .dup, 0, 0, 0), (22, .getfield 15, 8, 1, 0), (25, .iconst 1, 0, 0, 0), (26, .iadd, 0, 0, 0), (27, .putfield 15, 8, 1, 0), (30, .return_, 0, 0, 0)]
set_option maxRecDepth 100000 in
theorem sk_k85 : sk_mOK sk_inf sk_nest (sk_inf 85) sk_t85 := sk_mOK_of 9 false rfl (fun h => absurd h (by decide)) (by decide +kernel) (by decide +kernel)
def sk_t86 : List sk_E := [(0, .aload_n 0, 0, 0, 0), (1, .iconst 0, 0, 0, 0), (2, .putfield 26, 8, 4, 0), (5, .aload_n 0, 0, 0, 0), (6, .iconst 0, 0, 0, 0), (7, .putfield 29, 8, 3, 0), (10, .iconst 0, 0, 0, 0), (11, .istore_n 2, 0, 0, 0), (12, .iload_n 2, 0, 0, 0), (13, .bipush 60, 0, 0, 0), (15, .if_icmp .ge 47, 62, 0, 0), (18, .aload_n 0, 0, 0, 0), (19, .invokevirtual 32, 88, 0, 32), (22, .iload_n 2, 0, 0, 0), (23, .ifCond .le 17, 40, 0, 0), (26, .aload_n 0, 0, 0, 0), (27, .getfield 26, 8, 4, 0), (30, .aload_n 0, 0, 0, 0), (31, .getfield 15, 8, 1, 0), (34, .if_icmp .lt 6, 40, 0, 0), (37, .goto 25, 62, 0, 0), (40, .aload_n 0, 0, 0, 0), (41, .iload_n 1, 0, 0, 0), (42, .invokevirtual 35, 89, 1, 33), (45, .ifCond .ne 11, 56, 0, 0), (48, .bipush (-100), 0, 0, 0), (50, .aload_n 0, 0, 0, 0), (51, .getfield 26, 8, 4, 0), (54, .isub, 0, 0, 0), (55, .ireturn, 0, 0, 0), (56, .iinc 2 1, 0, 0, 0), (59, .goto (-47), 12, 0, 0), (62, .aload_n 0, 0, 0, 0), (63, .getfield 29, 8, 3, 0), (66, .ireturn, 0, 0, 0)]
set_option maxRecDepth 100000 in
theorem sk_k86 : sk_mOK sk_inf sk_nest (sk_inf 86) sk_t86 := sk_mOK_of 9 false rfl (fun h => absurd h (by decide)) (by decide +kernel) (by decide +kernel)
def sk_t87 : List sk_E := [(0, .aload_n 0, 0, 0, 0), (1, .getfield 26, 8, 4, 0), (4, .aload_n 0, 0, 0, 0), (5, .getfield 15, 8, 1, 0), (8, .if_icmp .ge 15, 23, 0, 0), (11, .aload_n 0, 0, 0, 0), (12, .getfield 9, 8, 0, 1), (15, .aload_n 0, 0, 0, 0), (16, .getfield 26, 8, 4, 0), (19, .iaload, 0, 0, 0), (20, .goto 4, 24, 0, 0), (23, .iconst (-1), 0, 0, 0), (24, .ireturn, 0, 0, 0)]
set_option maxRecDepth 100000 in
theorem sk_k87 : sk_mOK sk_inf sk_nest (sk_inf 87) sk_t87 := sk_mOK_of 9 false rfl (fun h => absurd h (by decide)) (by decide +kernel) (by decide +kernel)
def sk_t88 : List sk_E := [(0, .aload_n 0, 0, 0, 0), (1, .getfield 26, 8, 4, 0), (4, .aload_n 0, 0, 0, 0), (5, .getfield 15, 8, 1, 0), (8, .if_icmp .ge 44, 52, 0, 0), (11, .aload_n 0, 0, 0, 0), (12, .getfield 9, 8, 0, 1), (15, .aload_n 0, 0, 0, 0), (16, .getfield 26, 8, 4, 0), (19, .iaload, 0, 0, 0), (20, .bipush 32, 0, 0, 0), (22, .if_icmp .eq 17, 39, 0, 0), (25, .aload_n 0, 0, 0, 0), (26, .getfield 9, 8, 0, 1), (29, .aload_n 0, 0, 0, 0), (30, .getfield 26, 8, 4, 0), (33, .iaload, 0, 0, 0), (34, .bipush 10, 0, 0, 0), (36, .if_icmp .ne 16, 52, 0, 0), (39, .aload_n 0, 0, 0, 0), (40, .dup, 0, 0, 0), (41, .getfield 26, 8, 4, 0), (44, .iconst 1, 0, 0, 0), (45, .iadd, 0, 0, 0), (46, .putfield 26, 8, 4, 0), (49, .goto (-49), 0, 0, 0), (52, .return_, 0, 0, 0)]
set_option maxRecDepth 100000 in
theorem sk_k88 : sk_mOK sk_inf sk_nest (sk_inf 88) sk_t88 := sk_mOK_of 9 false rfl (fun h => absurd h (by decide)) (by decide +kernel) (by decide +kernel)
def sk_t89 : List sk_E := [(0, .aload_n 0, 0, 0, 0), (1, .invokevirtual 39, 87, 0, 33), (4, .invokestatic 43, 90, 1, 33), (7, .istore_n 2, 0, 0, 0), (8, .iload_n 2, 0, 0, 0), (9, .iconst (-1), 0, 0, 0), (10, .if_icmp .ne 5, 15, 0, 0), (13, .iconst 0, 0, 0, 0), (14, .ireturn, 0, 0, 0), (15, .aload_n 0, 0, 0, 0), (16, .dup, 0, 0, 0), (17, .getfield 26, 8, 4, 0), (20, .iconst 1, 0, 0, 0), (21, .iadd, 0, 0, 0), (22, .putfield 26, 8, 4, 0), (25, .aload_n 0, 0, 0, 0), (26, .iload_n 1, 0, 0, 0), (27, .invokevirtual 47, 92, 1, 33), (30, .istore_n 3, 0, 0, 0), (31, .iload_n 3, 0, 0, 0), (32, .ifCond .ne 5, 37, 0, 0), (35, .iconst 0, 0, 0, 0), (36, .ireturn, 0, 0, 0), (37, .aload_n 0, 0, 0, 0), (38, .invokevirtual 39, 87, 0, 33), (41, .bipush 120, 0, 0, 0), (43, .if_icmp .eq 5, 48, 0, 0), (46, .iconst 0, 0, 0, 0), (47, .ireturn, 0, 0, 0), (48, .aload_n 0, 0, 0, 0), (49, .dup, 0, 0, 0), (50, .getfield 26, 8, 4, 0), (53, .iconst 1, 0, 0, 0), (54, .iadd, 0, 0, 0), (55, .putfield 26, 8, 4, 0), (58, .aload_n 0, 0, 0, 0), (59, .invokevirtual 50, 93, 0, 33), (62, .istore 4, 0, 0, 0), (64, .iload 4, 0, 0, 0), (66, .ifCond .ne 5, 71, 0, 0), (69, .iconst 0, 0, 0, 0), (70, .ireturn, 0, 0, 0), (71, .aload_n 0, 0, 0, 0), (72, .bipush 58, 0, 0, 0), (74, .invokevirtual 53, 94, 1, 33), (77, .istore 5, 0, 0, 0), (79, .iload 5, 0, 0, 0), (81, .ifCond .ne 5, 86, 0, 0), (84, .iconst 0, 0, 0, 0), (85, .ireturn, 0, 0, 0), (86, .aload_n 0, 0, 0, 0), (87, .bipush 42, 0, 0, 0), (89, .invokevirtual 53, 94, 1, 33), (92, .istore 6, 0, 0, 0), (94, .iload 6, 0, 0, 0), (96, .ifCond .ne 5, 101, 0, 0), (99, .iconst 0, 0, 0, 0), (100, .ireturn, 0, 0, 0), (101, .iconst 0, 0, 0, 0), (102, .istore 7, 0, 0, 0), (104, .iload 7, 0, 0, 0), (106, .iload 6, 0, 0, 0), (108, .if_icmp .ge 46, 154, 0, 0), (111, .aload_n 0, 0, 0, 0), (112, .getfield 29, 8, 3, 0), (115, .bipush 10, 0, 0, 0), (117, .if_icmp .ge 21, 138, 0, 0), (120, .aload_n 0, 0, 0, 0), (121, .getfield 21, 8, 2, 1), (124, .aload_n 0, 0, 0, 0), (125, .getfield 29, 8, 3, 0), (128, .aaload, 0, 0, 0), (129, .iload_n 2, 0, 0, 0), (130, .iload_n 3, 0, 0, 0), (131, .iload 4, 0, 0, 0), (133, .iload 5, 0, 0, 0), (135, .invokevirtual 57, 25, 4, 8), (138, .aload_n 0, 0, 0, 0), (139, .dup, 0, 0, 0), (140, .getfield 29, 8, 3, 0), (143, .iconst 1, 0, 0, 0), (144, .iadd, 0, 0, 0), (145, .putfield 29, 8, 3, 0), (148, .iinc 7 1, 0, 0, 0), (151, .goto (-47), 104, 0, 0), (154, .iconst 1, 0, 0, 0), (155, .ireturn, 0, 0, 0)]
set_option maxRecDepth 100000 in
theorem sk_k89 : sk_mOK sk_inf sk_nest (sk_inf 89) sk_t89 := sk_mOK_of 9 false rfl (fun h => absurd h (by decide)) (by decide +kernel) (by decide +kernel)
def sk_t90 : List sk_E := [(0, .iload_n 0, 0, 0, 0), (1, .tableswitch 99 99 116 #[93, 99, 99, 99, 91, 97, 99, 99, 99, 99, 99, 99, 99, 87, 99, 99, 95, 89], 0, 0, 87), (88, .iconst 0, 0, 0, 0), (89, .ireturn, 0, 0, 0), (90, .iconst 1, 0, 0, 0), (91, .ireturn, 0, 0, 0), (92, .iconst 2, 0, 0, 0), (93, .ireturn, 0, 0, 0), (94, .iconst 3, 0, 0, 0), (95, .ireturn, 0, 0, 0), (96, .iconst 4, 0, 0, 0), (97, .ireturn, 0, 0, 0), (98, .iconst 5, 0, 0, 0), (99, .ireturn, 0, 0, 0), (100, .iconst (-1), 0, 0, 0), (101, .ireturn, 0, 0, 0)]
set_option maxRecDepth 100000 in
theorem sk_k90 : sk_mOK sk_inf sk_nest (sk_inf 90) sk_t90 := sk_mOK_of 9 false rfl (fun h => absurd h (by decide)) (by decide +kernel) (by decide +kernel)
def sk_t91 : List sk_E := [(0, .aload_n 0, 0, 0, 0), (1, .invokevirtual 39, 87, 0, 33), (4, .bipush 48, 0, 0, 0), (6, .if_icmp .lt 16, 22, 0, 0), (9, .aload_n 0, 0, 0, 0), (10, .invokevirtual 39, 87, 0, 33), (13, .bipush 57, 0, 0, 0), (15, .if_icmp .gt 7, 22, 0, 0), (18, .iconst 1, 0, 0, 0), (19, .goto 4, 23, 0, 0), (22, .iconst 0, 0, 0, 0), (23, .ireturn, 0, 0, 0)]
set_option maxRecDepth 100000 in
theorem sk_k91 : sk_mOK sk_inf sk_nest (sk_inf 91) sk_t91 := sk_mOK_of 9 false rfl (fun h => absurd h (by decide)) (by decide +kernel) (by decide +kernel)
def sk_t92 : List sk_E := [(0, .aload_n 0, 0, 0, 0), (1, .getfield 26, 8, 4, 0), (4, .istore_n 2, 0, 0, 0), (5, .iconst 0, 0, 0, 0), (6, .istore_n 3, 0, 0, 0), (7, .iconst 0, 0, 0, 0), (8, .istore 4, 0, 0, 0), (10, .iload 4, 0, 0, 0), (12, .iconst 2, 0, 0, 0), (13, .if_icmp .ge 44, 57, 0, 0), (16, .aload_n 0, 0, 0, 0), (17, .invokevirtual 61, 91, 0, 33), (20, .ifCond .eq 37, 57, 0, 0), (23, .bipush 10, 0, 0, 0), (25, .iload_n 3, 0, 0, 0), (26, .imul, 0, 0, 0), (27, .aload_n 0, 0, 0, 0), (28, .getfield 9, 8, 0, 1), (31, .aload_n 0, 0, 0, 0), (32, .getfield 26, 8, 4, 0), (35, .iaload, 0, 0, 0), (36, .iadd, 0, 0, 0), (37, .bipush 48, 0, 0, 0), (39, .isub, 0, 0, 0), (40, .istore_n 3, 0, 0, 0), (41, .aload_n 0, 0, 0, 0), (42, .dup, 0, 0, 0), (43, .getfield 26, 8, 4, 0), (46, .iconst 1, 0, 0, 0), (47, .iadd, 0, 0, 0), (48, .putfield 26, 8, 4, 0), (51, .iinc 4 1, 0, 0, 0), (54, .goto (-44), 10, 0, 0), (57, .iload_n 3, 0, 0, 0), (58, .iconst 1, 0, 0, 0), (59, .if_icmp .lt 10, 69, 0, 0), (62, .iload_n 3, 0, 0, 0), (63, .iload_n 1, 0, 0, 0), (64, .if_icmp .gt 5, 69, 0, 0), (67, .iload_n 3, 0, 0, 0), (68, .ireturn, 0, 0, 0), (69, .aload_n 0, 0, 0, 0), (70, .iload_n 2, 0, 0, 0), (71, .putfield 26, 8, 4, 0), (74, .iconst 0, 0, 0, 0), (75, .ireturn, 0, 0, 0)]
set_option maxRecDepth 100000 in
theorem sk_k92 : sk_mOK sk_inf sk_nest (sk_inf 92) sk_t92 := sk_mOK_of 9 false rfl (fun h => absurd h (by decide)) (by decide +kernel) (by decide +kernel)
def sk_t93 : List sk_E := [(0, .aload_n 0, 0, 0, 0), (1, .invokevirtual 61, 91, 0, 33), (4, .ifCond .eq 12, 16, 0, 0), (7, .aload_n 0, 0, 0, 0), (8, .invokevirtual 39, 87, 0, 33), (11, .bipush 48, 0, 0, 0), (13, .if_icmp .ne 5, 18, 0, 0), (16, .iconst 0, 0, 0, 0), (17, .ireturn, 0, 0, 0), (18, .aload_n 0, 0, 0, 0), (19, .invokevirtual 39, 87, 0, 33), (22, .bipush 48, 0, 0, 0), (24, .isub, 0, 0, 0), (25, .istore_n 1, 0, 0, 0), (26, .aload_n 0, 0, 0, 0), (27, .dup, 0, 0, 0), (28, .getfield 26, 8, 4, 0), (31, .iconst 1, 0, 0, 0), (32, .iadd, 0, 0, 0), (33, .putfield 26, 8, 4, 0), (36, .iload_n 1, 0, 0, 0), (37, .ireturn, 0, 0, 0)]
set_option maxRecDepth 100000 in
theorem sk_k93 : sk_mOK sk_inf sk_nest (sk_inf 93) sk_t93 := sk_mOK_of 9 false rfl (fun h => absurd h (by decide)) (by decide +kernel) (by decide +kernel)
def sk_t94 : List sk_E := [(0, .aload_n 0, 0, 0, 0), (1, .invokevirtual 39, 87, 0, 33), (4, .iload_n 1, 0, 0, 0), (5, .if_icmp .eq 5, 10, 0, 0), (8, .iconst 1, 0, 0, 0), (9, .ireturn, 0, 0, 0), (10, .aload_n 0, 0, 0, 0), (11, .dup, 0, 0, 0), (12, .getfield 26, 8, 4, 0), (15, .iconst 1, 0, 0, 0), (16, .iadd, 0, 0, 0), (17, .putfield 26, 8, 4, 0), (20, .aload_n 0, 0, 0, 0), (21, .invokevirtual 50, 93, 0, 33), (24, .ireturn, 0, 0, 0)]
set_option maxRecDepth 100000 in
theorem sk_k94 : sk_mOK sk_inf sk_nest (sk_inf 94) sk_t94 := sk_mOK_of 9 false rfl (fun h => absurd h (by decide)) (by decide +kernel) (by decide +kernel)
def sk_t95 : List sk_E := [(0, .aload_n 0, 0, 0, 0), (1, .invokespecial 3, 0, 0, 0), (4, .aload_n 0, 0, 0, 0), (5, .bipush 64, 0, 0, 0), (7, .newarray .int, 0, 0, 0), (9, .putfield 9, 9, 0, 3), (12, .aload_n 0, 0, 0, 0), (13, .bipush 64, 0, 0, 0), (15, .newarray .int, 0, 0, 0), (17, .putfield 15, 9, 1, 3), (20, .aload_n 0, 0, 0, 0), (21, .bipush 64, 0, 0, 0), (23, .newarray .int, 0, 0, 0), (25, .putfield 18, 9, 2, 3), (28, .aload_n 0, 0, 0, 0), (29, .bipush 64, 0, 0, 0), (31, .newarray .int, 0, 0, 0), (33, .putfield 21, 9, 3, 3), (36, .aload_n 0, 0, 0, 0), (37, .iconst 0, 0, 0, 0), (38, .putfield 24, 9, 4, 0), (41, .return_, 0, 0, 0)]
set_option maxRecDepth 100000 in
theorem sk_k95 : sk_mOK sk_inf sk_nest (sk_inf 95) sk_t95 := sk_mOK_of 10 true rfl (fun h => rfl) (by decide +kernel) (by decide +kernel)
def sk_t96 : List sk_E := [(0, .aload_n 1, 0, 0, 0), (1, .getfield 9, 9, 0, 1), (4, .iconst 0, 0, 0, 0), (5, .aload_n 0, 0, 0, 0), (6, .getfield 9, 9, 0, 1), (9, .iconst 0, 0, 0, 0), (10, .aload_n 1, 0, 0, 0), (11, .getfield 24, 9, 4, 0), (14, .invokestatic 28, 0, 5, 0), (17, .aload_n 1, 0, 0, 0), (18, .getfield 15, 9, 1, 1), (21, .iconst 0, 0, 0, 0), (22, .aload_n 0, 0, 0, 0), (23, .getfield 15, 9, 1, 1), (26, .iconst 0, 0, 0, 0), (27, .aload_n 1, 0, 0, 0), (28, .getfield 24, 9, 4, 0), (31, .invokestatic 28, 0, 5, 0), (34, .aload_n 1, 0, 0, 0), (35, .getfield 18, 9, 2, 1), (38, .iconst 0, 0, 0, 0), (39, .aload_n 0, 0, 0, 0), (40, .getfield 18, 9, 2, 1), (43, .iconst 0, 0, 0, 0), (44, .aload_n 1, 0, 0, 0), (45, .getfield 24, 9, 4, 0), (48, .invokestatic 28, 0, 5, 0), (51, .aload_n 1, 0, 0, 0), (52, .getfield 21, 9, 3, 1), (55, .iconst 0, 0, 0, 0), (56, .aload_n 0, 0, 0, 0), (57, .getfield 21, 9, 3, 1), (60, .iconst 0, 0, 0, 0), (61, .aload_n 1, 0, 0, 0), (62, .getfield 24, 9, 4, 0), (65, .invokestatic 28, 0, 5, 0), (68, .aload_n 0, 0, 0, 0), (69, .aload_n 1, 0, 0, 0), (70, .getfield 24, 9, 4, 0), (73, .putfield 24, 9, 4, 0), (76, .return_, 0, 0, 0)]
set_option maxRecDepth 100000 in
theorem sk_k96 : sk_mOK sk_inf sk_nest (sk_inf 96) sk_t96 := sk_mOK_of 10 false rfl (fun h => absurd h (by decide)) (by decide +kernel) (by decide +kernel)
def sk_t97 : List sk_E := [(0, .iload_n 3, 0, 0, 0), (1, .ifCond .le 17, 18, 0, 0), (4, .iload 4, 0, 0, 0), (6, .ifCond .le 12, 18, 0, 0), (9, .aload_n 0, 0, 0, 0), (10, .getfield 24, 9, 4, 0), (13, .bipush 64, 0, 0, 0), (15, .if_icmp .lt 4, 19, 0, 0), (18, .return_, 0, 0, 0), (19, .aload_n 0, 0, 0, 0), (20, .getfield 24, 9, 4, 0), (23, .istore 5, 0, 0, 0), (25, .iload 5, 0, 0, 0), (27, .ifCond .le 86, 113, 0, 0), (30, .aload_n 0, 0, 0, 0), (31, .iload 5, 0, 0, 0), (33, .iconst 1, 0, 0, 0), (34, .isub, 0, 0, 0), (35, .iload_n 1, 0, 0, 0), (36, .iload_n 2, 0, 0, 0), (37, .invokevirtual 34, 100, 3, 37), (40, .ifCond .eq 73, 113, 0, 0), (43, .aload_n 0, 0, 0, 0), (44, .getfield 9, 9, 0, 1), (47, .iload 5, 0, 0, 0), (49, .aload_n 0, 0, 0, 0), (50, .getfield 9, 9, 0, 1), (53, .iload 5, 0, 0, 0), (55, .iconst 1, 0, 0, 0), (56, .isub, 0, 0, 0), (57, .iaload, 0, 0, 0), (58, .iastore, 0, 0, 0), (59, .aload_n 0, 0, 0, 0), (60, .getfield 15, 9, 1, 1), (63, .iload 5, 0, 0, 0), (65, .aload_n 0, 0, 0, 0), (66, .getfield 15, 9, 1, 1), (69, .iload 5, 0, 0, 0), (71, .iconst 1, 0, 0, 0), (72, .isub, 0, 0, 0), (73, .iaload, 0, 0, 0), (74, .iastore, 0, 0, 0), (75, .aload_n 0, 0, 0, 0), (76, .getfield 18, 9, 2, 1), (79, .iload 5, 0, 0, 0), (81, .aload_n 0, 0, 0, 0), (82, .getfield 18, 9, 2, 1), (85, .iload 5, 0, 0, 0), (87, .iconst 1, 0, 0, 0), (88, .isub, 0, 0, 0), (89, .iaload, 0, 0, 0), (90, .iastore, 0, 0, 0), (91, .aload_n 0, 0, 0, 0), (92, .getfield 21, 9, 3, 1), (95, .iload 5, 0, 0, 0), (97, .aload_n 0, 0, 0, 0), (98, .getfield 21, 9, 3, 1), (101, .iload 5, 0, 0, 0), (103, .iconst 1, 0, 0, 0), (104, .isub, 0, 0, 0), (105, .iaload, 0, 0, 0), (106, .iastore, 0, 0, 0), (107, .iinc 5 (-1), 0, 0, 0), (110, .goto (-85), 25, 0, 0), (113, .aload_n 0, 0, 0, 0), (114, .getfield 9, 9, 0, 1), (117, .iload 5, 0, 0, 0), (119, .iload_n 1, 0, 0, 0), (120, .iastore, 0, 0, 0), (121, .aload_n 0, 0, 0, 0), (122, .getfield 15, 9, 1, 1), (125, .iload 5, 0, 0, 0), (127, .iload_n 2, 0, 0, 0), (128, .iastore, 0, 0, 0), (129, .aload_n 0, 0, 0, 0), (130, .getfield 18, 9, 2, 1), (133, .iload 5, 0, 0, 0), (135, .iload_n 3, 0, 0, 0), (136, .iastore, 0, 0, 0), (137, .aload_n 0, 0, 0, 0), (138, .getfield 21, 9, 3, 1), (141, .iload 5, 0, 0, 0), (143, .iload 4, 0, 0, 0), (145, .iastore, 0, 0, 0), (146, .aload_n 0, 0, 0, 0), (147, .dup, 0, 0, 0), (148, .getfield 24, 9, 4, 0), (151, .iconst 1, 0, 0, 0), (152, .iadd, 0, 0, 0), (153, .putfield 24, 9, 4, 0), (156, .return_, 0, 0, 0)]
set_option maxRecDepth 100000 in
theorem sk_k97 : sk_mOK sk_inf sk_nest (sk_inf 97) sk_t97 := sk_mOK_of 10 false rfl (fun h => absurd h (by decide)) (by decide +kernel) (by decide +kernel)
def sk_t98 : List sk_E := [(0, .iload_n 1, 0, 0, 0), (1, .ifCond .lt 11, 12, 0, 0), (4, .iload_n 1, 0, 0, 0), (5, .aload_n 0, 0, 0, 0), (6, .getfield 24, 9, 4, 0), (9, .if_icmp .lt 4, 13, 0, 0), (12, .return_, 0, 0, 0), (13, .aload_n 0, 0, 0, 0), (14, .getfield 9, 9, 0, 1), (17, .iload_n 1, 0, 0, 0), (18, .iaload, 0, 0, 0), (19, .istore 4, 0, 0, 0), (21, .aload_n 0, 0, 0, 0), (22, .getfield 15, 9, 1, 1), (25, .iload_n 1, 0, 0, 0), (26, .iaload, 0, 0, 0), (27, .istore 5, 0, 0, 0), (29, .aload_n 0, 0, 0, 0), (30, .getfield 18, 9, 2, 1), (33, .iload_n 1, 0, 0, 0), (34, .iaload, 0, 0, 0), (35, .istore 6, 0, 0, 0), (37, .aload_n 0, 0, 0, 0), (38, .getfield 21, 9, 3, 1), (41, .iload_n 1, 0, 0, 0), (42, .iaload, 0, 0, 0), (43, .istore 7, 0, 0, 0), (45, .aload_n 0, 0, 0, 0), (46, .iload_n 1, 0, 0, 0), (47, .invokevirtual 38, 99, 1, 36), (50, .aload_n 0, 0, 0, 0), (51, .iload 4, 0, 0, 0), (53, .iload_n 2, 0, 0, 0), (54, .iadd, 0, 0, 0), (55, .iload 5, 0, 0, 0), (57, .iload 6, 0, 0, 0), (59, .iload_n 2, 0, 0, 0), (60, .isub, 0, 0, 0), (61, .iload 7, 0, 0, 0), (63, .invokevirtual 42, 97, 4, 36), (66, .aload_n 0, 0, 0, 0), (67, .iload 4, 0, 0, 0), (69, .iload 5, 0, 0, 0), (71, .iload_n 3, 0, 0, 0), (72, .iadd, 0, 0, 0), (73, .iload_n 2, 0, 0, 0), (74, .iload 7, 0, 0, 0), (76, .iload_n 3, 0, 0, 0), (77, .isub, 0, 0, 0), (78, .invokevirtual 42, 97, 4, 36), (81, .return_, 0, 0, 0)]
set_option maxRecDepth 100000 in
theorem sk_k98 : sk_mOK sk_inf sk_nest (sk_inf 98) sk_t98 := sk_mOK_of 10 false rfl (fun h => absurd h (by decide)) (by decide +kernel) (by decide +kernel)
def sk_t99 : List sk_E := [(0, .aload_n 0, 0, 0, 0), (1, .dup, 0, 0, 0), (2, .getfield 24, 9, 4, 0), (5, .iconst 1, 0, 0, 0), (6, .isub, 0, 0, 0), (7, .putfield 24, 9, 4, 0), (10, .iload_n 1, 0, 0, 0), (11, .istore_n 2, 0, 0, 0), (12, .iload_n 2, 0, 0, 0), (13, .aload_n 0, 0, 0, 0), (14, .getfield 24, 9, 4, 0), (17, .if_icmp .ge 65, 82, 0, 0), (20, .aload_n 0, 0, 0, 0), (21, .getfield 9, 9, 0, 1), (24, .iload_n 2, 0, 0, 0), (25, .aload_n 0, 0, 0, 0), (26, .getfield 9, 9, 0, 1), (29, .iload_n 2, 0, 0, 0), (30, .iconst 1, 0, 0, 0), (31, .iadd, 0, 0, 0), (32, .iaload, 0, 0, 0), (33, .iastore, 0, 0, 0), (34, .aload_n 0, 0, 0, 0), (35, .getfield 15, 9, 1, 1), (38, .iload_n 2, 0, 0, 0), (39, .aload_n 0, 0, 0, 0), (40, .getfield 15, 9, 1, 1), (43, .iload_n 2, 0, 0, 0), (44, .iconst 1, 0, 0, 0), (45, .iadd, 0, 0, 0), (46, .iaload, 0, 0, 0), (47, .iastore, 0, 0, 0), (48, .aload_n 0, 0, 0, 0), (49, .getfield 18, 9, 2, 1), (52, .iload_n 2, 0, 0, 0), (53, .aload_n 0, 0, 0, 0), (54, .getfield 18, 9, 2, 1), (57, .iload_n 2, 0, 0, 0), (58, .iconst 1, 0, 0, 0), (59, .iadd, 0, 0, 0), (60, .iaload, 0, 0, 0), (61, .iastore, 0, 0, 0), (62, .aload_n 0, 0, 0, 0), (63, .getfield 21, 9, 3, 1), (66, .iload_n 2, 0, 0, 0), (67, .aload_n 0, 0, 0, 0), (68, .getfield 21, 9, 3, 1), (71, .iload_n 2, 0, 0, 0), (72, .iconst 1, 0, 0, 0), (73, .iadd, 0, 0, 0), (74, .iaload, 0, 0, 0), (75, .iastore, 0, 0, 0), (76, .iinc 2 1, 0, 0, 0), (79, .goto (-67), 12, 0, 0), (82, .return_, 0, 0, 0)]
set_option maxRecDepth 100000 in
theorem sk_k99 : sk_mOK sk_inf sk_nest (sk_inf 99) sk_t99 := sk_mOK_of 10 false rfl (fun h => absurd h (by decide)) (by decide +kernel) (by decide +kernel)
def sk_t100 : List sk_E := [(0, .aload_n 0, 0, 0, 0), (1, .getfield 15, 9, 1, 1), (4, .iload_n 1, 0, 0, 0), (5, .iaload, 0, 0, 0), (6, .iload_n 3, 0, 0, 0), (7, .if_icmp .gt 23, 30, 0, 0), (10, .aload_n 0, 0, 0, 0), (11, .getfield 15, 9, 1, 1), (14, .iload_n 1, 0, 0, 0), (15, .iaload, 0, 0, 0), (16, .iload_n 3, 0, 0, 0), (17, .if_icmp .ne 17, 34, 0, 0), (20, .aload_n 0, 0, 0, 0), (21, .getfield 9, 9, 0, 1), (24, .iload_n 1, 0, 0, 0), (25, .iaload, 0, 0, 0), (26, .iload_n 2, 0, 0, 0), (27, .if_icmp .le 7, 34, 0, 0), (30, .iconst 1, 0, 0, 0), (31, .goto 4, 35, 0, 0), (34, .iconst 0, 0, 0, 0), (35, .ireturn, 0, 0, 0)]
set_option maxRecDepth 100000 in
theorem sk_k100 : sk_mOK sk_inf sk_nest (sk_inf 100) sk_t100 := sk_mOK_of 10 false rfl (fun h => absurd h (by decide)) (by decide +kernel) (by decide +kernel)
def sk_t101 : List sk_E := [(0, .aload_n 0, 0, 0, 0), (1, .invokespecial 1, 0, 0, 0), (4, .aload_n 0, 0, 0, 0), (5, .new 7, 8, 0, 0), (8, .dup, 0, 0, 0), (9, .invokespecial 9, 84, 0, 32), (12, .putfield 10, 10, 0, 3), (15, .aload_n 0, 0, 0, 0), (16, .new 16, 3, 0, 0), (19, .dup, 0, 0, 0), (20, .invokespecial 18, 35, 0, 12), (23, .putfield 19, 10, 1, 3), (26, .aload_n 0, 0, 0, 0), (27, .new 16, 3, 0, 0), (30, .dup, 0, 0, 0), (31, .invokespecial 18, 35, 0, 12), (34, .putfield 23, 10, 2, 3), (37, .aload_n 0, 0, 0, 0), (38, .new 16, 3, 0, 0), (41, .dup, 0, 0, 0), (42, .invokespecial 18, 35, 0, 12), (45, .putfield 26, 10, 3, 3), (48, .aload_n 0, 0, 0, 0), (49, .new 29, 1, 0, 0), (52, .dup, 0, 0, 0), (53, .invokespecial 31, 17, 0, 4), (56, .putfield 32, 10, 4, 3), (59, .aload_n 0, 0, 0, 0), (60, .new 36, 5, 0, 0), (63, .dup, 0, 0, 0), (64, .invokespecial 38, 68, 0, 20), (67, .putfield 39, 10, 5, 3), (70, .aload_n 0, 0, 0, 0), (71, .new 43, 0, 0, 0), (74, .dup, 0, 0, 0), (75, .invokespecial 45, 10, 0, 0), (78, .putfield 46, 10, 6, 3), (81, .aload_n 0, 0, 0, 0), (82, .iconst 4, 0, 0, 0), (83, .anewarray 50, 1, 0, 0), (86, .putfield 52, 10, 7, 3), (89, .aload_n 0, 0, 0, 0), (90, .iconst 4, 0, 0, 0), (91, .anewarray 56, 2, 0, 0), (94, .putfield 58, 10, 8, 3), (97, .aload_n 0, 0, 0, 0), (98, .iconst 0, 0, 0, 0), (99, .putfield 62, 10, 9, 2), (102, .iconst 0, 0, 0, 0), (103, .istore_n 1, 0, 0, 0), (104, .iload_n 1, 0, 0, 0), (105, .iconst 4, 0, 0, 0), (106, .if_icmp .ge 35, 141, 0, 0), (109, .aload_n 0, 0, 0, 0), (110, .getfield 52, 10, 7, 1), (113, .iload_n 1, 0, 0, 0), (114, .new 50, 4, 0, 0), (117, .dup, 0, 0, 0), (118, .invokespecial 66, 62, 0, 16), (121, .aastore, 1, 4, 0), (122, .aload_n 0, 0, 0, 0), (123, .getfield 58, 10, 8, 1), (126, .iload_n 1, 0, 0, 0), (127, .new 56, 6, 0, 0), (130, .dup, 0, 0, 0), (131, .invokespecial 67, 78, 0, 24), (134, .aastore, 2, 6, 0), (135, .iinc 1 1, 0, 0, 0), (138, .goto (-34), 104, 0, 0), (141, .return_, 0, 0, 0)]
set_option maxRecDepth 100000 in
theorem sk_k101 : sk_mOK sk_inf sk_nest (sk_inf 101) sk_t101 := sk_mOK_of 11 true rfl (fun h => rfl) (by decide +kernel) (by decide +kernel)
def sk_t102 : List sk_E := [(0, .iload_n 1, 0, 0, 0), (1, .iconst 1, 0, 0, 0), (2, .if_icmp .lt 8, 10, 0, 0), (5, .iload_n 1, 0, 0, 0), (6, .iconst 5, 0, 0, 0), (7, .if_icmp .le 6, 13, 0, 0), (10, .bipush (-2), 0, 0, 0), (12, .ireturn, 0, 0, 0), (13, .iload_n 2, 0, 0, 0), (14, .invokestatic 68, 134, 1, 41), (17, .ifCond .eq 34, 51, 0, 0), (20, .iload_n 3, 0, 0, 0), (21, .invokestatic 68, 134, 1, 41), (24, .ifCond .eq 27, 51, 0, 0), (27, .iload 4, 0, 0, 0), (29, .invokestatic 68, 134, 1, 41), (32, .ifCond .eq 19, 51, 0, 0), (35, .iload 5, 0, 0, 0), (37, .invokestatic 68, 134, 1, 41), (40, .ifCond .eq 11, 51, 0, 0), (43, .iload 6, 0, 0, 0), (45, .invokestatic 68, 134, 1, 41), (48, .ifCond .ne 6, 54, 0, 0), (51, .bipush (-2), 0, 0, 0), (53, .ireturn, 0, 0, 0), (54, .aload_n 0, 0, 0, 0), (55, .getfield 10, 10, 0, 1), (58, .getfield 72, 8, 1, 0), (61, .iload_n 1, 0, 0, 0), (62, .iadd, 0, 0, 0), (63, .bipush 60, 0, 0, 0), (65, .if_icmp .le 6, 71, 0, 0), (68, .bipush (-4), 0, 0, 0), (70, .ireturn, 0, 0, 0), (71, .aload_n 0, 0, 0, 0), (72, .getfield 10, 10, 0, 1), (75, .iload_n 2, 0, 0, 0), (76, .invokevirtual 76, 85, 1, 32), (79, .iload_n 1, 0, 0, 0), (80, .iconst 1, 0, 0, 0), (81, .if_icmp .le 11, 92, 0, 0), (84, .aload_n 0, 0, 0, 0), (85, .getfield 10, 10, 0, 1), (88, .iload_n 3, 0, 0, 0), (89, .invokevirtual 76, 85, 1, 32), (92, .iload_n 1, 0, 0, 0), (93, .iconst 2, 0, 0, 0), (94, .if_icmp .le 12, 106, 0, 0), (97, .aload_n 0, 0, 0, 0), (98, .getfield 10, 10, 0, 1), (101, .iload 4, 0, 0, 0), (103, .invokevirtual 76, 85, 1, 32), (106, .iload_n 1, 0, 0, 0), (107, .iconst 3, 0, 0, 0), (108, .if_icmp .le 12, 120, 0, 0), (111, .aload_n 0, 0, 0, 0), (112, .getfield 10, 10, 0, 1), (115, .iload 5, 0, 0, 0), (117, .invokevirtual 76, 85, 1, 32), (120, .iload_n 1, 0, 0, 0), (121, .iconst 4, 0, 0, 0), (122, .if_icmp .le 12, 134, 0, 0), (125, .aload_n 0, 0, 0, 0), (126, .getfield 10, 10, 0, 1), (129, .iload 6, 0, 0, 0), (131, .invokevirtual 76, 85, 1, 32), (134, .aload_n 0, 0, 0, 0), (135, .getfield 10, 10, 0, 1), (138, .getfield 72, 8, 1, 0), (141, .ireturn, 0, 0, 0)]
set_option maxRecDepth 100000 in
theorem sk_k102 : sk_mOK sk_inf sk_nest (sk_inf 102) sk_t102 := sk_mOK_of 11 false rfl (fun h => absurd h (by decide)) (by decide +kernel) (by decide +kernel)
def sk_t103 : List sk_E := [(0, .iload_n 1, 0, 0, 0), (1, .iconst 1, 0, 0, 0), (2, .if_icmp .lt 9, 11, 0, 0), (5, .iload_n 1, 0, 0, 0), (6, .bipush 20, 0, 0, 0), (8, .if_icmp .le 6, 14, 0, 0), (11, .bipush (-2), 0, 0, 0), (13, .ireturn, 0, 0, 0), (14, .aload_n 0, 0, 0, 0), (15, .getfield 19, 10, 1, 1), (18, .getfield 80, 3, 4, 0), (21, .istore_n 2, 0, 0, 0), (22, .aload_n 0, 0, 0, 0), (23, .getfield 19, 10, 1, 1), (26, .iload_n 1, 0, 0, 0), (27, .invokevirtual 83, 37, 1, 12), (30, .aload_n 0, 0, 0, 0), (31, .invokevirtual 86, 140, 0, 40), (34, .iload_n 2, 0, 0, 0), (35, .ireturn, 0, 0, 0)]
set_option maxRecDepth 100000 in
theorem sk_k103 : sk_mOK sk_inf sk_nest (sk_inf 103) sk_t103 := sk_mOK_of 11 false rfl (fun h => absurd h (by decide)) (by decide +kernel) (by decide +kernel)
def sk_t104 : List sk_E := [(0, .aload_n 0, 0, 0, 0), (1, .getfield 10, 10, 0, 1), (4, .aload_n 0, 0, 0, 0), (5, .getfield 19, 10, 1, 1), (8, .getfield 80, 3, 4, 0), (11, .invokevirtual 89, 86, 1, 33), (14, .istore_n 1, 0, 0, 0), (15, .aload_n 0, 0, 0, 0), (16, .getfield 10, 10, 0, 1), (19, .iconst 0, 0, 0, 0), (20, .putfield 72, 8, 1, 0), (23, .iload_n 1, 0, 0, 0), (24, .ifCond .ge 5, 29, 0, 0), (27, .iload_n 1, 0, 0, 0), (28, .ireturn, 0, 0, 0), (29, .aload_n 0, 0, 0, 0), (30, .getfield 19, 10, 1, 1), (33, .getfield 93, 3, 5, 0), (36, .iload_n 1, 0, 0, 0), (37, .iadd, 0, 0, 0), (38, .bipush 10, 0, 0, 0), (40, .if_icmp .le 6, 46, 0, 0), (43, .bipush (-4), 0, 0, 0), (45, .ireturn, 0, 0, 0), (46, .iconst 0, 0, 0, 0), (47, .istore_n 2, 0, 0, 0), (48, .iload_n 2, 0, 0, 0), (49, .iload_n 1, 0, 0, 0), (50, .if_icmp .ge 49, 99, 0, 0), (53, .aload_n 0, 0, 0, 0), (54, .getfield 19, 10, 1, 1), (57, .getfield 96, 3, 0, 1), (60, .aload_n 0, 0, 0, 0), (61, .getfield 19, 10, 1, 1), (64, .getfield 93, 3, 5, 0), (67, .aaload, 0, 0, 0), (68, .aload_n 0, 0, 0, 0), (69, .getfield 10, 10, 0, 1), (72, .getfield 100, 8, 2, 1), (75, .iload_n 2, 0, 0, 0), (76, .aaload, 0, 0, 0), (77, .invokevirtual 103, 26, 1, 8), (80, .aload_n 0, 0, 0, 0), (81, .getfield 19, 10, 1, 1), (84, .dup, 0, 0, 0), (85, .getfield 93, 3, 5, 0), (88, .iconst 1, 0, 0, 0), (89, .iadd, 0, 0, 0), (90, .putfield 93, 3, 5, 0), (93, .iinc 2 1, 0, 0, 0), (96, .goto (-48), 48, 0, 0), (99, .aload_n 0, 0, 0, 0), (100, .getfield 19, 10, 1, 1), (103, .getfield 93, 3, 5, 0), (106, .ireturn, 0, 0, 0)]
set_option maxRecDepth 100000 in
theorem sk_k104 : sk_mOK sk_inf sk_nest (sk_inf 104) sk_t104 := sk_mOK_of 11 false rfl (fun h => absurd h (by decide)) (by decide +kernel) (by decide +kernel)
def sk_t105 : List sk_E := [(0, .aload_n 0, 0, 0, 0), (1, .getfield 19, 10, 1, 1), (4, .iload_n 1, 0, 0, 0), (5, .invokevirtual 109, 39, 1, 13), (8, .ifCond .ne 6, 14, 0, 0), (11, .bipush (-2), 0, 0, 0), (13, .ireturn, 0, 0, 0), (14, .aload_n 0, 0, 0, 0), (15, .getfield 19, 10, 1, 1), (18, .getfield 96, 3, 0, 1), (21, .iload_n 1, 0, 0, 0), (22, .aaload, 0, 0, 0), (23, .astore_n 3, 0, 0, 0), (24, .iload_n 2, 0, 0, 0), (25, .tableswitch 128 0 7 #[47, 52, 57, 62, 67, 83, 99, 123], 0, 0, 47), (72, .aload_n 3, 0, 0, 0), (73, .getfield 112, 2, 0, 0), (76, .ireturn, 0, 0, 0), (77, .aload_n 3, 0, 0, 0), (78, .getfield 115, 2, 1, 0), (81, .ireturn, 0, 0, 0), (82, .aload_n 3, 0, 0, 0), (83, .getfield 118, 2, 2, 0), (86, .ireturn, 0, 0, 0), (87, .aload_n 3, 0, 0, 0), (88, .getfield 121, 2, 3, 0), (91, .ireturn, 0, 0, 0), (92, .aload_n 3, 0, 0, 0), (93, .invokevirtual 124, 27, 0, 9), (96, .ifCond .eq 10, 106, 0, 0), (99, .aload_n 3, 0, 0, 0), (100, .getfield 128, 2, 5, 0), (103, .goto 4, 107, 0, 0), (106, .iconst (-1), 0, 0, 0), (107, .ireturn, 0, 0, 0), (108, .aload_n 3, 0, 0, 0), (109, .invokevirtual 124, 27, 0, 9), (112, .ifCond .eq 10, 122, 0, 0), (115, .aload_n 3, 0, 0, 0), (116, .getfield 131, 2, 6, 0), (119, .goto 4, 123, 0, 0), (122, .iconst (-1), 0, 0, 0), (123, .ireturn, 0, 0, 0), (124, .aload_n 3, 0, 0, 0), (125, .invokevirtual 124, 27, 0, 9), (128, .ifCond .eq 18, 146, 0, 0), (131, .aload_n 3, 0, 0, 0), (132, .getfield 134, 2, 7, 0), (135, .ifCond .eq 7, 142, 0, 0), (138, .iconst 1, 0, 0, 0), (139, .goto 8, 147, 0, 0), (142, .iconst 0, 0, 0, 0), (143, .goto 4, 147, 0, 0), (146, .iconst (-1), 0, 0, 0), (147, .ireturn, 0, 0, 0), (148, .aload_n 3, 0, 0, 0), (149, .getfield 137, 2, 4, 0), (152, .ireturn, 0, 0, 0), (153, .bipush (-2), 0, 0, 0), (155, .ireturn, 0, 0, 0)]
set_option maxRecDepth 100000 in
theorem sk_k105 : sk_mOK sk_inf sk_nest (sk_inf 105) sk_t105 := sk_mOK_of 11 false rfl (fun h => absurd h (by decide)) (by decide +kernel) (by decide +kernel)
def sk_t106 : List sk_E := [(0, .aload_n 0, 0, 0, 0), (1, .getfield 19, 10, 1, 1), (4, .iload_n 1, 0, 0, 0), (5, .invokevirtual 109, 39, 1, 13), (8, .ifCond .eq 10, 18, 0, 0), (11, .iload_n 2, 0, 0, 0), (12, .invokestatic 140, 135, 1, 41), (15, .ifCond .ne 6, 21, 0, 0), (18, .bipush (-2), 0, 0, 0), (20, .ireturn, 0, 0, 0), (21, .aload_n 0, 0, 0, 0), (22, .getfield 19, 10, 1, 1), (25, .getfield 96, 3, 0, 1), (28, .iload_n 1, 0, 0, 0), (29, .aaload, 0, 0, 0), (30, .astore_n 3, 0, 0, 0), (31, .aload_n 3, 0, 0, 0), (32, .getfield 112, 2, 0, 0), (35, .iload_n 2, 0, 0, 0), (36, .invokestatic 143, 1, 2, 41), (39, .ifCond .eq 16, 55, 0, 0), (42, .aload_n 3, 0, 0, 0), (43, .getfield 115, 2, 1, 0), (46, .aload_n 3, 0, 0, 0), (47, .iconst 0, 0, 0, 0), (48, .invokevirtual 147, 32, 1, 9), (51, .imul, 0, 0, 0), (52, .goto 5, 57, 0, 0), (55, .bipush (-13), 0, 0, 0), (57, .ireturn, 0, 0, 0)]
set_option maxRecDepth 100000 in
theorem sk_k106 : sk_mOK sk_inf sk_nest (sk_inf 106) sk_t106 := sk_mOK_of 11 false rfl (fun h => absurd h (by decide)) (by decide +kernel) (by decide +kernel)
def sk_t107 : List sk_E := [(0, .aload_n 0, 0, 0, 0), (1, .getfield 19, 10, 1, 1), (4, .iload_n 1, 0, 0, 0), (5, .invokevirtual 109, 39, 1, 13), (8, .ifCond .eq 14, 22, 0, 0), (11, .iload_n 2, 0, 0, 0), (12, .iconst (-1), 0, 0, 0), (13, .if_icmp .lt 9, 22, 0, 0), (16, .iload_n 2, 0, 0, 0), (17, .bipush 20, 0, 0, 0), (19, .if_icmp .lt 6, 25, 0, 0), (22, .bipush (-2), 0, 0, 0), (24, .ireturn, 0, 0, 0), (25, .iload_n 2, 0, 0, 0), (26, .iconst (-1), 0, 0, 0), (27, .if_icmp .eq 16, 43, 0, 0), (30, .iload_n 3, 0, 0, 0), (31, .ifCond .lt 9, 40, 0, 0), (34, .iload_n 3, 0, 0, 0), (35, .bipush 60, 0, 0, 0), (37, .if_icmp .le 6, 43, 0, 0), (40, .bipush (-2), 0, 0, 0), (42, .ireturn, 0, 0, 0), (43, .aload_n 0, 0, 0, 0), (44, .getfield 19, 10, 1, 1), (47, .getfield 96, 3, 0, 1), (50, .iload_n 1, 0, 0, 0), (51, .aaload, 0, 0, 0), (52, .astore 4, 0, 0, 0), (54, .aload 4, 0, 0, 0), (56, .getfield 137, 2, 4, 0), (59, .iconst 1, 0, 0, 0), (60, .if_icmp .ne 7, 67, 0, 0), (63, .iconst 1, 0, 0, 0), (64, .goto 4, 68, 0, 0), (67, .iconst 0, 0, 0, 0), (68, .istore 5, 0, 0, 0), (70, .aload_n 0, 0, 0, 0), (71, .getfield 19, 10, 1, 1), (74, .invokevirtual 151, 41, 0, 13), (77, .ifCond .ne 29, 106, 0, 0), (80, .aload_n 0, 0, 0, 0), (81, .getfield 19, 10, 1, 1), (84, .iload_n 1, 0, 0, 0), (85, .invokevirtual 154, 40, 1, 13), (88, .ifCond .ne 18, 106, 0, 0), (91, .iload 5, 0, 0, 0), (93, .iload_n 2, 0, 0, 0), (94, .iconst (-1), 0, 0, 0), (95, .if_icmp .ne 7, 102, 0, 0), (98, .iconst 1, 0, 0, 0), (99, .goto 4, 103, 0, 0), (102, .iconst 0, 0, 0, 0), (103, .if_icmp .eq 6, 109, 0, 0), (106, .bipush (-3), 0, 0, 0), (108, .ireturn, 0, 0, 0), (109, .iload_n 2, 0, 0, 0), (110, .iconst (-1), 0, 0, 0), (111, .if_icmp .ne 11, 122, 0, 0), (114, .aload 4, 0, 0, 0), (116, .iconst 0, 0, 0, 0), (117, .putfield 137, 2, 4, 0), (120, .iconst 1, 0, 0, 0), (121, .ireturn, 0, 0, 0), (122, .iload_n 2, 0, 0, 0), (123, .aload 4, 0, 0, 0), (125, .getfield 115, 2, 1, 0), (128, .iadd, 0, 0, 0), (129, .aload_n 0, 0, 0, 0), (130, .getfield 19, 10, 1, 1), (133, .getfield 80, 3, 4, 0), (136, .if_icmp .le 6, 142, 0, 0), (139, .bipush (-12), 0, 0, 0), (141, .ireturn, 0, 0, 0), (142, .aload_n 0, 0, 0, 0), (143, .getfield 19, 10, 1, 1), (146, .iload_n 2, 0, 0, 0), (147, .iload_n 3, 0, 0, 0), (148, .aload 4, 0, 0, 0), (150, .getfield 115, 2, 1, 0), (153, .aload 4, 0, 0, 0), (155, .iconst 0, 0, 0, 0), (156, .invokevirtual 147, 32, 1, 9), (159, .invokevirtual 157, 51, 4, 13), (162, .iconst (-1), 0, 0, 0), (163, .if_icmp .eq 6, 169, 0, 0), (166, .bipush (-15), 0, 0, 0), (168, .ireturn, 0, 0, 0), (169, .aload 4, 0, 0, 0), (171, .iload_n 2, 0, 0, 0), (172, .iload_n 3, 0, 0, 0), (173, .iconst 0, 0, 0, 0), (174, .iconst 1, 0, 0, 0), (175, .invokevirtual 161, 29, 4, 8), (178, .iconst 1, 0, 0, 0), (179, .ireturn, 0, 0, 0)]
set_option maxRecDepth 100000 in
theorem sk_k107 : sk_mOK sk_inf sk_nest (sk_inf 107) sk_t107 := sk_mOK_of 11 false rfl (fun h => absurd h (by decide)) (by decide +kernel) (by decide +kernel)
def sk_t108 : List sk_E := [(0, .iload_n 1, 0, 0, 0), (1, .iconst (-1), 0, 0, 0), (2, .if_icmp .eq 13, 15, 0, 0), (5, .iload_n 1, 0, 0, 0), (6, .invokestatic 165, 136, 1, 41), (9, .ifCond .ne 6, 15, 0, 0), (12, .bipush (-2), 0, 0, 0), (14, .ireturn, 0, 0, 0), (15, .iload_n 1, 0, 0, 0), (16, .iconst (-1), 0, 0, 0), (17, .if_icmp .ne 18, 35, 0, 0), (20, .aload_n 0, 0, 0, 0), (21, .getfield 19, 10, 1, 1), (24, .invokevirtual 168, 44, 0, 12), (27, .aload_n 0, 0, 0, 0), (28, .getfield 19, 10, 1, 1), (31, .getfield 171, 3, 6, 0), (34, .ireturn, 0, 0, 0), (35, .aload_n 0, 0, 0, 0), (36, .getfield 52, 10, 7, 1), (39, .iload_n 1, 0, 0, 0), (40, .aaload, 0, 0, 0), (41, .astore_n 2, 0, 0, 0), (42, .aload_n 2, 0, 0, 0), (43, .invokevirtual 174, 63, 0, 17), (46, .ifCond .eq 6, 52, 0, 0), (49, .bipush (-11), 0, 0, 0), (51, .ireturn, 0, 0, 0), (52, .aload_n 0, 0, 0, 0), (53, .getfield 19, 10, 1, 1), (56, .aload_n 2, 0, 0, 0), (57, .invokevirtual 177, 45, 1, 13), (60, .ifCond .ne 6, 66, 0, 0), (63, .bipush (-3), 0, 0, 0), (65, .ireturn, 0, 0, 0), (66, .aload_n 0, 0, 0, 0), (67, .getfield 19, 10, 1, 1), (70, .aload_n 2, 0, 0, 0), (71, .invokevirtual 181, 46, 1, 12), (74, .aload_n 0, 0, 0, 0), (75, .getfield 19, 10, 1, 1), (78, .getfield 171, 3, 6, 0), (81, .ireturn, 0, 0, 0)]
set_option maxRecDepth 100000 in
theorem sk_k108 : sk_mOK sk_inf sk_nest (sk_inf 108) sk_t108 := sk_mOK_of 11 false rfl (fun h => absurd h (by decide)) (by decide +kernel) (by decide +kernel)
end
section
/-! ===== tables of the methods (written by program) ===== -/
def sk_t109 : List sk_E := [(0, .iload_n 1, 0, 0, 0), (1, .ifCond .lt 29, 30, 0, 0), (4, .iload_n 1, 0, 0, 0), (5, .aload_n 0, 0, 0, 0), (6, .getfield 19, 10, 1, 1), (9, .getfield 171, 3, 6, 0), (12, .if_icmp .ge 18, 30, 0, 0), (15, .iload_n 2, 0, 0, 0), (16, .ifCond .lt 14, 30, 0, 0), (19, .iload_n 2, 0, 0, 0), (20, .aload_n 0, 0, 0, 0), (21, .getfield 19, 10, 1, 1), (24, .getfield 171, 3, 6, 0), (27, .if_icmp .lt 6, 33, 0, 0), (30, .bipush (-12), 0, 0, 0), (32, .ireturn, 0, 0, 0), (33, .aload_n 0, 0, 0, 0), (34, .getfield 19, 10, 1, 1), (37, .iload_n 1, 0, 0, 0), (38, .iload_n 2, 0, 0, 0), (39, .invokevirtual 185, 47, 2, 12), (42, .aload_n 0, 0, 0, 0), (43, .getfield 19, 10, 1, 1), (46, .getfield 189, 3, 1, 1), (49, .iload_n 1, 0, 0, 0), (50, .iaload, 0, 0, 0), (51, .ireturn, 0, 0, 0)]
set_option maxRecDepth 100000 in
theorem sk_k109 : sk_mOK sk_inf sk_nest (sk_inf 109) sk_t109 := sk_mOK_of 11 false rfl (fun h => absurd h (by decide)) (by decide +kernel) (by decide +kernel)
def sk_t110 : List sk_E := [(0, .iload_n 1, 0, 0, 0), (1, .ifCond .lt 17, 18, 0, 0), (4, .iload_n 1, 0, 0, 0), (5, .iconst 4, 0, 0, 0), (6, .if_icmp .ge 12, 18, 0, 0), (9, .iload_n 2, 0, 0, 0), (10, .ifCond .lt 8, 18, 0, 0), (13, .iload_n 2, 0, 0, 0), (14, .iconst 1, 0, 0, 0), (15, .if_icmp .le 6, 21, 0, 0), (18, .bipush (-2), 0, 0, 0), (20, .ireturn, 0, 0, 0), (21, .iconst 2, 0, 0, 0), (22, .aload_n 0, 0, 0, 0), (23, .getfield 19, 10, 1, 1), (26, .getfield 193, 3, 7, 0), (29, .imul, 0, 0, 0), (30, .aload_n 0, 0, 0, 0), (31, .getfield 19, 10, 1, 1), (34, .getfield 196, 3, 8, 0), (37, .ifCond .eq 7, 44, 0, 0), (40, .iconst 1, 0, 0, 0), (41, .goto 4, 45, 0, 0), (44, .iconst 0, 0, 0, 0), (45, .iadd, 0, 0, 0), (46, .istore_n 3, 0, 0, 0), (47, .aload_n 0, 0, 0, 0), (48, .getfield 19, 10, 1, 1), (51, .iload_n 1, 0, 0, 0), (52, .putfield 193, 3, 7, 0), (55, .aload_n 0, 0, 0, 0), (56, .getfield 19, 10, 1, 1), (59, .iload_n 2, 0, 0, 0), (60, .iconst 1, 0, 0, 0), (61, .if_icmp .ne 7, 68, 0, 0), (64, .iconst 1, 0, 0, 0), (65, .goto 4, 69, 0, 0), (68, .iconst 0, 0, 0, 0), (69, .putfield 196, 3, 8, 2), (72, .iload_n 3, 0, 0, 0), (73, .ireturn, 0, 0, 0)]
set_option maxRecDepth 100000 in
theorem sk_k110 : sk_mOK sk_inf sk_nest (sk_inf 110) sk_t110 := sk_mOK_of 11 false rfl (fun h => absurd h (by decide)) (by decide +kernel) (by decide +kernel)
def sk_t111 : List sk_E := [(0, .aload_n 0, 0, 0, 0), (1, .getfield 19, 10, 1, 1), (4, .iload_n 1, 0, 0, 0), (5, .invokevirtual 109, 39, 1, 13), (8, .ifCond .eq 12, 20, 0, 0), (11, .iload_n 2, 0, 0, 0), (12, .ifCond .lt 8, 20, 0, 0), (15, .iload_n 2, 0, 0, 0), (16, .iconst 3, 0, 0, 0), (17, .if_icmp .le 6, 23, 0, 0), (20, .bipush (-2), 0, 0, 0), (22, .ireturn, 0, 0, 0), (23, .aload_n 0, 0, 0, 0), (24, .getfield 19, 10, 1, 1), (27, .getfield 96, 3, 0, 1), (30, .iload_n 1, 0, 0, 0), (31, .aaload, 0, 0, 0), (32, .astore_n 3, 0, 0, 0), (33, .aload_n 3, 0, 0, 0), (34, .invokevirtual 124, 27, 0, 9), (37, .ifCond .eq 6, 43, 0, 0), (40, .bipush (-3), 0, 0, 0), (42, .ireturn, 0, 0, 0), (43, .aload_n 0, 0, 0, 0), (44, .getfield 32, 10, 4, 1), (47, .aload_n 0, 0, 0, 0), (48, .getfield 19, 10, 1, 1), (51, .aload_n 3, 0, 0, 0), (52, .invokevirtual 199, 20, 2, 4), (55, .aload_n 0, 0, 0, 0), (56, .getfield 32, 10, 4, 1), (59, .getfield 203, 1, 0, 1), (62, .astore 4, 0, 0, 0), (64, .aload 4, 0, 0, 0), (66, .getfield 207, 7, 0, 0), (69, .ifCond .ne 5, 74, 0, 0), (72, .iconst (-1), 0, 0, 0), (73, .ireturn, 0, 0, 0), (74, .iload_n 2, 0, 0, 0), (75, .tableswitch 51 0 2 #[25, 31, 37], 0, 0, 25), (100, .aload 4, 0, 0, 0), (102, .getfield 212, 7, 1, 0), (105, .ireturn, 0, 0, 0), (106, .aload 4, 0, 0, 0), (108, .getfield 213, 7, 2, 0), (111, .ireturn, 0, 0, 0), (112, .aload 4, 0, 0, 0), (114, .getfield 214, 7, 3, 0), (117, .ifCond .eq 7, 124, 0, 0), (120, .iconst 1, 0, 0, 0), (121, .goto 4, 125, 0, 0), (124, .iconst 0, 0, 0, 0), (125, .ireturn, 0, 0, 0), (126, .aload 4, 0, 0, 0), (128, .getfield 215, 7, 4, 0), (131, .iconst (-1), 0, 0, 0), (132, .if_icmp .eq 7, 139, 0, 0), (135, .iconst 1, 0, 0, 0), (136, .goto 4, 140, 0, 0), (139, .iconst 0, 0, 0, 0), (140, .ireturn, 0, 0, 0)]
set_option maxRecDepth 100000 in
theorem sk_k111 : sk_mOK sk_inf sk_nest (sk_inf 111) sk_t111 := sk_mOK_of 11 false rfl (fun h => absurd h (by decide)) (by decide +kernel) (by decide +kernel)
def sk_t112 : List sk_E := [(0, .iload_n 1, 0, 0, 0), (1, .iconst (-1), 0, 0, 0), (2, .if_icmp .ne 12, 14, 0, 0), (5, .aload_n 0, 0, 0, 0), (6, .getfield 19, 10, 1, 1), (9, .invokevirtual 218, 38, 0, 12), (12, .iconst 0, 0, 0, 0), (13, .ireturn, 0, 0, 0), (14, .aload_n 0, 0, 0, 0), (15, .getfield 19, 10, 1, 1), (18, .iload_n 1, 0, 0, 0), (19, .invokevirtual 109, 39, 1, 13), (22, .ifCond .ne 6, 28, 0, 0), (25, .bipush (-2), 0, 0, 0), (27, .ireturn, 0, 0, 0), (28, .aload_n 0, 0, 0, 0), (29, .getfield 19, 10, 1, 1), (32, .getfield 96, 3, 0, 1), (35, .iload_n 1, 0, 0, 0), (36, .aaload, 0, 0, 0), (37, .astore_n 2, 0, 0, 0), (38, .aload_n 2, 0, 0, 0), (39, .invokevirtual 124, 27, 0, 9), (42, .ifCond .eq 6, 48, 0, 0), (45, .bipush (-3), 0, 0, 0), (47, .ireturn, 0, 0, 0), (48, .aload_n 0, 0, 0, 0), (49, .getfield 32, 10, 4, 1), (52, .aload_n 0, 0, 0, 0), (53, .getfield 19, 10, 1, 1), (56, .aload_n 2, 0, 0, 0), (57, .invokevirtual 221, 19, 2, 5), (60, .ifCond .eq 10, 70, 0, 0), (63, .aload_n 2, 0, 0, 0), (64, .getfield 131, 2, 6, 0), (67, .goto 4, 71, 0, 0), (70, .iconst (-1), 0, 0, 0), (71, .ireturn, 0, 0, 0)]
set_option maxRecDepth 100000 in
theorem sk_k112 : sk_mOK sk_inf sk_nest (sk_inf 112) sk_t112 := sk_mOK_of 11 false rfl (fun h => absurd h (by decide)) (by decide +kernel) (by decide +kernel)
def sk_t113 : List sk_E := [(0, .aload_n 0, 0, 0, 0), (1, .getfield 32, 10, 4, 1), (4, .aload_n 0, 0, 0, 0), (5, .getfield 19, 10, 1, 1), (8, .invokevirtual 225, 18, 1, 5), (11, .ireturn, 0, 0, 0)]
set_option maxRecDepth 100000 in
theorem sk_k113 : sk_mOK sk_inf sk_nest (sk_inf 113) sk_t113 := sk_mOK_of 11 false rfl (fun h => absurd h (by decide)) (by decide +kernel) (by decide +kernel)
def sk_t114 : List sk_E := [(0, .iload_n 2, 0, 0, 0), (1, .ifCond .lt 8, 9, 0, 0), (4, .iload_n 2, 0, 0, 0), (5, .iconst 2, 0, 0, 0), (6, .if_icmp .le 6, 12, 0, 0), (9, .bipush (-2), 0, 0, 0), (11, .ireturn, 0, 0, 0), (12, .iload_n 1, 0, 0, 0), (13, .iconst (-1), 0, 0, 0), (14, .if_icmp .ne 11, 25, 0, 0), (17, .aload_n 0, 0, 0, 0), (18, .getfield 19, 10, 1, 1), (21, .invokevirtual 229, 48, 0, 13), (24, .ireturn, 0, 0, 0), (25, .iload_n 1, 0, 0, 0), (26, .ifCond .ge 7, 33, 0, 0), (29, .iconst (-1), 0, 0, 0), (30, .goto 11, 41, 0, 0), (33, .aload_n 0, 0, 0, 0), (34, .getfield 19, 10, 1, 1), (37, .iload_n 1, 0, 0, 0), (38, .invokevirtual 233, 49, 1, 13), (41, .istore_n 3, 0, 0, 0), (42, .iload_n 3, 0, 0, 0), (43, .iconst (-1), 0, 0, 0), (44, .if_icmp .ne 6, 50, 0, 0), (47, .bipush (-12), 0, 0, 0), (49, .ireturn, 0, 0, 0), (50, .iload_n 2, 0, 0, 0), (51, .ifCond .ne 5, 56, 0, 0), (54, .iload_n 3, 0, 0, 0), (55, .ireturn, 0, 0, 0), (56, .iload_n 2, 0, 0, 0), (57, .iconst 1, 0, 0, 0), (58, .if_icmp .ne 16, 74, 0, 0), (61, .aload_n 0, 0, 0, 0), (62, .getfield 19, 10, 1, 1), (65, .iload_n 3, 0, 0, 0), (66, .invokevirtual 236, 50, 1, 13), (69, .iload_n 3, 0, 0, 0), (70, .isub, 0, 0, 0), (71, .goto 12, 83, 0, 0), (74, .aload_n 0, 0, 0, 0), (75, .getfield 19, 10, 1, 1), (78, .getfield 239, 3, 2, 1), (81, .iload_n 3, 0, 0, 0), (82, .iaload, 0, 0, 0), (83, .ireturn, 0, 0, 0)]
set_option maxRecDepth 100000 in
theorem sk_k114 : sk_mOK sk_inf sk_nest (sk_inf 114) sk_t114 := sk_mOK_of 11 false rfl (fun h => absurd h (by decide)) (by decide +kernel) (by decide +kernel)
def sk_t115 : List sk_E := [(0, .iload_n 2, 0, 0, 0), (1, .ifCond .lt 8, 9, 0, 0), (4, .iload_n 2, 0, 0, 0), (5, .iconst 3, 0, 0, 0), (6, .if_icmp .le 6, 12, 0, 0), (9, .bipush (-2), 0, 0, 0), (11, .ireturn, 0, 0, 0), (12, .aload_n 0, 0, 0, 0), (13, .getfield 19, 10, 1, 1), (16, .getfield 242, 3, 3, 1), (19, .astore_n 3, 0, 0, 0), (20, .iload_n 1, 0, 0, 0), (21, .iconst (-1), 0, 0, 0), (22, .if_icmp .ne 8, 30, 0, 0), (25, .aload_n 3, 0, 0, 0), (26, .getfield 246, 9, 4, 0), (29, .ireturn, 0, 0, 0), (30, .iload_n 1, 0, 0, 0), (31, .ifCond .lt 11, 42, 0, 0), (34, .iload_n 1, 0, 0, 0), (35, .aload_n 3, 0, 0, 0), (36, .getfield 246, 9, 4, 0), (39, .if_icmp .lt 6, 45, 0, 0), (42, .bipush (-12), 0, 0, 0), (44, .ireturn, 0, 0, 0), (45, .iload_n 2, 0, 0, 0), (46, .tableswitch 47 0 2 #[26, 33, 40], 0, 0, 26), (72, .aload_n 3, 0, 0, 0), (73, .getfield 249, 9, 0, 1), (76, .iload_n 1, 0, 0, 0), (77, .iaload, 0, 0, 0), (78, .ireturn, 0, 0, 0), (79, .aload_n 3, 0, 0, 0), (80, .getfield 251, 9, 1, 1), (83, .iload_n 1, 0, 0, 0), (84, .iaload, 0, 0, 0), (85, .ireturn, 0, 0, 0), (86, .aload_n 3, 0, 0, 0), (87, .getfield 253, 9, 2, 1), (90, .iload_n 1, 0, 0, 0), (91, .iaload, 0, 0, 0), (92, .ireturn, 0, 0, 0), (93, .aload_n 3, 0, 0, 0), (94, .getfield 255, 9, 3, 1), (97, .iload_n 1, 0, 0, 0), (98, .iaload, 0, 0, 0), (99, .ireturn, 0, 0, 0)]
set_option maxRecDepth 100000 in
theorem sk_k115 : sk_mOK sk_inf sk_nest (sk_inf 115) sk_t115 := sk_mOK_of 11 false rfl (fun h => absurd h (by decide)) (by decide +kernel) (by decide +kernel)
def sk_t116 : List sk_E := [(0, .iload_n 1, 0, 0, 0), (1, .ifCond .lt 9, 10, 0, 0), (4, .iload_n 1, 0, 0, 0), (5, .bipush 9, 0, 0, 0), (7, .if_icmp .lt 6, 13, 0, 0), (10, .bipush (-2), 0, 0, 0), (12, .ireturn, 0, 0, 0), (13, .aload_n 0, 0, 0, 0), (14, .getfield 19, 10, 1, 1), (17, .iload_n 1, 0, 0, 0), (18, .invokestatic 257, 3, 2, 1), (21, .ireturn, 0, 0, 0)]
set_option maxRecDepth 100000 in
theorem sk_k116 : sk_mOK sk_inf sk_nest (sk_inf 116) sk_t116 := sk_mOK_of 11 false rfl (fun h => absurd h (by decide)) (by decide +kernel) (by decide +kernel)
def sk_t117 : List sk_E := [(0, .aload_n 0, 0, 0, 0), (1, .getfield 19, 10, 1, 1), (4, .getfield 171, 3, 6, 0), (7, .iconst 5, 0, 0, 0), (8, .if_icmp .le 6, 14, 0, 0), (11, .bipush (-3), 0, 0, 0), (13, .ireturn, 0, 0, 0), (14, .iload_n 1, 0, 0, 0), (15, .iconst (-1), 0, 0, 0), (16, .if_icmp .lt 14, 30, 0, 0), (19, .iload_n 1, 0, 0, 0), (20, .aload_n 0, 0, 0, 0), (21, .getfield 19, 10, 1, 1), (24, .getfield 171, 3, 6, 0), (27, .if_icmp .lt 6, 33, 0, 0), (30, .bipush (-12), 0, 0, 0), (32, .ireturn, 0, 0, 0), (33, .aload_n 0, 0, 0, 0), (34, .getfield 26, 10, 3, 1), (37, .aload_n 0, 0, 0, 0), (38, .getfield 19, 10, 1, 1), (41, .invokevirtual 263, 36, 1, 12), (44, .aload_n 0, 0, 0, 0), (45, .getfield 39, 10, 5, 1), (48, .aload_n 0, 0, 0, 0), (49, .getfield 26, 10, 3, 1), (52, .aload_n 0, 0, 0, 0), (53, .getfield 32, 10, 4, 1), (56, .invokevirtual 266, 69, 2, 20), (59, .aload_n 0, 0, 0, 0), (60, .getfield 39, 10, 5, 1), (63, .getfield 270, 5, 1, 0), (66, .iconst (-1), 0, 0, 0), (67, .if_icmp .ne 5, 72, 0, 0), (70, .iconst (-1), 0, 0, 0), (71, .ireturn, 0, 0, 0), (72, .iload_n 1, 0, 0, 0), (73, .iconst (-1), 0, 0, 0), (74, .if_icmp .ne 13, 87, 0, 0), (77, .aload_n 0, 0, 0, 0), (78, .getfield 39, 10, 5, 1), (81, .getfield 270, 5, 1, 0), (84, .goto 12, 96, 0, 0), (87, .aload_n 0, 0, 0, 0), (88, .getfield 39, 10, 5, 1), (91, .getfield 273, 5, 0, 1), (94, .iload_n 1, 0, 0, 0), (95, .iaload, 0, 0, 0), (96, .ireturn, 0, 0, 0)]
set_option maxRecDepth 100000 in
theorem sk_k117 : sk_mOK sk_inf sk_nest (sk_inf 117) sk_t117 := sk_mOK_of 11 false rfl (fun h => absurd h (by decide)) (by decide +kernel) (by decide +kernel)
def sk_t118 : List sk_E := [(0, .iload_n 1, 0, 0, 0), (1, .ifCond .lt 8, 9, 0, 0), (4, .iload_n 1, 0, 0, 0), (5, .iconst 1, 0, 0, 0), (6, .if_icmp .le 6, 12, 0, 0), (9, .bipush (-2), 0, 0, 0), (11, .ireturn, 0, 0, 0), (12, .aload_n 0, 0, 0, 0), (13, .getfield 19, 10, 1, 1), (16, .getfield 171, 3, 6, 0), (19, .iconst 5, 0, 0, 0), (20, .if_icmp .le 6, 26, 0, 0), (23, .bipush (-3), 0, 0, 0), (25, .ireturn, 0, 0, 0), (26, .aload_n 0, 0, 0, 0), (27, .getfield 26, 10, 3, 1), (30, .aload_n 0, 0, 0, 0), (31, .getfield 19, 10, 1, 1), (34, .invokevirtual 263, 36, 1, 12), (37, .aload_n 0, 0, 0, 0), (38, .getfield 39, 10, 5, 1), (41, .aload_n 0, 0, 0, 0), (42, .getfield 26, 10, 3, 1), (45, .aload_n 0, 0, 0, 0), (46, .getfield 32, 10, 4, 1), (49, .invokevirtual 276, 70, 2, 20), (52, .iload_n 1, 0, 0, 0), (53, .ifCond .ne 13, 66, 0, 0), (56, .aload_n 0, 0, 0, 0), (57, .getfield 39, 10, 5, 1), (60, .getfield 279, 5, 2, 0), (63, .goto 10, 73, 0, 0), (66, .aload_n 0, 0, 0, 0), (67, .getfield 39, 10, 5, 1), (70, .invokevirtual 282, 71, 0, 21), (73, .ireturn, 0, 0, 0)]
set_option maxRecDepth 100000 in
theorem sk_k118 : sk_mOK sk_inf sk_nest (sk_inf 118) sk_t118 := sk_mOK_of 11 false rfl (fun h => absurd h (by decide)) (by decide +kernel) (by decide +kernel)
def sk_t119 : List sk_E := [(0, .aload_n 0, 0, 0, 0), (1, .getfield 46, 10, 6, 1), (4, .aload_n 0, 0, 0, 0), (5, .getfield 19, 10, 1, 1), (8, .invokevirtual 285, 11, 1, 0), (11, .aload_n 0, 0, 0, 0), (12, .getfield 46, 10, 6, 1), (15, .invokevirtual 288, 12, 0, 1), (18, .ireturn, 0, 0, 0)]
set_option maxRecDepth 100000 in
theorem sk_k119 : sk_mOK sk_inf sk_nest (sk_inf 119) sk_t119 := sk_mOK_of 11 false rfl (fun h => absurd h (by decide)) (by decide +kernel) (by decide +kernel)
def sk_t120 : List sk_E := [(0, .iload_n 1, 0, 0, 0), (1, .ifCond .lt 8, 9, 0, 0), (4, .iload_n 1, 0, 0, 0), (5, .iconst 2, 0, 0, 0), (6, .if_icmp .le 6, 12, 0, 0), (9, .bipush (-2), 0, 0, 0), (11, .ireturn, 0, 0, 0), (12, .aload_n 0, 0, 0, 0), (13, .getfield 19, 10, 1, 1), (16, .invokevirtual 291, 42, 0, 13), (19, .ifCond .ne 6, 25, 0, 0), (22, .bipush (-3), 0, 0, 0), (24, .ireturn, 0, 0, 0), (25, .iload_n 1, 0, 0, 0), (26, .iconst 2, 0, 0, 0), (27, .if_icmp .ne 13, 40, 0, 0), (30, .aload_n 0, 0, 0, 0), (31, .getfield 19, 10, 1, 1), (34, .invokevirtual 294, 59, 0, 14), (37, .goto 20, 57, 0, 0), (40, .aload_n 0, 0, 0, 0), (41, .getfield 19, 10, 1, 1), (44, .iload_n 1, 0, 0, 0), (45, .iconst 1, 0, 0, 0), (46, .if_icmp .ne 7, 53, 0, 0), (49, .iconst 1, 0, 0, 0), (50, .goto 4, 54, 0, 0), (53, .iconst 0, 0, 0, 0), (54, .invokevirtual 298, 58, 1, 14), (57, .invokestatic 302, 139, 1, 41), (60, .ireturn, 0, 0, 0)]
set_option maxRecDepth 100000 in
theorem sk_k120 : sk_mOK sk_inf sk_nest (sk_inf 120) sk_t120 := sk_mOK_of 11 false rfl (fun h => absurd h (by decide)) (by decide +kernel) (by decide +kernel)
def sk_t121 : List sk_E := [(0, .iload_n 2, 0, 0, 0), (1, .ifCond .lt 9, 10, 0, 0), (4, .iload_n 2, 0, 0, 0), (5, .bipush 20, 0, 0, 0), (7, .if_icmp .le 6, 13, 0, 0), (10, .bipush (-2), 0, 0, 0), (12, .ireturn, 0, 0, 0), (13, .aload_n 0, 0, 0, 0), (14, .iload_n 1, 0, 0, 0), (15, .iload_n 2, 0, 0, 0), (16, .invokevirtual 306, 141, 2, 41), (19, .ireturn, 0, 0, 0)]
set_option maxRecDepth 100000 in
theorem sk_k121 : sk_mOK sk_inf sk_nest (sk_inf 121) sk_t121 := sk_mOK_of 11 false rfl (fun h => absurd h (by decide)) (by decide +kernel) (by decide +kernel)
def sk_t122 : List sk_E := [(0, .iload_n 2, 0, 0, 0), (1, .iconst 1, 0, 0, 0), (2, .if_icmp .lt 24, 26, 0, 0), (5, .iload_n 2, 0, 0, 0), (6, .bipush 8, 0, 0, 0), (8, .if_icmp .gt 18, 26, 0, 0), (11, .iload_n 3, 0, 0, 0), (12, .ifCond .lt 14, 26, 0, 0), (15, .iload 4, 0, 0, 0), (17, .ifCond .lt 9, 26, 0, 0), (20, .iload 4, 0, 0, 0), (22, .iconst 1, 0, 0, 0), (23, .if_icmp .le 6, 29, 0, 0), (26, .bipush (-2), 0, 0, 0), (28, .ireturn, 0, 0, 0), (29, .iconst 0, 0, 0, 0), (30, .istore 5, 0, 0, 0), (32, .iconst 0, 0, 0, 0), (33, .istore 6, 0, 0, 0), (35, .iload 6, 0, 0, 0), (37, .iload_n 2, 0, 0, 0), (38, .if_icmp .ge 26, 64, 0, 0), (41, .aload_n 0, 0, 0, 0), (42, .iload_n 1, 0, 0, 0), (43, .iload 6, 0, 0, 0), (45, .iadd, 0, 0, 0), (46, .bipush 6, 0, 0, 0), (48, .invokevirtual 306, 141, 2, 41), (51, .iload_n 3, 0, 0, 0), (52, .if_icmp .gt 6, 58, 0, 0), (55, .iinc 5 1, 0, 0, 0), (58, .iinc 6 1, 0, 0, 0), (61, .goto (-26), 35, 0, 0), (64, .iload 5, 0, 0, 0), (66, .iload_n 2, 0, 0, 0), (67, .invokestatic 310, 138, 2, 41), (70, .istore 6, 0, 0, 0), (72, .iload 4, 0, 0, 0), (74, .ifCond .ne 8, 82, 0, 0), (77, .iload 5, 0, 0, 0), (79, .goto 4, 83, 0, 0), (82, .iload_n 2, 0, 0, 0), (83, .iload 6, 0, 0, 0), (85, .idiv, 0, 0, 0), (86, .ireturn, 0, 0, 0)]
set_option maxRecDepth 100000 in
theorem sk_k122 : sk_mOK sk_inf sk_nest (sk_inf 122) sk_t122 := sk_mOK_of 11 false rfl (fun h => absurd h (by decide)) (by decide +kernel) (by decide +kernel)
def sk_t123 : List sk_E := [(0, .iload_n 1, 0, 0, 0), (1, .invokestatic 165, 136, 1, 41), (4, .ifCond .eq 12, 16, 0, 0), (7, .iload_n 2, 0, 0, 0), (8, .ifCond .lt 8, 16, 0, 0), (11, .iload_n 2, 0, 0, 0), (12, .iconst 2, 0, 0, 0), (13, .if_icmp .le 6, 19, 0, 0), (16, .bipush (-2), 0, 0, 0), (18, .ireturn, 0, 0, 0), (19, .aload_n 0, 0, 0, 0), (20, .getfield 58, 10, 8, 1), (23, .iload_n 1, 0, 0, 0), (24, .aaload, 0, 0, 0), (25, .astore_n 3, 0, 0, 0), (26, .aload_n 3, 0, 0, 0), (27, .invokevirtual 313, 79, 0, 25), (30, .ifCond .eq 6, 36, 0, 0), (33, .bipush (-11), 0, 0, 0), (35, .ireturn, 0, 0, 0), (36, .aload_n 3, 0, 0, 0), (37, .getfield 314, 6, 2, 0), (40, .bipush 20, 0, 0, 0), (42, .if_icmp .le 6, 48, 0, 0), (45, .bipush (-2), 0, 0, 0), (47, .ireturn, 0, 0, 0), (48, .iload_n 2, 0, 0, 0), (49, .ifCond .ne 12, 61, 0, 0), (52, .aload_n 3, 0, 0, 0), (53, .aload_n 0, 0, 0, 0), (54, .getfield 19, 10, 1, 1), (57, .invokevirtual 315, 81, 1, 25), (60, .ireturn, 0, 0, 0), (61, .aload_n 0, 0, 0, 0), (62, .getfield 26, 10, 3, 1), (65, .aload_n 0, 0, 0, 0), (66, .getfield 19, 10, 1, 1), (69, .invokevirtual 263, 36, 1, 12), (72, .iload_n 2, 0, 0, 0), (73, .iconst 1, 0, 0, 0), (74, .if_icmp .ne 11, 85, 0, 0), (77, .aload_n 0, 0, 0, 0), (78, .aload_n 3, 0, 0, 0), (79, .invokevirtual 318, 142, 1, 41), (82, .goto 8, 90, 0, 0), (85, .aload_n 0, 0, 0, 0), (86, .aload_n 3, 0, 0, 0), (87, .invokevirtual 322, 143, 1, 41), (90, .ireturn, 0, 0, 0)]
set_option maxRecDepth 100000 in
theorem sk_k123 : sk_mOK sk_inf sk_nest (sk_inf 123) sk_t123 := sk_mOK_of 11 false rfl (fun h => absurd h (by decide)) (by decide +kernel) (by decide +kernel)
def sk_t124 : List sk_E := [(0, .iload_n 1, 0, 0, 0), (1, .invokestatic 165, 136, 1, 41), (4, .ifCond .eq 16, 20, 0, 0), (7, .iload_n 2, 0, 0, 0), (8, .invokestatic 140, 135, 1, 41), (11, .ifCond .eq 9, 20, 0, 0), (14, .iload_n 3, 0, 0, 0), (15, .bipush 10, 0, 0, 0), (17, .if_icmp .le 6, 23, 0, 0), (20, .bipush (-2), 0, 0, 0), (22, .ireturn, 0, 0, 0), (23, .iload_n 3, 0, 0, 0), (24, .ifCond .ge 6, 30, 0, 0), (27, .bipush (-14), 0, 0, 0), (29, .ireturn, 0, 0, 0), (30, .aload_n 0, 0, 0, 0), (31, .getfield 52, 10, 7, 1), (34, .iload_n 1, 0, 0, 0), (35, .aaload, 0, 0, 0), (36, .iload_n 2, 0, 0, 0), (37, .iload_n 3, 0, 0, 0), (38, .invokevirtual 325, 64, 2, 16), (41, .iconst 1, 0, 0, 0), (42, .ireturn, 0, 0, 0)]
set_option maxRecDepth 100000 in
theorem sk_k124 : sk_mOK sk_inf sk_nest (sk_inf 124) sk_t124 := sk_mOK_of 11 false rfl (fun h => absurd h (by decide)) (by decide +kernel) (by decide +kernel)
def sk_t125 : List sk_E := [(0, .iload_n 1, 0, 0, 0), (1, .invokestatic 165, 136, 1, 41), (4, .ifCond .eq 19, 23, 0, 0), (7, .iload_n 3, 0, 0, 0), (8, .iconst (-1), 0, 0, 0), (9, .if_icmp .eq 17, 26, 0, 0), (12, .aload_n 0, 0, 0, 0), (13, .getfield 19, 10, 1, 1), (16, .iload_n 3, 0, 0, 0), (17, .invokevirtual 109, 39, 1, 13), (20, .ifCond .ne 6, 26, 0, 0), (23, .bipush (-2), 0, 0, 0), (25, .ireturn, 0, 0, 0), (26, .aload_n 0, 0, 0, 0), (27, .getfield 52, 10, 7, 1), (30, .iload_n 1, 0, 0, 0), (31, .aaload, 0, 0, 0), (32, .astore 4, 0, 0, 0), (34, .aload 4, 0, 0, 0), (36, .invokevirtual 174, 63, 0, 17), (39, .ifCond .eq 6, 45, 0, 0), (42, .bipush (-11), 0, 0, 0), (44, .ireturn, 0, 0, 0), (45, .iload_n 2, 0, 0, 0), (46, .ifCond .lt 12, 58, 0, 0), (49, .iload_n 2, 0, 0, 0), (50, .aload 4, 0, 0, 0), (52, .getfield 328, 4, 2, 0), (55, .if_icmp .lt 6, 61, 0, 0), (58, .bipush (-12), 0, 0, 0), (60, .ireturn, 0, 0, 0), (61, .aload 4, 0, 0, 0), (63, .aload_n 0, 0, 0, 0), (64, .getfield 19, 10, 1, 1), (67, .iload_n 3, 0, 0, 0), (68, .invokevirtual 329, 66, 2, 17), (71, .ifCond .ne 6, 77, 0, 0), (74, .bipush (-16), 0, 0, 0), (76, .ireturn, 0, 0, 0), (77, .aload 4, 0, 0, 0), (79, .getfield 333, 4, 0, 1), (82, .iload_n 2, 0, 0, 0), (83, .iload_n 3, 0, 0, 0), (84, .iastore, 0, 0, 0), (85, .iconst 1, 0, 0, 0), (86, .ireturn, 0, 0, 0)]
set_option maxRecDepth 100000 in
theorem sk_k125 : sk_mOK sk_inf sk_nest (sk_inf 125) sk_t125 := sk_mOK_of 11 false rfl (fun h => absurd h (by decide)) (by decide +kernel) (by decide +kernel)
def sk_t126 : List sk_E := [(0, .iload_n 1, 0, 0, 0), (1, .invokestatic 165, 136, 1, 41), (4, .ifCond .eq 10, 14, 0, 0), (7, .iload_n 3, 0, 0, 0), (8, .invokestatic 165, 136, 1, 41), (11, .ifCond .ne 6, 17, 0, 0), (14, .bipush (-2), 0, 0, 0), (16, .ireturn, 0, 0, 0), (17, .aload_n 0, 0, 0, 0), (18, .getfield 52, 10, 7, 1), (21, .iload_n 1, 0, 0, 0), (22, .aaload, 0, 0, 0), (23, .astore 6, 0, 0, 0), (25, .aload_n 0, 0, 0, 0), (26, .getfield 52, 10, 7, 1), (29, .iload_n 3, 0, 0, 0), (30, .aaload, 0, 0, 0), (31, .astore 7, 0, 0, 0), (33, .aload 6, 0, 0, 0), (35, .invokevirtual 174, 63, 0, 17), (38, .ifCond .ne 11, 49, 0, 0), (41, .aload 7, 0, 0, 0), (43, .invokevirtual 174, 63, 0, 17), (46, .ifCond .eq 6, 52, 0, 0), (49, .bipush (-11), 0, 0, 0), (51, .ireturn, 0, 0, 0), (52, .iload_n 2, 0, 0, 0), (53, .iload 5, 0, 0, 0), (55, .aload 6, 0, 0, 0), (57, .getfield 328, 4, 2, 0), (60, .invokestatic 336, 137, 3, 41), (63, .ifCond .eq 18, 81, 0, 0), (66, .iload 4, 0, 0, 0), (68, .iload 5, 0, 0, 0), (70, .aload 7, 0, 0, 0), (72, .getfield 328, 4, 2, 0), (75, .invokestatic 336, 137, 3, 41), (78, .ifCond .ne 6, 84, 0, 0), (81, .bipush (-12), 0, 0, 0), (83, .ireturn, 0, 0, 0), (84, .iconst 0, 0, 0, 0), (85, .istore 8, 0, 0, 0), (87, .iload 8, 0, 0, 0), (89, .iload 5, 0, 0, 0), (91, .if_icmp .ge 31, 122, 0, 0), (94, .aload 7, 0, 0, 0), (96, .aload_n 0, 0, 0, 0), (97, .getfield 19, 10, 1, 1), (100, .aload 6, 0, 0, 0), (102, .getfield 333, 4, 0, 1), (105, .iload_n 2, 0, 0, 0), (106, .iload 8, 0, 0, 0), (108, .iadd, 0, 0, 0), (109, .iaload, 0, 0, 0), (110, .invokevirtual 329, 66, 2, 17), (113, .ifCond .eq 9, 122, 0, 0), (116, .iinc 8 1, 0, 0, 0), (119, .goto (-32), 87, 0, 0), (122, .aload 6, 0, 0, 0), (124, .getfield 333, 4, 0, 1), (127, .iload_n 2, 0, 0, 0), (128, .aload 7, 0, 0, 0), (130, .getfield 333, 4, 0, 1), (133, .iload 4, 0, 0, 0), (135, .iload 8, 0, 0, 0), (137, .invokestatic 340, 0, 5, 0), (140, .iload 8, 0, 0, 0), (142, .ireturn, 0, 0, 0)]
set_option maxRecDepth 100000 in
theorem sk_k126 : sk_mOK sk_inf sk_nest (sk_inf 126) sk_t126 := sk_mOK_of 11 false rfl (fun h => absurd h (by decide)) (by decide +kernel) (by decide +kernel)
def sk_t127 : List sk_E := [(0, .iload_n 1, 0, 0, 0), (1, .invokestatic 165, 136, 1, 41), (4, .ifCond .ne 6, 10, 0, 0), (7, .bipush (-2), 0, 0, 0), (9, .ireturn, 0, 0, 0), (10, .aload_n 0, 0, 0, 0), (11, .getfield 52, 10, 7, 1), (14, .iload_n 1, 0, 0, 0), (15, .aaload, 0, 0, 0), (16, .astore_n 3, 0, 0, 0), (17, .aload_n 3, 0, 0, 0), (18, .invokevirtual 174, 63, 0, 17), (21, .ifCond .eq 6, 27, 0, 0), (24, .bipush (-11), 0, 0, 0), (26, .ireturn, 0, 0, 0), (27, .iload_n 2, 0, 0, 0), (28, .ifCond .lt 11, 39, 0, 0), (31, .iload_n 2, 0, 0, 0), (32, .aload_n 3, 0, 0, 0), (33, .getfield 328, 4, 2, 0), (36, .if_icmp .lt 8, 44, 0, 0), (39, .bipush (-12), 0, 0, 0), (41, .goto 9, 50, 0, 0), (44, .aload_n 3, 0, 0, 0), (45, .getfield 333, 4, 0, 1), (48, .iload_n 2, 0, 0, 0), (49, .iaload, 0, 0, 0), (50, .ireturn, 0, 0, 0)]
set_option maxRecDepth 100000 in
theorem sk_k127 : sk_mOK sk_inf sk_nest (sk_inf 127) sk_t127 := sk_mOK_of 11 false rfl (fun h => absurd h (by decide)) (by decide +kernel) (by decide +kernel)
def sk_t128 : List sk_E := [(0, .aload_n 0, 0, 0, 0), (1, .getfield 23, 10, 2, 1), (4, .aload_n 0, 0, 0, 0), (5, .getfield 19, 10, 1, 1), (8, .invokevirtual 263, 36, 1, 12), (11, .aload_n 0, 0, 0, 0), (12, .iconst 1, 0, 0, 0), (13, .putfield 62, 10, 9, 2), (16, .aload_n 0, 0, 0, 0), (17, .getfield 19, 10, 1, 1), (20, .getfield 93, 3, 5, 0), (23, .ireturn, 0, 0, 0)]
set_option maxRecDepth 100000 in
theorem sk_k128 : sk_mOK sk_inf sk_nest (sk_inf 128) sk_t128 := sk_mOK_of 11 false rfl (fun h => absurd h (by decide)) (by decide +kernel) (by decide +kernel)
def sk_t129 : List sk_E := [(0, .aload_n 0, 0, 0, 0), (1, .getfield 62, 10, 9, 0), (4, .ifCond .ne 6, 10, 0, 0), (7, .bipush (-3), 0, 0, 0), (9, .ireturn, 0, 0, 0), (10, .aload_n 0, 0, 0, 0), (11, .getfield 19, 10, 1, 1), (14, .aload_n 0, 0, 0, 0), (15, .getfield 23, 10, 2, 1), (18, .invokevirtual 263, 36, 1, 12), (21, .aload_n 0, 0, 0, 0), (22, .invokevirtual 86, 140, 0, 40), (25, .aload_n 0, 0, 0, 0), (26, .getfield 19, 10, 1, 1), (29, .getfield 93, 3, 5, 0), (32, .ireturn, 0, 0, 0)]
set_option maxRecDepth 100000 in
theorem sk_k129 : sk_mOK sk_inf sk_nest (sk_inf 129) sk_t129 := sk_mOK_of 11 false rfl (fun h => absurd h (by decide)) (by decide +kernel) (by decide +kernel)
def sk_t130 : List sk_E := [(0, .iload_n 1, 0, 0, 0), (1, .tableswitch 111 0 7 #[47, 55, 63, 71, 79, 87, 95, 103], 0, 0, 47), (48, .aload_n 0, 0, 0, 0), (49, .getfield 19, 10, 1, 1), (52, .getfield 93, 3, 5, 0), (55, .ireturn, 0, 0, 0), (56, .aload_n 0, 0, 0, 0), (57, .getfield 19, 10, 1, 1), (60, .getfield 171, 3, 6, 0), (63, .ireturn, 0, 0, 0), (64, .aload_n 0, 0, 0, 0), (65, .getfield 19, 10, 1, 1), (68, .invokevirtual 291, 42, 0, 13), (71, .ireturn, 0, 0, 0), (72, .aload_n 0, 0, 0, 0), (73, .getfield 19, 10, 1, 1), (76, .invokevirtual 346, 43, 0, 13), (79, .ireturn, 0, 0, 0), (80, .aload_n 0, 0, 0, 0), (81, .getfield 10, 10, 0, 1), (84, .getfield 72, 8, 1, 0), (87, .ireturn, 0, 0, 0), (88, .aload_n 0, 0, 0, 0), (89, .getfield 19, 10, 1, 1), (92, .getfield 80, 3, 4, 0), (95, .ireturn, 0, 0, 0), (96, .aload_n 0, 0, 0, 0), (97, .getfield 19, 10, 1, 1), (100, .invokevirtual 349, 60, 0, 13), (103, .ireturn, 0, 0, 0), (104, .aload_n 0, 0, 0, 0), (105, .getfield 19, 10, 1, 1), (108, .invokevirtual 352, 61, 0, 13), (111, .ireturn, 0, 0, 0), (112, .bipush (-2), 0, 0, 0), (114, .ireturn, 0, 0, 0)]
set_option maxRecDepth 100000 in
theorem sk_k130 : sk_mOK sk_inf sk_nest (sk_inf 130) sk_t130 := sk_mOK_of 11 false rfl (fun h => absurd h (by decide)) (by decide +kernel) (by decide +kernel)
def sk_t131 : List sk_E := [(0, .iload_n 1, 0, 0, 0), (1, .invokestatic 165, 136, 1, 41), (4, .ifCond .eq 13, 17, 0, 0), (7, .iload_n 2, 0, 0, 0), (8, .iconst (-1), 0, 0, 0), (9, .if_icmp .lt 8, 17, 0, 0), (12, .iload_n 2, 0, 0, 0), (13, .iconst 1, 0, 0, 0), (14, .if_icmp .le 6, 20, 0, 0), (17, .bipush (-2), 0, 0, 0), (19, .ireturn, 0, 0, 0), (20, .iload_n 2, 0, 0, 0), (21, .iconst (-1), 0, 0, 0), (22, .if_icmp .ne 15, 37, 0, 0), (25, .aload_n 0, 0, 0, 0), (26, .getfield 58, 10, 8, 1), (29, .iload_n 1, 0, 0, 0), (30, .aaload, 0, 0, 0), (31, .iconst (-1), 0, 0, 0), (32, .putfield 355, 6, 1, 0), (35, .iconst 1, 0, 0, 0), (36, .ireturn, 0, 0, 0), (37, .iload_n 3, 0, 0, 0), (38, .bipush 40, 0, 0, 0), (40, .if_icmp .le 6, 46, 0, 0), (43, .bipush (-2), 0, 0, 0), (45, .ireturn, 0, 0, 0), (46, .iload_n 3, 0, 0, 0), (47, .ifCond .ge 6, 53, 0, 0), (50, .bipush (-14), 0, 0, 0), (52, .ireturn, 0, 0, 0), (53, .aload_n 0, 0, 0, 0), (54, .getfield 58, 10, 8, 1), (57, .iload_n 1, 0, 0, 0), (58, .aaload, 0, 0, 0), (59, .iload_n 2, 0, 0, 0), (60, .iload_n 3, 0, 0, 0), (61, .invokevirtual 358, 80, 2, 24), (64, .iconst 1, 0, 0, 0), (65, .ireturn, 0, 0, 0)]
set_option maxRecDepth 100000 in
theorem sk_k131 : sk_mOK sk_inf sk_nest (sk_inf 131) sk_t131 := sk_mOK_of 11 false rfl (fun h => absurd h (by decide)) (by decide +kernel) (by decide +kernel)
def sk_t132 : List sk_E := [(0, .iload_n 1, 0, 0, 0), (1, .invokestatic 165, 136, 1, 41), (4, .ifCond .ne 6, 10, 0, 0), (7, .bipush (-2), 0, 0, 0), (9, .ireturn, 0, 0, 0), (10, .aload_n 0, 0, 0, 0), (11, .getfield 58, 10, 8, 1), (14, .iload_n 1, 0, 0, 0), (15, .aaload, 0, 0, 0), (16, .astore 4, 0, 0, 0), (18, .aload 4, 0, 0, 0), (20, .invokevirtual 313, 79, 0, 25), (23, .ifCond .eq 6, 29, 0, 0), (26, .bipush (-11), 0, 0, 0), (28, .ireturn, 0, 0, 0), (29, .iload_n 2, 0, 0, 0), (30, .ifCond .lt 12, 42, 0, 0), (33, .iload_n 2, 0, 0, 0), (34, .aload 4, 0, 0, 0), (36, .getfield 314, 6, 2, 0), (39, .if_icmp .lt 6, 45, 0, 0), (42, .bipush (-12), 0, 0, 0), (44, .ireturn, 0, 0, 0), (45, .aload 4, 0, 0, 0), (47, .getfield 359, 6, 0, 1), (50, .iload_n 2, 0, 0, 0), (51, .aload 4, 0, 0, 0), (53, .getfield 355, 6, 1, 0), (56, .ifCond .ne 8, 64, 0, 0), (59, .iload_n 3, 0, 0, 0), (60, .i2s, 0, 0, 0), (61, .goto 4, 65, 0, 0), (64, .iload_n 3, 0, 0, 0), (65, .iastore, 0, 0, 0), (66, .iconst 1, 0, 0, 0), (67, .ireturn, 0, 0, 0)]
set_option maxRecDepth 100000 in
theorem sk_k132 : sk_mOK sk_inf sk_nest (sk_inf 132) sk_t132 := sk_mOK_of 11 false rfl (fun h => absurd h (by decide)) (by decide +kernel) (by decide +kernel)
def sk_t133 : List sk_E := [(0, .iload_n 1, 0, 0, 0), (1, .invokestatic 165, 136, 1, 41), (4, .ifCond .eq 10, 14, 0, 0), (7, .iload_n 3, 0, 0, 0), (8, .invokestatic 165, 136, 1, 41), (11, .ifCond .ne 6, 17, 0, 0), (14, .bipush (-2), 0, 0, 0), (16, .ireturn, 0, 0, 0), (17, .aload_n 0, 0, 0, 0), (18, .getfield 58, 10, 8, 1), (21, .iload_n 1, 0, 0, 0), (22, .aaload, 0, 0, 0), (23, .astore 6, 0, 0, 0), (25, .aload_n 0, 0, 0, 0), (26, .getfield 58, 10, 8, 1), (29, .iload_n 3, 0, 0, 0), (30, .aaload, 0, 0, 0), (31, .astore 7, 0, 0, 0), (33, .aload 6, 0, 0, 0), (35, .invokevirtual 313, 79, 0, 25), (38, .ifCond .ne 11, 49, 0, 0), (41, .aload 7, 0, 0, 0), (43, .invokevirtual 313, 79, 0, 25), (46, .ifCond .eq 6, 52, 0, 0), (49, .bipush (-11), 0, 0, 0), (51, .ireturn, 0, 0, 0), (52, .aload 6, 0, 0, 0), (54, .getfield 355, 6, 1, 0), (57, .aload 7, 0, 0, 0), (59, .getfield 355, 6, 1, 0), (62, .if_icmp .eq 6, 68, 0, 0), (65, .bipush (-13), 0, 0, 0), (67, .ireturn, 0, 0, 0), (68, .iload_n 2, 0, 0, 0), (69, .iload 5, 0, 0, 0), (71, .aload 6, 0, 0, 0), (73, .getfield 314, 6, 2, 0), (76, .invokestatic 336, 137, 3, 41), (79, .ifCond .eq 18, 97, 0, 0), (82, .iload 4, 0, 0, 0), (84, .iload 5, 0, 0, 0), (86, .aload 7, 0, 0, 0), (88, .getfield 314, 6, 2, 0), (91, .invokestatic 336, 137, 3, 41), (94, .ifCond .ne 6, 100, 0, 0), (97, .bipush (-12), 0, 0, 0), (99, .ireturn, 0, 0, 0), (100, .aload 6, 0, 0, 0), (102, .getfield 359, 6, 0, 1), (105, .iload_n 2, 0, 0, 0), (106, .aload 7, 0, 0, 0), (108, .getfield 359, 6, 0, 1), (111, .iload 4, 0, 0, 0), (113, .iload 5, 0, 0, 0), (115, .invokestatic 340, 0, 5, 0), (118, .iload 5, 0, 0, 0), (120, .ireturn, 0, 0, 0)]
set_option maxRecDepth 100000 in
theorem sk_k133 : sk_mOK sk_inf sk_nest (sk_inf 133) sk_t133 := sk_mOK_of 11 false rfl (fun h => absurd h (by decide)) (by decide +kernel) (by decide +kernel)
def sk_t134 : List sk_E := [(0, .iload_n 0, 0, 0, 0), (1, .ifCond .lt 14, 15, 0, 0), (4, .iload_n 0, 0, 0, 0), (5, .sipush 255, 0, 0, 0), (8, .if_icmp .gt 7, 15, 0, 0), (11, .iconst 1, 0, 0, 0), (12, .goto 4, 16, 0, 0), (15, .iconst 0, 0, 0, 0), (16, .ireturn, 0, 0, 0)]
set_option maxRecDepth 100000 in
theorem sk_k134 : sk_mOK sk_inf sk_nest (sk_inf 134) sk_t134 := sk_mOK_of 11 false rfl (fun h => absurd h (by decide)) (by decide +kernel) (by decide +kernel)
def sk_t135 : List sk_E := [(0, .iload_n 0, 0, 0, 0), (1, .ifCond .lt 13, 14, 0, 0), (4, .iload_n 0, 0, 0, 0), (5, .bipush 6, 0, 0, 0), (7, .if_icmp .ge 7, 14, 0, 0), (10, .iconst 1, 0, 0, 0), (11, .goto 4, 15, 0, 0), (14, .iconst 0, 0, 0, 0), (15, .ireturn, 0, 0, 0)]
set_option maxRecDepth 100000 in
theorem sk_k135 : sk_mOK sk_inf sk_nest (sk_inf 135) sk_t135 := sk_mOK_of 11 false rfl (fun h => absurd h (by decide)) (by decide +kernel) (by decide +kernel)
def sk_t136 : List sk_E := [(0, .iload_n 0, 0, 0, 0), (1, .ifCond .lt 12, 13, 0, 0), (4, .iload_n 0, 0, 0, 0), (5, .iconst 4, 0, 0, 0), (6, .if_icmp .ge 7, 13, 0, 0), (9, .iconst 1, 0, 0, 0), (10, .goto 4, 14, 0, 0), (13, .iconst 0, 0, 0, 0), (14, .ireturn, 0, 0, 0)]
set_option maxRecDepth 100000 in
theorem sk_k136 : sk_mOK sk_inf sk_nest (sk_inf 136) sk_t136 := sk_mOK_of 11 false rfl (fun h => absurd h (by decide)) (by decide +kernel) (by decide +kernel)
def sk_t137 : List sk_E := [(0, .iload_n 1, 0, 0, 0), (1, .ifCond .lt 23, 24, 0, 0), (4, .iload_n 0, 0, 0, 0), (5, .ifCond .lt 19, 24, 0, 0), (8, .iload_n 1, 0, 0, 0), (9, .iload_n 2, 0, 0, 0), (10, .if_icmp .gt 14, 24, 0, 0), (13, .iload_n 0, 0, 0, 0), (14, .iload_n 2, 0, 0, 0), (15, .iload_n 1, 0, 0, 0), (16, .isub, 0, 0, 0), (17, .if_icmp .gt 7, 24, 0, 0), (20, .iconst 1, 0, 0, 0), (21, .goto 4, 25, 0, 0), (24, .iconst 0, 0, 0, 0), (25, .ireturn, 0, 0, 0)]
set_option maxRecDepth 100000 in
theorem sk_k137 : sk_mOK sk_inf sk_nest (sk_inf 137) sk_t137 := sk_mOK_of 11 false rfl (fun h => absurd h (by decide)) (by decide +kernel) (by decide +kernel)
def sk_t138 : List sk_E := [(0, .iload_n 0, 0, 0, 0), (1, .istore_n 2, 0, 0, 0), (2, .iload_n 1, 0, 0, 0), (3, .istore_n 3, 0, 0, 0), (4, .iconst 0, 0, 0, 0), (5, .istore 4, 0, 0, 0), (7, .iload 4, 0, 0, 0), (9, .bipush 64, 0, 0, 0), (11, .if_icmp .ge 23, 34, 0, 0), (14, .iload_n 2, 0, 0, 0), (15, .ifCond .eq 19, 34, 0, 0), (18, .iload_n 3, 0, 0, 0), (19, .iload_n 2, 0, 0, 0), (20, .irem, 0, 0, 0), (21, .istore 5, 0, 0, 0), (23, .iload_n 2, 0, 0, 0), (24, .istore_n 3, 0, 0, 0), (25, .iload 5, 0, 0, 0), (27, .istore_n 2, 0, 0, 0), (28, .iinc 4 1, 0, 0, 0), (31, .goto (-24), 7, 0, 0), (34, .iload_n 3, 0, 0, 0), (35, .ireturn, 0, 0, 0)]
set_option maxRecDepth 100000 in
theorem sk_k138 : sk_mOK sk_inf sk_nest (sk_inf 138) sk_t138 := sk_mOK_of 11 false rfl (fun h => absurd h (by decide)) (by decide +kernel) (by decide +kernel)
def sk_t139 : List sk_E := [(0, .fload_n 0, 0, 0, 0), (1, .fstore_n 1, 0, 0, 0), (2, .bipush 127, 0, 0, 0), (4, .istore_n 2, 0, 0, 0), (5, .iconst 0, 0, 0, 0), (6, .istore_n 3, 0, 0, 0), (7, .iload_n 3, 0, 0, 0), (8, .bipush 127, 0, 0, 0), (10, .if_icmp .ge 22, 32, 0, 0), (13, .fload_n 1, 0, 0, 0), (14, .fconst 2, 0, 0, 0), (15, .fcmp .l, 0, 0, 0), (16, .ifCond .lt 16, 32, 0, 0), (19, .fload_n 1, 0, 0, 0), (20, .fconst 2, 0, 0, 0), (21, .fdiv, 0, 0, 0), (22, .fstore_n 1, 0, 0, 0), (23, .iinc 2 1, 0, 0, 0), (26, .iinc 3 1, 0, 0, 0), (29, .goto (-22), 7, 0, 0), (32, .iconst 0, 0, 0, 0), (33, .istore_n 3, 0, 0, 0), (34, .iload_n 3, 0, 0, 0), (35, .bipush 126, 0, 0, 0), (37, .if_icmp .ge 22, 59, 0, 0), (40, .fload_n 1, 0, 0, 0), (41, .fconst 1, 0, 0, 0), (42, .fcmp .g, 0, 0, 0), (43, .ifCond .ge 16, 59, 0, 0), (46, .fload_n 1, 0, 0, 0), (47, .fconst 2, 0, 0, 0), (48, .fmul, 0, 0, 0), (49, .fstore_n 1, 0, 0, 0), (50, .iinc 2 (-1), 0, 0, 0), (53, .iinc 3 1, 0, 0, 0), (56, .goto (-22), 34, 0, 0), (59, .iload_n 2, 0, 0, 0), (60, .bipush 23, 0, 0, 0), (62, .ishl, 0, 0, 0), (63, .fload_n 1, 0, 0, 0), (64, .fconst 1, 0, 0, 0), (65, .fsub, 0, 0, 0), (66, .ldc_w 364, 1258291200, 1, 0), (69, .fmul, 0, 0, 0), (70, .f2i, 0, 0, 0), (71, .iadd, 0, 0, 0), (72, .ireturn, 0, 0, 0)]
set_option maxRecDepth 100000 in
theorem sk_k139 : sk_mOK sk_inf sk_nest (sk_inf 139) sk_t139 := sk_mOK_of 11 false rfl (fun h => absurd h (by decide)) (by decide +kernel) (by decide +kernel)
def sk_t140 : List sk_E := [(0, .iconst 0, 0, 0, 0), (1, .istore_n 1, 0, 0, 0), (2, .iload_n 1, 0, 0, 0), (3, .iconst 4, 0, 0, 0), (4, .if_icmp .ge 18, 22, 0, 0), (7, .aload_n 0, 0, 0, 0), (8, .getfield 52, 10, 7, 1), (11, .iload_n 1, 0, 0, 0), (12, .aaload, 0, 0, 0), (13, .invokevirtual 365, 65, 0, 16), (16, .iinc 1 1, 0, 0, 0), (19, .goto (-17), 2, 0, 0), (22, .return_, 0, 0, 0)]
set_option maxRecDepth 100000 in
theorem sk_k140 : sk_mOK sk_inf sk_nest (sk_inf 140) sk_t140 := sk_mOK_of 11 false rfl (fun h => absurd h (by decide)) (by decide +kernel) (by decide +kernel)
def sk_t141 : List sk_E := [(0, .aload_n 0, 0, 0, 0), (1, .getfield 26, 10, 3, 1), (4, .aload_n 0, 0, 0, 0), (5, .getfield 19, 10, 1, 1), (8, .invokevirtual 263, 36, 1, 12), (11, .aload_n 0, 0, 0, 0), (12, .getfield 26, 10, 3, 1), (15, .getfield 171, 3, 6, 0), (18, .istore_n 3, 0, 0, 0), (19, .iload_n 1, 0, 0, 0), (20, .istore 4, 0, 0, 0), (22, .iconst 0, 0, 0, 0), (23, .istore 5, 0, 0, 0), (25, .iload 5, 0, 0, 0), (27, .iload_n 2, 0, 0, 0), (28, .if_icmp .ge 66, 94, 0, 0), (31, .iload_n 3, 0, 0, 0), (32, .ifCond .le 62, 94, 0, 0), (35, .iload 4, 0, 0, 0), (37, .ldc_w 367, 1103515245, 0, 0), (40, .imul, 0, 0, 0), (41, .sipush 12345, 0, 0, 0), (44, .iadd, 0, 0, 0), (45, .istore 4, 0, 0, 0), (47, .iload 4, 0, 0, 0), (49, .bipush 9, 0, 0, 0), (51, .iushr, 0, 0, 0), (52, .iload_n 3, 0, 0, 0), (53, .irem, 0, 0, 0), (54, .istore 6, 0, 0, 0), (56, .iload 4, 0, 0, 0), (58, .ldc_w 367, 1103515245, 0, 0), (61, .imul, 0, 0, 0), (62, .sipush 12345, 0, 0, 0), (65, .iadd, 0, 0, 0), (66, .istore 4, 0, 0, 0), (68, .iload 4, 0, 0, 0), (70, .bipush 9, 0, 0, 0), (72, .iushr, 0, 0, 0), (73, .iload_n 3, 0, 0, 0), (74, .irem, 0, 0, 0), (75, .istore 7, 0, 0, 0), (77, .aload_n 0, 0, 0, 0), (78, .getfield 26, 10, 3, 1), (81, .iload 6, 0, 0, 0), (83, .iload 7, 0, 0, 0), (85, .invokevirtual 185, 47, 2, 12), (88, .iinc 5 1, 0, 0, 0), (91, .goto (-66), 25, 0, 0), (94, .aload_n 0, 0, 0, 0), (95, .getfield 32, 10, 4, 1), (98, .aload_n 0, 0, 0, 0), (99, .getfield 26, 10, 3, 1), (102, .invokevirtual 225, 18, 1, 5), (105, .pop, 0, 0, 0), (106, .aload_n 0, 0, 0, 0), (107, .getfield 26, 10, 3, 1), (110, .invokevirtual 346, 43, 0, 13), (113, .ireturn, 0, 0, 0)]
set_option maxRecDepth 100000 in
theorem sk_k141 : sk_mOK sk_inf sk_nest (sk_inf 141) sk_t141 := sk_mOK_of 11 false rfl (fun h => absurd h (by decide)) (by decide +kernel) (by decide +kernel)
def sk_t142 : List sk_E := [(0, .iconst 0, 0, 0, 0), (1, .istore_n 2, 0, 0, 0), (2, .iconst 0, 0, 0, 0), (3, .istore_n 3, 0, 0, 0), (4, .iload_n 3, 0, 0, 0), (5, .iconst 4, 0, 0, 0), (6, .if_icmp .ge 47, 53, 0, 0), (9, .aload_n 0, 0, 0, 0), (10, .getfield 26, 10, 3, 1), (13, .iload_n 3, 0, 0, 0), (14, .putfield 193, 3, 7, 0), (17, .aload_n 0, 0, 0, 0), (18, .getfield 32, 10, 4, 1), (21, .aload_n 0, 0, 0, 0), (22, .getfield 26, 10, 3, 1), (25, .invokevirtual 225, 18, 1, 5), (28, .pop, 0, 0, 0), (29, .aload_n 1, 0, 0, 0), (30, .aload_n 0, 0, 0, 0), (31, .getfield 26, 10, 3, 1), (34, .invokevirtual 315, 81, 1, 25), (37, .iconst (-1), 0, 0, 0), (38, .if_icmp .ne 9, 47, 0, 0), (41, .iload_n 2, 0, 0, 0), (42, .iconst 1, 0, 0, 0), (43, .iload_n 3, 0, 0, 0), (44, .ishl, 0, 0, 0), (45, .ior, 0, 0, 0), (46, .istore_n 2, 0, 0, 0), (47, .iinc 3 1, 0, 0, 0), (50, .goto (-46), 4, 0, 0), (53, .iload_n 2, 0, 0, 0), (54, .ireturn, 0, 0, 0)]
set_option maxRecDepth 100000 in
theorem sk_k142 : sk_mOK sk_inf sk_nest (sk_inf 142) sk_t142 := sk_mOK_of 11 false rfl (fun h => absurd h (by decide)) (by decide +kernel) (by decide +kernel)
def sk_t143 : List sk_E := [(0, .iconst 0, 0, 0, 0), (1, .istore_n 2, 0, 0, 0), (2, .iconst 0, 0, 0, 0), (3, .istore_n 3, 0, 0, 0), (4, .iload_n 3, 0, 0, 0), (5, .aload_n 0, 0, 0, 0), (6, .getfield 26, 10, 3, 1), (9, .getfield 171, 3, 6, 0), (12, .if_icmp .ge 79, 91, 0, 0), (15, .iload_n 3, 0, 0, 0), (16, .iconst 1, 0, 0, 0), (17, .iadd, 0, 0, 0), (18, .istore 4, 0, 0, 0), (20, .iload 4, 0, 0, 0), (22, .aload_n 0, 0, 0, 0), (23, .getfield 26, 10, 3, 1), (26, .getfield 171, 3, 6, 0), (29, .if_icmp .ge 56, 85, 0, 0), (32, .aload_n 0, 0, 0, 0), (33, .getfield 26, 10, 3, 1), (36, .iload_n 3, 0, 0, 0), (37, .iload 4, 0, 0, 0), (39, .invokevirtual 185, 47, 2, 12), (42, .aload_n 0, 0, 0, 0), (43, .getfield 32, 10, 4, 1), (46, .aload_n 0, 0, 0, 0), (47, .getfield 26, 10, 3, 1), (50, .invokevirtual 225, 18, 1, 5), (53, .pop, 0, 0, 0), (54, .aload_n 1, 0, 0, 0), (55, .aload_n 0, 0, 0, 0), (56, .getfield 26, 10, 3, 1), (59, .invokevirtual 315, 81, 1, 25), (62, .iconst (-1), 0, 0, 0), (63, .if_icmp .ne 6, 69, 0, 0), (66, .iinc 2 1, 0, 0, 0), (69, .aload_n 0, 0, 0, 0), (70, .getfield 26, 10, 3, 1), (73, .iload_n 3, 0, 0, 0), (74, .iload 4, 0, 0, 0), (76, .invokevirtual 185, 47, 2, 12), (79, .iinc 4 1, 0, 0, 0), (82, .goto (-62), 20, 0, 0), (85, .iinc 3 1, 0, 0, 0), (88, .goto (-84), 4, 0, 0), (91, .iload_n 2, 0, 0, 0), (92, .ireturn, 0, 0, 0)]
set_option maxRecDepth 100000 in
theorem sk_k143 : sk_mOK sk_inf sk_nest (sk_inf 143) sk_t143 := sk_mOK_of 11 false rfl (fun h => absurd h (by decide)) (by decide +kernel) (by decide +kernel)
def sk_t144 : List sk_E := [(0, .iload_n 0, 0, 0, 0), (1, .iload_n 1, 0, 0, 0), (2, .if_icmp .lt 12, 14, 0, 0), (5, .iload_n 0, 0, 0, 0), (6, .iload_n 2, 0, 0, 0), (7, .if_icmp .gt 7, 14, 0, 0), (10, .iconst 1, 0, 0, 0), (11, .goto 4, 15, 0, 0), (14, .iconst 0, 0, 0, 0), (15, .ireturn, 0, 0, 0)]
set_option maxRecDepth 100000 in
theorem sk_k144 : sk_mOK sk_inf sk_nest (sk_inf 144) sk_t144 := sk_mOK_of 12 false rfl (fun h => absurd h (by decide)) (by decide +kernel) (by decide +kernel)
def sk_t145 : List sk_E := [(0, .aload_n 0, 0, 0, 0), (1, .invokespecial 3, 0, 0, 0), (4, .aload_n 0, 0, 0, 0), (5, .iconst 3, 0, 0, 0), (6, .sipush 1141, 0, 0, 0), (9, .multianewarray 9 2, 0, 0, 0), (13, .putfield 11, 11, 0, 3), (16, .aload_n 0, 0, 0, 0), (17, .aload_n 0, 0, 0, 0), (18, .getfield 11, 11, 0, 1), (21, .iconst 0, 0, 0, 0), (22, .aaload, 0, 0, 0), (23, .putfield 14, 11, 1, 3), (26, .aload_n 0, 0, 0, 0), (27, .bipush 60, 0, 0, 0), (29, .newarray .int, 0, 0, 0), (31, .putfield 18, 11, 3, 3), (34, .aload_n 0, 0, 0, 0), (35, .sipush 300, 0, 0, 0), (38, .newarray .int, 0, 0, 0), (40, .putfield 21, 11, 5, 3), (43, .aload_n 0, 0, 0, 0), (44, .bipush 10, 0, 0, 0), (46, .newarray .int, 0, 0, 0), (48, .putfield 24, 11, 11, 3), (51, .aload_n 0, 0, 0, 0), (52, .sipush 1220, 0, 0, 0), (55, .newarray .int, 0, 0, 0), (57, .putfield 27, 11, 12, 3), (60, .aload_n 0, 0, 0, 0), (61, .bipush 120, 0, 0, 0), (63, .newarray .int, 0, 0, 0), (65, .putfield 30, 11, 13, 3), (68, .aload_n 0, 0, 0, 0), (69, .bipush 10, 0, 0, 0), (71, .newarray .int, 0, 0, 0), (73, .putfield 33, 11, 14, 3), (76, .aload_n 0, 0, 0, 0), (77, .bipush 10, 0, 0, 0), (79, .newarray .int, 0, 0, 0), (81, .putfield 36, 11, 15, 3), (84, .aload_n 0, 0, 0, 0), (85, .iconst 4, 0, 0, 0), (86, .newarray .int, 0, 0, 0), (88, .dup, 0, 0, 0), (89, .iconst 0, 0, 0, 0), (90, .iconst (-1), 0, 0, 0), (91, .iastore, 0, 0, 0), (92, .dup, 0, 0, 0), (93, .iconst 1, 0, 0, 0), (94, .iconst (-1), 0, 0, 0), (95, .iastore, 0, 0, 0), (96, .dup, 0, 0, 0), (97, .iconst 2, 0, 0, 0), (98, .iconst (-1), 0, 0, 0), (99, .iastore, 0, 0, 0), (100, .dup, 0, 0, 0), (101, .iconst 3, 0, 0, 0), (102, .iconst (-1), 0, 0, 0), (103, .iastore, 0, 0, 0), (104, .putfield 39, 11, 16, 3), (107, .aload_n 0, 0, 0, 0), (108, .iconst 4, 0, 0, 0), (109, .newarray .int, 0, 0, 0), (111, .putfield 42, 11, 17, 3), (114, .aload_n 0, 0, 0, 0), (115, .iconst 4, 0, 0, 0), (116, .bipush 10, 0, 0, 0), (118, .multianewarray 9 2, 0, 0, 0), (122, .putfield 45, 11, 18, 3), (125, .aload_n 0, 0, 0, 0), (126, .bipush 10, 0, 0, 0), (128, .newarray .int, 0, 0, 0), (130, .putfield 48, 11, 19, 3), (133, .aload_n 0, 0, 0, 0), (134, .iconst 4, 0, 0, 0), (135, .newarray .int, 0, 0, 0), (137, .dup, 0, 0, 0), (138, .iconst 0, 0, 0, 0), (139, .iconst (-1), 0, 0, 0), (140, .iastore, 0, 0, 0), (141, .dup, 0, 0, 0), (142, .iconst 1, 0, 0, 0), (143, .iconst (-1), 0, 0, 0), (144, .iastore, 0, 0, 0), (145, .dup, 0, 0, 0), (146, .iconst 2, 0, 0, 0), (147, .iconst (-1), 0, 0, 0), (148, .iastore, 0, 0, 0), (149, .dup, 0, 0, 0), (150, .iconst 3, 0, 0, 0), (151, .iconst (-1), 0, 0, 0), (152, .iastore, 0, 0, 0), (153, .putfield 51, 11, 20, 3), (156, .aload_n 0, 0, 0, 0), (157, .iconst 4, 0, 0, 0), (158, .newarray .int, 0, 0, 0), (160, .putfield 54, 11, 21, 3), (163, .aload_n 0, 0, 0, 0), (164, .iconst 4, 0, 0, 0), (165, .bipush 40, 0, 0, 0), (167, .multianewarray 9 2, 0, 0, 0), (171, .putfield 57, 11, 22, 3), (174, .aload_n 0, 0, 0, 0), (175, .bipush 40, 0, 0, 0), (177, .newarray .int, 0, 0, 0), (179, .putfield 60, 11, 23, 3), (182, .aload_n 0, 0, 0, 0), (183, .getfield 14, 11, 1, 1), (186, .iconst 0, 0, 0, 0), (187, .bipush 10, 0, 0, 0), (189, .iastore, 0, 0, 0), (190, .aload_n 0, 0, 0, 0), (191, .getfield 14, 11, 1, 1), (194, .iconst 4, 0, 0, 0), (195, .iconst 1, 0, 0, 0), (196, .iastore, 0, 0, 0), (197, .return_, 0, 0, 0)]
set_option maxRecDepth 100000 in
theorem sk_k145 : sk_mOK sk_inf sk_nest (sk_inf 145) sk_t145 := sk_mOK_of 12 true rfl (fun h => rfl) (by decide +kernel) (by decide +kernel)
def sk_t146 : List sk_E := [(0, .aload_n 0, 0, 0, 0), (1, .getfield 14, 11, 1, 1), (4, .iconst 0, 0, 0, 0), (5, .aload_n 0, 0, 0, 0), (6, .getfield 11, 11, 0, 1), (9, .iload_n 1, 0, 0, 0), (10, .aaload, 0, 0, 0), (11, .iconst 0, 0, 0, 0), (12, .sipush 1141, 0, 0, 0), (15, .invokestatic 63, 0, 5, 0), (18, .return_, 0, 0, 0)]
set_option maxRecDepth 100000 in
theorem sk_k146 : sk_mOK sk_inf sk_nest (sk_inf 146) sk_t146 := sk_mOK_of 12 false rfl (fun h => absurd h (by decide)) (by decide +kernel) (by decide +kernel)
def sk_t147 : List sk_E := [(0, .aload_n 0, 0, 0, 0), (1, .getfield 11, 11, 0, 1), (4, .iload_n 1, 0, 0, 0), (5, .aaload, 0, 0, 0), (6, .iconst 0, 0, 0, 0), (7, .aload_n 0, 0, 0, 0), (8, .getfield 14, 11, 1, 1), (11, .iconst 0, 0, 0, 0), (12, .sipush 1141, 0, 0, 0), (15, .invokestatic 63, 0, 5, 0), (18, .return_, 0, 0, 0)]
set_option maxRecDepth 100000 in
theorem sk_k147 : sk_mOK sk_inf sk_nest (sk_inf 147) sk_t147 := sk_mOK_of 12 false rfl (fun h => absurd h (by decide)) (by decide +kernel) (by decide +kernel)
def sk_t148 : List sk_E := [(0, .iload_n 1, 0, 0, 0), (1, .iconst 0, 0, 0, 0), (2, .aload_n 0, 0, 0, 0), (3, .getfield 14, 11, 1, 1), (6, .iconst 1, 0, 0, 0), (7, .iaload, 0, 0, 0), (8, .iconst 1, 0, 0, 0), (9, .isub, 0, 0, 0), (10, .invokestatic 69, 144, 3, 45), (13, .ireturn, 0, 0, 0)]
set_option maxRecDepth 100000 in
theorem sk_k148 : sk_mOK sk_inf sk_nest (sk_inf 148) sk_t148 := sk_mOK_of 12 false rfl (fun h => absurd h (by decide)) (by decide +kernel) (by decide +kernel)
def sk_t149 : List sk_E := [(0, .iload_n 1, 0, 0, 0), (1, .ifCond .eq 8, 9, 0, 0), (4, .iload_n 0, 0, 0, 0), (5, .iload_n 1, 0, 0, 0), (6, .if_icmp .ne 5, 11, 0, 0), (9, .iconst 1, 0, 0, 0), (10, .ireturn, 0, 0, 0), (11, .iload_n 1, 0, 0, 0), (12, .iconst 1, 0, 0, 0), (13, .if_icmp .ne 8, 21, 0, 0), (16, .iload_n 0, 0, 0, 0), (17, .iconst 3, 0, 0, 0), (18, .if_icmp .eq 13, 31, 0, 0), (21, .iload_n 1, 0, 0, 0), (22, .iconst 2, 0, 0, 0), (23, .if_icmp .ne 12, 35, 0, 0), (26, .iload_n 0, 0, 0, 0), (27, .iconst 4, 0, 0, 0), (28, .if_icmp .ne 7, 35, 0, 0), (31, .iconst 1, 0, 0, 0), (32, .goto 4, 36, 0, 0), (35, .iconst 0, 0, 0, 0), (36, .ireturn, 0, 0, 0)]
set_option maxRecDepth 100000 in
theorem sk_k149 : sk_mOK sk_inf sk_nest (sk_inf 149) sk_t149 := sk_mOK_of 12 false rfl (fun h => absurd h (by decide)) (by decide +kernel) (by decide +kernel)
def sk_t150 : List sk_E := [(0, .aload_n 0, 0, 0, 0), (1, .getfield 14, 11, 1, 1), (4, .bipush 7, 0, 0, 0), (6, .iload_n 1, 0, 0, 0), (7, .iadd, 0, 0, 0), (8, .iaload, 0, 0, 0), (9, .iconst 1, 0, 0, 0), (10, .invokestatic 73, 149, 2, 45), (13, .ifCond .eq 25, 38, 0, 0), (16, .aload_n 0, 0, 0, 0), (17, .getfield 14, 11, 1, 1), (20, .bipush 27, 0, 0, 0), (22, .iload_n 1, 0, 0, 0), (23, .iadd, 0, 0, 0), (24, .iaload, 0, 0, 0), (25, .aload_n 0, 0, 0, 0), (26, .getfield 14, 11, 1, 1), (29, .iconst 0, 0, 0, 0), (30, .iaload, 0, 0, 0), (31, .if_icmp .gt 7, 38, 0, 0), (34, .iconst 1, 0, 0, 0), (35, .goto 4, 39, 0, 0), (38, .iconst 0, 0, 0, 0), (39, .ireturn, 0, 0, 0)]
set_option maxRecDepth 100000 in
theorem sk_k150 : sk_mOK sk_inf sk_nest (sk_inf 150) sk_t150 := sk_mOK_of 12 false rfl (fun h => absurd h (by decide)) (by decide +kernel) (by decide +kernel)
def sk_t151 : List sk_E := [(0, .iload_n 2, 0, 0, 0), (1, .ifCond .ne 15, 16, 0, 0), (4, .aload_n 0, 0, 0, 0), (5, .getfield 14, 11, 1, 1), (8, .bipush 17, 0, 0, 0), (10, .iload_n 1, 0, 0, 0), (11, .iadd, 0, 0, 0), (12, .iaload, 0, 0, 0), (13, .goto 12, 25, 0, 0), (16, .aload_n 0, 0, 0, 0), (17, .getfield 14, 11, 1, 1), (20, .bipush 27, 0, 0, 0), (22, .iload_n 1, 0, 0, 0), (23, .iadd, 0, 0, 0), (24, .iaload, 0, 0, 0), (25, .ireturn, 0, 0, 0)]
set_option maxRecDepth 100000 in
theorem sk_k151 : sk_mOK sk_inf sk_nest (sk_inf 151) sk_t151 := sk_mOK_of 12 false rfl (fun h => absurd h (by decide)) (by decide +kernel) (by decide +kernel)
def sk_t152 : List sk_E := [(0, .iload_n 2, 0, 0, 0), (1, .ifCond .ne 15, 16, 0, 0), (4, .aload_n 0, 0, 0, 0), (5, .getfield 14, 11, 1, 1), (8, .bipush 27, 0, 0, 0), (10, .iload_n 1, 0, 0, 0), (11, .iadd, 0, 0, 0), (12, .iaload, 0, 0, 0), (13, .goto 12, 25, 0, 0), (16, .aload_n 0, 0, 0, 0), (17, .getfield 14, 11, 1, 1), (20, .bipush 17, 0, 0, 0), (22, .iload_n 1, 0, 0, 0), (23, .iadd, 0, 0, 0), (24, .iaload, 0, 0, 0), (25, .istore_n 3, 0, 0, 0), (26, .aload_n 0, 0, 0, 0), (27, .getfield 14, 11, 1, 1), (30, .bipush 7, 0, 0, 0), (32, .iload_n 1, 0, 0, 0), (33, .iadd, 0, 0, 0), (34, .iaload, 0, 0, 0), (35, .iconst 3, 0, 0, 0), (36, .if_icmp .ne 9, 45, 0, 0), (39, .iload_n 3, 0, 0, 0), (40, .iconst 1, 0, 0, 0), (41, .iadd, 0, 0, 0), (42, .goto 4, 46, 0, 0), (45, .iload_n 3, 0, 0, 0), (46, .ireturn, 0, 0, 0)]
set_option maxRecDepth 100000 in
theorem sk_k152 : sk_mOK sk_inf sk_nest (sk_inf 152) sk_t152 := sk_mOK_of 12 false rfl (fun h => absurd h (by decide)) (by decide +kernel) (by decide +kernel)
def sk_t153 : List sk_E := [(0, .aload_n 0, 0, 0, 0), (1, .getfield 14, 11, 1, 1), (4, .bipush 7, 0, 0, 0), (6, .iload_n 1, 0, 0, 0), (7, .iadd, 0, 0, 0), (8, .iaload, 0, 0, 0), (9, .istore 5, 0, 0, 0), (11, .aload_n 0, 0, 0, 0), (12, .getfield 14, 11, 1, 1), (15, .bipush 37, 0, 0, 0), (17, .iload_n 1, 0, 0, 0), (18, .iadd, 0, 0, 0), (19, .iaload, 0, 0, 0), (20, .istore 6, 0, 0, 0), (22, .iload 5, 0, 0, 0), (24, .iconst 2, 0, 0, 0), (25, .invokestatic 73, 149, 2, 45), (28, .ifCond .eq 12, 40, 0, 0), (31, .iload_n 2, 0, 0, 0), (32, .iload 6, 0, 0, 0), (34, .irem, 0, 0, 0), (35, .ifCond .eq 5, 40, 0, 0), (38, .iconst 0, 0, 0, 0), (39, .ireturn, 0, 0, 0), (40, .iload 5, 0, 0, 0), (42, .iconst 4, 0, 0, 0), (43, .if_icmp .ne 12, 55, 0, 0), (46, .iload_n 3, 0, 0, 0), (47, .iload 6, 0, 0, 0), (49, .irem, 0, 0, 0), (50, .ifCond .eq 5, 55, 0, 0), (53, .iconst 0, 0, 0, 0), (54, .ireturn, 0, 0, 0), (55, .iload 5, 0, 0, 0), (57, .iconst 5, 0, 0, 0), (58, .if_icmp .ne 10, 68, 0, 0), (61, .iload 4, 0, 0, 0), (63, .iload 6, 0, 0, 0), (65, .if_icmp .ge 7, 72, 0, 0), (68, .iconst 1, 0, 0, 0), (69, .goto 4, 73, 0, 0), (72, .iconst 0, 0, 0, 0), (73, .ireturn, 0, 0, 0)]
set_option maxRecDepth 100000 in
theorem sk_k153 : sk_mOK sk_inf sk_nest (sk_inf 153) sk_t153 := sk_mOK_of 12 false rfl (fun h => absurd h (by decide)) (by decide +kernel) (by decide +kernel)
def sk_t154 : List sk_E := [(0, .aload_n 0, 0, 0, 0), (1, .iload_n 1, 0, 0, 0), (2, .aload_n 0, 0, 0, 0), (3, .getfield 14, 11, 1, 1), (6, .bipush 67, 0, 0, 0), (8, .iload_n 1, 0, 0, 0), (9, .iadd, 0, 0, 0), (10, .iaload, 0, 0, 0), (11, .invokevirtual 77, 151, 2, 45), (14, .ireturn, 0, 0, 0)]
set_option maxRecDepth 100000 in
theorem sk_k154 : sk_mOK sk_inf sk_nest (sk_inf 154) sk_t154 := sk_mOK_of 12 false rfl (fun h => absurd h (by decide)) (by decide +kernel) (by decide +kernel)
def sk_t155 : List sk_E := [(0, .aload_n 0, 0, 0, 0), (1, .iload_n 1, 0, 0, 0), (2, .aload_n 0, 0, 0, 0), (3, .getfield 14, 11, 1, 1), (6, .bipush 67, 0, 0, 0), (8, .iload_n 1, 0, 0, 0), (9, .iadd, 0, 0, 0), (10, .iaload, 0, 0, 0), (11, .invokevirtual 81, 152, 2, 45), (14, .ireturn, 0, 0, 0)]
set_option maxRecDepth 100000 in
theorem sk_k155 : sk_mOK sk_inf sk_nest (sk_inf 155) sk_t155 := sk_mOK_of 12 false rfl (fun h => absurd h (by decide)) (by decide +kernel) (by decide +kernel)
def sk_t156 : List sk_E := [(0, .iload_n 0, 0, 0, 0), (1, .iload 4, 0, 0, 0), (3, .iload 6, 0, 0, 0), (5, .iadd, 0, 0, 0), (6, .if_icmp .ge 32, 38, 0, 0), (9, .iload 4, 0, 0, 0), (11, .iload_n 0, 0, 0, 0), (12, .iload_n 2, 0, 0, 0), (13, .iadd, 0, 0, 0), (14, .if_icmp .ge 24, 38, 0, 0), (17, .iload_n 1, 0, 0, 0), (18, .iload 5, 0, 0, 0), (20, .iload 7, 0, 0, 0), (22, .iadd, 0, 0, 0), (23, .if_icmp .ge 15, 38, 0, 0), (26, .iload 5, 0, 0, 0), (28, .iload_n 1, 0, 0, 0), (29, .iload_n 3, 0, 0, 0), (30, .iadd, 0, 0, 0), (31, .if_icmp .ge 7, 38, 0, 0), (34, .iconst 1, 0, 0, 0), (35, .goto 4, 39, 0, 0), (38, .iconst 0, 0, 0, 0), (39, .ireturn, 0, 0, 0)]
set_option maxRecDepth 100000 in
theorem sk_k156 : sk_mOK sk_inf sk_nest (sk_inf 156) sk_t156 := sk_mOK_of 12 false rfl (fun h => absurd h (by decide)) (by decide +kernel) (by decide +kernel)
def sk_t157 : List sk_E := [(0, .iconst 0, 0, 0, 0), (1, .istore 5, 0, 0, 0), (3, .iload 5, 0, 0, 0), (5, .aload_n 0, 0, 0, 0), (6, .getfield 14, 11, 1, 1), (9, .iconst 1, 0, 0, 0), (10, .iaload, 0, 0, 0), (11, .if_icmp .ge 68, 79, 0, 0), (14, .aload_n 0, 0, 0, 0), (15, .getfield 14, 11, 1, 1), (18, .bipush 77, 0, 0, 0), (20, .iload 5, 0, 0, 0), (22, .iadd, 0, 0, 0), (23, .iaload, 0, 0, 0), (24, .iconst 1, 0, 0, 0), (25, .if_icmp .ne 48, 73, 0, 0), (28, .iload_n 1, 0, 0, 0), (29, .iload_n 2, 0, 0, 0), (30, .iload_n 3, 0, 0, 0), (31, .iload 4, 0, 0, 0), (33, .aload_n 0, 0, 0, 0), (34, .getfield 14, 11, 1, 1), (37, .bipush 47, 0, 0, 0), (39, .iload 5, 0, 0, 0), (41, .iadd, 0, 0, 0), (42, .iaload, 0, 0, 0), (43, .aload_n 0, 0, 0, 0), (44, .getfield 14, 11, 1, 1), (47, .bipush 57, 0, 0, 0), (49, .iload 5, 0, 0, 0), (51, .iadd, 0, 0, 0), (52, .iaload, 0, 0, 0), (53, .aload_n 0, 0, 0, 0), (54, .iload 5, 0, 0, 0), (56, .invokevirtual 84, 154, 1, 45), (59, .aload_n 0, 0, 0, 0), (60, .iload 5, 0, 0, 0), (62, .invokevirtual 88, 155, 1, 45), (65, .invokestatic 91, 156, 8, 45), (68, .ifCond .eq 5, 73, 0, 0), (71, .iconst 1, 0, 0, 0), (72, .ireturn, 0, 0, 0), (73, .iinc 5 1, 0, 0, 0), (76, .goto (-73), 3, 0, 0), (79, .iconst 0, 0, 0, 0), (80, .ireturn, 0, 0, 0)]
set_option maxRecDepth 100000 in
theorem sk_k157 : sk_mOK sk_inf sk_nest (sk_inf 157) sk_t157 := sk_mOK_of 12 false rfl (fun h => absurd h (by decide)) (by decide +kernel) (by decide +kernel)
def sk_t158 : List sk_E := [(0, .iconst 5, 0, 0, 0), (1, .newarray .int, 0, 0, 0), (3, .dup, 0, 0, 0), (4, .iconst 0, 0, 0, 0), (5, .iload_n 2, 0, 0, 0), (6, .iastore, 0, 0, 0), (7, .dup, 0, 0, 0), (8, .iconst 1, 0, 0, 0), (9, .iload_n 3, 0, 0, 0), (10, .iastore, 0, 0, 0), (11, .dup, 0, 0, 0), (12, .iconst 2, 0, 0, 0), (13, .iload 4, 0, 0, 0), (15, .iastore, 0, 0, 0), (16, .dup, 0, 0, 0), (17, .iconst 3, 0, 0, 0), (18, .iload 5, 0, 0, 0), (20, .iastore, 0, 0, 0), (21, .dup, 0, 0, 0), (22, .iconst 4, 0, 0, 0), (23, .iload 6, 0, 0, 0), (25, .iastore, 0, 0, 0), (26, .astore 7, 0, 0, 0), (28, .iload_n 1, 0, 0, 0), (29, .iconst 1, 0, 0, 0), (30, .iconst 5, 0, 0, 0), (31, .invokestatic 69, 144, 3, 45), (34, .ifCond .ne 6, 40, 0, 0), (37, .bipush (-2), 0, 0, 0), (39, .ireturn, 0, 0, 0), (40, .iconst 0, 0, 0, 0), (41, .istore 8, 0, 0, 0), (43, .iload 8, 0, 0, 0), (45, .iconst 5, 0, 0, 0), (46, .if_icmp .ge 27, 73, 0, 0), (49, .aload 7, 0, 0, 0), (51, .iload 8, 0, 0, 0), (53, .iaload, 0, 0, 0), (54, .iconst 0, 0, 0, 0), (55, .sipush 255, 0, 0, 0), (58, .invokestatic 69, 144, 3, 45), (61, .ifCond .ne 6, 67, 0, 0), (64, .bipush (-2), 0, 0, 0), (66, .ireturn, 0, 0, 0), (67, .iinc 8 1, 0, 0, 0), (70, .goto (-27), 43, 0, 0), (73, .aload_n 0, 0, 0, 0), (74, .getfield 95, 11, 4, 0), (77, .iload_n 1, 0, 0, 0), (78, .iadd, 0, 0, 0), (79, .bipush 60, 0, 0, 0), (81, .if_icmp .le 6, 87, 0, 0), (84, .bipush (-4), 0, 0, 0), (86, .ireturn, 0, 0, 0), (87, .iconst 0, 0, 0, 0), (88, .istore 8, 0, 0, 0), (90, .iload 8, 0, 0, 0), (92, .iload_n 1, 0, 0, 0), (93, .if_icmp .ge 26, 119, 0, 0), (96, .aload_n 0, 0, 0, 0), (97, .getfield 18, 11, 3, 1), (100, .aload_n 0, 0, 0, 0), (101, .getfield 95, 11, 4, 0), (104, .iload 8, 0, 0, 0), (106, .iadd, 0, 0, 0), (107, .aload 7, 0, 0, 0), (109, .iload 8, 0, 0, 0), (111, .iaload, 0, 0, 0), (112, .iastore, 0, 0, 0), (113, .iinc 8 1, 0, 0, 0), (116, .goto (-26), 90, 0, 0), (119, .aload_n 0, 0, 0, 0), (120, .dup, 0, 0, 0), (121, .getfield 95, 11, 4, 0), (124, .iload_n 1, 0, 0, 0), (125, .iadd, 0, 0, 0), (126, .putfield 95, 11, 4, 0), (129, .aload_n 0, 0, 0, 0), (130, .getfield 95, 11, 4, 0), (133, .ireturn, 0, 0, 0)]
set_option maxRecDepth 100000 in
theorem sk_k158 : sk_mOK sk_inf sk_nest (sk_inf 158) sk_t158 := sk_mOK_of 12 false rfl (fun h => absurd h (by decide)) (by decide +kernel) (by decide +kernel)
def sk_t159 : List sk_E := [(0, .iload_n 1, 0, 0, 0), (1, .iconst 1, 0, 0, 0), (2, .bipush 20, 0, 0, 0), (4, .invokestatic 69, 144, 3, 45), (7, .ifCond .ne 6, 13, 0, 0), (10, .bipush (-2), 0, 0, 0), (12, .ireturn, 0, 0, 0), (13, .aload_n 0, 0, 0, 0), (14, .getfield 14, 11, 1, 1), (17, .iconst 0, 0, 0, 0), (18, .iaload, 0, 0, 0), (19, .istore_n 2, 0, 0, 0), (20, .aload_n 0, 0, 0, 0), (21, .getfield 14, 11, 1, 1), (24, .iconst 3, 0, 0, 0), (25, .iaload, 0, 0, 0), (26, .istore_n 3, 0, 0, 0), (27, .aload_n 0, 0, 0, 0), (28, .getfield 14, 11, 1, 1), (31, .iconst 4, 0, 0, 0), (32, .iaload, 0, 0, 0), (33, .istore 4, 0, 0, 0), (35, .iconst 0, 0, 0, 0), (36, .istore 5, 0, 0, 0), (38, .iload 5, 0, 0, 0), (40, .sipush 1141, 0, 0, 0), (43, .if_icmp .ge 17, 60, 0, 0), (46, .aload_n 0, 0, 0, 0), (47, .getfield 14, 11, 1, 1), (50, .iload 5, 0, 0, 0), (52, .iconst 0, 0, 0, 0), (53, .iastore, 0, 0, 0), (54, .iinc 5 1, 0, 0, 0), (57, .goto (-19), 38, 0, 0), (60, .aload_n 0, 0, 0, 0), (61, .getfield 14, 11, 1, 1), (64, .iconst 0, 0, 0, 0), (65, .iload_n 1, 0, 0, 0), (66, .iastore, 0, 0, 0), (67, .aload_n 0, 0, 0, 0), (68, .getfield 14, 11, 1, 1), (71, .iconst 3, 0, 0, 0), (72, .iload_n 3, 0, 0, 0), (73, .iastore, 0, 0, 0), (74, .aload_n 0, 0, 0, 0), (75, .getfield 14, 11, 1, 1), (78, .iconst 4, 0, 0, 0), (79, .iload 4, 0, 0, 0), (81, .iastore, 0, 0, 0), (82, .aload_n 0, 0, 0, 0), (83, .invokevirtual 99, 221, 0, 44), (86, .iload_n 2, 0, 0, 0), (87, .ireturn, 0, 0, 0)]
set_option maxRecDepth 100000 in
theorem sk_k159 : sk_mOK sk_inf sk_nest (sk_inf 159) sk_t159 := sk_mOK_of 12 false rfl (fun h => absurd h (by decide)) (by decide +kernel) (by decide +kernel)
def sk_t160 : List sk_E := [(0, .iload_n 1, 0, 0, 0), (1, .aload_n 0, 0, 0, 0), (2, .getfield 95, 11, 4, 0), (5, .if_icmp .ge 12, 17, 0, 0), (8, .aload_n 0, 0, 0, 0), (9, .getfield 18, 11, 3, 1), (12, .iload_n 1, 0, 0, 0), (13, .iaload, 0, 0, 0), (14, .goto 4, 18, 0, 0), (17, .iconst (-1), 0, 0, 0), (18, .ireturn, 0, 0, 0)]
set_option maxRecDepth 100000 in
theorem sk_k160 : sk_mOK sk_inf sk_nest (sk_inf 160) sk_t160 := sk_mOK_of 12 false rfl (fun h => absurd h (by decide)) (by decide +kernel) (by decide +kernel)
def sk_t161 : List sk_E := [(0, .aload_n 0, 0, 0, 0), (1, .iload_n 1, 0, 0, 0), (2, .invokevirtual 102, 160, 1, 45), (5, .bipush 48, 0, 0, 0), (7, .iload_n 2, 0, 0, 0), (8, .iadd, 0, 0, 0), (9, .bipush 57, 0, 0, 0), (11, .invokestatic 69, 144, 3, 45), (14, .ireturn, 0, 0, 0)]
set_option maxRecDepth 100000 in
theorem sk_k161 : sk_mOK sk_inf sk_nest (sk_inf 161) sk_t161 := sk_mOK_of 12 false rfl (fun h => absurd h (by decide)) (by decide +kernel) (by decide +kernel)
def sk_t162 : List sk_E := [(0, .aload_n 0, 0, 0, 0), (1, .iload_n 1, 0, 0, 0), (2, .invokevirtual 102, 160, 1, 45), (5, .bipush 32, 0, 0, 0), (7, .if_icmp .eq 13, 20, 0, 0), (10, .aload_n 0, 0, 0, 0), (11, .iload_n 1, 0, 0, 0), (12, .invokevirtual 102, 160, 1, 45), (15, .bipush 10, 0, 0, 0), (17, .if_icmp .ne 7, 24, 0, 0), (20, .iconst 1, 0, 0, 0), (21, .goto 4, 25, 0, 0), (24, .iconst 0, 0, 0, 0), (25, .ireturn, 0, 0, 0)]
set_option maxRecDepth 100000 in
theorem sk_k162 : sk_mOK sk_inf sk_nest (sk_inf 162) sk_t162 := sk_mOK_of 12 false rfl (fun h => absurd h (by decide)) (by decide +kernel) (by decide +kernel)
def sk_t163 : List sk_E := [(0, .aload_n 0, 0, 0, 0), (1, .iconst 0, 0, 0, 0), (2, .putfield 113, 11, 6, 0), (5, .iconst 0, 0, 0, 0), (6, .istore_n 1, 0, 0, 0), (7, .aload_n 0, 0, 0, 0), (8, .iload_n 1, 0, 0, 0), (9, .invokevirtual 116, 162, 1, 45), (12, .ifCond .eq 9, 21, 0, 0), (15, .iinc 1 1, 0, 0, 0), (18, .goto (-11), 7, 0, 0), (21, .iload_n 1, 0, 0, 0), (22, .aload_n 0, 0, 0, 0), (23, .getfield 95, 11, 4, 0), (26, .if_icmp .lt 10, 36, 0, 0), (29, .aload_n 0, 0, 0, 0), (30, .getfield 113, 11, 6, 0), (33, .ifCond .ne 299, 332, 0, 0), (36, .aload_n 0, 0, 0, 0), (37, .iload_n 1, 0, 0, 0), (38, .invokevirtual 102, 160, 1, 45), (41, .invokestatic 120, 2, 1, 45), (44, .istore_n 2, 0, 0, 0), (45, .iload_n 2, 0, 0, 0), (46, .iconst (-1), 0, 0, 0), (47, .if_icmp .ne 5, 52, 0, 0), (50, .iload_n 1, 0, 0, 0), (51, .ireturn, 0, 0, 0), (52, .iinc 1 1, 0, 0, 0), (55, .aload_n 0, 0, 0, 0), (56, .iload_n 1, 0, 0, 0), (57, .iconst 0, 0, 0, 0), (58, .invokevirtual 123, 161, 2, 45), (61, .ifCond .ne 5, 66, 0, 0), (64, .iload_n 1, 0, 0, 0), (65, .ireturn, 0, 0, 0), (66, .iload_n 1, 0, 0, 0), (67, .istore_n 3, 0, 0, 0), (68, .aload_n 0, 0, 0, 0), (69, .iload_n 1, 0, 0, 0), (70, .invokevirtual 102, 160, 1, 45), (73, .bipush 48, 0, 0, 0), (75, .isub, 0, 0, 0), (76, .istore 4, 0, 0, 0), (78, .iinc 1 1, 0, 0, 0), (81, .aload_n 0, 0, 0, 0), (82, .iload_n 1, 0, 0, 0), (83, .iconst 0, 0, 0, 0), (84, .invokevirtual 123, 161, 2, 45), (87, .ifCond .eq 22, 109, 0, 0), (90, .bipush 10, 0, 0, 0), (92, .iload 4, 0, 0, 0), (94, .imul, 0, 0, 0), (95, .aload_n 0, 0, 0, 0), (96, .iload_n 1, 0, 0, 0), (97, .invokevirtual 102, 160, 1, 45), (100, .iadd, 0, 0, 0), (101, .bipush 48, 0, 0, 0), (103, .isub, 0, 0, 0), (104, .istore 4, 0, 0, 0), (106, .iinc 1 1, 0, 0, 0), (109, .iload 4, 0, 0, 0), (111, .iconst 1, 0, 0, 0), (112, .aload_n 0, 0, 0, 0), (113, .getfield 14, 11, 1, 1), (116, .iconst 0, 0, 0, 0), (117, .iaload, 0, 0, 0), (118, .invokestatic 69, 144, 3, 45), (121, .ifCond .ne 5, 126, 0, 0), (124, .iload_n 3, 0, 0, 0), (125, .ireturn, 0, 0, 0), (126, .aload_n 0, 0, 0, 0), (127, .iload_n 1, 0, 0, 0), (128, .invokevirtual 102, 160, 1, 45), (131, .bipush 120, 0, 0, 0), (133, .if_icmp .eq 5, 138, 0, 0), (136, .iload_n 1, 0, 0, 0), (137, .ireturn, 0, 0, 0), (138, .iinc 1 1, 0, 0, 0), (141, .aload_n 0, 0, 0, 0), (142, .iload_n 1, 0, 0, 0), (143, .iconst 1, 0, 0, 0), (144, .invokevirtual 123, 161, 2, 45), (147, .ifCond .ne 5, 152, 0, 0), (150, .iload_n 1, 0, 0, 0), (151, .ireturn, 0, 0, 0), (152, .aload_n 0, 0, 0, 0), (153, .iload_n 1, 0, 0, 0), (154, .invokevirtual 102, 160, 1, 45), (157, .bipush 48, 0, 0, 0), (159, .isub, 0, 0, 0), (160, .istore 5, 0, 0, 0), (162, .iinc 1 1, 0, 0, 0), (165, .iconst 1, 0, 0, 0), (166, .istore 6, 0, 0, 0), (168, .iconst 1, 0, 0, 0), (169, .istore 7, 0, 0, 0), (171, .aload_n 0, 0, 0, 0), (172, .iload_n 1, 0, 0, 0), (173, .invokevirtual 102, 160, 1, 45), (176, .bipush 58, 0, 0, 0), (178, .if_icmp .ne 30, 208, 0, 0), (181, .iinc 1 1, 0, 0, 0), (184, .aload_n 0, 0, 0, 0), (185, .iload_n 1, 0, 0, 0), (186, .iconst 1, 0, 0, 0), (187, .invokevirtual 123, 161, 2, 45), (190, .ifCond .ne 5, 195, 0, 0), (193, .iload_n 1, 0, 0, 0), (194, .ireturn, 0, 0, 0), (195, .aload_n 0, 0, 0, 0), (196, .iload_n 1, 0, 0, 0), (197, .invokevirtual 102, 160, 1, 45), (200, .bipush 48, 0, 0, 0), (202, .isub, 0, 0, 0), (203, .istore 6, 0, 0, 0), (205, .iinc 1 1, 0, 0, 0), (208, .aload_n 0, 0, 0, 0), (209, .iload_n 1, 0, 0, 0), (210, .invokevirtual 102, 160, 1, 45), (213, .bipush 42, 0, 0, 0), (215, .if_icmp .ne 30, 245, 0, 0), (218, .iinc 1 1, 0, 0, 0), (221, .aload_n 0, 0, 0, 0), (222, .iload_n 1, 0, 0, 0), (223, .iconst 1, 0, 0, 0), (224, .invokevirtual 123, 161, 2, 45), (227, .ifCond .ne 5, 232, 0, 0), (230, .iload_n 1, 0, 0, 0), (231, .ireturn, 0, 0, 0), (232, .aload_n 0, 0, 0, 0), (233, .iload_n 1, 0, 0, 0), (234, .invokevirtual 102, 160, 1, 45), (237, .bipush 48, 0, 0, 0), (239, .isub, 0, 0, 0), (240, .istore 7, 0, 0, 0), (242, .iinc 1 1, 0, 0, 0), (245, .iconst 5, 0, 0, 0), (246, .aload_n 0, 0, 0, 0), (247, .getfield 113, 11, 6, 0), (250, .imul, 0, 0, 0), (251, .istore 8, 0, 0, 0), (253, .aload_n 0, 0, 0, 0), (254, .getfield 21, 11, 5, 1), (257, .iload 8, 0, 0, 0), (259, .iload_n 2, 0, 0, 0), (260, .iastore, 0, 0, 0), (261, .aload_n 0, 0, 0, 0), (262, .getfield 21, 11, 5, 1), (265, .iload 8, 0, 0, 0), (267, .iconst 1, 0, 0, 0), (268, .iadd, 0, 0, 0), (269, .iload 4, 0, 0, 0), (271, .iastore, 0, 0, 0), (272, .aload_n 0, 0, 0, 0), (273, .getfield 21, 11, 5, 1), (276, .iload 8, 0, 0, 0), (278, .iconst 2, 0, 0, 0), (279, .iadd, 0, 0, 0), (280, .iload 5, 0, 0, 0), (282, .iastore, 0, 0, 0), (283, .aload_n 0, 0, 0, 0), (284, .getfield 21, 11, 5, 1), (287, .iload 8, 0, 0, 0), (289, .iconst 3, 0, 0, 0), (290, .iadd, 0, 0, 0), (291, .iload 6, 0, 0, 0), (293, .iastore, 0, 0, 0), (294, .aload_n 0, 0, 0, 0), (295, .getfield 21, 11, 5, 1), (298, .iload 8, 0, 0, 0), (300, .iconst 4, 0, 0, 0), (301, .iadd, 0, 0, 0), (302, .iload 7, 0, 0, 0), (304, .iastore, 0, 0, 0), (305, .aload_n 0, 0, 0, 0), (306, .dup, 0, 0, 0), (307, .getfield 113, 11, 6, 0), (310, .iconst 1, 0, 0, 0), (311, .iadd, 0, 0, 0), (312, .putfield 113, 11, 6, 0), (315, .aload_n 0, 0, 0, 0), (316, .iload_n 1, 0, 0, 0), (317, .invokevirtual 116, 162, 1, 45), (320, .ifCond .eq 9, 329, 0, 0), (323, .iinc 1 1, 0, 0, 0), (326, .goto (-11), 315, 0, 0), (329, .goto (-308), 21, 0, 0), (332, .iconst (-1), 0, 0, 0), (333, .ireturn, 0, 0, 0)]
set_option maxRecDepth 100000 in
theorem sk_k163 : sk_mOK sk_inf sk_nest (sk_inf 163) sk_t163 := sk_mOK_of 12 false rfl (fun h => absurd h (by decide)) (by decide +kernel) (by decide +kernel)
end
section
/-! ===== tables of the methods (written by program) ===== -/
def sk_t164 : List sk_E := [(0, .aload_n 0, 0, 0, 0), (1, .invokevirtual 126, 163, 0, 45), (4, .istore_n 1, 0, 0, 0), (5, .aload_n 0, 0, 0, 0), (6, .iconst 0, 0, 0, 0), (7, .putfield 95, 11, 4, 0), (10, .iload_n 1, 0, 0, 0), (11, .iconst (-1), 0, 0, 0), (12, .if_icmp .eq 8, 20, 0, 0), (15, .bipush (-100), 0, 0, 0), (17, .iload_n 1, 0, 0, 0), (18, .isub, 0, 0, 0), (19, .ireturn, 0, 0, 0), (20, .iconst 0, 0, 0, 0), (21, .istore_n 2, 0, 0, 0), (22, .iconst 0, 0, 0, 0), (23, .istore_n 3, 0, 0, 0), (24, .iload_n 3, 0, 0, 0), (25, .aload_n 0, 0, 0, 0), (26, .getfield 113, 11, 6, 0), (29, .if_icmp .ge 22, 51, 0, 0), (32, .iload_n 2, 0, 0, 0), (33, .aload_n 0, 0, 0, 0), (34, .getfield 21, 11, 5, 1), (37, .iconst 5, 0, 0, 0), (38, .iload_n 3, 0, 0, 0), (39, .imul, 0, 0, 0), (40, .iconst 4, 0, 0, 0), (41, .iadd, 0, 0, 0), (42, .iaload, 0, 0, 0), (43, .iadd, 0, 0, 0), (44, .istore_n 2, 0, 0, 0), (45, .iinc 3 1, 0, 0, 0), (48, .goto (-24), 24, 0, 0), (51, .aload_n 0, 0, 0, 0), (52, .getfield 14, 11, 1, 1), (55, .iconst 1, 0, 0, 0), (56, .iaload, 0, 0, 0), (57, .iload_n 2, 0, 0, 0), (58, .iadd, 0, 0, 0), (59, .bipush 10, 0, 0, 0), (61, .if_icmp .le 6, 67, 0, 0), (64, .bipush (-4), 0, 0, 0), (66, .ireturn, 0, 0, 0), (67, .iconst 0, 0, 0, 0), (68, .istore_n 3, 0, 0, 0), (69, .iload_n 3, 0, 0, 0), (70, .aload_n 0, 0, 0, 0), (71, .getfield 113, 11, 6, 0), (74, .if_icmp .ge 151, 225, 0, 0), (77, .iconst 0, 0, 0, 0), (78, .istore 4, 0, 0, 0), (80, .iload 4, 0, 0, 0), (82, .aload_n 0, 0, 0, 0), (83, .getfield 21, 11, 5, 1), (86, .iconst 5, 0, 0, 0), (87, .iload_n 3, 0, 0, 0), (88, .imul, 0, 0, 0), (89, .iconst 4, 0, 0, 0), (90, .iadd, 0, 0, 0), (91, .iaload, 0, 0, 0), (92, .if_icmp .ge 127, 219, 0, 0), (95, .aload_n 0, 0, 0, 0), (96, .getfield 14, 11, 1, 1), (99, .iconst 1, 0, 0, 0), (100, .iaload, 0, 0, 0), (101, .istore 5, 0, 0, 0), (103, .aload_n 0, 0, 0, 0), (104, .getfield 14, 11, 1, 1), (107, .bipush 7, 0, 0, 0), (109, .iload 5, 0, 0, 0), (111, .iadd, 0, 0, 0), (112, .aload_n 0, 0, 0, 0), (113, .getfield 21, 11, 5, 1), (116, .iconst 5, 0, 0, 0), (117, .iload_n 3, 0, 0, 0), (118, .imul, 0, 0, 0), (119, .iaload, 0, 0, 0), (120, .iastore, 0, 0, 0), (121, .aload_n 0, 0, 0, 0), (122, .getfield 14, 11, 1, 1), (125, .bipush 17, 0, 0, 0), (127, .iload 5, 0, 0, 0), (129, .iadd, 0, 0, 0), (130, .aload_n 0, 0, 0, 0), (131, .getfield 21, 11, 5, 1), (134, .iconst 5, 0, 0, 0), (135, .iload_n 3, 0, 0, 0), (136, .imul, 0, 0, 0), (137, .iconst 1, 0, 0, 0), (138, .iadd, 0, 0, 0), (139, .iaload, 0, 0, 0), (140, .iastore, 0, 0, 0), (141, .aload_n 0, 0, 0, 0), (142, .getfield 14, 11, 1, 1), (145, .bipush 27, 0, 0, 0), (147, .iload 5, 0, 0, 0), (149, .iadd, 0, 0, 0), (150, .aload_n 0, 0, 0, 0), (151, .getfield 21, 11, 5, 1), (154, .iconst 5, 0, 0, 0), (155, .iload_n 3, 0, 0, 0), (156, .imul, 0, 0, 0), (157, .iconst 2, 0, 0, 0), (158, .iadd, 0, 0, 0), (159, .iaload, 0, 0, 0), (160, .iastore, 0, 0, 0), (161, .aload_n 0, 0, 0, 0), (162, .getfield 14, 11, 1, 1), (165, .bipush 37, 0, 0, 0), (167, .iload 5, 0, 0, 0), (169, .iadd, 0, 0, 0), (170, .aload_n 0, 0, 0, 0), (171, .getfield 21, 11, 5, 1), (174, .iconst 5, 0, 0, 0), (175, .iload_n 3, 0, 0, 0), (176, .imul, 0, 0, 0), (177, .iconst 3, 0, 0, 0), (178, .iadd, 0, 0, 0), (179, .iaload, 0, 0, 0), (180, .iastore, 0, 0, 0), (181, .aload_n 0, 0, 0, 0), (182, .getfield 14, 11, 1, 1), (185, .bipush 77, 0, 0, 0), (187, .iload 5, 0, 0, 0), (189, .iadd, 0, 0, 0), (190, .iconst 0, 0, 0, 0), (191, .iastore, 0, 0, 0), (192, .aload_n 0, 0, 0, 0), (193, .getfield 14, 11, 1, 1), (196, .bipush 67, 0, 0, 0), (198, .iload 5, 0, 0, 0), (200, .iadd, 0, 0, 0), (201, .iconst 0, 0, 0, 0), (202, .iastore, 0, 0, 0), (203, .aload_n 0, 0, 0, 0), (204, .getfield 14, 11, 1, 1), (207, .iconst 1, 0, 0, 0), (208, .dup2, 0, 0, 0), (209, .iaload, 0, 0, 0), (210, .iconst 1, 0, 0, 0), (211, .iadd, 0, 0, 0), (212, .iastore, 0, 0, 0), (213, .iinc 4 1, 0, 0, 0), (216, .goto (-136), 80, 0, 0), (219, .iinc 3 1, 0, 0, 0), (222, .goto (-153), 69, 0, 0), (225, .aload_n 0, 0, 0, 0), (226, .getfield 14, 11, 1, 1), (229, .iconst 1, 0, 0, 0), (230, .iaload, 0, 0, 0), (231, .ireturn, 0, 0, 0)]
set_option maxRecDepth 100000 in
theorem sk_k164 : sk_mOK sk_inf sk_nest (sk_inf 164) sk_t164 := sk_mOK_of 12 false rfl (fun h => absurd h (by decide)) (by decide +kernel) (by decide +kernel)
def sk_t165 : List sk_E := [(0, .aload_n 0, 0, 0, 0), (1, .iload_n 1, 0, 0, 0), (2, .invokevirtual 130, 148, 1, 45), (5, .ifCond .eq 13, 18, 0, 0), (8, .iload_n 2, 0, 0, 0), (9, .iconst 0, 0, 0, 0), (10, .bipush 7, 0, 0, 0), (12, .invokestatic 69, 144, 3, 45), (15, .ifCond .ne 6, 21, 0, 0), (18, .bipush (-2), 0, 0, 0), (20, .ireturn, 0, 0, 0), (21, .aload_n 0, 0, 0, 0), (22, .getfield 14, 11, 1, 1), (25, .bipush 77, 0, 0, 0), (27, .iload_n 1, 0, 0, 0), (28, .iadd, 0, 0, 0), (29, .iaload, 0, 0, 0), (30, .ifCond .eq 7, 37, 0, 0), (33, .iconst 1, 0, 0, 0), (34, .goto 4, 38, 0, 0), (37, .iconst 0, 0, 0, 0), (38, .istore_n 3, 0, 0, 0), (39, .iload_n 2, 0, 0, 0), (40, .tableswitch 138 0 6 #[44, 54, 64, 74, 84, 102, 120], 0, 0, 44), (84, .aload_n 0, 0, 0, 0), (85, .getfield 14, 11, 1, 1), (88, .bipush 7, 0, 0, 0), (90, .iload_n 1, 0, 0, 0), (91, .iadd, 0, 0, 0), (92, .iaload, 0, 0, 0), (93, .ireturn, 0, 0, 0), (94, .aload_n 0, 0, 0, 0), (95, .getfield 14, 11, 1, 1), (98, .bipush 17, 0, 0, 0), (100, .iload_n 1, 0, 0, 0), (101, .iadd, 0, 0, 0), (102, .iaload, 0, 0, 0), (103, .ireturn, 0, 0, 0), (104, .aload_n 0, 0, 0, 0), (105, .getfield 14, 11, 1, 1), (108, .bipush 27, 0, 0, 0), (110, .iload_n 1, 0, 0, 0), (111, .iadd, 0, 0, 0), (112, .iaload, 0, 0, 0), (113, .ireturn, 0, 0, 0), (114, .aload_n 0, 0, 0, 0), (115, .getfield 14, 11, 1, 1), (118, .bipush 37, 0, 0, 0), (120, .iload_n 1, 0, 0, 0), (121, .iadd, 0, 0, 0), (122, .iaload, 0, 0, 0), (123, .ireturn, 0, 0, 0), (124, .iload_n 3, 0, 0, 0), (125, .ifCond .eq 15, 140, 0, 0), (128, .aload_n 0, 0, 0, 0), (129, .getfield 14, 11, 1, 1), (132, .bipush 47, 0, 0, 0), (134, .iload_n 1, 0, 0, 0), (135, .iadd, 0, 0, 0), (136, .iaload, 0, 0, 0), (137, .goto 4, 141, 0, 0), (140, .iconst (-1), 0, 0, 0), (141, .ireturn, 0, 0, 0), (142, .iload_n 3, 0, 0, 0), (143, .ifCond .eq 15, 158, 0, 0), (146, .aload_n 0, 0, 0, 0), (147, .getfield 14, 11, 1, 1), (150, .bipush 57, 0, 0, 0), (152, .iload_n 1, 0, 0, 0), (153, .iadd, 0, 0, 0), (154, .iaload, 0, 0, 0), (155, .goto 4, 159, 0, 0), (158, .iconst (-1), 0, 0, 0), (159, .ireturn, 0, 0, 0), (160, .iload_n 3, 0, 0, 0), (161, .ifCond .eq 15, 176, 0, 0), (164, .aload_n 0, 0, 0, 0), (165, .getfield 14, 11, 1, 1), (168, .bipush 67, 0, 0, 0), (170, .iload_n 1, 0, 0, 0), (171, .iadd, 0, 0, 0), (172, .iaload, 0, 0, 0), (173, .goto 4, 177, 0, 0), (176, .iconst (-1), 0, 0, 0), (177, .ireturn, 0, 0, 0), (178, .aload_n 0, 0, 0, 0), (179, .getfield 14, 11, 1, 1), (182, .bipush 77, 0, 0, 0), (184, .iload_n 1, 0, 0, 0), (185, .iadd, 0, 0, 0), (186, .iaload, 0, 0, 0), (187, .ireturn, 0, 0, 0)]
set_option maxRecDepth 100000 in
theorem sk_k165 : sk_mOK sk_inf sk_nest (sk_inf 165) sk_t165 := sk_mOK_of 12 false rfl (fun h => absurd h (by decide)) (by decide +kernel) (by decide +kernel)
def sk_t166 : List sk_E := [(0, .aload_n 0, 0, 0, 0), (1, .iload_n 1, 0, 0, 0), (2, .invokevirtual 130, 148, 1, 45), (5, .ifCond .eq 12, 17, 0, 0), (8, .iload_n 2, 0, 0, 0), (9, .iconst 0, 0, 0, 0), (10, .iconst 5, 0, 0, 0), (11, .invokestatic 69, 144, 3, 45), (14, .ifCond .ne 6, 20, 0, 0), (17, .bipush (-2), 0, 0, 0), (19, .ireturn, 0, 0, 0), (20, .aload_n 0, 0, 0, 0), (21, .getfield 14, 11, 1, 1), (24, .bipush 7, 0, 0, 0), (26, .iload_n 1, 0, 0, 0), (27, .iadd, 0, 0, 0), (28, .iaload, 0, 0, 0), (29, .iload_n 2, 0, 0, 0), (30, .invokestatic 73, 149, 2, 45), (33, .ifCond .eq 19, 52, 0, 0), (36, .aload_n 0, 0, 0, 0), (37, .iload_n 1, 0, 0, 0), (38, .iconst 0, 0, 0, 0), (39, .invokevirtual 77, 151, 2, 45), (42, .aload_n 0, 0, 0, 0), (43, .iload_n 1, 0, 0, 0), (44, .iconst 0, 0, 0, 0), (45, .invokevirtual 81, 152, 2, 45), (48, .imul, 0, 0, 0), (49, .goto 5, 54, 0, 0), (52, .bipush (-13), 0, 0, 0), (54, .ireturn, 0, 0, 0)]
set_option maxRecDepth 100000 in
theorem sk_k166 : sk_mOK sk_inf sk_nest (sk_inf 166) sk_t166 := sk_mOK_of 12 false rfl (fun h => absurd h (by decide)) (by decide +kernel) (by decide +kernel)
def sk_t167 : List sk_E := [(0, .iconst 0, 0, 0, 0), (1, .istore_n 1, 0, 0, 0), (2, .iload_n 1, 0, 0, 0), (3, .aload_n 0, 0, 0, 0), (4, .getfield 14, 11, 1, 1), (7, .iconst 1, 0, 0, 0), (8, .iaload, 0, 0, 0), (9, .if_icmp .ge 24, 33, 0, 0), (12, .aload_n 0, 0, 0, 0), (13, .getfield 14, 11, 1, 1), (16, .bipush 77, 0, 0, 0), (18, .iload_n 1, 0, 0, 0), (19, .iadd, 0, 0, 0), (20, .iaload, 0, 0, 0), (21, .iconst 1, 0, 0, 0), (22, .if_icmp .le 5, 27, 0, 0), (25, .iconst 1, 0, 0, 0), (26, .ireturn, 0, 0, 0), (27, .iinc 1 1, 0, 0, 0), (30, .goto (-28), 2, 0, 0), (33, .iconst 0, 0, 0, 0), (34, .ireturn, 0, 0, 0)]
set_option maxRecDepth 100000 in
theorem sk_k167 : sk_mOK sk_inf sk_nest (sk_inf 167) sk_t167 := sk_mOK_of 12 false rfl (fun h => absurd h (by decide)) (by decide +kernel) (by decide +kernel)
def sk_t168 : List sk_E := [(0, .iconst 0, 0, 0, 0), (1, .istore_n 2, 0, 0, 0), (2, .iload_n 2, 0, 0, 0), (3, .aload_n 0, 0, 0, 0), (4, .getfield 14, 11, 1, 1), (7, .iconst 2, 0, 0, 0), (8, .iaload, 0, 0, 0), (9, .if_icmp .ge 24, 33, 0, 0), (12, .aload_n 0, 0, 0, 0), (13, .getfield 14, 11, 1, 1), (16, .bipush 87, 0, 0, 0), (18, .iload_n 2, 0, 0, 0), (19, .iadd, 0, 0, 0), (20, .iaload, 0, 0, 0), (21, .iload_n 1, 0, 0, 0), (22, .if_icmp .ne 5, 27, 0, 0), (25, .iconst 1, 0, 0, 0), (26, .ireturn, 0, 0, 0), (27, .iinc 2 1, 0, 0, 0), (30, .goto (-28), 2, 0, 0), (33, .iconst 0, 0, 0, 0), (34, .ireturn, 0, 0, 0)]
set_option maxRecDepth 100000 in
theorem sk_k168 : sk_mOK sk_inf sk_nest (sk_inf 168) sk_t168 := sk_mOK_of 12 false rfl (fun h => absurd h (by decide)) (by decide +kernel) (by decide +kernel)
def sk_t169 : List sk_E := [(0, .aload_n 0, 0, 0, 0), (1, .iload_n 1, 0, 0, 0), (2, .invokevirtual 130, 148, 1, 45), (5, .ifCond .eq 28, 33, 0, 0), (8, .iload_n 2, 0, 0, 0), (9, .iconst (-1), 0, 0, 0), (10, .bipush 19, 0, 0, 0), (12, .invokestatic 69, 144, 3, 45), (15, .ifCond .eq 18, 33, 0, 0), (18, .iload_n 2, 0, 0, 0), (19, .iconst (-1), 0, 0, 0), (20, .if_icmp .eq 16, 36, 0, 0), (23, .iload_n 3, 0, 0, 0), (24, .iconst 0, 0, 0, 0), (25, .bipush 60, 0, 0, 0), (27, .invokestatic 69, 144, 3, 45), (30, .ifCond .ne 6, 36, 0, 0), (33, .bipush (-2), 0, 0, 0), (35, .ireturn, 0, 0, 0), (36, .aload_n 0, 0, 0, 0), (37, .getfield 14, 11, 1, 1), (40, .bipush 77, 0, 0, 0), (42, .iload_n 1, 0, 0, 0), (43, .iadd, 0, 0, 0), (44, .iaload, 0, 0, 0), (45, .iconst 1, 0, 0, 0), (46, .if_icmp .ne 7, 53, 0, 0), (49, .iconst 1, 0, 0, 0), (50, .goto 4, 54, 0, 0), (53, .iconst 0, 0, 0, 0), (54, .istore 4, 0, 0, 0), (56, .aload_n 0, 0, 0, 0), (57, .invokevirtual 133, 167, 0, 45), (60, .ifCond .ne 26, 86, 0, 0), (63, .aload_n 0, 0, 0, 0), (64, .iload_n 1, 0, 0, 0), (65, .invokevirtual 137, 168, 1, 45), (68, .ifCond .ne 18, 86, 0, 0), (71, .iload 4, 0, 0, 0), (73, .iload_n 2, 0, 0, 0), (74, .iconst (-1), 0, 0, 0), (75, .if_icmp .ne 7, 82, 0, 0), (78, .iconst 1, 0, 0, 0), (79, .goto 4, 83, 0, 0), (82, .iconst 0, 0, 0, 0), (83, .if_icmp .eq 6, 89, 0, 0), (86, .bipush (-3), 0, 0, 0), (88, .ireturn, 0, 0, 0), (89, .iload_n 2, 0, 0, 0), (90, .iconst (-1), 0, 0, 0), (91, .if_icmp .ne 15, 106, 0, 0), (94, .aload_n 0, 0, 0, 0), (95, .getfield 14, 11, 1, 1), (98, .bipush 77, 0, 0, 0), (100, .iload_n 1, 0, 0, 0), (101, .iadd, 0, 0, 0), (102, .iconst 0, 0, 0, 0), (103, .iastore, 0, 0, 0), (104, .iconst 1, 0, 0, 0), (105, .ireturn, 0, 0, 0), (106, .iload_n 2, 0, 0, 0), (107, .aload_n 0, 0, 0, 0), (108, .iload_n 1, 0, 0, 0), (109, .iconst 0, 0, 0, 0), (110, .invokevirtual 77, 151, 2, 45), (113, .iadd, 0, 0, 0), (114, .aload_n 0, 0, 0, 0), (115, .getfield 14, 11, 1, 1), (118, .iconst 0, 0, 0, 0), (119, .iaload, 0, 0, 0), (120, .if_icmp .le 6, 126, 0, 0), (123, .bipush (-12), 0, 0, 0), (125, .ireturn, 0, 0, 0), (126, .aload_n 0, 0, 0, 0), (127, .iload_n 2, 0, 0, 0), (128, .iload_n 3, 0, 0, 0), (129, .aload_n 0, 0, 0, 0), (130, .iload_n 1, 0, 0, 0), (131, .iconst 0, 0, 0, 0), (132, .invokevirtual 77, 151, 2, 45), (135, .aload_n 0, 0, 0, 0), (136, .iload_n 1, 0, 0, 0), (137, .iconst 0, 0, 0, 0), (138, .invokevirtual 81, 152, 2, 45), (141, .invokevirtual 140, 157, 4, 45), (144, .ifCond .eq 6, 150, 0, 0), (147, .bipush (-15), 0, 0, 0), (149, .ireturn, 0, 0, 0), (150, .aload_n 0, 0, 0, 0), (151, .getfield 14, 11, 1, 1), (154, .bipush 77, 0, 0, 0), (156, .iload_n 1, 0, 0, 0), (157, .iadd, 0, 0, 0), (158, .iconst 1, 0, 0, 0), (159, .iastore, 0, 0, 0), (160, .aload_n 0, 0, 0, 0), (161, .getfield 14, 11, 1, 1), (164, .bipush 67, 0, 0, 0), (166, .iload_n 1, 0, 0, 0), (167, .iadd, 0, 0, 0), (168, .iconst 0, 0, 0, 0), (169, .iastore, 0, 0, 0), (170, .aload_n 0, 0, 0, 0), (171, .getfield 14, 11, 1, 1), (174, .bipush 47, 0, 0, 0), (176, .iload_n 1, 0, 0, 0), (177, .iadd, 0, 0, 0), (178, .iload_n 2, 0, 0, 0), (179, .iastore, 0, 0, 0), (180, .aload_n 0, 0, 0, 0), (181, .getfield 14, 11, 1, 1), (184, .bipush 57, 0, 0, 0), (186, .iload_n 1, 0, 0, 0), (187, .iadd, 0, 0, 0), (188, .iload_n 3, 0, 0, 0), (189, .iastore, 0, 0, 0), (190, .iconst 1, 0, 0, 0), (191, .ireturn, 0, 0, 0)]
set_option maxRecDepth 100000 in
theorem sk_k169 : sk_mOK sk_inf sk_nest (sk_inf 169) sk_t169 := sk_mOK_of 12 false rfl (fun h => absurd h (by decide)) (by decide +kernel) (by decide +kernel)
def sk_t170 : List sk_E := [(0, .iload_n 1, 0, 0, 0), (1, .iconst (-1), 0, 0, 0), (2, .if_icmp .ne 58, 60, 0, 0), (5, .iconst 0, 0, 0, 0), (6, .istore_n 2, 0, 0, 0), (7, .iconst 0, 0, 0, 0), (8, .istore_n 3, 0, 0, 0), (9, .iload_n 3, 0, 0, 0), (10, .aload_n 0, 0, 0, 0), (11, .getfield 14, 11, 1, 1), (14, .iconst 1, 0, 0, 0), (15, .iaload, 0, 0, 0), (16, .if_icmp .ge 35, 51, 0, 0), (19, .aload_n 0, 0, 0, 0), (20, .getfield 14, 11, 1, 1), (23, .bipush 77, 0, 0, 0), (25, .iload_n 3, 0, 0, 0), (26, .iadd, 0, 0, 0), (27, .iaload, 0, 0, 0), (28, .iconst 1, 0, 0, 0), (29, .if_icmp .eq 16, 45, 0, 0), (32, .aload_n 0, 0, 0, 0), (33, .getfield 14, 11, 1, 1), (36, .bipush 87, 0, 0, 0), (38, .iload_n 2, 0, 0, 0), (39, .iadd, 0, 0, 0), (40, .iload_n 3, 0, 0, 0), (41, .iastore, 0, 0, 0), (42, .iinc 2 1, 0, 0, 0), (45, .iinc 3 1, 0, 0, 0), (48, .goto (-39), 9, 0, 0), (51, .aload_n 0, 0, 0, 0), (52, .getfield 14, 11, 1, 1), (55, .iconst 2, 0, 0, 0), (56, .iload_n 2, 0, 0, 0), (57, .iastore, 0, 0, 0), (58, .iload_n 2, 0, 0, 0), (59, .ireturn, 0, 0, 0), (60, .iload_n 1, 0, 0, 0), (61, .invokestatic 144, 220, 1, 45), (64, .ifCond .ne 6, 70, 0, 0), (67, .bipush (-2), 0, 0, 0), (69, .ireturn, 0, 0, 0), (70, .aload_n 0, 0, 0, 0), (71, .getfield 39, 11, 16, 1), (74, .iload_n 1, 0, 0, 0), (75, .iaload, 0, 0, 0), (76, .ifCond .ge 6, 82, 0, 0), (79, .bipush (-11), 0, 0, 0), (81, .ireturn, 0, 0, 0), (82, .iconst 0, 0, 0, 0), (83, .istore_n 2, 0, 0, 0), (84, .iload_n 2, 0, 0, 0), (85, .aload_n 0, 0, 0, 0), (86, .getfield 39, 11, 16, 1), (89, .iload_n 1, 0, 0, 0), (90, .iaload, 0, 0, 0), (91, .if_icmp .ge 73, 164, 0, 0), (94, .aload_n 0, 0, 0, 0), (95, .getfield 45, 11, 18, 1), (98, .iload_n 1, 0, 0, 0), (99, .aaload, 0, 0, 0), (100, .iload_n 2, 0, 0, 0), (101, .iaload, 0, 0, 0), (102, .istore_n 3, 0, 0, 0), (103, .iload_n 3, 0, 0, 0), (104, .iconst (-1), 0, 0, 0), (105, .if_icmp .ne 6, 111, 0, 0), (108, .goto 50, 158, 0, 0), (111, .aload_n 0, 0, 0, 0), (112, .getfield 14, 11, 1, 1), (115, .bipush 77, 0, 0, 0), (117, .iload_n 3, 0, 0, 0), (118, .iadd, 0, 0, 0), (119, .iaload, 0, 0, 0), (120, .iconst 1, 0, 0, 0), (121, .if_icmp .ne 6, 127, 0, 0), (124, .bipush (-3), 0, 0, 0), (126, .ireturn, 0, 0, 0), (127, .iconst 0, 0, 0, 0), (128, .istore 4, 0, 0, 0), (130, .iload 4, 0, 0, 0), (132, .iload_n 2, 0, 0, 0), (133, .if_icmp .ge 25, 158, 0, 0), (136, .aload_n 0, 0, 0, 0), (137, .getfield 45, 11, 18, 1), (140, .iload_n 1, 0, 0, 0), (141, .aaload, 0, 0, 0), (142, .iload 4, 0, 0, 0), (144, .iaload, 0, 0, 0), (145, .iload_n 3, 0, 0, 0), (146, .if_icmp .ne 6, 152, 0, 0), (149, .bipush (-3), 0, 0, 0), (151, .ireturn, 0, 0, 0), (152, .iinc 4 1, 0, 0, 0), (155, .goto (-25), 130, 0, 0), (158, .iinc 2 1, 0, 0, 0), (161, .goto (-77), 84, 0, 0), (164, .iconst 0, 0, 0, 0), (165, .istore_n 2, 0, 0, 0), (166, .iconst 0, 0, 0, 0), (167, .istore_n 3, 0, 0, 0), (168, .iload_n 3, 0, 0, 0), (169, .aload_n 0, 0, 0, 0), (170, .getfield 39, 11, 16, 1), (173, .iload_n 1, 0, 0, 0), (174, .iaload, 0, 0, 0), (175, .if_icmp .ge 41, 216, 0, 0), (178, .aload_n 0, 0, 0, 0), (179, .getfield 45, 11, 18, 1), (182, .iload_n 1, 0, 0, 0), (183, .aaload, 0, 0, 0), (184, .iload_n 3, 0, 0, 0), (185, .iaload, 0, 0, 0), (186, .iconst (-1), 0, 0, 0), (187, .if_icmp .eq 23, 210, 0, 0), (190, .aload_n 0, 0, 0, 0), (191, .getfield 14, 11, 1, 1), (194, .bipush 87, 0, 0, 0), (196, .iload_n 2, 0, 0, 0), (197, .iadd, 0, 0, 0), (198, .aload_n 0, 0, 0, 0), (199, .getfield 45, 11, 18, 1), (202, .iload_n 1, 0, 0, 0), (203, .aaload, 0, 0, 0), (204, .iload_n 3, 0, 0, 0), (205, .iaload, 0, 0, 0), (206, .iastore, 0, 0, 0), (207, .iinc 2 1, 0, 0, 0), (210, .iinc 3 1, 0, 0, 0), (213, .goto (-45), 168, 0, 0), (216, .aload_n 0, 0, 0, 0), (217, .getfield 14, 11, 1, 1), (220, .iconst 2, 0, 0, 0), (221, .iload_n 2, 0, 0, 0), (222, .iastore, 0, 0, 0), (223, .iload_n 2, 0, 0, 0), (224, .ireturn, 0, 0, 0)]
set_option maxRecDepth 100000 in
theorem sk_k170 : sk_mOK sk_inf sk_nest (sk_inf 170) sk_t170 := sk_mOK_of 12 false rfl (fun h => absurd h (by decide)) (by decide +kernel) (by decide +kernel)
def sk_t171 : List sk_E := [(0, .aload_n 0, 0, 0, 0), (1, .getfield 14, 11, 1, 1), (4, .bipush 87, 0, 0, 0), (6, .iload_n 1, 0, 0, 0), (7, .iadd, 0, 0, 0), (8, .iaload, 0, 0, 0), (9, .istore_n 3, 0, 0, 0), (10, .aload_n 0, 0, 0, 0), (11, .getfield 14, 11, 1, 1), (14, .bipush 87, 0, 0, 0), (16, .iload_n 1, 0, 0, 0), (17, .iadd, 0, 0, 0), (18, .aload_n 0, 0, 0, 0), (19, .getfield 14, 11, 1, 1), (22, .bipush 87, 0, 0, 0), (24, .iload_n 2, 0, 0, 0), (25, .iadd, 0, 0, 0), (26, .iaload, 0, 0, 0), (27, .iastore, 0, 0, 0), (28, .aload_n 0, 0, 0, 0), (29, .getfield 14, 11, 1, 1), (32, .bipush 87, 0, 0, 0), (34, .iload_n 2, 0, 0, 0), (35, .iadd, 0, 0, 0), (36, .iload_n 3, 0, 0, 0), (37, .iastore, 0, 0, 0), (38, .return_, 0, 0, 0)]
set_option maxRecDepth 100000 in
theorem sk_k171 : sk_mOK sk_inf sk_nest (sk_inf 171) sk_t171 := sk_mOK_of 12 false rfl (fun h => absurd h (by decide)) (by decide +kernel) (by decide +kernel)
def sk_t172 : List sk_E := [(0, .iload_n 1, 0, 0, 0), (1, .iconst 0, 0, 0, 0), (2, .aload_n 0, 0, 0, 0), (3, .getfield 14, 11, 1, 1), (6, .iconst 2, 0, 0, 0), (7, .iaload, 0, 0, 0), (8, .iconst 1, 0, 0, 0), (9, .isub, 0, 0, 0), (10, .invokestatic 69, 144, 3, 45), (13, .ifCond .eq 19, 32, 0, 0), (16, .iload_n 2, 0, 0, 0), (17, .iconst 0, 0, 0, 0), (18, .aload_n 0, 0, 0, 0), (19, .getfield 14, 11, 1, 1), (22, .iconst 2, 0, 0, 0), (23, .iaload, 0, 0, 0), (24, .iconst 1, 0, 0, 0), (25, .isub, 0, 0, 0), (26, .invokestatic 69, 144, 3, 45), (29, .ifCond .ne 6, 35, 0, 0), (32, .bipush (-12), 0, 0, 0), (34, .ireturn, 0, 0, 0), (35, .aload_n 0, 0, 0, 0), (36, .iload_n 1, 0, 0, 0), (37, .iload_n 2, 0, 0, 0), (38, .invokevirtual 147, 171, 2, 44), (41, .aload_n 0, 0, 0, 0), (42, .getfield 14, 11, 1, 1), (45, .bipush 87, 0, 0, 0), (47, .iload_n 1, 0, 0, 0), (48, .iadd, 0, 0, 0), (49, .iaload, 0, 0, 0), (50, .ireturn, 0, 0, 0)]
set_option maxRecDepth 100000 in
theorem sk_k172 : sk_mOK sk_inf sk_nest (sk_inf 172) sk_t172 := sk_mOK_of 12 false rfl (fun h => absurd h (by decide)) (by decide +kernel) (by decide +kernel)
def sk_t173 : List sk_E := [(0, .iload_n 1, 0, 0, 0), (1, .iconst 0, 0, 0, 0), (2, .iconst 3, 0, 0, 0), (3, .invokestatic 69, 144, 3, 45), (6, .ifCond .eq 12, 18, 0, 0), (9, .iload_n 2, 0, 0, 0), (10, .iconst 0, 0, 0, 0), (11, .iconst 1, 0, 0, 0), (12, .invokestatic 69, 144, 3, 45), (15, .ifCond .ne 6, 21, 0, 0), (18, .bipush (-2), 0, 0, 0), (20, .ireturn, 0, 0, 0), (21, .iconst 2, 0, 0, 0), (22, .aload_n 0, 0, 0, 0), (23, .getfield 14, 11, 1, 1), (26, .iconst 3, 0, 0, 0), (27, .iaload, 0, 0, 0), (28, .imul, 0, 0, 0), (29, .aload_n 0, 0, 0, 0), (30, .getfield 14, 11, 1, 1), (33, .iconst 4, 0, 0, 0), (34, .iaload, 0, 0, 0), (35, .iadd, 0, 0, 0), (36, .istore_n 3, 0, 0, 0), (37, .aload_n 0, 0, 0, 0), (38, .getfield 14, 11, 1, 1), (41, .iconst 3, 0, 0, 0), (42, .iload_n 1, 0, 0, 0), (43, .iastore, 0, 0, 0), (44, .aload_n 0, 0, 0, 0), (45, .getfield 14, 11, 1, 1), (48, .iconst 4, 0, 0, 0), (49, .iload_n 2, 0, 0, 0), (50, .iastore, 0, 0, 0), (51, .iload_n 3, 0, 0, 0), (52, .ireturn, 0, 0, 0)]
set_option maxRecDepth 100000 in
theorem sk_k173 : sk_mOK sk_inf sk_nest (sk_inf 173) sk_t173 := sk_mOK_of 12 false rfl (fun h => absurd h (by decide)) (by decide +kernel) (by decide +kernel)
def sk_t174 : List sk_E := [(0, .iconst 0, 0, 0, 0), (1, .istore 4, 0, 0, 0), (3, .iload_n 1, 0, 0, 0), (4, .istore 5, 0, 0, 0), (6, .iload 5, 0, 0, 0), (8, .iload_n 1, 0, 0, 0), (9, .iload_n 3, 0, 0, 0), (10, .iadd, 0, 0, 0), (11, .if_icmp .ge 26, 37, 0, 0), (14, .iload 4, 0, 0, 0), (16, .iload_n 2, 0, 0, 0), (17, .aload_n 0, 0, 0, 0), (18, .getfield 14, 11, 1, 1), (21, .bipush 97, 0, 0, 0), (23, .iload 5, 0, 0, 0), (25, .iadd, 0, 0, 0), (26, .iaload, 0, 0, 0), (27, .isub, 0, 0, 0), (28, .iadd, 0, 0, 0), (29, .istore 4, 0, 0, 0), (31, .iinc 5 1, 0, 0, 0), (34, .goto (-28), 6, 0, 0), (37, .iload 4, 0, 0, 0), (39, .ireturn, 0, 0, 0)]
set_option maxRecDepth 100000 in
theorem sk_k174 : sk_mOK sk_inf sk_nest (sk_inf 174) sk_t174 := sk_mOK_of 12 false rfl (fun h => absurd h (by decide)) (by decide +kernel) (by decide +kernel)
def sk_t175 : List sk_E := [(0, .iconst 0, 0, 0, 0), (1, .istore 4, 0, 0, 0), (3, .iload_n 1, 0, 0, 0), (4, .istore 5, 0, 0, 0), (6, .iload 5, 0, 0, 0), (8, .iload_n 1, 0, 0, 0), (9, .iload_n 2, 0, 0, 0), (10, .iadd, 0, 0, 0), (11, .if_icmp .ge 26, 37, 0, 0), (14, .iload 4, 0, 0, 0), (16, .aload_n 0, 0, 0, 0), (17, .getfield 14, 11, 1, 1), (20, .bipush 97, 0, 0, 0), (22, .iload 5, 0, 0, 0), (24, .iadd, 0, 0, 0), (25, .iaload, 0, 0, 0), (26, .invokestatic 151, 239, 2, 1), (29, .istore 4, 0, 0, 0), (31, .iinc 5 1, 0, 0, 0), (34, .goto (-28), 6, 0, 0), (37, .aload_n 0, 0, 0, 0), (38, .iload_n 1, 0, 0, 0), (39, .iload 4, 0, 0, 0), (41, .iload_n 2, 0, 0, 0), (42, .iload_n 3, 0, 0, 0), (43, .invokevirtual 140, 157, 4, 45), (46, .ifCond .eq 9, 55, 0, 0), (49, .iinc 4 1, 0, 0, 0), (52, .goto (-15), 37, 0, 0), (55, .iload 4, 0, 0, 0), (57, .ireturn, 0, 0, 0)]
set_option maxRecDepth 100000 in
theorem sk_k175 : sk_mOK sk_inf sk_nest (sk_inf 175) sk_t175 := sk_mOK_of 12 false rfl (fun h => absurd h (by decide)) (by decide +kernel) (by decide +kernel)
def sk_t176 : List sk_E := [(0, .iconst 0, 0, 0, 0), (1, .istore 5, 0, 0, 0), (3, .iload_n 1, 0, 0, 0), (4, .istore 6, 0, 0, 0), (6, .iload 6, 0, 0, 0), (8, .iload_n 1, 0, 0, 0), (9, .iload_n 3, 0, 0, 0), (10, .iadd, 0, 0, 0), (11, .if_icmp .ge 26, 37, 0, 0), (14, .aload_n 0, 0, 0, 0), (15, .getfield 14, 11, 1, 1), (18, .bipush 97, 0, 0, 0), (20, .iload 6, 0, 0, 0), (22, .iadd, 0, 0, 0), (23, .iaload, 0, 0, 0), (24, .iload_n 2, 0, 0, 0), (25, .if_icmp .ne 6, 31, 0, 0), (28, .iinc 5 1, 0, 0, 0), (31, .iinc 6 1, 0, 0, 0), (34, .goto (-28), 6, 0, 0), (37, .iload_n 2, 0, 0, 0), (38, .istore 6, 0, 0, 0), (40, .iload 6, 0, 0, 0), (42, .iload_n 2, 0, 0, 0), (43, .iload 4, 0, 0, 0), (45, .iadd, 0, 0, 0), (46, .if_icmp .ge 63, 109, 0, 0), (49, .iload_n 1, 0, 0, 0), (50, .ifCond .eq 19, 69, 0, 0), (53, .aload_n 0, 0, 0, 0), (54, .getfield 14, 11, 1, 1), (57, .bipush 97, 0, 0, 0), (59, .iload_n 1, 0, 0, 0), (60, .iadd, 0, 0, 0), (61, .iconst 1, 0, 0, 0), (62, .isub, 0, 0, 0), (63, .iaload, 0, 0, 0), (64, .iload 6, 0, 0, 0), (66, .if_icmp .le 6, 72, 0, 0), (69, .iinc 5 1, 0, 0, 0), (72, .iload_n 1, 0, 0, 0), (73, .iload_n 3, 0, 0, 0), (74, .iadd, 0, 0, 0), (75, .aload_n 0, 0, 0, 0), (76, .getfield 14, 11, 1, 1), (79, .iconst 0, 0, 0, 0), (80, .iaload, 0, 0, 0), (81, .if_icmp .eq 19, 100, 0, 0), (84, .aload_n 0, 0, 0, 0), (85, .getfield 14, 11, 1, 1), (88, .bipush 97, 0, 0, 0), (90, .iload_n 1, 0, 0, 0), (91, .iadd, 0, 0, 0), (92, .iload_n 3, 0, 0, 0), (93, .iadd, 0, 0, 0), (94, .iaload, 0, 0, 0), (95, .iload 6, 0, 0, 0), (97, .if_icmp .le 6, 103, 0, 0), (100, .iinc 5 1, 0, 0, 0), (103, .iinc 6 1, 0, 0, 0), (106, .goto (-66), 40, 0, 0), (109, .iload 5, 0, 0, 0), (111, .ireturn, 0, 0, 0)]
set_option maxRecDepth 100000 in
theorem sk_k176 : sk_mOK sk_inf sk_nest (sk_inf 176) sk_t176 := sk_mOK_of 12 false rfl (fun h => absurd h (by decide)) (by decide +kernel) (by decide +kernel)
def sk_t177 : List sk_E := [(0, .aload_n 0, 0, 0, 0), (1, .getfield 14, 11, 1, 1), (4, .iconst 3, 0, 0, 0), (5, .iaload, 0, 0, 0), (6, .tableswitch 41 0 2 #[26, 28, 36], 0, 0, 26), (32, .iload_n 2, 0, 0, 0), (33, .ireturn, 0, 0, 0), (34, .aload_n 0, 0, 0, 0), (35, .iload_n 1, 0, 0, 0), (36, .iload_n 2, 0, 0, 0), (37, .iload_n 3, 0, 0, 0), (38, .invokevirtual 156, 174, 3, 45), (41, .ireturn, 0, 0, 0), (42, .iload_n 2, 0, 0, 0), (43, .iload 4, 0, 0, 0), (45, .iadd, 0, 0, 0), (46, .ireturn, 0, 0, 0), (47, .aload_n 0, 0, 0, 0), (48, .iload_n 1, 0, 0, 0), (49, .iload_n 2, 0, 0, 0), (50, .iload_n 3, 0, 0, 0), (51, .iload 4, 0, 0, 0), (53, .invokevirtual 160, 176, 4, 45), (56, .ineg, 0, 0, 0), (57, .ireturn, 0, 0, 0)]
set_option maxRecDepth 100000 in
theorem sk_k177 : sk_mOK sk_inf sk_nest (sk_inf 177) sk_t177 := sk_mOK_of 12 false rfl (fun h => absurd h (by decide)) (by decide +kernel) (by decide +kernel)
def sk_t178 : List sk_E := [(0, .aload_n 0, 0, 0, 0), (1, .iload_n 1, 0, 0, 0), (2, .invokevirtual 164, 150, 1, 45), (5, .ifCond .eq 7, 12, 0, 0), (8, .iconst 2, 0, 0, 0), (9, .goto 4, 13, 0, 0), (12, .iconst 1, 0, 0, 0), (13, .istore_n 2, 0, 0, 0), (14, .aload_n 0, 0, 0, 0), (15, .getfield 14, 11, 1, 1), (18, .iconst 4, 0, 0, 0), (19, .iaload, 0, 0, 0), (20, .iconst 1, 0, 0, 0), (21, .if_icmp .ne 207, 228, 0, 0), (24, .iconst (-1), 0, 0, 0), (25, .istore_n 3, 0, 0, 0), (26, .iconst 0, 0, 0, 0), (27, .istore 4, 0, 0, 0), (29, .iload 4, 0, 0, 0), (31, .aload_n 0, 0, 0, 0), (32, .getfield 14, 11, 1, 1), (35, .iconst 5, 0, 0, 0), (36, .iaload, 0, 0, 0), (37, .if_icmp .ge 185, 222, 0, 0), (40, .iconst 0, 0, 0, 0), (41, .istore 5, 0, 0, 0), (43, .iload 5, 0, 0, 0), (45, .iload_n 2, 0, 0, 0), (46, .if_icmp .ge 170, 216, 0, 0), (49, .bipush 117, 0, 0, 0), (51, .iconst 4, 0, 0, 0), (52, .iload 4, 0, 0, 0), (54, .imul, 0, 0, 0), (55, .iadd, 0, 0, 0), (56, .istore 6, 0, 0, 0), (58, .aload_n 0, 0, 0, 0), (59, .iload_n 1, 0, 0, 0), (60, .iload 5, 0, 0, 0), (62, .invokevirtual 77, 151, 2, 45), (65, .aload_n 0, 0, 0, 0), (66, .getfield 14, 11, 1, 1), (69, .iload 6, 0, 0, 0), (71, .iconst 2, 0, 0, 0), (72, .iadd, 0, 0, 0), (73, .iaload, 0, 0, 0), (74, .if_icmp .gt 136, 210, 0, 0), (77, .aload_n 0, 0, 0, 0), (78, .iload_n 1, 0, 0, 0), (79, .iload 5, 0, 0, 0), (81, .invokevirtual 81, 152, 2, 45), (84, .aload_n 0, 0, 0, 0), (85, .getfield 14, 11, 1, 1), (88, .iload 6, 0, 0, 0), (90, .iconst 3, 0, 0, 0), (91, .iadd, 0, 0, 0), (92, .iaload, 0, 0, 0), (93, .if_icmp .gt 117, 210, 0, 0), (96, .aload_n 0, 0, 0, 0), (97, .iload_n 1, 0, 0, 0), (98, .aload_n 0, 0, 0, 0), (99, .getfield 14, 11, 1, 1), (102, .iload 6, 0, 0, 0), (104, .iaload, 0, 0, 0), (105, .aload_n 0, 0, 0, 0), (106, .getfield 14, 11, 1, 1), (109, .iload 6, 0, 0, 0), (111, .iconst 1, 0, 0, 0), (112, .iadd, 0, 0, 0), (113, .iaload, 0, 0, 0), (114, .iconst 0, 0, 0, 0), (115, .invokevirtual 167, 153, 4, 45), (118, .ifCond .ne 6, 124, 0, 0), (121, .goto 89, 210, 0, 0), (124, .aload_n 0, 0, 0, 0), (125, .getfield 14, 11, 1, 1), (128, .iload 6, 0, 0, 0), (130, .iconst 2, 0, 0, 0), (131, .iadd, 0, 0, 0), (132, .iaload, 0, 0, 0), (133, .aload_n 0, 0, 0, 0), (134, .getfield 14, 11, 1, 1), (137, .iload 6, 0, 0, 0), (139, .iconst 3, 0, 0, 0), (140, .iadd, 0, 0, 0), (141, .iaload, 0, 0, 0), (142, .imul, 0, 0, 0), (143, .aload_n 0, 0, 0, 0), (144, .iload_n 1, 0, 0, 0), (145, .iload 5, 0, 0, 0), (147, .invokevirtual 77, 151, 2, 45), (150, .aload_n 0, 0, 0, 0), (151, .iload_n 1, 0, 0, 0), (152, .iload 5, 0, 0, 0), (154, .invokevirtual 81, 152, 2, 45), (157, .imul, 0, 0, 0), (158, .isub, 0, 0, 0), (159, .istore 7, 0, 0, 0), (161, .iload_n 3, 0, 0, 0), (162, .ifCond .lt 9, 171, 0, 0), (165, .iload 7, 0, 0, 0), (167, .iload_n 3, 0, 0, 0), (168, .if_icmp .ge 42, 210, 0, 0), (171, .iload 7, 0, 0, 0), (173, .istore_n 3, 0, 0, 0), (174, .aload_n 0, 0, 0, 0), (175, .iload 4, 0, 0, 0), (177, .putfield 170, 11, 10, 0), (180, .aload_n 0, 0, 0, 0), (181, .iload 5, 0, 0, 0), (183, .putfield 173, 11, 9, 0), (186, .aload_n 0, 0, 0, 0), (187, .aload_n 0, 0, 0, 0), (188, .getfield 14, 11, 1, 1), (191, .iload 6, 0, 0, 0), (193, .iaload, 0, 0, 0), (194, .putfield 176, 11, 7, 0), (197, .aload_n 0, 0, 0, 0), (198, .aload_n 0, 0, 0, 0), (199, .getfield 14, 11, 1, 1), (202, .iload 6, 0, 0, 0), (204, .iconst 1, 0, 0, 0), (205, .iadd, 0, 0, 0), (206, .iaload, 0, 0, 0), (207, .putfield 179, 11, 8, 0), (210, .iinc 5 1, 0, 0, 0), (213, .goto (-170), 43, 0, 0), (216, .iinc 4 1, 0, 0, 0), (219, .goto (-190), 29, 0, 0), (222, .iload_n 3, 0, 0, 0), (223, .ifCond .lt 5, 228, 0, 0), (226, .iconst 1, 0, 0, 0), (227, .ireturn, 0, 0, 0), (228, .iconst 0, 0, 0, 0), (229, .istore_n 3, 0, 0, 0), (230, .iconst 0, 0, 0, 0), (231, .istore 4, 0, 0, 0), (233, .iconst 0, 0, 0, 0), (234, .istore 5, 0, 0, 0), (236, .iload 5, 0, 0, 0), (238, .iload_n 2, 0, 0, 0), (239, .if_icmp .ge 180, 419, 0, 0), (242, .iconst 0, 0, 0, 0), (243, .istore 6, 0, 0, 0), (245, .iload 6, 0, 0, 0), (247, .aload_n 0, 0, 0, 0), (248, .iload_n 1, 0, 0, 0), (249, .iload 5, 0, 0, 0), (251, .invokevirtual 77, 151, 2, 45), (254, .iadd, 0, 0, 0), (255, .aload_n 0, 0, 0, 0), (256, .getfield 14, 11, 1, 1), (259, .iconst 0, 0, 0, 0), (260, .iaload, 0, 0, 0), (261, .if_icmp .gt 152, 413, 0, 0), (264, .aload_n 0, 0, 0, 0), (265, .iload_n 1, 0, 0, 0), (266, .iload 5, 0, 0, 0), (268, .invokevirtual 77, 151, 2, 45), (271, .istore 7, 0, 0, 0), (273, .aload_n 0, 0, 0, 0), (274, .iload_n 1, 0, 0, 0), (275, .iload 5, 0, 0, 0), (277, .invokevirtual 81, 152, 2, 45), (280, .istore 8, 0, 0, 0), (282, .aload_n 0, 0, 0, 0), (283, .iload 6, 0, 0, 0), (285, .iload 7, 0, 0, 0), (287, .iload 8, 0, 0, 0), (289, .invokevirtual 182, 175, 3, 45), (292, .istore 9, 0, 0, 0), (294, .aload_n 0, 0, 0, 0), (295, .iload_n 1, 0, 0, 0), (296, .iload 6, 0, 0, 0), (298, .iload 9, 0, 0, 0), (300, .aload_n 0, 0, 0, 0), (301, .iload 6, 0, 0, 0), (303, .iload 9, 0, 0, 0), (305, .iload 7, 0, 0, 0), (307, .invokevirtual 156, 174, 3, 45), (310, .invokevirtual 167, 153, 4, 45), (313, .ifCond .ne 6, 319, 0, 0), (316, .goto 91, 407, 0, 0), (319, .aload_n 0, 0, 0, 0), (320, .iload 6, 0, 0, 0), (322, .iload 9, 0, 0, 0), (324, .iload 7, 0, 0, 0), (326, .iload 8, 0, 0, 0), (328, .invokevirtual 185, 177, 4, 45), (331, .istore 10, 0, 0, 0), (333, .iload_n 3, 0, 0, 0), (334, .ifCond .eq 44, 378, 0, 0), (337, .iload 10, 0, 0, 0), (339, .iload 4, 0, 0, 0), (341, .if_icmp .lt 37, 378, 0, 0), (344, .iload 10, 0, 0, 0), (346, .iload 4, 0, 0, 0), (348, .if_icmp .ne 59, 407, 0, 0), (351, .iload 9, 0, 0, 0), (353, .aload_n 0, 0, 0, 0), (354, .getfield 179, 11, 8, 0), (357, .if_icmp .lt 21, 378, 0, 0), (360, .iload 9, 0, 0, 0), (362, .aload_n 0, 0, 0, 0), (363, .getfield 179, 11, 8, 0), (366, .if_icmp .ne 41, 407, 0, 0), (369, .iload 6, 0, 0, 0), (371, .aload_n 0, 0, 0, 0), (372, .getfield 176, 11, 7, 0), (375, .if_icmp .ge 32, 407, 0, 0), (378, .iconst 1, 0, 0, 0), (379, .istore_n 3, 0, 0, 0), (380, .iload 10, 0, 0, 0), (382, .istore 4, 0, 0, 0), (384, .aload_n 0, 0, 0, 0), (385, .iload 6, 0, 0, 0), (387, .putfield 176, 11, 7, 0), (390, .aload_n 0, 0, 0, 0), (391, .iload 9, 0, 0, 0), (393, .putfield 179, 11, 8, 0), (396, .aload_n 0, 0, 0, 0), (397, .iload 5, 0, 0, 0), (399, .putfield 173, 11, 9, 0), (402, .aload_n 0, 0, 0, 0), (403, .iconst (-1), 0, 0, 0), (404, .putfield 170, 11, 10, 0), (407, .iinc 6 1, 0, 0, 0), (410, .goto (-165), 245, 0, 0), (413, .iinc 5 1, 0, 0, 0), (416, .goto (-180), 236, 0, 0), (419, .iload_n 3, 0, 0, 0), (420, .ireturn, 0, 0, 0)]
set_option maxRecDepth 100000 in
theorem sk_k178 : sk_mOK sk_inf sk_nest (sk_inf 178) sk_t178 := sk_mOK_of 12 false rfl (fun h => absurd h (by decide)) (by decide +kernel) (by decide +kernel)
def sk_t179 : List sk_E := [(0, .iload_n 3, 0, 0, 0), (1, .ifCond .le 8, 9, 0, 0), (4, .iload 4, 0, 0, 0), (6, .ifCond .gt 4, 10, 0, 0), (9, .return_, 0, 0, 0), (10, .aload_n 0, 0, 0, 0), (11, .getfield 14, 11, 1, 1), (14, .iconst 5, 0, 0, 0), (15, .iaload, 0, 0, 0), (16, .istore 5, 0, 0, 0), (18, .iload 5, 0, 0, 0), (20, .ifCond .le 91, 111, 0, 0), (23, .aload_n 0, 0, 0, 0), (24, .getfield 14, 11, 1, 1), (27, .bipush 117, 0, 0, 0), (29, .iconst 4, 0, 0, 0), (30, .iload 5, 0, 0, 0), (32, .imul, 0, 0, 0), (33, .iadd, 0, 0, 0), (34, .iconst 3, 0, 0, 0), (35, .isub, 0, 0, 0), (36, .iaload, 0, 0, 0), (37, .iload_n 2, 0, 0, 0), (38, .if_icmp .gt 39, 77, 0, 0), (41, .aload_n 0, 0, 0, 0), (42, .getfield 14, 11, 1, 1), (45, .bipush 117, 0, 0, 0), (47, .iconst 4, 0, 0, 0), (48, .iload 5, 0, 0, 0), (50, .imul, 0, 0, 0), (51, .iadd, 0, 0, 0), (52, .iconst 3, 0, 0, 0), (53, .isub, 0, 0, 0), (54, .iaload, 0, 0, 0), (55, .iload_n 2, 0, 0, 0), (56, .if_icmp .ne 55, 111, 0, 0), (59, .aload_n 0, 0, 0, 0), (60, .getfield 14, 11, 1, 1), (63, .bipush 117, 0, 0, 0), (65, .iconst 4, 0, 0, 0), (66, .iload 5, 0, 0, 0), (68, .imul, 0, 0, 0), (69, .iadd, 0, 0, 0), (70, .iconst 4, 0, 0, 0), (71, .isub, 0, 0, 0), (72, .iaload, 0, 0, 0), (73, .iload_n 1, 0, 0, 0), (74, .if_icmp .le 37, 111, 0, 0), (77, .aload_n 0, 0, 0, 0), (78, .getfield 14, 11, 1, 1), (81, .bipush 117, 0, 0, 0), (83, .iconst 4, 0, 0, 0), (84, .iload 5, 0, 0, 0), (86, .imul, 0, 0, 0), (87, .iadd, 0, 0, 0), (88, .iconst 4, 0, 0, 0), (89, .isub, 0, 0, 0), (90, .aload_n 0, 0, 0, 0), (91, .getfield 14, 11, 1, 1), (94, .bipush 117, 0, 0, 0), (96, .iconst 4, 0, 0, 0), (97, .iload 5, 0, 0, 0), (99, .imul, 0, 0, 0), (100, .iadd, 0, 0, 0), (101, .iconst 4, 0, 0, 0), (102, .invokestatic 63, 0, 5, 0), (105, .iinc 5 (-1), 0, 0, 0), (108, .goto (-90), 18, 0, 0), (111, .aload_n 0, 0, 0, 0), (112, .getfield 14, 11, 1, 1), (115, .bipush 117, 0, 0, 0), (117, .iconst 4, 0, 0, 0), (118, .iload 5, 0, 0, 0), (120, .imul, 0, 0, 0), (121, .iadd, 0, 0, 0), (122, .iload_n 1, 0, 0, 0), (123, .iastore, 0, 0, 0), (124, .aload_n 0, 0, 0, 0), (125, .getfield 14, 11, 1, 1), (128, .bipush 117, 0, 0, 0), (130, .iconst 4, 0, 0, 0), (131, .iload 5, 0, 0, 0), (133, .imul, 0, 0, 0), (134, .iadd, 0, 0, 0), (135, .iconst 1, 0, 0, 0), (136, .iadd, 0, 0, 0), (137, .iload_n 2, 0, 0, 0), (138, .iastore, 0, 0, 0), (139, .aload_n 0, 0, 0, 0), (140, .getfield 14, 11, 1, 1), (143, .bipush 117, 0, 0, 0), (145, .iconst 4, 0, 0, 0), (146, .iload 5, 0, 0, 0), (148, .imul, 0, 0, 0), (149, .iadd, 0, 0, 0), (150, .iconst 2, 0, 0, 0), (151, .iadd, 0, 0, 0), (152, .iload_n 3, 0, 0, 0), (153, .iastore, 0, 0, 0), (154, .aload_n 0, 0, 0, 0), (155, .getfield 14, 11, 1, 1), (158, .bipush 117, 0, 0, 0), (160, .iconst 4, 0, 0, 0), (161, .iload 5, 0, 0, 0), (163, .imul, 0, 0, 0), (164, .iadd, 0, 0, 0), (165, .iconst 3, 0, 0, 0), (166, .iadd, 0, 0, 0), (167, .iload 4, 0, 0, 0), (169, .iastore, 0, 0, 0), (170, .aload_n 0, 0, 0, 0), (171, .getfield 14, 11, 1, 1), (174, .iconst 5, 0, 0, 0), (175, .dup2, 0, 0, 0), (176, .iaload, 0, 0, 0), (177, .iconst 1, 0, 0, 0), (178, .iadd, 0, 0, 0), (179, .iastore, 0, 0, 0), (180, .return_, 0, 0, 0)]
set_option maxRecDepth 100000 in
theorem sk_k179 : sk_mOK sk_inf sk_nest (sk_inf 179) sk_t179 := sk_mOK_of 12 false rfl (fun h => absurd h (by decide)) (by decide +kernel) (by decide +kernel)
def sk_t180 : List sk_E := [(0, .bipush 117, 0, 0, 0), (2, .iconst 4, 0, 0, 0), (3, .aload_n 0, 0, 0, 0), (4, .getfield 170, 11, 10, 0), (7, .imul, 0, 0, 0), (8, .iadd, 0, 0, 0), (9, .istore_n 3, 0, 0, 0), (10, .aload_n 0, 0, 0, 0), (11, .getfield 14, 11, 1, 1), (14, .iload_n 3, 0, 0, 0), (15, .iconst 2, 0, 0, 0), (16, .iadd, 0, 0, 0), (17, .iaload, 0, 0, 0), (18, .istore 4, 0, 0, 0), (20, .aload_n 0, 0, 0, 0), (21, .getfield 14, 11, 1, 1), (24, .iload_n 3, 0, 0, 0), (25, .iconst 3, 0, 0, 0), (26, .iadd, 0, 0, 0), (27, .iaload, 0, 0, 0), (28, .istore 5, 0, 0, 0), (30, .aload_n 0, 0, 0, 0), (31, .getfield 14, 11, 1, 1), (34, .iconst 5, 0, 0, 0), (35, .dup2, 0, 0, 0), (36, .iaload, 0, 0, 0), (37, .iconst 1, 0, 0, 0), (38, .isub, 0, 0, 0), (39, .iastore, 0, 0, 0), (40, .aload_n 0, 0, 0, 0), (41, .getfield 14, 11, 1, 1), (44, .iload_n 3, 0, 0, 0), (45, .iconst 4, 0, 0, 0), (46, .iadd, 0, 0, 0), (47, .aload_n 0, 0, 0, 0), (48, .getfield 14, 11, 1, 1), (51, .iload_n 3, 0, 0, 0), (52, .iconst 4, 0, 0, 0), (53, .aload_n 0, 0, 0, 0), (54, .getfield 14, 11, 1, 1), (57, .iconst 5, 0, 0, 0), (58, .iaload, 0, 0, 0), (59, .aload_n 0, 0, 0, 0), (60, .getfield 170, 11, 10, 0), (63, .isub, 0, 0, 0), (64, .imul, 0, 0, 0), (65, .invokestatic 63, 0, 5, 0), (68, .aload_n 0, 0, 0, 0), (69, .aload_n 0, 0, 0, 0), (70, .getfield 176, 11, 7, 0), (73, .iload_n 1, 0, 0, 0), (74, .iadd, 0, 0, 0), (75, .aload_n 0, 0, 0, 0), (76, .getfield 179, 11, 8, 0), (79, .iload 4, 0, 0, 0), (81, .iload_n 1, 0, 0, 0), (82, .isub, 0, 0, 0), (83, .iload 5, 0, 0, 0), (85, .invokevirtual 188, 179, 4, 44), (88, .aload_n 0, 0, 0, 0), (89, .aload_n 0, 0, 0, 0), (90, .getfield 176, 11, 7, 0), (93, .aload_n 0, 0, 0, 0), (94, .getfield 179, 11, 8, 0), (97, .iload_n 2, 0, 0, 0), (98, .iadd, 0, 0, 0), (99, .iload_n 1, 0, 0, 0), (100, .iload 5, 0, 0, 0), (102, .iload_n 2, 0, 0, 0), (103, .isub, 0, 0, 0), (104, .invokevirtual 188, 179, 4, 44), (107, .return_, 0, 0, 0)]
set_option maxRecDepth 100000 in
theorem sk_k180 : sk_mOK sk_inf sk_nest (sk_inf 180) sk_t180 := sk_mOK_of 12 false rfl (fun h => absurd h (by decide)) (by decide +kernel) (by decide +kernel)
def sk_t181 : List sk_E := [(0, .aload_n 0, 0, 0, 0), (1, .getfield 176, 11, 7, 0), (4, .istore_n 3, 0, 0, 0), (5, .iload_n 3, 0, 0, 0), (6, .aload_n 0, 0, 0, 0), (7, .getfield 176, 11, 7, 0), (10, .iload_n 1, 0, 0, 0), (11, .iadd, 0, 0, 0), (12, .if_icmp .ge 100, 112, 0, 0), (15, .iload_n 3, 0, 0, 0), (16, .istore 4, 0, 0, 0), (18, .aload_n 0, 0, 0, 0), (19, .getfield 14, 11, 1, 1), (22, .bipush 97, 0, 0, 0), (24, .iload_n 3, 0, 0, 0), (25, .iadd, 0, 0, 0), (26, .iaload, 0, 0, 0), (27, .istore 5, 0, 0, 0), (29, .iload_n 3, 0, 0, 0), (30, .aload_n 0, 0, 0, 0), (31, .getfield 176, 11, 7, 0), (34, .iload_n 1, 0, 0, 0), (35, .iadd, 0, 0, 0), (36, .if_icmp .ge 23, 59, 0, 0), (39, .aload_n 0, 0, 0, 0), (40, .getfield 14, 11, 1, 1), (43, .bipush 97, 0, 0, 0), (45, .iload_n 3, 0, 0, 0), (46, .iadd, 0, 0, 0), (47, .iaload, 0, 0, 0), (48, .iload 5, 0, 0, 0), (50, .if_icmp .ne 9, 59, 0, 0), (53, .iinc 3 1, 0, 0, 0), (56, .goto (-27), 29, 0, 0), (59, .iload 5, 0, 0, 0), (61, .aload_n 0, 0, 0, 0), (62, .getfield 179, 11, 8, 0), (65, .if_icmp .ge 44, 109, 0, 0), (68, .aload_n 0, 0, 0, 0), (69, .iload 4, 0, 0, 0), (71, .iload 5, 0, 0, 0), (73, .iload_n 3, 0, 0, 0), (74, .iload 4, 0, 0, 0), (76, .isub, 0, 0, 0), (77, .aload_n 0, 0, 0, 0), (78, .getfield 179, 11, 8, 0), (81, .iload 5, 0, 0, 0), (83, .isub, 0, 0, 0), (84, .invokevirtual 140, 157, 4, 45), (87, .ifCond .ne 22, 109, 0, 0), (90, .aload_n 0, 0, 0, 0), (91, .iload 4, 0, 0, 0), (93, .iload 5, 0, 0, 0), (95, .iload_n 3, 0, 0, 0), (96, .iload 4, 0, 0, 0), (98, .isub, 0, 0, 0), (99, .aload_n 0, 0, 0, 0), (100, .getfield 179, 11, 8, 0), (103, .iload 5, 0, 0, 0), (105, .isub, 0, 0, 0), (106, .invokevirtual 188, 179, 4, 44), (109, .goto (-104), 5, 0, 0), (112, .aload_n 0, 0, 0, 0), (113, .getfield 176, 11, 7, 0), (116, .istore 4, 0, 0, 0), (118, .iload 4, 0, 0, 0), (120, .aload_n 0, 0, 0, 0), (121, .getfield 176, 11, 7, 0), (124, .iload_n 1, 0, 0, 0), (125, .iadd, 0, 0, 0), (126, .if_icmp .ge 25, 151, 0, 0), (129, .aload_n 0, 0, 0, 0), (130, .getfield 14, 11, 1, 1), (133, .bipush 97, 0, 0, 0), (135, .iload 4, 0, 0, 0), (137, .iadd, 0, 0, 0), (138, .aload_n 0, 0, 0, 0), (139, .getfield 179, 11, 8, 0), (142, .iload_n 2, 0, 0, 0), (143, .iadd, 0, 0, 0), (144, .iastore, 0, 0, 0), (145, .iinc 4 1, 0, 0, 0), (148, .goto (-30), 118, 0, 0), (151, .return_, 0, 0, 0)]
set_option maxRecDepth 100000 in
theorem sk_k181 : sk_mOK sk_inf sk_nest (sk_inf 181) sk_t181 := sk_mOK_of 12 false rfl (fun h => absurd h (by decide)) (by decide +kernel) (by decide +kernel)
def sk_t182 : List sk_E := [(0, .aload_n 0, 0, 0, 0), (1, .iload_n 1, 0, 0, 0), (2, .invokevirtual 192, 178, 1, 45), (5, .ifCond .ne 5, 10, 0, 0), (8, .iconst 0, 0, 0, 0), (9, .ireturn, 0, 0, 0), (10, .aload_n 0, 0, 0, 0), (11, .getfield 14, 11, 1, 1), (14, .bipush 47, 0, 0, 0), (16, .iload_n 1, 0, 0, 0), (17, .iadd, 0, 0, 0), (18, .aload_n 0, 0, 0, 0), (19, .getfield 176, 11, 7, 0), (22, .iastore, 0, 0, 0), (23, .aload_n 0, 0, 0, 0), (24, .getfield 14, 11, 1, 1), (27, .bipush 57, 0, 0, 0), (29, .iload_n 1, 0, 0, 0), (30, .iadd, 0, 0, 0), (31, .aload_n 0, 0, 0, 0), (32, .getfield 179, 11, 8, 0), (35, .iastore, 0, 0, 0), (36, .aload_n 0, 0, 0, 0), (37, .getfield 14, 11, 1, 1), (40, .bipush 67, 0, 0, 0), (42, .iload_n 1, 0, 0, 0), (43, .iadd, 0, 0, 0), (44, .aload_n 0, 0, 0, 0), (45, .getfield 173, 11, 9, 0), (48, .iastore, 0, 0, 0), (49, .aload_n 0, 0, 0, 0), (50, .getfield 14, 11, 1, 1), (53, .bipush 77, 0, 0, 0), (55, .iload_n 1, 0, 0, 0), (56, .iadd, 0, 0, 0), (57, .aload_n 0, 0, 0, 0), (58, .getfield 170, 11, 10, 0), (61, .iconst (-1), 0, 0, 0), (62, .if_icmp .ne 7, 69, 0, 0), (65, .iconst 2, 0, 0, 0), (66, .goto 4, 70, 0, 0), (69, .iconst 3, 0, 0, 0), (70, .iastore, 0, 0, 0), (71, .aload_n 0, 0, 0, 0), (72, .getfield 170, 11, 10, 0), (75, .iconst (-1), 0, 0, 0), (76, .if_icmp .ne 20, 96, 0, 0), (79, .aload_n 0, 0, 0, 0), (80, .aload_n 0, 0, 0, 0), (81, .iload_n 1, 0, 0, 0), (82, .invokevirtual 84, 154, 1, 45), (85, .aload_n 0, 0, 0, 0), (86, .iload_n 1, 0, 0, 0), (87, .invokevirtual 88, 155, 1, 45), (90, .invokevirtual 195, 181, 2, 44), (93, .goto 17, 110, 0, 0), (96, .aload_n 0, 0, 0, 0), (97, .aload_n 0, 0, 0, 0), (98, .iload_n 1, 0, 0, 0), (99, .invokevirtual 84, 154, 1, 45), (102, .aload_n 0, 0, 0, 0), (103, .iload_n 1, 0, 0, 0), (104, .invokevirtual 88, 155, 1, 45), (107, .invokevirtual 198, 180, 2, 44), (110, .iconst 1, 0, 0, 0), (111, .ireturn, 0, 0, 0)]
set_option maxRecDepth 100000 in
theorem sk_k182 : sk_mOK sk_inf sk_nest (sk_inf 182) sk_t182 := sk_mOK_of 12 false rfl (fun h => absurd h (by decide)) (by decide +kernel) (by decide +kernel)
def sk_t183 : List sk_E := [(0, .iconst 0, 0, 0, 0), (1, .istore_n 1, 0, 0, 0), (2, .iload_n 1, 0, 0, 0), (3, .aload_n 0, 0, 0, 0), (4, .getfield 14, 11, 1, 1), (7, .iconst 1, 0, 0, 0), (8, .iaload, 0, 0, 0), (9, .if_icmp .ge 32, 41, 0, 0), (12, .aload_n 0, 0, 0, 0), (13, .getfield 14, 11, 1, 1), (16, .bipush 77, 0, 0, 0), (18, .iload_n 1, 0, 0, 0), (19, .iadd, 0, 0, 0), (20, .iaload, 0, 0, 0), (21, .iconst 1, 0, 0, 0), (22, .if_icmp .eq 13, 35, 0, 0), (25, .aload_n 0, 0, 0, 0), (26, .getfield 14, 11, 1, 1), (29, .bipush 77, 0, 0, 0), (31, .iload_n 1, 0, 0, 0), (32, .iadd, 0, 0, 0), (33, .iconst 0, 0, 0, 0), (34, .iastore, 0, 0, 0), (35, .iinc 1 1, 0, 0, 0), (38, .goto (-36), 2, 0, 0), (41, .iconst 0, 0, 0, 0), (42, .istore_n 1, 0, 0, 0), (43, .iload_n 1, 0, 0, 0), (44, .bipush 20, 0, 0, 0), (46, .if_icmp .ge 19, 65, 0, 0), (49, .aload_n 0, 0, 0, 0), (50, .getfield 14, 11, 1, 1), (53, .bipush 97, 0, 0, 0), (55, .iload_n 1, 0, 0, 0), (56, .iadd, 0, 0, 0), (57, .iconst 0, 0, 0, 0), (58, .iastore, 0, 0, 0), (59, .iinc 1 1, 0, 0, 0), (62, .goto (-19), 43, 0, 0), (65, .aload_n 0, 0, 0, 0), (66, .getfield 14, 11, 1, 1), (69, .iconst 5, 0, 0, 0), (70, .iconst 0, 0, 0, 0), (71, .iastore, 0, 0, 0), (72, .return_, 0, 0, 0)]
set_option maxRecDepth 100000 in
theorem sk_k183 : sk_mOK sk_inf sk_nest (sk_inf 183) sk_t183 := sk_mOK_of 12 false rfl (fun h => absurd h (by decide)) (by decide +kernel) (by decide +kernel)
def sk_t184 : List sk_E := [(0, .aload_n 0, 0, 0, 0), (1, .invokevirtual 201, 183, 0, 44), (4, .iconst 0, 0, 0, 0), (5, .istore_n 1, 0, 0, 0), (6, .iconst 0, 0, 0, 0), (7, .istore_n 2, 0, 0, 0), (8, .iload_n 2, 0, 0, 0), (9, .aload_n 0, 0, 0, 0), (10, .getfield 14, 11, 1, 1), (13, .iconst 2, 0, 0, 0), (14, .iaload, 0, 0, 0), (15, .if_icmp .ge 28, 43, 0, 0), (18, .aload_n 0, 0, 0, 0), (19, .aload_n 0, 0, 0, 0), (20, .getfield 14, 11, 1, 1), (23, .bipush 87, 0, 0, 0), (25, .iload_n 2, 0, 0, 0), (26, .iadd, 0, 0, 0), (27, .iaload, 0, 0, 0), (28, .invokevirtual 204, 182, 1, 45), (31, .ifCond .eq 6, 37, 0, 0), (34, .iinc 1 1, 0, 0, 0), (37, .iinc 2 1, 0, 0, 0), (40, .goto (-32), 8, 0, 0), (43, .iload_n 1, 0, 0, 0), (44, .ireturn, 0, 0, 0)]
set_option maxRecDepth 100000 in
theorem sk_k184 : sk_mOK sk_inf sk_nest (sk_inf 184) sk_t184 := sk_mOK_of 12 false rfl (fun h => absurd h (by decide)) (by decide +kernel) (by decide +kernel)
def sk_t185 : List sk_E := [(0, .iconst 0, 0, 0, 0), (1, .istore_n 1, 0, 0, 0), (2, .iconst 0, 0, 0, 0), (3, .istore_n 2, 0, 0, 0), (4, .iload_n 2, 0, 0, 0), (5, .aload_n 0, 0, 0, 0), (6, .getfield 14, 11, 1, 1), (9, .iconst 0, 0, 0, 0), (10, .iaload, 0, 0, 0), (11, .if_icmp .ge 23, 34, 0, 0), (14, .iload_n 1, 0, 0, 0), (15, .aload_n 0, 0, 0, 0), (16, .getfield 14, 11, 1, 1), (19, .bipush 97, 0, 0, 0), (21, .iload_n 2, 0, 0, 0), (22, .iadd, 0, 0, 0), (23, .iaload, 0, 0, 0), (24, .invokestatic 151, 239, 2, 1), (27, .istore_n 1, 0, 0, 0), (28, .iinc 2 1, 0, 0, 0), (31, .goto (-27), 4, 0, 0), (34, .iconst 0, 0, 0, 0), (35, .istore_n 2, 0, 0, 0), (36, .iload_n 2, 0, 0, 0), (37, .aload_n 0, 0, 0, 0), (38, .getfield 14, 11, 1, 1), (41, .iconst 1, 0, 0, 0), (42, .iaload, 0, 0, 0), (43, .if_icmp .ge 42, 85, 0, 0), (46, .aload_n 0, 0, 0, 0), (47, .getfield 14, 11, 1, 1), (50, .bipush 77, 0, 0, 0), (52, .iload_n 2, 0, 0, 0), (53, .iadd, 0, 0, 0), (54, .iaload, 0, 0, 0), (55, .iconst 1, 0, 0, 0), (56, .if_icmp .ne 23, 79, 0, 0), (59, .iload_n 1, 0, 0, 0), (60, .aload_n 0, 0, 0, 0), (61, .getfield 14, 11, 1, 1), (64, .bipush 57, 0, 0, 0), (66, .iload_n 2, 0, 0, 0), (67, .iadd, 0, 0, 0), (68, .iaload, 0, 0, 0), (69, .aload_n 0, 0, 0, 0), (70, .iload_n 2, 0, 0, 0), (71, .invokevirtual 88, 155, 1, 45), (74, .iadd, 0, 0, 0), (75, .invokestatic 151, 239, 2, 1), (78, .istore_n 1, 0, 0, 0), (79, .iinc 2 1, 0, 0, 0), (82, .goto (-46), 36, 0, 0), (85, .iload_n 1, 0, 0, 0), (86, .ireturn, 0, 0, 0)]
set_option maxRecDepth 100000 in
theorem sk_k185 : sk_mOK sk_inf sk_nest (sk_inf 185) sk_t185 := sk_mOK_of 12 false rfl (fun h => absurd h (by decide)) (by decide +kernel) (by decide +kernel)
def sk_t186 : List sk_E := [(0, .aload_n 0, 0, 0, 0), (1, .iload_n 1, 0, 0, 0), (2, .invokevirtual 130, 148, 1, 45), (5, .ifCond .eq 12, 17, 0, 0), (8, .iload_n 2, 0, 0, 0), (9, .iconst 0, 0, 0, 0), (10, .iconst 3, 0, 0, 0), (11, .invokestatic 69, 144, 3, 45), (14, .ifCond .ne 6, 20, 0, 0), (17, .bipush (-2), 0, 0, 0), (19, .ireturn, 0, 0, 0), (20, .aload_n 0, 0, 0, 0), (21, .getfield 14, 11, 1, 1), (24, .bipush 77, 0, 0, 0), (26, .iload_n 1, 0, 0, 0), (27, .iadd, 0, 0, 0), (28, .iaload, 0, 0, 0), (29, .ifCond .eq 6, 35, 0, 0), (32, .bipush (-3), 0, 0, 0), (34, .ireturn, 0, 0, 0), (35, .aload_n 0, 0, 0, 0), (36, .iload_n 1, 0, 0, 0), (37, .invokevirtual 192, 178, 1, 45), (40, .ifCond .ne 5, 45, 0, 0), (43, .iconst (-1), 0, 0, 0), (44, .ireturn, 0, 0, 0), (45, .iload_n 2, 0, 0, 0), (46, .tableswitch 41 0 2 #[26, 31, 36], 0, 0, 26), (72, .aload_n 0, 0, 0, 0), (73, .getfield 176, 11, 7, 0), (76, .ireturn, 0, 0, 0), (77, .aload_n 0, 0, 0, 0), (78, .getfield 179, 11, 8, 0), (81, .ireturn, 0, 0, 0), (82, .aload_n 0, 0, 0, 0), (83, .getfield 173, 11, 9, 0), (86, .ireturn, 0, 0, 0), (87, .aload_n 0, 0, 0, 0), (88, .getfield 170, 11, 10, 0), (91, .iconst (-1), 0, 0, 0), (92, .if_icmp .ne 7, 99, 0, 0), (95, .iconst 0, 0, 0, 0), (96, .goto 4, 100, 0, 0), (99, .iconst 1, 0, 0, 0), (100, .ireturn, 0, 0, 0)]
set_option maxRecDepth 100000 in
theorem sk_k186 : sk_mOK sk_inf sk_nest (sk_inf 186) sk_t186 := sk_mOK_of 12 false rfl (fun h => absurd h (by decide)) (by decide +kernel) (by decide +kernel)
def sk_t187 : List sk_E := [(0, .iload_n 1, 0, 0, 0), (1, .iconst (-1), 0, 0, 0), (2, .if_icmp .ne 9, 11, 0, 0), (5, .aload_n 0, 0, 0, 0), (6, .invokevirtual 201, 183, 0, 44), (9, .iconst 0, 0, 0, 0), (10, .ireturn, 0, 0, 0), (11, .aload_n 0, 0, 0, 0), (12, .iload_n 1, 0, 0, 0), (13, .invokevirtual 130, 148, 1, 45), (16, .ifCond .ne 6, 22, 0, 0), (19, .bipush (-2), 0, 0, 0), (21, .ireturn, 0, 0, 0), (22, .aload_n 0, 0, 0, 0), (23, .getfield 14, 11, 1, 1), (26, .bipush 77, 0, 0, 0), (28, .iload_n 1, 0, 0, 0), (29, .iadd, 0, 0, 0), (30, .iaload, 0, 0, 0), (31, .ifCond .eq 6, 37, 0, 0), (34, .bipush (-3), 0, 0, 0), (36, .ireturn, 0, 0, 0), (37, .aload_n 0, 0, 0, 0), (38, .iload_n 1, 0, 0, 0), (39, .invokevirtual 204, 182, 1, 45), (42, .ifCond .eq 15, 57, 0, 0), (45, .aload_n 0, 0, 0, 0), (46, .getfield 14, 11, 1, 1), (49, .bipush 57, 0, 0, 0), (51, .iload_n 1, 0, 0, 0), (52, .iadd, 0, 0, 0), (53, .iaload, 0, 0, 0), (54, .goto 4, 58, 0, 0), (57, .iconst (-1), 0, 0, 0), (58, .ireturn, 0, 0, 0)]
set_option maxRecDepth 100000 in
theorem sk_k187 : sk_mOK sk_inf sk_nest (sk_inf 187) sk_t187 := sk_mOK_of 12 false rfl (fun h => absurd h (by decide)) (by decide +kernel) (by decide +kernel)
def sk_t188 : List sk_E := [(0, .aload_n 0, 0, 0, 0), (1, .invokevirtual 207, 184, 0, 45), (4, .ireturn, 0, 0, 0)]
set_option maxRecDepth 100000 in
theorem sk_k188 : sk_mOK sk_inf sk_nest (sk_inf 188) sk_t188 := sk_mOK_of 12 false rfl (fun h => absurd h (by decide)) (by decide +kernel) (by decide +kernel)
def sk_t189 : List sk_E := [(0, .iload_n 2, 0, 0, 0), (1, .iconst 0, 0, 0, 0), (2, .iconst 2, 0, 0, 0), (3, .invokestatic 69, 144, 3, 45), (6, .ifCond .ne 6, 12, 0, 0), (9, .bipush (-2), 0, 0, 0), (11, .ireturn, 0, 0, 0), (12, .iconst 0, 0, 0, 0), (13, .istore_n 3, 0, 0, 0), (14, .iconst 0, 0, 0, 0), (15, .istore 4, 0, 0, 0), (17, .iload 4, 0, 0, 0), (19, .aload_n 0, 0, 0, 0), (20, .getfield 14, 11, 1, 1), (23, .iconst 0, 0, 0, 0), (24, .iaload, 0, 0, 0), (25, .if_icmp .ge 127, 152, 0, 0), (28, .iload 4, 0, 0, 0), (30, .ifCond .le 31, 61, 0, 0), (33, .aload_n 0, 0, 0, 0), (34, .getfield 14, 11, 1, 1), (37, .bipush 97, 0, 0, 0), (39, .iload 4, 0, 0, 0), (41, .iadd, 0, 0, 0), (42, .iaload, 0, 0, 0), (43, .aload_n 0, 0, 0, 0), (44, .getfield 14, 11, 1, 1), (47, .bipush 97, 0, 0, 0), (49, .iload 4, 0, 0, 0), (51, .iadd, 0, 0, 0), (52, .iconst 1, 0, 0, 0), (53, .isub, 0, 0, 0), (54, .iaload, 0, 0, 0), (55, .if_icmp .ne 6, 61, 0, 0), (58, .goto 88, 146, 0, 0), (61, .iload_n 3, 0, 0, 0), (62, .iload_n 1, 0, 0, 0), (63, .if_icmp .ne 80, 143, 0, 0), (66, .iload 4, 0, 0, 0), (68, .istore 5, 0, 0, 0), (70, .iload 5, 0, 0, 0), (72, .aload_n 0, 0, 0, 0), (73, .getfield 14, 11, 1, 1), (76, .iconst 0, 0, 0, 0), (77, .iaload, 0, 0, 0), (78, .if_icmp .ge 32, 110, 0, 0), (81, .aload_n 0, 0, 0, 0), (82, .getfield 14, 11, 1, 1), (85, .bipush 97, 0, 0, 0), (87, .iload 5, 0, 0, 0), (89, .iadd, 0, 0, 0), (90, .iaload, 0, 0, 0), (91, .aload_n 0, 0, 0, 0), (92, .getfield 14, 11, 1, 1), (95, .bipush 97, 0, 0, 0), (97, .iload 4, 0, 0, 0), (99, .iadd, 0, 0, 0), (100, .iaload, 0, 0, 0), (101, .if_icmp .ne 9, 110, 0, 0), (104, .iinc 5 1, 0, 0, 0), (107, .goto (-37), 70, 0, 0), (110, .iload_n 2, 0, 0, 0), (111, .ifCond .ne 8, 119, 0, 0), (114, .iload 4, 0, 0, 0), (116, .goto 26, 142, 0, 0), (119, .iload_n 2, 0, 0, 0), (120, .iconst 1, 0, 0, 0), (121, .if_icmp .ne 11, 132, 0, 0), (124, .iload 5, 0, 0, 0), (126, .iload 4, 0, 0, 0), (128, .isub, 0, 0, 0), (129, .goto 13, 142, 0, 0), (132, .aload_n 0, 0, 0, 0), (133, .getfield 14, 11, 1, 1), (136, .bipush 97, 0, 0, 0), (138, .iload 4, 0, 0, 0), (140, .iadd, 0, 0, 0), (141, .iaload, 0, 0, 0), (142, .ireturn, 0, 0, 0), (143, .iinc 3 1, 0, 0, 0), (146, .iinc 4 1, 0, 0, 0), (149, .goto (-132), 17, 0, 0), (152, .iload_n 1, 0, 0, 0), (153, .iconst (-1), 0, 0, 0), (154, .if_icmp .ne 7, 161, 0, 0), (157, .iload_n 3, 0, 0, 0), (158, .goto 5, 163, 0, 0), (161, .bipush (-12), 0, 0, 0), (163, .ireturn, 0, 0, 0)]
set_option maxRecDepth 100000 in
theorem sk_k189 : sk_mOK sk_inf sk_nest (sk_inf 189) sk_t189 := sk_mOK_of 12 false rfl (fun h => absurd h (by decide)) (by decide +kernel) (by decide +kernel)
def sk_t190 : List sk_E := [(0, .iload_n 2, 0, 0, 0), (1, .iconst 0, 0, 0, 0), (2, .iconst 3, 0, 0, 0), (3, .invokestatic 69, 144, 3, 45), (6, .ifCond .ne 6, 12, 0, 0), (9, .bipush (-2), 0, 0, 0), (11, .ireturn, 0, 0, 0), (12, .iload_n 1, 0, 0, 0), (13, .iconst (-1), 0, 0, 0), (14, .if_icmp .ne 10, 24, 0, 0), (17, .aload_n 0, 0, 0, 0), (18, .getfield 14, 11, 1, 1), (21, .iconst 5, 0, 0, 0), (22, .iaload, 0, 0, 0), (23, .ireturn, 0, 0, 0), (24, .iload_n 1, 0, 0, 0), (25, .iconst 0, 0, 0, 0), (26, .aload_n 0, 0, 0, 0), (27, .getfield 14, 11, 1, 1), (30, .iconst 5, 0, 0, 0), (31, .iaload, 0, 0, 0), (32, .iconst 1, 0, 0, 0), (33, .isub, 0, 0, 0), (34, .invokestatic 69, 144, 3, 45), (37, .ifCond .eq 19, 56, 0, 0), (40, .aload_n 0, 0, 0, 0), (41, .getfield 14, 11, 1, 1), (44, .bipush 117, 0, 0, 0), (46, .iconst 4, 0, 0, 0), (47, .iload_n 1, 0, 0, 0), (48, .imul, 0, 0, 0), (49, .iadd, 0, 0, 0), (50, .iload_n 2, 0, 0, 0), (51, .iadd, 0, 0, 0), (52, .iaload, 0, 0, 0), (53, .goto 5, 58, 0, 0), (56, .bipush (-12), 0, 0, 0), (58, .ireturn, 0, 0, 0)]
set_option maxRecDepth 100000 in
theorem sk_k190 : sk_mOK sk_inf sk_nest (sk_inf 190) sk_t190 := sk_mOK_of 12 false rfl (fun h => absurd h (by decide)) (by decide +kernel) (by decide +kernel)
def sk_t191 : List sk_E := [(0, .iload_n 0, 0, 0, 0), (1, .iload_n 1, 0, 0, 0), (2, .iadd, 0, 0, 0), (3, .iconst 1, 0, 0, 0), (4, .isub, 0, 0, 0), (5, .iload_n 1, 0, 0, 0), (6, .idiv, 0, 0, 0), (7, .ireturn, 0, 0, 0)]
set_option maxRecDepth 100000 in
theorem sk_k191 : sk_mOK sk_inf sk_nest (sk_inf 191) sk_t191 := sk_mOK_of 12 false rfl (fun h => absurd h (by decide)) (by decide +kernel) (by decide +kernel)
def sk_t192 : List sk_E := [(0, .aload_n 0, 0, 0, 0), (1, .getfield 14, 11, 1, 1), (4, .iconst 0, 0, 0, 0), (5, .iaload, 0, 0, 0), (6, .istore 5, 0, 0, 0), (8, .iload_n 1, 0, 0, 0), (9, .ifCond .ne 8, 17, 0, 0), (12, .iload_n 3, 0, 0, 0), (13, .iload 4, 0, 0, 0), (15, .imul, 0, 0, 0), (16, .ireturn, 0, 0, 0), (17, .iload_n 1, 0, 0, 0), (18, .iconst 2, 0, 0, 0), (19, .if_icmp .ne 18, 37, 0, 0), (22, .iconst 2, 0, 0, 0), (23, .iload_n 3, 0, 0, 0), (24, .imul, 0, 0, 0), (25, .iload 5, 0, 0, 0), (27, .if_icmp .le 8, 35, 0, 0), (30, .iload 4, 0, 0, 0), (32, .goto 4, 36, 0, 0), (35, .iconst 0, 0, 0, 0), (36, .ireturn, 0, 0, 0), (37, .iload_n 1, 0, 0, 0), (38, .bipush 7, 0, 0, 0), (40, .if_icmp .ne 30, 70, 0, 0), (43, .iload_n 3, 0, 0, 0), (44, .iload 5, 0, 0, 0), (46, .iload_n 2, 0, 0, 0), (47, .isub, 0, 0, 0), (48, .if_icmp .le 8, 56, 0, 0), (51, .iload 5, 0, 0, 0), (53, .goto 13, 66, 0, 0), (56, .iload_n 3, 0, 0, 0), (57, .iload_n 2, 0, 0, 0), (58, .if_icmp .lt 7, 65, 0, 0), (61, .iload_n 3, 0, 0, 0), (62, .goto 4, 66, 0, 0), (65, .iconst 0, 0, 0, 0), (66, .iload 4, 0, 0, 0), (68, .imul, 0, 0, 0), (69, .ireturn, 0, 0, 0), (70, .iload_n 1, 0, 0, 0), (71, .iconst 2, 0, 0, 0), (72, .isub, 0, 0, 0), (73, .istore 6, 0, 0, 0), (75, .iload 6, 0, 0, 0), (77, .iconst 1, 0, 0, 0), (78, .iadd, 0, 0, 0), (79, .iload_n 3, 0, 0, 0), (80, .imul, 0, 0, 0), (81, .iload 5, 0, 0, 0), (83, .irem, 0, 0, 0), (84, .ifCond .ne 10, 94, 0, 0), (87, .iload 6, 0, 0, 0), (89, .iload_n 3, 0, 0, 0), (90, .imul, 0, 0, 0), (91, .goto 15, 106, 0, 0), (94, .iload 6, 0, 0, 0), (96, .iconst 1, 0, 0, 0), (97, .iadd, 0, 0, 0), (98, .iload_n 3, 0, 0, 0), (99, .imul, 0, 0, 0), (100, .iload 5, 0, 0, 0), (102, .idiv, 0, 0, 0), (103, .iload 5, 0, 0, 0), (105, .imul, 0, 0, 0), (106, .iload 4, 0, 0, 0), (108, .imul, 0, 0, 0), (109, .ireturn, 0, 0, 0)]
set_option maxRecDepth 100000 in
theorem sk_k192 : sk_mOK sk_inf sk_nest (sk_inf 192) sk_t192 := sk_mOK_of 12 false rfl (fun h => absurd h (by decide)) (by decide +kernel) (by decide +kernel)
def sk_t193 : List sk_E := [(0, .iconst 0, 0, 0, 0), (1, .istore_n 3, 0, 0, 0), (2, .iconst 0, 0, 0, 0), (3, .istore 4, 0, 0, 0), (5, .iload 4, 0, 0, 0), (7, .aload_n 0, 0, 0, 0), (8, .getfield 14, 11, 1, 1), (11, .iconst 1, 0, 0, 0), (12, .iaload, 0, 0, 0), (13, .if_icmp .ge 116, 129, 0, 0), (16, .aload_n 0, 0, 0, 0), (17, .getfield 14, 11, 1, 1), (20, .bipush 77, 0, 0, 0), (22, .iload 4, 0, 0, 0), (24, .iadd, 0, 0, 0), (25, .iaload, 0, 0, 0), (26, .iconst 1, 0, 0, 0), (27, .if_icmp .ne 7, 34, 0, 0), (30, .iconst 1, 0, 0, 0), (31, .goto 4, 35, 0, 0), (34, .iconst 0, 0, 0, 0), (35, .istore 5, 0, 0, 0), (37, .iload 5, 0, 0, 0), (39, .ifCond .ne 15, 54, 0, 0), (42, .aload_n 0, 0, 0, 0), (43, .iload 4, 0, 0, 0), (45, .invokevirtual 137, 168, 1, 45), (48, .ifCond .ne 6, 54, 0, 0), (51, .goto 72, 123, 0, 0), (54, .aload_n 0, 0, 0, 0), (55, .iload_n 1, 0, 0, 0), (56, .iload_n 2, 0, 0, 0), (57, .aload_n 0, 0, 0, 0), (58, .iload 4, 0, 0, 0), (60, .iconst 0, 0, 0, 0), (61, .invokevirtual 77, 151, 2, 45), (64, .aload_n 0, 0, 0, 0), (65, .iload 4, 0, 0, 0), (67, .iconst 0, 0, 0, 0), (68, .invokevirtual 81, 152, 2, 45), (71, .invokevirtual 210, 192, 4, 45), (74, .istore 6, 0, 0, 0), (76, .iload_n 3, 0, 0, 0), (77, .iload 5, 0, 0, 0), (79, .ifCond .ne 40, 119, 0, 0), (82, .aload_n 0, 0, 0, 0), (83, .iload 4, 0, 0, 0), (85, .invokevirtual 164, 150, 1, 45), (88, .ifCond .eq 31, 119, 0, 0), (91, .iload 6, 0, 0, 0), (93, .aload_n 0, 0, 0, 0), (94, .iload_n 1, 0, 0, 0), (95, .iload_n 2, 0, 0, 0), (96, .aload_n 0, 0, 0, 0), (97, .iload 4, 0, 0, 0), (99, .iconst 1, 0, 0, 0), (100, .invokevirtual 77, 151, 2, 45), (103, .aload_n 0, 0, 0, 0), (104, .iload 4, 0, 0, 0), (106, .iconst 1, 0, 0, 0), (107, .invokevirtual 81, 152, 2, 45), (110, .invokevirtual 210, 192, 4, 45), (113, .invokestatic 213, 240, 2, 1), (116, .goto 5, 121, 0, 0), (119, .iload 6, 0, 0, 0), (121, .iadd, 0, 0, 0), (122, .istore_n 3, 0, 0, 0), (123, .iinc 4 1, 0, 0, 0), (126, .goto (-121), 5, 0, 0), (129, .iload_n 3, 0, 0, 0), (130, .ireturn, 0, 0, 0)]
set_option maxRecDepth 100000 in
theorem sk_k193 : sk_mOK sk_inf sk_nest (sk_inf 193) sk_t193 := sk_mOK_of 12 false rfl (fun h => absurd h (by decide)) (by decide +kernel) (by decide +kernel)
end
section
/-! ===== tables of the methods (written by program) ===== -/
def sk_t194 : List sk_E := [(0, .iconst 0, 0, 0, 0), (1, .istore_n 1, 0, 0, 0), (2, .iconst 0, 0, 0, 0), (3, .istore_n 2, 0, 0, 0), (4, .iload_n 2, 0, 0, 0), (5, .aload_n 0, 0, 0, 0), (6, .getfield 14, 11, 1, 1), (9, .iconst 1, 0, 0, 0), (10, .iaload, 0, 0, 0), (11, .if_icmp .ge 91, 102, 0, 0), (14, .aload_n 0, 0, 0, 0), (15, .getfield 14, 11, 1, 1), (18, .bipush 77, 0, 0, 0), (20, .iload_n 2, 0, 0, 0), (21, .iadd, 0, 0, 0), (22, .iaload, 0, 0, 0), (23, .iconst 1, 0, 0, 0), (24, .if_icmp .ne 27, 51, 0, 0), (27, .iload_n 1, 0, 0, 0), (28, .aload_n 0, 0, 0, 0), (29, .getfield 14, 11, 1, 1), (32, .bipush 57, 0, 0, 0), (34, .iload_n 2, 0, 0, 0), (35, .iadd, 0, 0, 0), (36, .iaload, 0, 0, 0), (37, .aload_n 0, 0, 0, 0), (38, .iload_n 2, 0, 0, 0), (39, .iconst 0, 0, 0, 0), (40, .invokevirtual 81, 152, 2, 45), (43, .iadd, 0, 0, 0), (44, .invokestatic 151, 239, 2, 1), (47, .istore_n 1, 0, 0, 0), (48, .goto 48, 96, 0, 0), (51, .aload_n 0, 0, 0, 0), (52, .iload_n 2, 0, 0, 0), (53, .invokevirtual 137, 168, 1, 45), (56, .ifCond .eq 40, 96, 0, 0), (59, .iload_n 1, 0, 0, 0), (60, .aload_n 0, 0, 0, 0), (61, .iload_n 2, 0, 0, 0), (62, .invokevirtual 164, 150, 1, 45), (65, .ifCond .eq 21, 86, 0, 0), (68, .aload_n 0, 0, 0, 0), (69, .iload_n 2, 0, 0, 0), (70, .iconst 0, 0, 0, 0), (71, .invokevirtual 81, 152, 2, 45), (74, .aload_n 0, 0, 0, 0), (75, .iload_n 2, 0, 0, 0), (76, .iconst 1, 0, 0, 0), (77, .invokevirtual 81, 152, 2, 45), (80, .invokestatic 213, 240, 2, 1), (83, .goto 9, 92, 0, 0), (86, .aload_n 0, 0, 0, 0), (87, .iload_n 2, 0, 0, 0), (88, .iconst 0, 0, 0, 0), (89, .invokevirtual 81, 152, 2, 45), (92, .invokestatic 151, 239, 2, 1), (95, .istore_n 1, 0, 0, 0), (96, .iinc 2 1, 0, 0, 0), (99, .goto (-95), 4, 0, 0), (102, .iload_n 1, 0, 0, 0), (103, .ireturn, 0, 0, 0)]
set_option maxRecDepth 100000 in
theorem sk_k194 : sk_mOK sk_inf sk_nest (sk_inf 194) sk_t194 := sk_mOK_of 12 false rfl (fun h => absurd h (by decide)) (by decide +kernel) (by decide +kernel)
def sk_t195 : List sk_E := [(0, .iload_n 1, 0, 0, 0), (1, .iconst 1, 0, 0, 0), (2, .if_icmp .ne 8, 10, 0, 0), (5, .aload_n 0, 0, 0, 0), (6, .invokevirtual 216, 194, 0, 45), (9, .ireturn, 0, 0, 0), (10, .iload_n 1, 0, 0, 0), (11, .ifCond .ne 19, 30, 0, 0), (14, .aload_n 0, 0, 0, 0), (15, .iconst 0, 0, 0, 0), (16, .iconst 0, 0, 0, 0), (17, .invokevirtual 219, 193, 2, 45), (20, .aload_n 0, 0, 0, 0), (21, .getfield 14, 11, 1, 1), (24, .iconst 0, 0, 0, 0), (25, .iaload, 0, 0, 0), (26, .invokestatic 222, 191, 2, 45), (29, .ireturn, 0, 0, 0), (30, .iload_n 1, 0, 0, 0), (31, .iconst 2, 0, 0, 0), (32, .if_icmp .ne 10, 42, 0, 0), (35, .aload_n 0, 0, 0, 0), (36, .iconst 2, 0, 0, 0), (37, .iconst 0, 0, 0, 0), (38, .invokevirtual 219, 193, 2, 45), (41, .ireturn, 0, 0, 0), (42, .iload_n 1, 0, 0, 0), (43, .bipush 7, 0, 0, 0), (45, .if_icmp .ge 23, 68, 0, 0), (48, .aload_n 0, 0, 0, 0), (49, .iload_n 1, 0, 0, 0), (50, .iconst 0, 0, 0, 0), (51, .invokevirtual 219, 193, 2, 45), (54, .iload_n 1, 0, 0, 0), (55, .iconst 2, 0, 0, 0), (56, .isub, 0, 0, 0), (57, .aload_n 0, 0, 0, 0), (58, .getfield 14, 11, 1, 1), (61, .iconst 0, 0, 0, 0), (62, .iaload, 0, 0, 0), (63, .imul, 0, 0, 0), (64, .invokestatic 222, 191, 2, 45), (67, .ireturn, 0, 0, 0), (68, .iconst 0, 0, 0, 0), (69, .istore_n 2, 0, 0, 0), (70, .iload_n 1, 0, 0, 0), (71, .bipush 7, 0, 0, 0), (73, .if_icmp .ne 47, 120, 0, 0), (76, .iconst 1, 0, 0, 0), (77, .istore_n 3, 0, 0, 0), (78, .iload_n 3, 0, 0, 0), (79, .aload_n 0, 0, 0, 0), (80, .getfield 14, 11, 1, 1), (83, .iconst 0, 0, 0, 0), (84, .iaload, 0, 0, 0), (85, .iconst 2, 0, 0, 0), (86, .idiv, 0, 0, 0), (87, .if_icmp .gt 30, 117, 0, 0), (90, .iload_n 2, 0, 0, 0), (91, .aload_n 0, 0, 0, 0), (92, .bipush 7, 0, 0, 0), (94, .iload_n 3, 0, 0, 0), (95, .invokevirtual 219, 193, 2, 45), (98, .aload_n 0, 0, 0, 0), (99, .getfield 14, 11, 1, 1), (102, .iconst 0, 0, 0, 0), (103, .iaload, 0, 0, 0), (104, .invokestatic 222, 191, 2, 45), (107, .invokestatic 151, 239, 2, 1), (110, .istore_n 2, 0, 0, 0), (111, .iinc 3 1, 0, 0, 0), (114, .goto (-36), 78, 0, 0), (117, .goto 27, 144, 0, 0), (120, .iconst 0, 0, 0, 0), (121, .istore_n 3, 0, 0, 0), (122, .iload_n 3, 0, 0, 0), (123, .bipush 8, 0, 0, 0), (125, .if_icmp .ge 19, 144, 0, 0), (128, .iload_n 2, 0, 0, 0), (129, .aload_n 0, 0, 0, 0), (130, .iload_n 3, 0, 0, 0), (131, .invokevirtual 225, 195, 1, 45), (134, .invokestatic 151, 239, 2, 1), (137, .istore_n 2, 0, 0, 0), (138, .iinc 3 1, 0, 0, 0), (141, .goto (-19), 122, 0, 0), (144, .iload_n 2, 0, 0, 0), (145, .ireturn, 0, 0, 0)]
set_option maxRecDepth 100000 in
theorem sk_k195 : sk_mOK sk_inf sk_nest (sk_inf 195) sk_t195 := sk_mOK_of 12 false rfl (fun h => absurd h (by decide)) (by decide +kernel) (by decide +kernel)
def sk_t196 : List sk_E := [(0, .iload_n 1, 0, 0, 0), (1, .iconst 0, 0, 0, 0), (2, .bipush 8, 0, 0, 0), (4, .invokestatic 69, 144, 3, 45), (7, .ifCond .eq 11, 18, 0, 0), (10, .aload_n 0, 0, 0, 0), (11, .iload_n 1, 0, 0, 0), (12, .invokevirtual 225, 195, 1, 45), (15, .goto 5, 20, 0, 0), (18, .bipush (-2), 0, 0, 0), (20, .ireturn, 0, 0, 0)]
set_option maxRecDepth 100000 in
theorem sk_k196 : sk_mOK sk_inf sk_nest (sk_inf 196) sk_t196 := sk_mOK_of 12 false rfl (fun h => absurd h (by decide)) (by decide +kernel) (by decide +kernel)
def sk_t197 : List sk_E := [(0, .iconst 1, 0, 0, 0), (1, .istore_n 1, 0, 0, 0), (2, .iload_n 1, 0, 0, 0), (3, .aload_n 0, 0, 0, 0), (4, .getfield 14, 11, 1, 1), (7, .iconst 2, 0, 0, 0), (8, .iaload, 0, 0, 0), (9, .if_icmp .ge 52, 61, 0, 0), (12, .iload_n 1, 0, 0, 0), (13, .istore_n 2, 0, 0, 0), (14, .iload_n 2, 0, 0, 0), (15, .ifCond .le 40, 55, 0, 0), (18, .aload_n 0, 0, 0, 0), (19, .getfield 14, 11, 1, 1), (22, .bipush 87, 0, 0, 0), (24, .iload_n 2, 0, 0, 0), (25, .iadd, 0, 0, 0), (26, .iaload, 0, 0, 0), (27, .aload_n 0, 0, 0, 0), (28, .getfield 14, 11, 1, 1), (31, .bipush 87, 0, 0, 0), (33, .iload_n 2, 0, 0, 0), (34, .iadd, 0, 0, 0), (35, .iconst 1, 0, 0, 0), (36, .isub, 0, 0, 0), (37, .iaload, 0, 0, 0), (38, .if_icmp .ge 17, 55, 0, 0), (41, .aload_n 0, 0, 0, 0), (42, .iload_n 2, 0, 0, 0), (43, .iload_n 2, 0, 0, 0), (44, .iconst 1, 0, 0, 0), (45, .isub, 0, 0, 0), (46, .invokevirtual 147, 171, 2, 44), (49, .iinc 2 (-1), 0, 0, 0), (52, .goto (-38), 14, 0, 0), (55, .iinc 1 1, 0, 0, 0), (58, .goto (-56), 2, 0, 0), (61, .return_, 0, 0, 0)]
set_option maxRecDepth 100000 in
theorem sk_k197 : sk_mOK sk_inf sk_nest (sk_inf 197) sk_t197 := sk_mOK_of 12 false rfl (fun h => absurd h (by decide)) (by decide +kernel) (by decide +kernel)
def sk_t198 : List sk_E := [(0, .aload_n 0, 0, 0, 0), (1, .getfield 14, 11, 1, 1), (4, .iconst 2, 0, 0, 0), (5, .iaload, 0, 0, 0), (6, .istore_n 1, 0, 0, 0), (7, .iload_n 1, 0, 0, 0), (8, .iconst 2, 0, 0, 0), (9, .isub, 0, 0, 0), (10, .istore_n 2, 0, 0, 0), (11, .iload_n 2, 0, 0, 0), (12, .ifCond .lt 32, 44, 0, 0), (15, .aload_n 0, 0, 0, 0), (16, .getfield 14, 11, 1, 1), (19, .bipush 87, 0, 0, 0), (21, .iload_n 2, 0, 0, 0), (22, .iadd, 0, 0, 0), (23, .iaload, 0, 0, 0), (24, .aload_n 0, 0, 0, 0), (25, .getfield 14, 11, 1, 1), (28, .bipush 87, 0, 0, 0), (30, .iload_n 2, 0, 0, 0), (31, .iadd, 0, 0, 0), (32, .iconst 1, 0, 0, 0), (33, .iadd, 0, 0, 0), (34, .iaload, 0, 0, 0), (35, .if_icmp .le 9, 44, 0, 0), (38, .iinc 2 (-1), 0, 0, 0), (41, .goto (-30), 11, 0, 0), (44, .iload_n 2, 0, 0, 0), (45, .ifCond .ge 5, 50, 0, 0), (48, .iconst 0, 0, 0, 0), (49, .ireturn, 0, 0, 0), (50, .iload_n 1, 0, 0, 0), (51, .iconst 1, 0, 0, 0), (52, .isub, 0, 0, 0), (53, .istore_n 3, 0, 0, 0), (54, .aload_n 0, 0, 0, 0), (55, .getfield 14, 11, 1, 1), (58, .bipush 87, 0, 0, 0), (60, .iload_n 3, 0, 0, 0), (61, .iadd, 0, 0, 0), (62, .iaload, 0, 0, 0), (63, .aload_n 0, 0, 0, 0), (64, .getfield 14, 11, 1, 1), (67, .bipush 87, 0, 0, 0), (69, .iload_n 2, 0, 0, 0), (70, .iadd, 0, 0, 0), (71, .iaload, 0, 0, 0), (72, .if_icmp .ge 9, 81, 0, 0), (75, .iinc 3 (-1), 0, 0, 0), (78, .goto (-24), 54, 0, 0), (81, .aload_n 0, 0, 0, 0), (82, .iload_n 2, 0, 0, 0), (83, .iload_n 3, 0, 0, 0), (84, .invokevirtual 147, 171, 2, 44), (87, .iload_n 2, 0, 0, 0), (88, .iconst 1, 0, 0, 0), (89, .iadd, 0, 0, 0), (90, .istore 4, 0, 0, 0), (92, .iload_n 1, 0, 0, 0), (93, .iconst 1, 0, 0, 0), (94, .isub, 0, 0, 0), (95, .istore 5, 0, 0, 0), (97, .iload 4, 0, 0, 0), (99, .iload 5, 0, 0, 0), (101, .if_icmp .ge 20, 121, 0, 0), (104, .aload_n 0, 0, 0, 0), (105, .iload 4, 0, 0, 0), (107, .iload 5, 0, 0, 0), (109, .invokevirtual 147, 171, 2, 44), (112, .iinc 4 1, 0, 0, 0), (115, .iinc 5 (-1), 0, 0, 0), (118, .goto (-21), 97, 0, 0), (121, .iconst 1, 0, 0, 0), (122, .ireturn, 0, 0, 0)]
set_option maxRecDepth 100000 in
theorem sk_k198 : sk_mOK sk_inf sk_nest (sk_inf 198) sk_t198 := sk_mOK_of 12 false rfl (fun h => absurd h (by decide)) (by decide +kernel) (by decide +kernel)
def sk_t199 : List sk_E := [(0, .iconst (-1), 0, 0, 0), (1, .istore_n 1, 0, 0, 0), (2, .aload_n 0, 0, 0, 0), (3, .iconst 2, 0, 0, 0), (4, .invokevirtual 228, 146, 1, 44), (7, .aload_n 0, 0, 0, 0), (8, .invokevirtual 232, 197, 0, 44), (11, .aload_n 0, 0, 0, 0), (12, .invokevirtual 207, 184, 0, 45), (15, .aload_n 0, 0, 0, 0), (16, .getfield 14, 11, 1, 1), (19, .iconst 2, 0, 0, 0), (20, .iaload, 0, 0, 0), (21, .if_icmp .ne 37, 58, 0, 0), (24, .iload_n 1, 0, 0, 0), (25, .iconst (-1), 0, 0, 0), (26, .if_icmp .eq 11, 37, 0, 0), (29, .aload_n 0, 0, 0, 0), (30, .invokevirtual 234, 185, 0, 45), (33, .iload_n 1, 0, 0, 0), (34, .if_icmp .ge 24, 58, 0, 0), (37, .aload_n 0, 0, 0, 0), (38, .invokevirtual 234, 185, 0, 45), (41, .istore_n 1, 0, 0, 0), (42, .aload_n 0, 0, 0, 0), (43, .getfield 14, 11, 1, 1), (46, .bipush 87, 0, 0, 0), (48, .aload_n 0, 0, 0, 0), (49, .getfield 24, 11, 11, 1), (52, .iconst 0, 0, 0, 0), (53, .bipush 10, 0, 0, 0), (55, .invokestatic 63, 0, 5, 0), (58, .aload_n 0, 0, 0, 0), (59, .invokevirtual 237, 198, 0, 45), (62, .ifCond .ne (-51), 11, 0, 0), (65, .aload_n 0, 0, 0, 0), (66, .iconst 2, 0, 0, 0), (67, .invokevirtual 240, 147, 1, 44), (70, .iload_n 1, 0, 0, 0), (71, .ireturn, 0, 0, 0)]
set_option maxRecDepth 100000 in
theorem sk_k199 : sk_mOK sk_inf sk_nest (sk_inf 199) sk_t199 := sk_mOK_of 12 false rfl (fun h => absurd h (by decide)) (by decide +kernel) (by decide +kernel)
def sk_t200 : List sk_E := [(0, .aload_n 0, 0, 0, 0), (1, .getfield 14, 11, 1, 1), (4, .iconst 2, 0, 0, 0), (5, .iaload, 0, 0, 0), (6, .iconst 5, 0, 0, 0), (7, .if_icmp .le 6, 13, 0, 0), (10, .bipush (-3), 0, 0, 0), (12, .ireturn, 0, 0, 0), (13, .iload_n 1, 0, 0, 0), (14, .iconst (-1), 0, 0, 0), (15, .aload_n 0, 0, 0, 0), (16, .getfield 14, 11, 1, 1), (19, .iconst 2, 0, 0, 0), (20, .iaload, 0, 0, 0), (21, .iconst 1, 0, 0, 0), (22, .isub, 0, 0, 0), (23, .invokestatic 69, 144, 3, 45), (26, .ifCond .ne 6, 32, 0, 0), (29, .bipush (-12), 0, 0, 0), (31, .ireturn, 0, 0, 0), (32, .aload_n 0, 0, 0, 0), (33, .invokevirtual 243, 199, 0, 45), (36, .istore_n 2, 0, 0, 0), (37, .iload_n 1, 0, 0, 0), (38, .iconst (-1), 0, 0, 0), (39, .if_icmp .eq 8, 47, 0, 0), (42, .iload_n 2, 0, 0, 0), (43, .iconst (-1), 0, 0, 0), (44, .if_icmp .ne 7, 51, 0, 0), (47, .iload_n 2, 0, 0, 0), (48, .goto 9, 57, 0, 0), (51, .aload_n 0, 0, 0, 0), (52, .getfield 24, 11, 11, 1), (55, .iload_n 1, 0, 0, 0), (56, .iaload, 0, 0, 0), (57, .ireturn, 0, 0, 0)]
set_option maxRecDepth 100000 in
theorem sk_k200 : sk_mOK sk_inf sk_nest (sk_inf 200) sk_t200 := sk_mOK_of 12 false rfl (fun h => absurd h (by decide)) (by decide +kernel) (by decide +kernel)
def sk_t201 : List sk_E := [(0, .iconst 0, 0, 0, 0), (1, .istore_n 3, 0, 0, 0), (2, .iconst 0, 0, 0, 0), (3, .istore 4, 0, 0, 0), (5, .iload 4, 0, 0, 0), (7, .aload_n 0, 0, 0, 0), (8, .getfield 14, 11, 1, 1), (11, .iconst 1, 0, 0, 0), (12, .iaload, 0, 0, 0), (13, .if_icmp .ge 183, 196, 0, 0), (16, .aload_n 0, 0, 0, 0), (17, .getfield 14, 11, 1, 1), (20, .bipush 77, 0, 0, 0), (22, .iload 4, 0, 0, 0), (24, .iadd, 0, 0, 0), (25, .iaload, 0, 0, 0), (26, .ifCond .ne 6, 32, 0, 0), (29, .goto 161, 190, 0, 0), (32, .iload_n 2, 0, 0, 0), (33, .ifCond .eq 30, 63, 0, 0), (36, .aload_n 0, 0, 0, 0), (37, .getfield 14, 11, 1, 1), (40, .iconst 0, 0, 0, 0), (41, .iaload, 0, 0, 0), (42, .aload_n 0, 0, 0, 0), (43, .getfield 14, 11, 1, 1), (46, .bipush 47, 0, 0, 0), (48, .iload 4, 0, 0, 0), (50, .iadd, 0, 0, 0), (51, .iaload, 0, 0, 0), (52, .isub, 0, 0, 0), (53, .aload_n 0, 0, 0, 0), (54, .iload 4, 0, 0, 0), (56, .invokevirtual 84, 154, 1, 45), (59, .isub, 0, 0, 0), (60, .goto 13, 73, 0, 0), (63, .aload_n 0, 0, 0, 0), (64, .getfield 14, 11, 1, 1), (67, .bipush 47, 0, 0, 0), (69, .iload 4, 0, 0, 0), (71, .iadd, 0, 0, 0), (72, .iaload, 0, 0, 0), (73, .istore 5, 0, 0, 0), (75, .iload 5, 0, 0, 0), (77, .bipush 32, 0, 0, 0), (79, .imul, 0, 0, 0), (80, .aload_n 0, 0, 0, 0), (81, .iload 4, 0, 0, 0), (83, .invokevirtual 84, 154, 1, 45), (86, .iadd, 0, 0, 0), (87, .bipush 32, 0, 0, 0), (89, .imul, 0, 0, 0), (90, .aload_n 0, 0, 0, 0), (91, .iload 4, 0, 0, 0), (93, .invokevirtual 88, 155, 1, 45), (96, .iadd, 0, 0, 0), (97, .sipush 512, 0, 0, 0), (100, .imul, 0, 0, 0), (101, .aload_n 0, 0, 0, 0), (102, .getfield 14, 11, 1, 1), (105, .bipush 57, 0, 0, 0), (107, .iload 4, 0, 0, 0), (109, .iadd, 0, 0, 0), (110, .iaload, 0, 0, 0), (111, .iadd, 0, 0, 0), (112, .istore 6, 0, 0, 0), (114, .iload_n 3, 0, 0, 0), (115, .istore 7, 0, 0, 0), (117, .iload 7, 0, 0, 0), (119, .ifCond .le 54, 173, 0, 0), (122, .aload_n 0, 0, 0, 0), (123, .getfield 27, 11, 12, 1), (126, .bipush 10, 0, 0, 0), (128, .iload_n 1, 0, 0, 0), (129, .imul, 0, 0, 0), (130, .iload 7, 0, 0, 0), (132, .iadd, 0, 0, 0), (133, .iconst 1, 0, 0, 0), (134, .isub, 0, 0, 0), (135, .iaload, 0, 0, 0), (136, .iload 6, 0, 0, 0), (138, .if_icmp .le 35, 173, 0, 0), (141, .aload_n 0, 0, 0, 0), (142, .getfield 27, 11, 12, 1), (145, .bipush 10, 0, 0, 0), (147, .iload_n 1, 0, 0, 0), (148, .imul, 0, 0, 0), (149, .iload 7, 0, 0, 0), (151, .iadd, 0, 0, 0), (152, .aload_n 0, 0, 0, 0), (153, .getfield 27, 11, 12, 1), (156, .bipush 10, 0, 0, 0), (158, .iload_n 1, 0, 0, 0), (159, .imul, 0, 0, 0), (160, .iload 7, 0, 0, 0), (162, .iadd, 0, 0, 0), (163, .iconst 1, 0, 0, 0), (164, .isub, 0, 0, 0), (165, .iaload, 0, 0, 0), (166, .iastore, 0, 0, 0), (167, .iinc 7 (-1), 0, 0, 0), (170, .goto (-53), 117, 0, 0), (173, .aload_n 0, 0, 0, 0), (174, .getfield 27, 11, 12, 1), (177, .bipush 10, 0, 0, 0), (179, .iload_n 1, 0, 0, 0), (180, .imul, 0, 0, 0), (181, .iload 7, 0, 0, 0), (183, .iadd, 0, 0, 0), (184, .iload 6, 0, 0, 0), (186, .iastore, 0, 0, 0), (187, .iinc 3 1, 0, 0, 0), (190, .iinc 4 1, 0, 0, 0), (193, .goto (-188), 5, 0, 0), (196, .iload_n 3, 0, 0, 0), (197, .ireturn, 0, 0, 0)]
set_option maxRecDepth 100000 in
theorem sk_k201 : sk_mOK sk_inf sk_nest (sk_inf 201) sk_t201 := sk_mOK_of 12 false rfl (fun h => absurd h (by decide)) (by decide +kernel) (by decide +kernel)
def sk_t202 : List sk_E := [(0, .iconst 0, 0, 0, 0), (1, .istore 4, 0, 0, 0), (3, .iload 4, 0, 0, 0), (5, .iload_n 3, 0, 0, 0), (6, .if_icmp .ge 38, 44, 0, 0), (9, .aload_n 0, 0, 0, 0), (10, .getfield 27, 11, 12, 1), (13, .bipush 10, 0, 0, 0), (15, .iload_n 1, 0, 0, 0), (16, .imul, 0, 0, 0), (17, .iload 4, 0, 0, 0), (19, .iadd, 0, 0, 0), (20, .iaload, 0, 0, 0), (21, .aload_n 0, 0, 0, 0), (22, .getfield 27, 11, 12, 1), (25, .bipush 10, 0, 0, 0), (27, .iload_n 2, 0, 0, 0), (28, .imul, 0, 0, 0), (29, .iload 4, 0, 0, 0), (31, .iadd, 0, 0, 0), (32, .iaload, 0, 0, 0), (33, .if_icmp .eq 5, 38, 0, 0), (36, .iconst 0, 0, 0, 0), (37, .ireturn, 0, 0, 0), (38, .iinc 4 1, 0, 0, 0), (41, .goto (-38), 3, 0, 0), (44, .iconst 1, 0, 0, 0), (45, .ireturn, 0, 0, 0)]
set_option maxRecDepth 100000 in
theorem sk_k202 : sk_mOK sk_inf sk_nest (sk_inf 202) sk_t202 := sk_mOK_of 12 false rfl (fun h => absurd h (by decide)) (by decide +kernel) (by decide +kernel)
def sk_t203 : List sk_E := [(0, .iload_n 1, 0, 0, 0), (1, .iconst 0, 0, 0, 0), (2, .iconst 1, 0, 0, 0), (3, .invokestatic 69, 144, 3, 45), (6, .ifCond .ne 6, 12, 0, 0), (9, .bipush (-2), 0, 0, 0), (11, .ireturn, 0, 0, 0), (12, .aload_n 0, 0, 0, 0), (13, .getfield 14, 11, 1, 1), (16, .iconst 2, 0, 0, 0), (17, .iaload, 0, 0, 0), (18, .iconst 5, 0, 0, 0), (19, .if_icmp .le 6, 25, 0, 0), (22, .bipush (-3), 0, 0, 0), (24, .ireturn, 0, 0, 0), (25, .iconst 0, 0, 0, 0), (26, .istore_n 2, 0, 0, 0), (27, .aload_n 0, 0, 0, 0), (28, .iconst 2, 0, 0, 0), (29, .invokevirtual 228, 146, 1, 44), (32, .aload_n 0, 0, 0, 0), (33, .invokevirtual 232, 197, 0, 44), (36, .aload_n 0, 0, 0, 0), (37, .invokevirtual 207, 184, 0, 45), (40, .aload_n 0, 0, 0, 0), (41, .getfield 14, 11, 1, 1), (44, .iconst 2, 0, 0, 0), (45, .iaload, 0, 0, 0), (46, .if_icmp .ge 6, 52, 0, 0), (49, .goto 83, 132, 0, 0), (52, .aload_n 0, 0, 0, 0), (53, .iload_n 2, 0, 0, 0), (54, .iconst 0, 0, 0, 0), (55, .invokevirtual 246, 201, 2, 45), (58, .istore_n 3, 0, 0, 0), (59, .aload_n 0, 0, 0, 0), (60, .bipush 121, 0, 0, 0), (62, .iconst 1, 0, 0, 0), (63, .invokevirtual 246, 201, 2, 45), (66, .pop, 0, 0, 0), (67, .iconst 0, 0, 0, 0), (68, .istore 4, 0, 0, 0), (70, .iload 4, 0, 0, 0), (72, .iload_n 2, 0, 0, 0), (73, .if_icmp .ge 32, 105, 0, 0), (76, .aload_n 0, 0, 0, 0), (77, .iload 4, 0, 0, 0), (79, .iload_n 2, 0, 0, 0), (80, .iload_n 3, 0, 0, 0), (81, .invokevirtual 250, 202, 3, 45), (84, .ifCond .ne 21, 105, 0, 0), (87, .aload_n 0, 0, 0, 0), (88, .iload 4, 0, 0, 0), (90, .bipush 121, 0, 0, 0), (92, .iload_n 3, 0, 0, 0), (93, .invokevirtual 250, 202, 3, 45), (96, .ifCond .ne 9, 105, 0, 0), (99, .iinc 4 1, 0, 0, 0), (102, .goto (-32), 70, 0, 0), (105, .iload 4, 0, 0, 0), (107, .iload_n 2, 0, 0, 0), (108, .if_icmp .ne 13, 121, 0, 0), (111, .aload_n 0, 0, 0, 0), (112, .getfield 30, 11, 13, 1), (115, .iload_n 2, 0, 0, 0), (116, .iconst 0, 0, 0, 0), (117, .iastore, 0, 0, 0), (118, .iinc 2 1, 0, 0, 0), (121, .aload_n 0, 0, 0, 0), (122, .getfield 30, 11, 13, 1), (125, .iload 4, 0, 0, 0), (127, .dup2, 0, 0, 0), (128, .iaload, 0, 0, 0), (129, .iconst 1, 0, 0, 0), (130, .iadd, 0, 0, 0), (131, .iastore, 0, 0, 0), (132, .aload_n 0, 0, 0, 0), (133, .invokevirtual 237, 198, 0, 45), (136, .ifCond .ne (-100), 36, 0, 0), (139, .aload_n 0, 0, 0, 0), (140, .iconst 2, 0, 0, 0), (141, .invokevirtual 240, 147, 1, 44), (144, .iconst 0, 0, 0, 0), (145, .istore_n 3, 0, 0, 0), (146, .iconst 0, 0, 0, 0), (147, .istore 4, 0, 0, 0), (149, .iload 4, 0, 0, 0), (151, .iload_n 2, 0, 0, 0), (152, .if_icmp .ge 21, 173, 0, 0), (155, .iload_n 3, 0, 0, 0), (156, .aload_n 0, 0, 0, 0), (157, .getfield 30, 11, 13, 1), (160, .iload 4, 0, 0, 0), (162, .iaload, 0, 0, 0), (163, .invokestatic 151, 239, 2, 1), (166, .istore_n 3, 0, 0, 0), (167, .iinc 4 1, 0, 0, 0), (170, .goto (-21), 149, 0, 0), (173, .iload_n 1, 0, 0, 0), (174, .ifCond .ne 7, 181, 0, 0), (177, .iload_n 2, 0, 0, 0), (178, .goto 4, 182, 0, 0), (181, .iload_n 3, 0, 0, 0), (182, .ireturn, 0, 0, 0)]
set_option maxRecDepth 100000 in
theorem sk_k203 : sk_mOK sk_inf sk_nest (sk_inf 203) sk_t203 := sk_mOK_of 12 false rfl (fun h => absurd h (by decide)) (by decide +kernel) (by decide +kernel)
def sk_t204 : List sk_E := [(0, .iload_n 2, 0, 0, 0), (1, .ifCond .ne 15, 16, 0, 0), (4, .aload_n 0, 0, 0, 0), (5, .getfield 14, 11, 1, 1), (8, .bipush 47, 0, 0, 0), (10, .iload_n 1, 0, 0, 0), (11, .iadd, 0, 0, 0), (12, .iaload, 0, 0, 0), (13, .goto 12, 25, 0, 0), (16, .aload_n 0, 0, 0, 0), (17, .getfield 14, 11, 1, 1), (20, .bipush 57, 0, 0, 0), (22, .iload_n 1, 0, 0, 0), (23, .iadd, 0, 0, 0), (24, .iaload, 0, 0, 0), (25, .ireturn, 0, 0, 0)]
set_option maxRecDepth 100000 in
theorem sk_k204 : sk_mOK sk_inf sk_nest (sk_inf 204) sk_t204 := sk_mOK_of 12 false rfl (fun h => absurd h (by decide)) (by decide +kernel) (by decide +kernel)
def sk_t205 : List sk_E := [(0, .iload_n 2, 0, 0, 0), (1, .ifCond .ne 21, 22, 0, 0), (4, .aload_n 0, 0, 0, 0), (5, .getfield 14, 11, 1, 1), (8, .bipush 47, 0, 0, 0), (10, .iload_n 1, 0, 0, 0), (11, .iadd, 0, 0, 0), (12, .iaload, 0, 0, 0), (13, .aload_n 0, 0, 0, 0), (14, .iload_n 1, 0, 0, 0), (15, .invokevirtual 84, 154, 1, 45), (18, .iadd, 0, 0, 0), (19, .goto 18, 37, 0, 0), (22, .aload_n 0, 0, 0, 0), (23, .getfield 14, 11, 1, 1), (26, .bipush 57, 0, 0, 0), (28, .iload_n 1, 0, 0, 0), (29, .iadd, 0, 0, 0), (30, .iaload, 0, 0, 0), (31, .aload_n 0, 0, 0, 0), (32, .iload_n 1, 0, 0, 0), (33, .invokevirtual 88, 155, 1, 45), (36, .iadd, 0, 0, 0), (37, .ireturn, 0, 0, 0)]
set_option maxRecDepth 100000 in
theorem sk_k205 : sk_mOK sk_inf sk_nest (sk_inf 205) sk_t205 := sk_mOK_of 12 false rfl (fun h => absurd h (by decide)) (by decide +kernel) (by decide +kernel)
def sk_t206 : List sk_E := [(0, .iconst 0, 0, 0, 0), (1, .istore 4, 0, 0, 0), (3, .iload 4, 0, 0, 0), (5, .aload_n 0, 0, 0, 0), (6, .getfield 14, 11, 1, 1), (9, .iconst 1, 0, 0, 0), (10, .iaload, 0, 0, 0), (11, .if_icmp .ge 62, 73, 0, 0), (14, .aload_n 0, 0, 0, 0), (15, .getfield 14, 11, 1, 1), (18, .bipush 77, 0, 0, 0), (20, .iload 4, 0, 0, 0), (22, .iadd, 0, 0, 0), (23, .iaload, 0, 0, 0), (24, .ifCond .eq 43, 67, 0, 0), (27, .aload_n 0, 0, 0, 0), (28, .getfield 33, 11, 14, 1), (31, .iload 4, 0, 0, 0), (33, .iaload, 0, 0, 0), (34, .aload_n 0, 0, 0, 0), (35, .getfield 33, 11, 14, 1), (38, .iload_n 1, 0, 0, 0), (39, .iaload, 0, 0, 0), (40, .if_icmp .ne 27, 67, 0, 0), (43, .aload_n 0, 0, 0, 0), (44, .iload 4, 0, 0, 0), (46, .iload_n 2, 0, 0, 0), (47, .invokevirtual 253, 204, 2, 45), (50, .iload_n 3, 0, 0, 0), (51, .if_icmp .ge 16, 67, 0, 0), (54, .aload_n 0, 0, 0, 0), (55, .iload 4, 0, 0, 0), (57, .iload_n 2, 0, 0, 0), (58, .invokevirtual 256, 205, 2, 45), (61, .iload_n 3, 0, 0, 0), (62, .if_icmp .le 5, 67, 0, 0), (65, .iconst 0, 0, 0, 0), (66, .ireturn, 0, 0, 0), (67, .iinc 4 1, 0, 0, 0), (70, .goto (-67), 3, 0, 0), (73, .iconst 1, 0, 0, 0), (74, .ireturn, 0, 0, 0)]
set_option maxRecDepth 100000 in
theorem sk_k206 : sk_mOK sk_inf sk_nest (sk_inf 206) sk_t206 := sk_mOK_of 12 false rfl (fun h => absurd h (by decide)) (by decide +kernel) (by decide +kernel)
def sk_t207 : List sk_E := [(0, .aload_n 0, 0, 0, 0), (1, .iload_n 1, 0, 0, 0), (2, .iload_n 3, 0, 0, 0), (3, .invokevirtual 256, 205, 2, 45), (6, .aload_n 0, 0, 0, 0), (7, .iload_n 2, 0, 0, 0), (8, .iload_n 3, 0, 0, 0), (9, .invokevirtual 256, 205, 2, 45), (12, .invokestatic 213, 240, 2, 1), (15, .istore 4, 0, 0, 0), (17, .aload_n 0, 0, 0, 0), (18, .iload_n 1, 0, 0, 0), (19, .iload_n 3, 0, 0, 0), (20, .invokevirtual 253, 204, 2, 45), (23, .aload_n 0, 0, 0, 0), (24, .iload_n 2, 0, 0, 0), (25, .iload_n 3, 0, 0, 0), (26, .invokevirtual 253, 204, 2, 45), (29, .invokestatic 151, 239, 2, 1), (32, .istore 5, 0, 0, 0), (34, .iload 4, 0, 0, 0), (36, .istore 6, 0, 0, 0), (38, .iload 6, 0, 0, 0), (40, .iload 5, 0, 0, 0), (42, .if_icmp .gt 22, 64, 0, 0), (45, .aload_n 0, 0, 0, 0), (46, .iload_n 1, 0, 0, 0), (47, .iload_n 3, 0, 0, 0), (48, .iload 6, 0, 0, 0), (50, .invokevirtual 259, 206, 3, 45), (53, .ifCond .eq 5, 58, 0, 0), (56, .iconst 1, 0, 0, 0), (57, .ireturn, 0, 0, 0), (58, .iinc 6 1, 0, 0, 0), (61, .goto (-23), 38, 0, 0), (64, .iconst 0, 0, 0, 0), (65, .ireturn, 0, 0, 0)]
set_option maxRecDepth 100000 in
theorem sk_k207 : sk_mOK sk_inf sk_nest (sk_inf 207) sk_t207 := sk_mOK_of 12 false rfl (fun h => absurd h (by decide)) (by decide +kernel) (by decide +kernel)
def sk_t208 : List sk_E := [(0, .iconst 0, 0, 0, 0), (1, .istore_n 2, 0, 0, 0), (2, .iload_n 2, 0, 0, 0), (3, .aload_n 0, 0, 0, 0), (4, .getfield 14, 11, 1, 1), (7, .iconst 1, 0, 0, 0), (8, .iaload, 0, 0, 0), (9, .if_icmp .ge 102, 111, 0, 0), (12, .aload_n 0, 0, 0, 0), (13, .getfield 36, 11, 15, 1), (16, .iload_n 2, 0, 0, 0), (17, .iload_n 2, 0, 0, 0), (18, .iastore, 0, 0, 0), (19, .aload_n 0, 0, 0, 0), (20, .getfield 14, 11, 1, 1), (23, .bipush 77, 0, 0, 0), (25, .iload_n 2, 0, 0, 0), (26, .iadd, 0, 0, 0), (27, .iaload, 0, 0, 0), (28, .ifCond .ne 6, 34, 0, 0), (31, .goto 74, 105, 0, 0), (34, .iconst 0, 0, 0, 0), (35, .istore_n 3, 0, 0, 0), (36, .iload_n 3, 0, 0, 0), (37, .iload_n 2, 0, 0, 0), (38, .if_icmp .ge 46, 84, 0, 0), (41, .aload_n 0, 0, 0, 0), (42, .getfield 14, 11, 1, 1), (45, .bipush 77, 0, 0, 0), (47, .iload_n 3, 0, 0, 0), (48, .iadd, 0, 0, 0), (49, .iaload, 0, 0, 0), (50, .ifCond .eq 28, 78, 0, 0), (53, .aload_n 0, 0, 0, 0), (54, .getfield 33, 11, 14, 1), (57, .iload_n 3, 0, 0, 0), (58, .iaload, 0, 0, 0), (59, .aload_n 0, 0, 0, 0), (60, .getfield 33, 11, 14, 1), (63, .iload_n 2, 0, 0, 0), (64, .iaload, 0, 0, 0), (65, .if_icmp .ne 13, 78, 0, 0), (68, .aload_n 0, 0, 0, 0), (69, .iload_n 2, 0, 0, 0), (70, .iload_n 3, 0, 0, 0), (71, .iload_n 1, 0, 0, 0), (72, .invokevirtual 262, 207, 3, 45), (75, .ifCond .eq 9, 84, 0, 0), (78, .iinc 3 1, 0, 0, 0), (81, .goto (-45), 36, 0, 0), (84, .aload_n 0, 0, 0, 0), (85, .getfield 36, 11, 15, 1), (88, .iload_n 2, 0, 0, 0), (89, .iload_n 3, 0, 0, 0), (90, .iload_n 2, 0, 0, 0), (91, .if_icmp .ge 12, 103, 0, 0), (94, .aload_n 0, 0, 0, 0), (95, .getfield 36, 11, 15, 1), (98, .iload_n 3, 0, 0, 0), (99, .iaload, 0, 0, 0), (100, .goto 4, 104, 0, 0), (103, .iload_n 2, 0, 0, 0), (104, .iastore, 0, 0, 0), (105, .iinc 2 1, 0, 0, 0), (108, .goto (-106), 2, 0, 0), (111, .aload_n 0, 0, 0, 0), (112, .getfield 36, 11, 15, 1), (115, .iconst 0, 0, 0, 0), (116, .aload_n 0, 0, 0, 0), (117, .getfield 33, 11, 14, 1), (120, .iconst 0, 0, 0, 0), (121, .bipush 10, 0, 0, 0), (123, .invokestatic 63, 0, 5, 0), (126, .return_, 0, 0, 0)]
set_option maxRecDepth 100000 in
theorem sk_k208 : sk_mOK sk_inf sk_nest (sk_inf 208) sk_t208 := sk_mOK_of 12 false rfl (fun h => absurd h (by decide)) (by decide +kernel) (by decide +kernel)
def sk_t209 : List sk_E := [(0, .iconst 0, 0, 0, 0), (1, .istore_n 1, 0, 0, 0), (2, .iload_n 1, 0, 0, 0), (3, .aload_n 0, 0, 0, 0), (4, .getfield 14, 11, 1, 1), (7, .iconst 1, 0, 0, 0), (8, .iaload, 0, 0, 0), (9, .if_icmp .ge 63, 72, 0, 0), (12, .iconst 0, 0, 0, 0), (13, .istore_n 2, 0, 0, 0), (14, .iload_n 2, 0, 0, 0), (15, .iload_n 1, 0, 0, 0), (16, .if_icmp .ge 50, 66, 0, 0), (19, .aload_n 0, 0, 0, 0), (20, .getfield 14, 11, 1, 1), (23, .bipush 77, 0, 0, 0), (25, .iload_n 1, 0, 0, 0), (26, .iadd, 0, 0, 0), (27, .iaload, 0, 0, 0), (28, .ifCond .eq 32, 60, 0, 0), (31, .aload_n 0, 0, 0, 0), (32, .getfield 14, 11, 1, 1), (35, .bipush 77, 0, 0, 0), (37, .iload_n 2, 0, 0, 0), (38, .iadd, 0, 0, 0), (39, .iaload, 0, 0, 0), (40, .ifCond .eq 20, 60, 0, 0), (43, .aload_n 0, 0, 0, 0), (44, .getfield 33, 11, 14, 1), (47, .iload_n 1, 0, 0, 0), (48, .iaload, 0, 0, 0), (49, .aload_n 0, 0, 0, 0), (50, .getfield 33, 11, 14, 1), (53, .iload_n 2, 0, 0, 0), (54, .iaload, 0, 0, 0), (55, .if_icmp .ne 5, 60, 0, 0), (58, .iconst 0, 0, 0, 0), (59, .ireturn, 0, 0, 0), (60, .iinc 2 1, 0, 0, 0), (63, .goto (-49), 14, 0, 0), (66, .iinc 1 1, 0, 0, 0), (69, .goto (-67), 2, 0, 0), (72, .iconst 1, 0, 0, 0), (73, .ireturn, 0, 0, 0)]
set_option maxRecDepth 100000 in
theorem sk_k209 : sk_mOK sk_inf sk_nest (sk_inf 209) sk_t209 := sk_mOK_of 12 false rfl (fun h => absurd h (by decide)) (by decide +kernel) (by decide +kernel)
def sk_t210 : List sk_E := [(0, .iconst 0, 0, 0, 0), (1, .istore_n 2, 0, 0, 0), (2, .iload_n 2, 0, 0, 0), (3, .bipush 10, 0, 0, 0), (5, .if_icmp .ge 16, 21, 0, 0), (8, .aload_n 0, 0, 0, 0), (9, .getfield 33, 11, 14, 1), (12, .iload_n 2, 0, 0, 0), (13, .iconst 0, 0, 0, 0), (14, .iastore, 0, 0, 0), (15, .iinc 2 1, 0, 0, 0), (18, .goto (-16), 2, 0, 0), (21, .iconst 0, 0, 0, 0), (22, .istore_n 2, 0, 0, 0), (23, .aload_n 0, 0, 0, 0), (24, .invokevirtual 265, 209, 0, 45), (27, .ifCond .ne 26, 53, 0, 0), (30, .iload_n 2, 0, 0, 0), (31, .bipush 22, 0, 0, 0), (33, .if_icmp .le 5, 38, 0, 0), (36, .iconst (-1), 0, 0, 0), (37, .ireturn, 0, 0, 0), (38, .aload_n 0, 0, 0, 0), (39, .iload_n 1, 0, 0, 0), (40, .iload_n 2, 0, 0, 0), (41, .iadd, 0, 0, 0), (42, .iconst 2, 0, 0, 0), (43, .irem, 0, 0, 0), (44, .invokevirtual 268, 208, 1, 44), (47, .iinc 2 1, 0, 0, 0), (50, .goto (-27), 23, 0, 0), (53, .iload_n 2, 0, 0, 0), (54, .ireturn, 0, 0, 0)]
set_option maxRecDepth 100000 in
theorem sk_k210 : sk_mOK sk_inf sk_nest (sk_inf 210) sk_t210 := sk_mOK_of 12 false rfl (fun h => absurd h (by decide)) (by decide +kernel) (by decide +kernel)
def sk_t211 : List sk_E := [(0, .aload_n 0, 0, 0, 0), (1, .iconst 0, 0, 0, 0), (2, .invokevirtual 271, 210, 1, 45), (5, .istore_n 1, 0, 0, 0), (6, .aload_n 0, 0, 0, 0), (7, .iconst 1, 0, 0, 0), (8, .invokevirtual 271, 210, 1, 45), (11, .istore_n 2, 0, 0, 0), (12, .iload_n 1, 0, 0, 0), (13, .iconst (-1), 0, 0, 0), (14, .if_icmp .eq 8, 22, 0, 0), (17, .iload_n 2, 0, 0, 0), (18, .iconst (-1), 0, 0, 0), (19, .if_icmp .ne 7, 26, 0, 0), (22, .iconst (-1), 0, 0, 0), (23, .goto 8, 31, 0, 0), (26, .iload_n 1, 0, 0, 0), (27, .iload_n 2, 0, 0, 0), (28, .invokestatic 213, 240, 2, 1), (31, .ireturn, 0, 0, 0)]
set_option maxRecDepth 100000 in
theorem sk_k211 : sk_mOK sk_inf sk_nest (sk_inf 211) sk_t211 := sk_mOK_of 12 false rfl (fun h => absurd h (by decide)) (by decide +kernel) (by decide +kernel)
def sk_t212 : List sk_E := [(0, .iconst 0, 0, 0, 0), (1, .istore_n 1, 0, 0, 0), (2, .iload_n 1, 0, 0, 0), (3, .aload_n 0, 0, 0, 0), (4, .getfield 14, 11, 1, 1), (7, .iconst 1, 0, 0, 0), (8, .iaload, 0, 0, 0), (9, .if_icmp .ge 23, 32, 0, 0), (12, .aload_n 0, 0, 0, 0), (13, .getfield 14, 11, 1, 1), (16, .bipush 77, 0, 0, 0), (18, .iload_n 1, 0, 0, 0), (19, .iadd, 0, 0, 0), (20, .iaload, 0, 0, 0), (21, .ifCond .eq 5, 26, 0, 0), (24, .iconst 1, 0, 0, 0), (25, .ireturn, 0, 0, 0), (26, .iinc 1 1, 0, 0, 0), (29, .goto (-27), 2, 0, 0), (32, .iconst 0, 0, 0, 0), (33, .ireturn, 0, 0, 0)]
set_option maxRecDepth 100000 in
theorem sk_k212 : sk_mOK sk_inf sk_nest (sk_inf 212) sk_t212 := sk_mOK_of 12 false rfl (fun h => absurd h (by decide)) (by decide +kernel) (by decide +kernel)
def sk_t213 : List sk_E := [(0, .iload_n 1, 0, 0, 0), (1, .iconst 0, 0, 0, 0), (2, .iconst 2, 0, 0, 0), (3, .invokestatic 69, 144, 3, 45), (6, .ifCond .ne 6, 12, 0, 0), (9, .bipush (-2), 0, 0, 0), (11, .ireturn, 0, 0, 0), (12, .aload_n 0, 0, 0, 0), (13, .invokevirtual 274, 212, 0, 45), (16, .ifCond .ne 6, 22, 0, 0), (19, .bipush (-3), 0, 0, 0), (21, .ireturn, 0, 0, 0), (22, .fconst 0, 0, 0, 0), (23, .fstore_n 2, 0, 0, 0), (24, .fconst 0, 0, 0, 0), (25, .fstore_n 3, 0, 0, 0), (26, .fconst 0, 0, 0, 0), (27, .fstore 4, 0, 0, 0), (29, .iconst 0, 0, 0, 0), (30, .istore 5, 0, 0, 0), (32, .iconst 0, 0, 0, 0), (33, .istore 6, 0, 0, 0), (35, .iload 6, 0, 0, 0), (37, .aload_n 0, 0, 0, 0), (38, .getfield 14, 11, 1, 1), (41, .iconst 1, 0, 0, 0), (42, .iaload, 0, 0, 0), (43, .if_icmp .ge 120, 163, 0, 0), (46, .aload_n 0, 0, 0, 0), (47, .getfield 14, 11, 1, 1), (50, .bipush 77, 0, 0, 0), (52, .iload 6, 0, 0, 0), (54, .iadd, 0, 0, 0), (55, .iaload, 0, 0, 0), (56, .ifCond .ne 6, 62, 0, 0), (59, .goto 98, 157, 0, 0), (62, .aload_n 0, 0, 0, 0), (63, .iload 6, 0, 0, 0), (65, .invokevirtual 84, 154, 1, 45), (68, .aload_n 0, 0, 0, 0), (69, .iload 6, 0, 0, 0), (71, .invokevirtual 88, 155, 1, 45), (74, .imul, 0, 0, 0), (75, .i2f, 0, 0, 0), (76, .fstore 7, 0, 0, 0), (78, .iload 5, 0, 0, 0), (80, .aload_n 0, 0, 0, 0), (81, .iload 6, 0, 0, 0), (83, .invokevirtual 84, 154, 1, 45), (86, .aload_n 0, 0, 0, 0), (87, .iload 6, 0, 0, 0), (89, .invokevirtual 88, 155, 1, 45), (92, .imul, 0, 0, 0), (93, .iadd, 0, 0, 0), (94, .istore 5, 0, 0, 0), (96, .fload_n 2, 0, 0, 0), (97, .fload 7, 0, 0, 0), (99, .fadd, 0, 0, 0), (100, .fstore_n 2, 0, 0, 0), (101, .fload_n 3, 0, 0, 0), (102, .fload 7, 0, 0, 0), (104, .aload_n 0, 0, 0, 0), (105, .getfield 14, 11, 1, 1), (108, .bipush 47, 0, 0, 0), (110, .iload 6, 0, 0, 0), (112, .iadd, 0, 0, 0), (113, .iaload, 0, 0, 0), (114, .i2f, 0, 0, 0), (115, .aload_n 0, 0, 0, 0), (116, .iload 6, 0, 0, 0), (118, .invokevirtual 84, 154, 1, 45), (121, .i2f, 0, 0, 0), (122, .fconst 2, 0, 0, 0), (123, .fdiv, 0, 0, 0), (124, .fadd, 0, 0, 0), (125, .fmul, 0, 0, 0), (126, .fadd, 0, 0, 0), (127, .fstore_n 3, 0, 0, 0), (128, .fload 4, 0, 0, 0), (130, .fload 7, 0, 0, 0), (132, .aload_n 0, 0, 0, 0), (133, .getfield 14, 11, 1, 1), (136, .bipush 57, 0, 0, 0), (138, .iload 6, 0, 0, 0), (140, .iadd, 0, 0, 0), (141, .iaload, 0, 0, 0), (142, .i2f, 0, 0, 0), (143, .aload_n 0, 0, 0, 0), (144, .iload 6, 0, 0, 0), (146, .invokevirtual 88, 155, 1, 45), (149, .i2f, 0, 0, 0), (150, .fconst 2, 0, 0, 0), (151, .fdiv, 0, 0, 0), (152, .fadd, 0, 0, 0), (153, .fmul, 0, 0, 0), (154, .fadd, 0, 0, 0), (155, .fstore 4, 0, 0, 0), (157, .iinc 6 1, 0, 0, 0), (160, .goto (-125), 35, 0, 0), (163, .iload_n 1, 0, 0, 0), (164, .iconst 2, 0, 0, 0), (165, .if_icmp .ne 23, 188, 0, 0), (168, .iload 5, 0, 0, 0), (170, .i2f, 0, 0, 0), (171, .aload_n 0, 0, 0, 0), (172, .getfield 14, 11, 1, 1), (175, .iconst 0, 0, 0, 0), (176, .iaload, 0, 0, 0), (177, .aload_n 0, 0, 0, 0), (178, .invokevirtual 234, 185, 0, 45), (181, .imul, 0, 0, 0), (182, .i2f, 0, 0, 0), (183, .fdiv, 0, 0, 0), (184, .invokestatic 277, 238, 1, 1), (187, .ireturn, 0, 0, 0), (188, .iload_n 1, 0, 0, 0), (189, .ifCond .ne 9, 198, 0, 0), (192, .fload_n 3, 0, 0, 0), (193, .fload_n 2, 0, 0, 0), (194, .fdiv, 0, 0, 0), (195, .goto 7, 202, 0, 0), (198, .fload 4, 0, 0, 0), (200, .fload_n 2, 0, 0, 0), (201, .fdiv, 0, 0, 0), (202, .invokestatic 277, 238, 1, 1), (205, .ireturn, 0, 0, 0)]
set_option maxRecDepth 100000 in
theorem sk_k213 : sk_mOK sk_inf sk_nest (sk_inf 213) sk_t213 := sk_mOK_of 12 false rfl (fun h => absurd h (by decide)) (by decide +kernel) (by decide +kernel)
def sk_t214 : List sk_E := [(0, .iload_n 1, 0, 0, 0), (1, .istore_n 3, 0, 0, 0), (2, .aload_n 0, 0, 0, 0), (3, .getfield 14, 11, 1, 1), (6, .iconst 2, 0, 0, 0), (7, .iaload, 0, 0, 0), (8, .istore 4, 0, 0, 0), (10, .aload_n 0, 0, 0, 0), (11, .iconst 2, 0, 0, 0), (12, .invokevirtual 228, 146, 1, 44), (15, .iconst 0, 0, 0, 0), (16, .istore 5, 0, 0, 0), (18, .iload 5, 0, 0, 0), (20, .iload_n 2, 0, 0, 0), (21, .if_icmp .ge 56, 77, 0, 0), (24, .iload 4, 0, 0, 0), (26, .ifCond .le 51, 77, 0, 0), (29, .iload_n 3, 0, 0, 0), (30, .ldc_w 283, 1103515245, 0, 0), (33, .imul, 0, 0, 0), (34, .sipush 12345, 0, 0, 0), (37, .iadd, 0, 0, 0), (38, .istore_n 3, 0, 0, 0), (39, .iload_n 3, 0, 0, 0), (40, .bipush 9, 0, 0, 0), (42, .iushr, 0, 0, 0), (43, .iload 4, 0, 0, 0), (45, .irem, 0, 0, 0), (46, .istore 6, 0, 0, 0), (48, .iload_n 3, 0, 0, 0), (49, .ldc_w 283, 1103515245, 0, 0), (52, .imul, 0, 0, 0), (53, .sipush 12345, 0, 0, 0), (56, .iadd, 0, 0, 0), (57, .istore_n 3, 0, 0, 0), (58, .aload_n 0, 0, 0, 0), (59, .iload 6, 0, 0, 0), (61, .iload_n 3, 0, 0, 0), (62, .bipush 9, 0, 0, 0), (64, .iushr, 0, 0, 0), (65, .iload 4, 0, 0, 0), (67, .irem, 0, 0, 0), (68, .invokevirtual 147, 171, 2, 44), (71, .iinc 5 1, 0, 0, 0), (74, .goto (-56), 18, 0, 0), (77, .aload_n 0, 0, 0, 0), (78, .invokevirtual 207, 184, 0, 45), (81, .pop, 0, 0, 0), (82, .aload_n 0, 0, 0, 0), (83, .invokevirtual 234, 185, 0, 45), (86, .istore 5, 0, 0, 0), (88, .aload_n 0, 0, 0, 0), (89, .iconst 2, 0, 0, 0), (90, .invokevirtual 240, 147, 1, 44), (93, .iload 5, 0, 0, 0), (95, .ireturn, 0, 0, 0)]
set_option maxRecDepth 100000 in
theorem sk_k214 : sk_mOK sk_inf sk_nest (sk_inf 214) sk_t214 := sk_mOK_of 12 false rfl (fun h => absurd h (by decide)) (by decide +kernel) (by decide +kernel)
def sk_t215 : List sk_E := [(0, .iload_n 2, 0, 0, 0), (1, .iconst 0, 0, 0, 0), (2, .bipush 20, 0, 0, 0), (4, .invokestatic 69, 144, 3, 45), (7, .ifCond .eq 12, 19, 0, 0), (10, .aload_n 0, 0, 0, 0), (11, .iload_n 1, 0, 0, 0), (12, .iload_n 2, 0, 0, 0), (13, .invokevirtual 284, 214, 2, 45), (16, .goto 5, 21, 0, 0), (19, .bipush (-2), 0, 0, 0), (21, .ireturn, 0, 0, 0)]
set_option maxRecDepth 100000 in
theorem sk_k215 : sk_mOK sk_inf sk_nest (sk_inf 215) sk_t215 := sk_mOK_of 12 false rfl (fun h => absurd h (by decide)) (by decide +kernel) (by decide +kernel)
def sk_t216 : List sk_E := [(0, .iload_n 2, 0, 0, 0), (1, .iconst 1, 0, 0, 0), (2, .bipush 8, 0, 0, 0), (4, .invokestatic 69, 144, 3, 45), (7, .ifCond .eq 17, 24, 0, 0), (10, .iload_n 3, 0, 0, 0), (11, .ifCond .lt 13, 24, 0, 0), (14, .iload 4, 0, 0, 0), (16, .iconst 0, 0, 0, 0), (17, .iconst 1, 0, 0, 0), (18, .invokestatic 69, 144, 3, 45), (21, .ifCond .ne 6, 27, 0, 0), (24, .bipush (-2), 0, 0, 0), (26, .ireturn, 0, 0, 0), (27, .iconst 0, 0, 0, 0), (28, .istore 5, 0, 0, 0), (30, .iconst 0, 0, 0, 0), (31, .istore 6, 0, 0, 0), (33, .iload 6, 0, 0, 0), (35, .iload_n 2, 0, 0, 0), (36, .if_icmp .ge 26, 62, 0, 0), (39, .aload_n 0, 0, 0, 0), (40, .iload_n 1, 0, 0, 0), (41, .iload 6, 0, 0, 0), (43, .iadd, 0, 0, 0), (44, .bipush 6, 0, 0, 0), (46, .invokevirtual 284, 214, 2, 45), (49, .iload_n 3, 0, 0, 0), (50, .if_icmp .gt 6, 56, 0, 0), (53, .iinc 5 1, 0, 0, 0), (56, .iinc 6 1, 0, 0, 0), (59, .goto (-26), 33, 0, 0), (62, .iload_n 2, 0, 0, 0), (63, .istore 6, 0, 0, 0), (65, .iload 5, 0, 0, 0), (67, .iload 6, 0, 0, 0), (69, .irem, 0, 0, 0), (70, .ifCond .ne 10, 80, 0, 0), (73, .iload_n 2, 0, 0, 0), (74, .iload 6, 0, 0, 0), (76, .irem, 0, 0, 0), (77, .ifCond .eq 9, 86, 0, 0), (80, .iinc 6 (-1), 0, 0, 0), (83, .goto (-18), 65, 0, 0), (86, .iload 4, 0, 0, 0), (88, .ifCond .ne 11, 99, 0, 0), (91, .iload 5, 0, 0, 0), (93, .iload 6, 0, 0, 0), (95, .idiv, 0, 0, 0), (96, .goto 7, 103, 0, 0), (99, .iload_n 2, 0, 0, 0), (100, .iload 6, 0, 0, 0), (102, .idiv, 0, 0, 0), (103, .ireturn, 0, 0, 0)]
set_option maxRecDepth 100000 in
theorem sk_k216 : sk_mOK sk_inf sk_nest (sk_inf 216) sk_t216 := sk_mOK_of 12 false rfl (fun h => absurd h (by decide)) (by decide +kernel) (by decide +kernel)
def sk_t217 : List sk_E := [(0, .iconst 0, 0, 0, 0), (1, .istore_n 2, 0, 0, 0), (2, .iload_n 2, 0, 0, 0), (3, .aload_n 0, 0, 0, 0), (4, .getfield 14, 11, 1, 1), (7, .iconst 0, 0, 0, 0), (8, .iaload, 0, 0, 0), (9, .if_icmp .ge 41, 50, 0, 0), (12, .iload_n 2, 0, 0, 0), (13, .aload_n 0, 0, 0, 0), (14, .getfield 54, 11, 21, 1), (17, .iload_n 1, 0, 0, 0), (18, .iaload, 0, 0, 0), (19, .if_icmp .ge 31, 50, 0, 0), (22, .aload_n 0, 0, 0, 0), (23, .getfield 14, 11, 1, 1), (26, .bipush 97, 0, 0, 0), (28, .iload_n 2, 0, 0, 0), (29, .iadd, 0, 0, 0), (30, .iaload, 0, 0, 0), (31, .aload_n 0, 0, 0, 0), (32, .getfield 57, 11, 22, 1), (35, .iload_n 1, 0, 0, 0), (36, .aaload, 0, 0, 0), (37, .iload_n 2, 0, 0, 0), (38, .iaload, 0, 0, 0), (39, .if_icmp .eq 5, 44, 0, 0), (42, .iload_n 2, 0, 0, 0), (43, .ireturn, 0, 0, 0), (44, .iinc 2 1, 0, 0, 0), (47, .goto (-45), 2, 0, 0), (50, .aload_n 0, 0, 0, 0), (51, .getfield 14, 11, 1, 1), (54, .iconst 0, 0, 0, 0), (55, .iaload, 0, 0, 0), (56, .aload_n 0, 0, 0, 0), (57, .getfield 54, 11, 21, 1), (60, .iload_n 1, 0, 0, 0), (61, .iaload, 0, 0, 0), (62, .if_icmp .ne 7, 69, 0, 0), (65, .iconst (-1), 0, 0, 0), (66, .goto 18, 84, 0, 0), (69, .aload_n 0, 0, 0, 0), (70, .getfield 14, 11, 1, 1), (73, .iconst 0, 0, 0, 0), (74, .iaload, 0, 0, 0), (75, .aload_n 0, 0, 0, 0), (76, .getfield 54, 11, 21, 1), (79, .iload_n 1, 0, 0, 0), (80, .iaload, 0, 0, 0), (81, .invokestatic 213, 240, 2, 1), (84, .ireturn, 0, 0, 0)]
set_option maxRecDepth 100000 in
theorem sk_k217 : sk_mOK sk_inf sk_nest (sk_inf 217) sk_t217 := sk_mOK_of 12 false rfl (fun h => absurd h (by decide)) (by decide +kernel) (by decide +kernel)
def sk_t218 : List sk_E := [(0, .aload_n 0, 0, 0, 0), (1, .invokevirtual 207, 184, 0, 45), (4, .pop, 0, 0, 0), (5, .aload_n 0, 0, 0, 0), (6, .iload_n 1, 0, 0, 0), (7, .invokevirtual 287, 217, 1, 45), (10, .iconst (-1), 0, 0, 0), (11, .if_icmp .ne 7, 18, 0, 0), (14, .iconst 1, 0, 0, 0), (15, .goto 4, 19, 0, 0), (18, .iconst 0, 0, 0, 0), (19, .ireturn, 0, 0, 0)]
set_option maxRecDepth 100000 in
theorem sk_k218 : sk_mOK sk_inf sk_nest (sk_inf 218) sk_t218 := sk_mOK_of 12 false rfl (fun h => absurd h (by decide)) (by decide +kernel) (by decide +kernel)
def sk_t219 : List sk_E := [(0, .iload_n 1, 0, 0, 0), (1, .invokestatic 290, 233, 1, 45), (4, .ifCond .eq 12, 16, 0, 0), (7, .iload_n 2, 0, 0, 0), (8, .iconst 0, 0, 0, 0), (9, .iconst 2, 0, 0, 0), (10, .invokestatic 69, 144, 3, 45), (13, .ifCond .ne 6, 19, 0, 0), (16, .bipush (-2), 0, 0, 0), (18, .ireturn, 0, 0, 0), (19, .aload_n 0, 0, 0, 0), (20, .getfield 51, 11, 20, 1), (23, .iload_n 1, 0, 0, 0), (24, .iaload, 0, 0, 0), (25, .ifCond .ge 6, 31, 0, 0), (28, .bipush (-11), 0, 0, 0), (30, .ireturn, 0, 0, 0), (31, .aload_n 0, 0, 0, 0), (32, .getfield 54, 11, 21, 1), (35, .iload_n 1, 0, 0, 0), (36, .iaload, 0, 0, 0), (37, .bipush 20, 0, 0, 0), (39, .if_icmp .le 6, 45, 0, 0), (42, .bipush (-2), 0, 0, 0), (44, .ireturn, 0, 0, 0), (45, .iload_n 2, 0, 0, 0), (46, .ifCond .ne 9, 55, 0, 0), (49, .aload_n 0, 0, 0, 0), (50, .iload_n 1, 0, 0, 0), (51, .invokevirtual 287, 217, 1, 45), (54, .ireturn, 0, 0, 0), (55, .iconst 0, 0, 0, 0), (56, .istore_n 3, 0, 0, 0), (57, .aload_n 0, 0, 0, 0), (58, .iconst 2, 0, 0, 0), (59, .invokevirtual 228, 146, 1, 44), (62, .iload_n 2, 0, 0, 0), (63, .iconst 1, 0, 0, 0), (64, .if_icmp .ne 44, 108, 0, 0), (67, .iconst 0, 0, 0, 0), (68, .istore 4, 0, 0, 0), (70, .iload 4, 0, 0, 0), (72, .iconst 4, 0, 0, 0), (73, .if_icmp .ge 32, 105, 0, 0), (76, .aload_n 0, 0, 0, 0), (77, .getfield 14, 11, 1, 1), (80, .iconst 3, 0, 0, 0), (81, .iload 4, 0, 0, 0), (83, .iastore, 0, 0, 0), (84, .aload_n 0, 0, 0, 0), (85, .iload_n 1, 0, 0, 0), (86, .invokevirtual 293, 218, 1, 45), (89, .ifCond .eq 10, 99, 0, 0), (92, .iload_n 3, 0, 0, 0), (93, .iconst 1, 0, 0, 0), (94, .iload 4, 0, 0, 0), (96, .ishl, 0, 0, 0), (97, .ior, 0, 0, 0), (98, .istore_n 3, 0, 0, 0), (99, .iinc 4 1, 0, 0, 0), (102, .goto (-32), 70, 0, 0), (105, .goto 66, 171, 0, 0), (108, .iconst 1, 0, 0, 0), (109, .istore 4, 0, 0, 0), (111, .iload 4, 0, 0, 0), (113, .aload_n 0, 0, 0, 0), (114, .getfield 14, 11, 1, 1), (117, .iconst 2, 0, 0, 0), (118, .iaload, 0, 0, 0), (119, .if_icmp .ge 52, 171, 0, 0), (122, .iconst 0, 0, 0, 0), (123, .istore 5, 0, 0, 0), (125, .iload 5, 0, 0, 0), (127, .iload 4, 0, 0, 0), (129, .if_icmp .ge 36, 165, 0, 0), (132, .aload_n 0, 0, 0, 0), (133, .iload 5, 0, 0, 0), (135, .iload 4, 0, 0, 0), (137, .invokevirtual 147, 171, 2, 44), (140, .aload_n 0, 0, 0, 0), (141, .iload_n 1, 0, 0, 0), (142, .invokevirtual 293, 218, 1, 45), (145, .ifCond .eq 6, 151, 0, 0), (148, .iinc 3 1, 0, 0, 0), (151, .aload_n 0, 0, 0, 0), (152, .iload 5, 0, 0, 0), (154, .iload 4, 0, 0, 0), (156, .invokevirtual 147, 171, 2, 44), (159, .iinc 5 1, 0, 0, 0), (162, .goto (-37), 125, 0, 0), (165, .iinc 4 1, 0, 0, 0), (168, .goto (-57), 111, 0, 0), (171, .aload_n 0, 0, 0, 0), (172, .iconst 2, 0, 0, 0), (173, .invokevirtual 240, 147, 1, 44), (176, .iload_n 3, 0, 0, 0), (177, .ireturn, 0, 0, 0)]
set_option maxRecDepth 100000 in
theorem sk_k219 : sk_mOK sk_inf sk_nest (sk_inf 219) sk_t219 := sk_mOK_of 12 false rfl (fun h => absurd h (by decide)) (by decide +kernel) (by decide +kernel)
def sk_t220 : List sk_E := [(0, .iload_n 0, 0, 0, 0), (1, .iconst 0, 0, 0, 0), (2, .iconst 3, 0, 0, 0), (3, .invokestatic 69, 144, 3, 45), (6, .ireturn, 0, 0, 0)]
set_option maxRecDepth 100000 in
theorem sk_k220 : sk_mOK sk_inf sk_nest (sk_inf 220) sk_t220 := sk_mOK_of 12 false rfl (fun h => absurd h (by decide)) (by decide +kernel) (by decide +kernel)
def sk_t221 : List sk_E := [(0, .iconst 0, 0, 0, 0), (1, .istore_n 1, 0, 0, 0), (2, .iload_n 1, 0, 0, 0), (3, .iconst 4, 0, 0, 0), (4, .if_icmp .ge 32, 36, 0, 0), (7, .iconst 0, 0, 0, 0), (8, .istore_n 2, 0, 0, 0), (9, .iload_n 2, 0, 0, 0), (10, .bipush 10, 0, 0, 0), (12, .if_icmp .ge 18, 30, 0, 0), (15, .aload_n 0, 0, 0, 0), (16, .getfield 45, 11, 18, 1), (19, .iload_n 1, 0, 0, 0), (20, .aaload, 0, 0, 0), (21, .iload_n 2, 0, 0, 0), (22, .iconst (-1), 0, 0, 0), (23, .iastore, 0, 0, 0), (24, .iinc 2 1, 0, 0, 0), (27, .goto (-18), 9, 0, 0), (30, .iinc 1 1, 0, 0, 0), (33, .goto (-31), 2, 0, 0), (36, .return_, 0, 0, 0)]
set_option maxRecDepth 100000 in
theorem sk_k221 : sk_mOK sk_inf sk_nest (sk_inf 221) sk_t221 := sk_mOK_of 12 false rfl (fun h => absurd h (by decide)) (by decide +kernel) (by decide +kernel)
def sk_t222 : List sk_E := [(0, .iload_n 1, 0, 0, 0), (1, .invokestatic 144, 220, 1, 45), (4, .ifCond .eq 18, 22, 0, 0), (7, .iload_n 2, 0, 0, 0), (8, .iconst 0, 0, 0, 0), (9, .iconst 5, 0, 0, 0), (10, .invokestatic 69, 144, 3, 45), (13, .ifCond .eq 9, 22, 0, 0), (16, .iload_n 3, 0, 0, 0), (17, .bipush 10, 0, 0, 0), (19, .if_icmp .le 6, 25, 0, 0), (22, .bipush (-2), 0, 0, 0), (24, .ireturn, 0, 0, 0), (25, .iload_n 3, 0, 0, 0), (26, .ifCond .ge 6, 32, 0, 0), (29, .bipush (-14), 0, 0, 0), (31, .ireturn, 0, 0, 0), (32, .aload_n 0, 0, 0, 0), (33, .getfield 39, 11, 16, 1), (36, .iload_n 1, 0, 0, 0), (37, .iload_n 3, 0, 0, 0), (38, .iastore, 0, 0, 0), (39, .aload_n 0, 0, 0, 0), (40, .getfield 42, 11, 17, 1), (43, .iload_n 1, 0, 0, 0), (44, .iload_n 2, 0, 0, 0), (45, .iastore, 0, 0, 0), (46, .iconst 0, 0, 0, 0), (47, .istore 4, 0, 0, 0), (49, .iload 4, 0, 0, 0), (51, .bipush 10, 0, 0, 0), (53, .if_icmp .ge 19, 72, 0, 0), (56, .aload_n 0, 0, 0, 0), (57, .getfield 45, 11, 18, 1), (60, .iload_n 1, 0, 0, 0), (61, .aaload, 0, 0, 0), (62, .iload 4, 0, 0, 0), (64, .iconst (-1), 0, 0, 0), (65, .iastore, 0, 0, 0), (66, .iinc 4 1, 0, 0, 0), (69, .goto (-20), 49, 0, 0), (72, .iconst 1, 0, 0, 0), (73, .ireturn, 0, 0, 0)]
set_option maxRecDepth 100000 in
theorem sk_k222 : sk_mOK sk_inf sk_nest (sk_inf 222) sk_t222 := sk_mOK_of 12 false rfl (fun h => absurd h (by decide)) (by decide +kernel) (by decide +kernel)
def sk_t223 : List sk_E := [(0, .iload_n 2, 0, 0, 0), (1, .iconst (-1), 0, 0, 0), (2, .if_icmp .eq 24, 26, 0, 0), (5, .aload_n 0, 0, 0, 0), (6, .getfield 14, 11, 1, 1), (9, .bipush 7, 0, 0, 0), (11, .iload_n 2, 0, 0, 0), (12, .iadd, 0, 0, 0), (13, .iaload, 0, 0, 0), (14, .aload_n 0, 0, 0, 0), (15, .getfield 42, 11, 17, 1), (18, .iload_n 1, 0, 0, 0), (19, .iaload, 0, 0, 0), (20, .invokestatic 73, 149, 2, 45), (23, .ifCond .eq 7, 30, 0, 0), (26, .iconst 1, 0, 0, 0), (27, .goto 4, 31, 0, 0), (30, .iconst 0, 0, 0, 0), (31, .ireturn, 0, 0, 0)]
set_option maxRecDepth 100000 in
theorem sk_k223 : sk_mOK sk_inf sk_nest (sk_inf 223) sk_t223 := sk_mOK_of 12 false rfl (fun h => absurd h (by decide)) (by decide +kernel) (by decide +kernel)
def sk_t224 : List sk_E := [(0, .iload_n 1, 0, 0, 0), (1, .invokestatic 144, 220, 1, 45), (4, .ifCond .eq 16, 20, 0, 0), (7, .iload_n 3, 0, 0, 0), (8, .iconst (-1), 0, 0, 0), (9, .if_icmp .eq 14, 23, 0, 0), (12, .aload_n 0, 0, 0, 0), (13, .iload_n 3, 0, 0, 0), (14, .invokevirtual 130, 148, 1, 45), (17, .ifCond .ne 6, 23, 0, 0), (20, .bipush (-2), 0, 0, 0), (22, .ireturn, 0, 0, 0), (23, .aload_n 0, 0, 0, 0), (24, .getfield 39, 11, 16, 1), (27, .iload_n 1, 0, 0, 0), (28, .iaload, 0, 0, 0), (29, .ifCond .ge 6, 35, 0, 0), (32, .bipush (-11), 0, 0, 0), (34, .ireturn, 0, 0, 0), (35, .iload_n 2, 0, 0, 0), (36, .iconst 0, 0, 0, 0), (37, .aload_n 0, 0, 0, 0), (38, .getfield 39, 11, 16, 1), (41, .iload_n 1, 0, 0, 0), (42, .iaload, 0, 0, 0), (43, .iconst 1, 0, 0, 0), (44, .isub, 0, 0, 0), (45, .invokestatic 69, 144, 3, 45), (48, .ifCond .ne 6, 54, 0, 0), (51, .bipush (-12), 0, 0, 0), (53, .ireturn, 0, 0, 0), (54, .aload_n 0, 0, 0, 0), (55, .iload_n 1, 0, 0, 0), (56, .iload_n 3, 0, 0, 0), (57, .invokevirtual 296, 223, 2, 45), (60, .ifCond .ne 6, 66, 0, 0), (63, .bipush (-16), 0, 0, 0), (65, .ireturn, 0, 0, 0), (66, .aload_n 0, 0, 0, 0), (67, .getfield 45, 11, 18, 1), (70, .iload_n 1, 0, 0, 0), (71, .aaload, 0, 0, 0), (72, .iload_n 2, 0, 0, 0), (73, .iload_n 3, 0, 0, 0), (74, .iastore, 0, 0, 0), (75, .iconst 1, 0, 0, 0), (76, .ireturn, 0, 0, 0)]
set_option maxRecDepth 100000 in
theorem sk_k224 : sk_mOK sk_inf sk_nest (sk_inf 224) sk_t224 := sk_mOK_of 12 false rfl (fun h => absurd h (by decide)) (by decide +kernel) (by decide +kernel)
def sk_t225 : List sk_E := [(0, .iload_n 1, 0, 0, 0), (1, .invokestatic 144, 220, 1, 45), (4, .ifCond .eq 10, 14, 0, 0), (7, .iload_n 3, 0, 0, 0), (8, .invokestatic 144, 220, 1, 45), (11, .ifCond .ne 6, 17, 0, 0), (14, .bipush (-2), 0, 0, 0), (16, .ireturn, 0, 0, 0), (17, .aload_n 0, 0, 0, 0), (18, .getfield 39, 11, 16, 1), (21, .iload_n 1, 0, 0, 0), (22, .iaload, 0, 0, 0), (23, .ifCond .lt 12, 35, 0, 0), (26, .aload_n 0, 0, 0, 0), (27, .getfield 39, 11, 16, 1), (30, .iload_n 3, 0, 0, 0), (31, .iaload, 0, 0, 0), (32, .ifCond .ge 6, 38, 0, 0), (35, .bipush (-11), 0, 0, 0), (37, .ireturn, 0, 0, 0), (38, .iload 5, 0, 0, 0), (40, .ifCond .lt 39, 79, 0, 0), (43, .iload_n 2, 0, 0, 0), (44, .ifCond .lt 35, 79, 0, 0), (47, .iload 4, 0, 0, 0), (49, .ifCond .lt 30, 79, 0, 0), (52, .iload_n 2, 0, 0, 0), (53, .aload_n 0, 0, 0, 0), (54, .getfield 39, 11, 16, 1), (57, .iload_n 1, 0, 0, 0), (58, .iaload, 0, 0, 0), (59, .iload 5, 0, 0, 0), (61, .isub, 0, 0, 0), (62, .if_icmp .gt 17, 79, 0, 0), (65, .iload 4, 0, 0, 0), (67, .aload_n 0, 0, 0, 0), (68, .getfield 39, 11, 16, 1), (71, .iload_n 3, 0, 0, 0), (72, .iaload, 0, 0, 0), (73, .iload 5, 0, 0, 0), (75, .isub, 0, 0, 0), (76, .if_icmp .le 6, 82, 0, 0), (79, .bipush (-12), 0, 0, 0), (81, .ireturn, 0, 0, 0), (82, .aload_n 0, 0, 0, 0), (83, .getfield 45, 11, 18, 1), (86, .iload_n 1, 0, 0, 0), (87, .aaload, 0, 0, 0), (88, .iload_n 2, 0, 0, 0), (89, .aload_n 0, 0, 0, 0), (90, .getfield 48, 11, 19, 1), (93, .iconst 0, 0, 0, 0), (94, .iload 5, 0, 0, 0), (96, .invokestatic 63, 0, 5, 0), (99, .iconst 0, 0, 0, 0), (100, .istore 6, 0, 0, 0), (102, .iload 6, 0, 0, 0), (104, .iload 5, 0, 0, 0), (106, .if_icmp .ge 43, 149, 0, 0), (109, .aload_n 0, 0, 0, 0), (110, .iload_n 3, 0, 0, 0), (111, .aload_n 0, 0, 0, 0), (112, .getfield 48, 11, 19, 1), (115, .iload 6, 0, 0, 0), (117, .iaload, 0, 0, 0), (118, .invokevirtual 296, 223, 2, 45), (121, .ifCond .eq 28, 149, 0, 0), (124, .aload_n 0, 0, 0, 0), (125, .getfield 45, 11, 18, 1), (128, .iload_n 3, 0, 0, 0), (129, .aaload, 0, 0, 0), (130, .iload 4, 0, 0, 0), (132, .iload 6, 0, 0, 0), (134, .iadd, 0, 0, 0), (135, .aload_n 0, 0, 0, 0), (136, .getfield 48, 11, 19, 1), (139, .iload 6, 0, 0, 0), (141, .iaload, 0, 0, 0), (142, .iastore, 0, 0, 0), (143, .iinc 6 1, 0, 0, 0), (146, .goto (-44), 102, 0, 0), (149, .iload 6, 0, 0, 0), (151, .ireturn, 0, 0, 0)]
set_option maxRecDepth 100000 in
theorem sk_k225 : sk_mOK sk_inf sk_nest (sk_inf 225) sk_t225 := sk_mOK_of 12 false rfl (fun h => absurd h (by decide)) (by decide +kernel) (by decide +kernel)
def sk_t226 : List sk_E := [(0, .iload_n 1, 0, 0, 0), (1, .invokestatic 144, 220, 1, 45), (4, .ifCond .ne 6, 10, 0, 0), (7, .bipush (-2), 0, 0, 0), (9, .ireturn, 0, 0, 0), (10, .aload_n 0, 0, 0, 0), (11, .getfield 39, 11, 16, 1), (14, .iload_n 1, 0, 0, 0), (15, .iaload, 0, 0, 0), (16, .ifCond .ge 6, 22, 0, 0), (19, .bipush (-11), 0, 0, 0), (21, .ireturn, 0, 0, 0), (22, .iload_n 2, 0, 0, 0), (23, .iconst 0, 0, 0, 0), (24, .aload_n 0, 0, 0, 0), (25, .getfield 39, 11, 16, 1), (28, .iload_n 1, 0, 0, 0), (29, .iaload, 0, 0, 0), (30, .iconst 1, 0, 0, 0), (31, .isub, 0, 0, 0), (32, .invokestatic 69, 144, 3, 45), (35, .ifCond .eq 14, 49, 0, 0), (38, .aload_n 0, 0, 0, 0), (39, .getfield 45, 11, 18, 1), (42, .iload_n 1, 0, 0, 0), (43, .aaload, 0, 0, 0), (44, .iload_n 2, 0, 0, 0), (45, .iaload, 0, 0, 0), (46, .goto 5, 51, 0, 0), (49, .bipush (-12), 0, 0, 0), (51, .ireturn, 0, 0, 0)]
set_option maxRecDepth 100000 in
theorem sk_k226 : sk_mOK sk_inf sk_nest (sk_inf 226) sk_t226 := sk_mOK_of 12 false rfl (fun h => absurd h (by decide)) (by decide +kernel) (by decide +kernel)
def sk_t227 : List sk_E := [(0, .aload_n 0, 0, 0, 0), (1, .iconst 1, 0, 0, 0), (2, .invokevirtual 228, 146, 1, 44), (5, .aload_n 0, 0, 0, 0), (6, .iconst 1, 0, 0, 0), (7, .putfield 299, 11, 2, 2), (10, .aload_n 0, 0, 0, 0), (11, .getfield 14, 11, 1, 1), (14, .iconst 1, 0, 0, 0), (15, .iaload, 0, 0, 0), (16, .ireturn, 0, 0, 0)]
set_option maxRecDepth 100000 in
theorem sk_k227 : sk_mOK sk_inf sk_nest (sk_inf 227) sk_t227 := sk_mOK_of 12 false rfl (fun h => absurd h (by decide)) (by decide +kernel) (by decide +kernel)
def sk_t228 : List sk_E := [(0, .aload_n 0, 0, 0, 0), (1, .getfield 299, 11, 2, 0), (4, .ifCond .ne 6, 10, 0, 0), (7, .bipush (-3), 0, 0, 0), (9, .ireturn, 0, 0, 0), (10, .aload_n 0, 0, 0, 0), (11, .iconst 1, 0, 0, 0), (12, .invokevirtual 240, 147, 1, 44), (15, .aload_n 0, 0, 0, 0), (16, .invokevirtual 99, 221, 0, 44), (19, .aload_n 0, 0, 0, 0), (20, .getfield 14, 11, 1, 1), (23, .iconst 1, 0, 0, 0), (24, .iaload, 0, 0, 0), (25, .ireturn, 0, 0, 0)]
set_option maxRecDepth 100000 in
theorem sk_k228 : sk_mOK sk_inf sk_nest (sk_inf 228) sk_t228 := sk_mOK_of 12 false rfl (fun h => absurd h (by decide)) (by decide +kernel) (by decide +kernel)
def sk_t229 : List sk_E := [(0, .aload_n 0, 0, 0, 0), (1, .getfield 14, 11, 1, 1), (4, .bipush 7, 0, 0, 0), (6, .iload_n 1, 0, 0, 0), (7, .iadd, 0, 0, 0), (8, .iaload, 0, 0, 0), (9, .aload_n 0, 0, 0, 0), (10, .getfield 14, 11, 1, 1), (13, .bipush 7, 0, 0, 0), (15, .iload_n 2, 0, 0, 0), (16, .iadd, 0, 0, 0), (17, .iaload, 0, 0, 0), (18, .if_icmp .ne 70, 88, 0, 0), (21, .aload_n 0, 0, 0, 0), (22, .getfield 14, 11, 1, 1), (25, .bipush 17, 0, 0, 0), (27, .iload_n 1, 0, 0, 0), (28, .iadd, 0, 0, 0), (29, .iaload, 0, 0, 0), (30, .aload_n 0, 0, 0, 0), (31, .getfield 14, 11, 1, 1), (34, .bipush 17, 0, 0, 0), (36, .iload_n 2, 0, 0, 0), (37, .iadd, 0, 0, 0), (38, .iaload, 0, 0, 0), (39, .if_icmp .ne 49, 88, 0, 0), (42, .aload_n 0, 0, 0, 0), (43, .getfield 14, 11, 1, 1), (46, .bipush 27, 0, 0, 0), (48, .iload_n 1, 0, 0, 0), (49, .iadd, 0, 0, 0), (50, .iaload, 0, 0, 0), (51, .aload_n 0, 0, 0, 0), (52, .getfield 14, 11, 1, 1), (55, .bipush 27, 0, 0, 0), (57, .iload_n 2, 0, 0, 0), (58, .iadd, 0, 0, 0), (59, .iaload, 0, 0, 0), (60, .if_icmp .ne 28, 88, 0, 0), (63, .aload_n 0, 0, 0, 0), (64, .getfield 14, 11, 1, 1), (67, .bipush 37, 0, 0, 0), (69, .iload_n 1, 0, 0, 0), (70, .iadd, 0, 0, 0), (71, .iaload, 0, 0, 0), (72, .aload_n 0, 0, 0, 0), (73, .getfield 14, 11, 1, 1), (76, .bipush 37, 0, 0, 0), (78, .iload_n 2, 0, 0, 0), (79, .iadd, 0, 0, 0), (80, .iaload, 0, 0, 0), (81, .if_icmp .ne 7, 88, 0, 0), (84, .iconst 1, 0, 0, 0), (85, .goto 4, 89, 0, 0), (88, .iconst 0, 0, 0, 0), (89, .ireturn, 0, 0, 0)]
set_option maxRecDepth 100000 in
theorem sk_k229 : sk_mOK sk_inf sk_nest (sk_inf 229) sk_t229 := sk_mOK_of 12 false rfl (fun h => absurd h (by decide)) (by decide +kernel) (by decide +kernel)
def sk_t230 : List sk_E := [(0, .iconst 0, 0, 0, 0), (1, .istore_n 1, 0, 0, 0), (2, .iconst 0, 0, 0, 0), (3, .istore_n 2, 0, 0, 0), (4, .iload_n 2, 0, 0, 0), (5, .aload_n 0, 0, 0, 0), (6, .getfield 14, 11, 1, 1), (9, .iconst 1, 0, 0, 0), (10, .iaload, 0, 0, 0), (11, .if_icmp .ge 34, 45, 0, 0), (14, .iconst 0, 0, 0, 0), (15, .istore_n 3, 0, 0, 0), (16, .aload_n 0, 0, 0, 0), (17, .iload_n 2, 0, 0, 0), (18, .iload_n 3, 0, 0, 0), (19, .invokevirtual 303, 229, 2, 45), (22, .ifCond .ne 9, 31, 0, 0), (25, .iinc 3 1, 0, 0, 0), (28, .goto (-12), 16, 0, 0), (31, .iload_n 3, 0, 0, 0), (32, .iload_n 2, 0, 0, 0), (33, .if_icmp .ne 6, 39, 0, 0), (36, .iinc 1 1, 0, 0, 0), (39, .iinc 2 1, 0, 0, 0), (42, .goto (-38), 4, 0, 0), (45, .iload_n 1, 0, 0, 0), (46, .ireturn, 0, 0, 0)]
set_option maxRecDepth 100000 in
theorem sk_k230 : sk_mOK sk_inf sk_nest (sk_inf 230) sk_t230 := sk_mOK_of 12 false rfl (fun h => absurd h (by decide)) (by decide +kernel) (by decide +kernel)
def sk_t231 : List sk_E := [(0, .iconst 1, 0, 0, 0), (1, .istore_n 1, 0, 0, 0), (2, .iconst 0, 0, 0, 0), (3, .istore_n 2, 0, 0, 0), (4, .iload_n 2, 0, 0, 0), (5, .aload_n 0, 0, 0, 0), (6, .getfield 14, 11, 1, 1), (9, .iconst 2, 0, 0, 0), (10, .iaload, 0, 0, 0), (11, .if_icmp .ge 63, 74, 0, 0), (14, .iconst 0, 0, 0, 0), (15, .istore_n 3, 0, 0, 0), (16, .iconst 0, 0, 0, 0), (17, .istore 4, 0, 0, 0), (19, .iload 4, 0, 0, 0), (21, .iload_n 2, 0, 0, 0), (22, .if_icmp .gt 38, 60, 0, 0), (25, .aload_n 0, 0, 0, 0), (26, .aload_n 0, 0, 0, 0), (27, .getfield 14, 11, 1, 1), (30, .bipush 87, 0, 0, 0), (32, .iload 4, 0, 0, 0), (34, .iadd, 0, 0, 0), (35, .iaload, 0, 0, 0), (36, .aload_n 0, 0, 0, 0), (37, .getfield 14, 11, 1, 1), (40, .bipush 87, 0, 0, 0), (42, .iload_n 2, 0, 0, 0), (43, .iadd, 0, 0, 0), (44, .iaload, 0, 0, 0), (45, .invokevirtual 303, 229, 2, 45), (48, .ifCond .eq 6, 54, 0, 0), (51, .iinc 3 1, 0, 0, 0), (54, .iinc 4 1, 0, 0, 0), (57, .goto (-38), 19, 0, 0), (60, .iload_n 1, 0, 0, 0), (61, .iload_n 2, 0, 0, 0), (62, .iconst 1, 0, 0, 0), (63, .iadd, 0, 0, 0), (64, .imul, 0, 0, 0), (65, .iload_n 3, 0, 0, 0), (66, .idiv, 0, 0, 0), (67, .istore_n 1, 0, 0, 0), (68, .iinc 2 1, 0, 0, 0), (71, .goto (-67), 4, 0, 0), (74, .iload_n 1, 0, 0, 0), (75, .ireturn, 0, 0, 0)]
set_option maxRecDepth 100000 in
theorem sk_k231 : sk_mOK sk_inf sk_nest (sk_inf 231) sk_t231 := sk_mOK_of 12 false rfl (fun h => absurd h (by decide)) (by decide +kernel) (by decide +kernel)
def sk_t232 : List sk_E := [(0, .iload_n 1, 0, 0, 0), (1, .tableswitch 125 0 7 #[47, 54, 61, 98, 103, 108, 115, 120], 0, 0, 47), (48, .aload_n 0, 0, 0, 0), (49, .getfield 14, 11, 1, 1), (52, .iconst 1, 0, 0, 0), (53, .iaload, 0, 0, 0), (54, .ireturn, 0, 0, 0), (55, .aload_n 0, 0, 0, 0), (56, .getfield 14, 11, 1, 1), (59, .iconst 2, 0, 0, 0), (60, .iaload, 0, 0, 0), (61, .ireturn, 0, 0, 0), (62, .iconst 0, 0, 0, 0), (63, .istore_n 2, 0, 0, 0), (64, .iconst 0, 0, 0, 0), (65, .istore_n 3, 0, 0, 0), (66, .iload_n 3, 0, 0, 0), (67, .aload_n 0, 0, 0, 0), (68, .getfield 14, 11, 1, 1), (71, .iconst 1, 0, 0, 0), (72, .iaload, 0, 0, 0), (73, .if_icmp .ge 24, 97, 0, 0), (76, .aload_n 0, 0, 0, 0), (77, .getfield 14, 11, 1, 1), (80, .bipush 77, 0, 0, 0), (82, .iload_n 3, 0, 0, 0), (83, .iadd, 0, 0, 0), (84, .iaload, 0, 0, 0), (85, .ifCond .eq 6, 91, 0, 0), (88, .iinc 2 1, 0, 0, 0), (91, .iinc 3 1, 0, 0, 0), (94, .goto (-28), 66, 0, 0), (97, .iload_n 2, 0, 0, 0), (98, .ireturn, 0, 0, 0), (99, .aload_n 0, 0, 0, 0), (100, .invokevirtual 234, 185, 0, 45), (103, .ireturn, 0, 0, 0), (104, .aload_n 0, 0, 0, 0), (105, .getfield 95, 11, 4, 0), (108, .ireturn, 0, 0, 0), (109, .aload_n 0, 0, 0, 0), (110, .getfield 14, 11, 1, 1), (113, .iconst 0, 0, 0, 0), (114, .iaload, 0, 0, 0), (115, .ireturn, 0, 0, 0), (116, .aload_n 0, 0, 0, 0), (117, .invokevirtual 306, 230, 0, 45), (120, .ireturn, 0, 0, 0), (121, .aload_n 0, 0, 0, 0), (122, .invokevirtual 309, 231, 0, 45), (125, .ireturn, 0, 0, 0), (126, .bipush (-2), 0, 0, 0), (128, .ireturn, 0, 0, 0)]
set_option maxRecDepth 100000 in
theorem sk_k232 : sk_mOK sk_inf sk_nest (sk_inf 232) sk_t232 := sk_mOK_of 12 false rfl (fun h => absurd h (by decide)) (by decide +kernel) (by decide +kernel)
def sk_t233 : List sk_E := [(0, .iload_n 0, 0, 0, 0), (1, .iconst 0, 0, 0, 0), (2, .iconst 3, 0, 0, 0), (3, .invokestatic 69, 144, 3, 45), (6, .ireturn, 0, 0, 0)]
set_option maxRecDepth 100000 in
theorem sk_k233 : sk_mOK sk_inf sk_nest (sk_inf 233) sk_t233 := sk_mOK_of 12 false rfl (fun h => absurd h (by decide)) (by decide +kernel) (by decide +kernel)
def sk_t234 : List sk_E := [(0, .iload_n 1, 0, 0, 0), (1, .invokestatic 290, 233, 1, 45), (4, .ifCond .eq 23, 27, 0, 0), (7, .iload_n 2, 0, 0, 0), (8, .iconst (-1), 0, 0, 0), (9, .iconst 1, 0, 0, 0), (10, .invokestatic 69, 144, 3, 45), (13, .ifCond .eq 14, 27, 0, 0), (16, .iload_n 2, 0, 0, 0), (17, .iconst (-1), 0, 0, 0), (18, .if_icmp .eq 12, 30, 0, 0), (21, .iload_n 3, 0, 0, 0), (22, .bipush 40, 0, 0, 0), (24, .if_icmp .le 6, 30, 0, 0), (27, .bipush (-2), 0, 0, 0), (29, .ireturn, 0, 0, 0), (30, .iload_n 2, 0, 0, 0), (31, .iconst (-1), 0, 0, 0), (32, .if_icmp .eq 10, 42, 0, 0), (35, .iload_n 3, 0, 0, 0), (36, .ifCond .ge 6, 42, 0, 0), (39, .bipush (-14), 0, 0, 0), (41, .ireturn, 0, 0, 0), (42, .aload_n 0, 0, 0, 0), (43, .getfield 51, 11, 20, 1), (46, .iload_n 1, 0, 0, 0), (47, .iload_n 2, 0, 0, 0), (48, .iastore, 0, 0, 0), (49, .aload_n 0, 0, 0, 0), (50, .getfield 54, 11, 21, 1), (53, .iload_n 1, 0, 0, 0), (54, .iload_n 2, 0, 0, 0), (55, .iconst (-1), 0, 0, 0), (56, .if_icmp .ne 7, 63, 0, 0), (59, .iconst 0, 0, 0, 0), (60, .goto 4, 64, 0, 0), (63, .iload_n 3, 0, 0, 0), (64, .iastore, 0, 0, 0), (65, .iconst 0, 0, 0, 0), (66, .istore 4, 0, 0, 0), (68, .iload 4, 0, 0, 0), (70, .bipush 40, 0, 0, 0), (72, .if_icmp .ge 19, 91, 0, 0), (75, .aload_n 0, 0, 0, 0), (76, .getfield 57, 11, 22, 1), (79, .iload_n 1, 0, 0, 0), (80, .aaload, 0, 0, 0), (81, .iload 4, 0, 0, 0), (83, .iconst 0, 0, 0, 0), (84, .iastore, 0, 0, 0), (85, .iinc 4 1, 0, 0, 0), (88, .goto (-20), 68, 0, 0), (91, .iconst 1, 0, 0, 0), (92, .ireturn, 0, 0, 0)]
set_option maxRecDepth 100000 in
theorem sk_k234 : sk_mOK sk_inf sk_nest (sk_inf 234) sk_t234 := sk_mOK_of 12 false rfl (fun h => absurd h (by decide)) (by decide +kernel) (by decide +kernel)
end
section
/-! ===== tables of the methods (written by program) ===== -/
def sk_t235 : List sk_E := [(0, .iload_n 1, 0, 0, 0), (1, .invokestatic 290, 233, 1, 45), (4, .ifCond .ne 6, 10, 0, 0), (7, .bipush (-2), 0, 0, 0), (9, .ireturn, 0, 0, 0), (10, .aload_n 0, 0, 0, 0), (11, .getfield 51, 11, 20, 1), (14, .iload_n 1, 0, 0, 0), (15, .iaload, 0, 0, 0), (16, .ifCond .ge 6, 22, 0, 0), (19, .bipush (-11), 0, 0, 0), (21, .ireturn, 0, 0, 0), (22, .iload_n 2, 0, 0, 0), (23, .iconst 0, 0, 0, 0), (24, .aload_n 0, 0, 0, 0), (25, .getfield 54, 11, 21, 1), (28, .iload_n 1, 0, 0, 0), (29, .iaload, 0, 0, 0), (30, .iconst 1, 0, 0, 0), (31, .isub, 0, 0, 0), (32, .invokestatic 69, 144, 3, 45), (35, .ifCond .ne 6, 41, 0, 0), (38, .bipush (-12), 0, 0, 0), (40, .ireturn, 0, 0, 0), (41, .aload_n 0, 0, 0, 0), (42, .getfield 57, 11, 22, 1), (45, .iload_n 1, 0, 0, 0), (46, .aaload, 0, 0, 0), (47, .iload_n 2, 0, 0, 0), (48, .aload_n 0, 0, 0, 0), (49, .getfield 51, 11, 20, 1), (52, .iload_n 1, 0, 0, 0), (53, .iaload, 0, 0, 0), (54, .ifCond .ne 8, 62, 0, 0), (57, .iload_n 3, 0, 0, 0), (58, .i2s, 0, 0, 0), (59, .goto 4, 63, 0, 0), (62, .iload_n 3, 0, 0, 0), (63, .iastore, 0, 0, 0), (64, .iconst 1, 0, 0, 0), (65, .ireturn, 0, 0, 0)]
set_option maxRecDepth 100000 in
theorem sk_k235 : sk_mOK sk_inf sk_nest (sk_inf 235) sk_t235 := sk_mOK_of 12 false rfl (fun h => absurd h (by decide)) (by decide +kernel) (by decide +kernel)
def sk_t236 : List sk_E := [(0, .iload_n 1, 0, 0, 0), (1, .invokestatic 290, 233, 1, 45), (4, .ifCond .eq 10, 14, 0, 0), (7, .iload_n 3, 0, 0, 0), (8, .invokestatic 290, 233, 1, 45), (11, .ifCond .ne 6, 17, 0, 0), (14, .bipush (-2), 0, 0, 0), (16, .ireturn, 0, 0, 0), (17, .aload_n 0, 0, 0, 0), (18, .getfield 51, 11, 20, 1), (21, .iload_n 1, 0, 0, 0), (22, .iaload, 0, 0, 0), (23, .ifCond .lt 12, 35, 0, 0), (26, .aload_n 0, 0, 0, 0), (27, .getfield 51, 11, 20, 1), (30, .iload_n 3, 0, 0, 0), (31, .iaload, 0, 0, 0), (32, .ifCond .ge 6, 38, 0, 0), (35, .bipush (-11), 0, 0, 0), (37, .ireturn, 0, 0, 0), (38, .aload_n 0, 0, 0, 0), (39, .getfield 51, 11, 20, 1), (42, .iload_n 1, 0, 0, 0), (43, .iaload, 0, 0, 0), (44, .aload_n 0, 0, 0, 0), (45, .getfield 51, 11, 20, 1), (48, .iload_n 3, 0, 0, 0), (49, .iaload, 0, 0, 0), (50, .if_icmp .eq 6, 56, 0, 0), (53, .bipush (-13), 0, 0, 0), (55, .ireturn, 0, 0, 0), (56, .iload 5, 0, 0, 0), (58, .ifCond .lt 39, 97, 0, 0), (61, .iload_n 2, 0, 0, 0), (62, .ifCond .lt 35, 97, 0, 0), (65, .iload 4, 0, 0, 0), (67, .ifCond .lt 30, 97, 0, 0), (70, .iload_n 2, 0, 0, 0), (71, .aload_n 0, 0, 0, 0), (72, .getfield 54, 11, 21, 1), (75, .iload_n 1, 0, 0, 0), (76, .iaload, 0, 0, 0), (77, .iload 5, 0, 0, 0), (79, .isub, 0, 0, 0), (80, .if_icmp .gt 17, 97, 0, 0), (83, .iload 4, 0, 0, 0), (85, .aload_n 0, 0, 0, 0), (86, .getfield 54, 11, 21, 1), (89, .iload_n 3, 0, 0, 0), (90, .iaload, 0, 0, 0), (91, .iload 5, 0, 0, 0), (93, .isub, 0, 0, 0), (94, .if_icmp .le 6, 100, 0, 0), (97, .bipush (-12), 0, 0, 0), (99, .ireturn, 0, 0, 0), (100, .aload_n 0, 0, 0, 0), (101, .getfield 57, 11, 22, 1), (104, .iload_n 1, 0, 0, 0), (105, .aaload, 0, 0, 0), (106, .iload_n 2, 0, 0, 0), (107, .aload_n 0, 0, 0, 0), (108, .getfield 60, 11, 23, 1), (111, .iconst 0, 0, 0, 0), (112, .iload 5, 0, 0, 0), (114, .invokestatic 63, 0, 5, 0), (117, .aload_n 0, 0, 0, 0), (118, .getfield 60, 11, 23, 1), (121, .iconst 0, 0, 0, 0), (122, .aload_n 0, 0, 0, 0), (123, .getfield 57, 11, 22, 1), (126, .iload_n 3, 0, 0, 0), (127, .aaload, 0, 0, 0), (128, .iload 4, 0, 0, 0), (130, .iload 5, 0, 0, 0), (132, .invokestatic 63, 0, 5, 0), (135, .iload 5, 0, 0, 0), (137, .ireturn, 0, 0, 0)]
set_option maxRecDepth 100000 in
theorem sk_k236 : sk_mOK sk_inf sk_nest (sk_inf 236) sk_t236 := sk_mOK_of 12 false rfl (fun h => absurd h (by decide)) (by decide +kernel) (by decide +kernel)
def sk_t237 : List sk_E := [(0, .fload_n 0, 0, 0, 0), (1, .fload_n 0, 0, 0, 0), (2, .fcmp .l, 0, 0, 0), (3, .ifCond .eq 7, 10, 0, 0), (6, .iconst 1, 0, 0, 0), (7, .goto 4, 11, 0, 0), (10, .iconst 0, 0, 0, 0), (11, .ireturn, 0, 0, 0)]
set_option maxRecDepth 100000 in
theorem sk_k237 : sk_mOK sk_inf sk_nest (sk_inf 237) sk_t237 := sk_mOK_of 16 false rfl (fun h => absurd h (by decide)) (by decide +kernel) (by decide +kernel)
def sk_t238 : List sk_E := [(0, .fload_n 0, 0, 0, 0), (1, .invokestatic 59, 237, 1, 1), (4, .ifCond .ne 8, 12, 0, 0), (7, .fload_n 0, 0, 0, 0), (8, .invokestatic 74, 0, 1, 0), (11, .ireturn, 0, 0, 0), (12, .ldc 77, 2143289344, 0, 0), (14, .ireturn, 0, 0, 0)]
set_option maxRecDepth 100000 in
theorem sk_k238 : sk_mOK sk_inf sk_nest (sk_inf 238) sk_t238 := sk_mOK_of 16 false rfl (fun h => absurd h (by decide)) (by decide +kernel) (by decide +kernel)
def sk_t239 : List sk_E := [(0, .iload_n 0, 0, 0, 0), (1, .iload_n 1, 0, 0, 0), (2, .if_icmp .lt 7, 9, 0, 0), (5, .iload_n 0, 0, 0, 0), (6, .goto 4, 10, 0, 0), (9, .iload_n 1, 0, 0, 0), (10, .ireturn, 0, 0, 0)]
set_option maxRecDepth 100000 in
theorem sk_k239 : sk_mOK sk_inf sk_nest (sk_inf 239) sk_t239 := sk_mOK_of 15 false rfl (fun h => absurd h (by decide)) (by decide +kernel) (by decide +kernel)
def sk_t240 : List sk_E := [(0, .iload_n 0, 0, 0, 0), (1, .iload_n 1, 0, 0, 0), (2, .if_icmp .gt 7, 9, 0, 0), (5, .iload_n 0, 0, 0, 0), (6, .goto 4, 10, 0, 0), (9, .iload_n 1, 0, 0, 0), (10, .ireturn, 0, 0, 0)]
set_option maxRecDepth 100000 in
theorem sk_k240 : sk_mOK sk_inf sk_nest (sk_inf 240) sk_t240 := sk_mOK_of 15 false rfl (fun h => absurd h (by decide)) (by decide +kernel) (by decide +kernel)
def sk_t241 : List sk_E := [(0, .iload_n 1, 0, 0, 0), (1, .iload_n 2, 0, 0, 0), (2, .if_icmp .le 44, 46, 0, 0), (8, .dup, 0, 0, 0), (12, .dup, 0, 0, 0), (21, .iload_n 1, 0, 0, 0), (30, .iload_n 2, 0, 0, 0), (46, .iload_n 1, 0, 0, 0), (47, .ifCond .ge 12, 59, 0, 0), (53, .dup, 0, 0, 0), (54, .iload_n 1, 0, 0, 0), (59, .iload_n 2, 0, 0, 0), (60, .iload_n 0, 0, 0, 0), (61, .if_icmp .le 12, 73, 0, 0), (67, .dup, 0, 0, 0), (68, .iload_n 2, 0, 0, 0), (73, .return_, 0, 0, 0)]
set_option maxRecDepth 100000 in
theorem sk_k241 : sk_mOK sk_inf sk_nest (sk_inf 241) sk_t241 := sk_mOK_of 14 false rfl (fun h => absurd h (by decide)) (by decide +kernel) (by decide +kernel)
def sk_t242 : List sk_E := [(0, .iconst 0, 0, 0, 0), (1, .istore_n 2, 0, 0, 0), (2, .aload_n 0, 0, 0, 0), (3, .arraylength, 0, 0, 0), (4, .istore_n 3, 0, 0, 0), (5, .iload_n 2, 0, 0, 0), (6, .iload_n 3, 0, 0, 0), (7, .if_icmp .ge 13, 20, 0, 0), (10, .aload_n 0, 0, 0, 0), (11, .iload_n 2, 0, 0, 0), (12, .iload_n 1, 0, 0, 0), (13, .iastore, 0, 0, 0), (14, .iinc 2 1, 0, 0, 0), (17, .goto (-12), 5, 0, 0), (20, .return_, 0, 0, 0)]
set_option maxRecDepth 100000 in
theorem sk_k242 : sk_mOK sk_inf sk_nest (sk_inf 242) sk_t242 := sk_mOK_of 14 false rfl (fun h => absurd h (by decide)) (by decide +kernel) (by decide +kernel)
def sk_t243 : List sk_E := [(0, .aload_n 0, 0, 0, 0), (1, .arraylength, 0, 0, 0), (2, .iload_n 1, 0, 0, 0), (3, .iload_n 2, 0, 0, 0), (4, .invokestatic 13, 241, 3, 0), (7, .iload_n 1, 0, 0, 0), (8, .istore 4, 0, 0, 0), (10, .iload 4, 0, 0, 0), (12, .iload_n 2, 0, 0, 0), (13, .if_icmp .ge 14, 27, 0, 0), (16, .aload_n 0, 0, 0, 0), (17, .iload 4, 0, 0, 0), (19, .iload_n 3, 0, 0, 0), (20, .iastore, 0, 0, 0), (21, .iinc 4 1, 0, 0, 0), (24, .goto (-14), 10, 0, 0), (27, .return_, 0, 0, 0)]
set_option maxRecDepth 100000 in
theorem sk_k243 : sk_mOK sk_inf sk_nest (sk_inf 243) sk_t243 := sk_mOK_of 14 false rfl (fun h => absurd h (by decide)) (by decide +kernel) (by decide +kernel)
end
section
/-! ===== table of the law (written by program) ===== -/
def sk_t244_0 : List sk_E := [(0, .new 7, 10, 0, 0), (3, .dup, 0, 0, 0), (4, .invokespecial 9, 101, 0, 40), (7, .astore_n 1, 0, 0, 0), (8, .new 10, 11, 0, 0), (11, .dup, 0, 0, 0), (12, .invokespecial 12, 145, 0, 44), (15, .astore_n 2, 0, 0, 0), (16, .iconst 0, 0, 0, 0), (17, .istore_n 3, 0, 0, 0), (18, .iload_n 3, 0, 0, 0), (19, .aload_n 0, 0, 0, 0), (20, .arraylength, 0, 0, 0), (21, .bipush 7, 0, 0, 0), (23, .isub, 0, 0, 0), (24, .if_icmp .gt 1206, 1230, 0, 0), (27, .aload_n 0, 0, 0, 0), (28, .iload_n 3, 0, 0, 0), (29, .iaload, 0, 0, 0), (30, .bipush 31, 0, 0, 0), (32, .iand, 0, 0, 0), (33, .tableswitch 1191 0 31 #[143, 218, 241, 254, 287, 320, 363, 386, 419, 452, 485, 508, 521, 554, 587, 610, 633, 656, 669, 692, 725, 778, 811, 854, 897, 960, 993, 1006, 1019, 1042, 1085, 1128], 0, 0, 143), (176, .aload_n 1, 0, 0, 0), (177, .aload_n 0, 0, 0, 0), (178, .iload_n 3, 0, 0, 0), (179, .iconst 1, 0, 0, 0), (180, .iadd, 0, 0, 0), (181, .iaload, 0, 0, 0), (182, .aload_n 0, 0, 0, 0), (183, .iload_n 3, 0, 0, 0), (184, .iconst 2, 0, 0, 0), (185, .iadd, 0, 0, 0), (186, .iaload, 0, 0, 0), (187, .aload_n 0, 0, 0, 0), (188, .iload_n 3, 0, 0, 0), (189, .iconst 3, 0, 0, 0), (190, .iadd, 0, 0, 0), (191, .iaload, 0, 0, 0), (192, .aload_n 0, 0, 0, 0), (193, .iload_n 3, 0, 0, 0), (194, .iconst 4, 0, 0, 0), (195, .iadd, 0, 0, 0), (196, .iaload, 0, 0, 0), (197, .aload_n 0, 0, 0, 0), (198, .iload_n 3, 0, 0, 0), (199, .iconst 5, 0, 0, 0), (200, .iadd, 0, 0, 0), (201, .iaload, 0, 0, 0), (202, .aload_n 0, 0, 0, 0), (203, .iload_n 3, 0, 0, 0), (204, .bipush 6, 0, 0, 0), (206, .iadd, 0, 0, 0), (207, .iaload, 0, 0, 0), (208, .invokevirtual 13, 102, 6, 41), (211, .aload_n 2, 0, 0, 0), (212, .aload_n 0, 0, 0, 0), (213, .iload_n 3, 0, 0, 0), (214, .iconst 1, 0, 0, 0), (215, .iadd, 0, 0, 0), (216, .iaload, 0, 0, 0)]
set_option maxRecDepth 100000 in
theorem sk_k244_0 : sk_t244_0.all (sk_chk 13 false (sk_inf 244)) = true := by decide +kernel
def sk_t244_1 : List sk_E := [(217, .aload_n 0, 0, 0, 0), (218, .iload_n 3, 0, 0, 0), (219, .iconst 2, 0, 0, 0), (220, .iadd, 0, 0, 0), (221, .iaload, 0, 0, 0), (222, .aload_n 0, 0, 0, 0), (223, .iload_n 3, 0, 0, 0), (224, .iconst 3, 0, 0, 0), (225, .iadd, 0, 0, 0), (226, .iaload, 0, 0, 0), (227, .aload_n 0, 0, 0, 0), (228, .iload_n 3, 0, 0, 0), (229, .iconst 4, 0, 0, 0), (230, .iadd, 0, 0, 0), (231, .iaload, 0, 0, 0), (232, .aload_n 0, 0, 0, 0), (233, .iload_n 3, 0, 0, 0), (234, .iconst 5, 0, 0, 0), (235, .iadd, 0, 0, 0), (236, .iaload, 0, 0, 0), (237, .aload_n 0, 0, 0, 0), (238, .iload_n 3, 0, 0, 0), (239, .bipush 6, 0, 0, 0), (241, .iadd, 0, 0, 0), (242, .iaload, 0, 0, 0), (243, .invokevirtual 17, 158, 6, 45), (246, .if_icmp .eq 978, 1224, 0, 0), (249, .iconst 0, 0, 0, 0), (250, .ireturn, 0, 0, 0), (251, .aload_n 1, 0, 0, 0), (252, .aload_n 0, 0, 0, 0), (253, .iload_n 3, 0, 0, 0), (254, .iconst 1, 0, 0, 0), (255, .iadd, 0, 0, 0), (256, .iaload, 0, 0, 0), (257, .invokevirtual 18, 103, 1, 41), (260, .aload_n 2, 0, 0, 0), (261, .aload_n 0, 0, 0, 0), (262, .iload_n 3, 0, 0, 0), (263, .iconst 1, 0, 0, 0), (264, .iadd, 0, 0, 0), (265, .iaload, 0, 0, 0), (266, .invokevirtual 22, 159, 1, 45), (269, .if_icmp .eq 955, 1224, 0, 0), (272, .iconst 0, 0, 0, 0), (273, .ireturn, 0, 0, 0), (274, .aload_n 1, 0, 0, 0), (275, .invokevirtual 23, 104, 0, 41), (278, .aload_n 2, 0, 0, 0), (279, .invokevirtual 27, 164, 0, 45), (282, .if_icmp .eq 942, 1224, 0, 0), (285, .iconst 0, 0, 0, 0), (286, .ireturn, 0, 0, 0), (287, .aload_n 1, 0, 0, 0), (288, .aload_n 0, 0, 0, 0), (289, .iload_n 3, 0, 0, 0), (290, .iconst 1, 0, 0, 0), (291, .iadd, 0, 0, 0), (292, .iaload, 0, 0, 0), (293, .aload_n 0, 0, 0, 0)]
set_option maxRecDepth 100000 in
theorem sk_k244_1 : sk_t244_1.all (sk_chk 13 false (sk_inf 244)) = true := by decide +kernel
def sk_t244_2 : List sk_E := [(294, .iload_n 3, 0, 0, 0), (295, .iconst 2, 0, 0, 0), (296, .iadd, 0, 0, 0), (297, .iaload, 0, 0, 0), (298, .invokevirtual 28, 105, 2, 41), (301, .aload_n 2, 0, 0, 0), (302, .aload_n 0, 0, 0, 0), (303, .iload_n 3, 0, 0, 0), (304, .iconst 1, 0, 0, 0), (305, .iadd, 0, 0, 0), (306, .iaload, 0, 0, 0), (307, .aload_n 0, 0, 0, 0), (308, .iload_n 3, 0, 0, 0), (309, .iconst 2, 0, 0, 0), (310, .iadd, 0, 0, 0), (311, .iaload, 0, 0, 0), (312, .invokevirtual 32, 165, 2, 45), (315, .if_icmp .eq 909, 1224, 0, 0), (318, .iconst 0, 0, 0, 0), (319, .ireturn, 0, 0, 0), (320, .aload_n 1, 0, 0, 0), (321, .aload_n 0, 0, 0, 0), (322, .iload_n 3, 0, 0, 0), (323, .iconst 1, 0, 0, 0), (324, .iadd, 0, 0, 0), (325, .iaload, 0, 0, 0), (326, .aload_n 0, 0, 0, 0), (327, .iload_n 3, 0, 0, 0), (328, .iconst 2, 0, 0, 0), (329, .iadd, 0, 0, 0), (330, .iaload, 0, 0, 0), (331, .invokevirtual 33, 106, 2, 41), (334, .aload_n 2, 0, 0, 0), (335, .aload_n 0, 0, 0, 0), (336, .iload_n 3, 0, 0, 0), (337, .iconst 1, 0, 0, 0), (338, .iadd, 0, 0, 0), (339, .iaload, 0, 0, 0), (340, .aload_n 0, 0, 0, 0), (341, .iload_n 3, 0, 0, 0), (342, .iconst 2, 0, 0, 0), (343, .iadd, 0, 0, 0), (344, .iaload, 0, 0, 0), (345, .invokevirtual 36, 166, 2, 45), (348, .if_icmp .eq 876, 1224, 0, 0), (351, .iconst 0, 0, 0, 0), (352, .ireturn, 0, 0, 0), (353, .aload_n 1, 0, 0, 0), (354, .aload_n 0, 0, 0, 0), (355, .iload_n 3, 0, 0, 0), (356, .iconst 1, 0, 0, 0), (357, .iadd, 0, 0, 0), (358, .iaload, 0, 0, 0), (359, .aload_n 0, 0, 0, 0), (360, .iload_n 3, 0, 0, 0), (361, .iconst 2, 0, 0, 0), (362, .iadd, 0, 0, 0), (363, .iaload, 0, 0, 0), (364, .aload_n 0, 0, 0, 0), (365, .iload_n 3, 0, 0, 0)]
set_option maxRecDepth 100000 in
theorem sk_k244_2 : sk_t244_2.all (sk_chk 13 false (sk_inf 244)) = true := by decide +kernel
def sk_t244_3 : List sk_E := [(366, .iconst 3, 0, 0, 0), (367, .iadd, 0, 0, 0), (368, .iaload, 0, 0, 0), (369, .invokevirtual 37, 107, 3, 41), (372, .aload_n 2, 0, 0, 0), (373, .aload_n 0, 0, 0, 0), (374, .iload_n 3, 0, 0, 0), (375, .iconst 1, 0, 0, 0), (376, .iadd, 0, 0, 0), (377, .iaload, 0, 0, 0), (378, .aload_n 0, 0, 0, 0), (379, .iload_n 3, 0, 0, 0), (380, .iconst 2, 0, 0, 0), (381, .iadd, 0, 0, 0), (382, .iaload, 0, 0, 0), (383, .aload_n 0, 0, 0, 0), (384, .iload_n 3, 0, 0, 0), (385, .iconst 3, 0, 0, 0), (386, .iadd, 0, 0, 0), (387, .iaload, 0, 0, 0), (388, .invokevirtual 41, 169, 3, 45), (391, .if_icmp .eq 833, 1224, 0, 0), (394, .iconst 0, 0, 0, 0), (395, .ireturn, 0, 0, 0), (396, .aload_n 1, 0, 0, 0), (397, .aload_n 0, 0, 0, 0), (398, .iload_n 3, 0, 0, 0), (399, .iconst 1, 0, 0, 0), (400, .iadd, 0, 0, 0), (401, .iaload, 0, 0, 0), (402, .invokevirtual 42, 108, 1, 41), (405, .aload_n 2, 0, 0, 0), (406, .aload_n 0, 0, 0, 0), (407, .iload_n 3, 0, 0, 0), (408, .iconst 1, 0, 0, 0), (409, .iadd, 0, 0, 0), (410, .iaload, 0, 0, 0), (411, .invokevirtual 45, 170, 1, 45), (414, .if_icmp .eq 810, 1224, 0, 0), (417, .iconst 0, 0, 0, 0), (418, .ireturn, 0, 0, 0), (419, .aload_n 1, 0, 0, 0), (420, .aload_n 0, 0, 0, 0), (421, .iload_n 3, 0, 0, 0), (422, .iconst 1, 0, 0, 0), (423, .iadd, 0, 0, 0), (424, .iaload, 0, 0, 0), (425, .aload_n 0, 0, 0, 0), (426, .iload_n 3, 0, 0, 0), (427, .iconst 2, 0, 0, 0), (428, .iadd, 0, 0, 0), (429, .iaload, 0, 0, 0), (430, .invokevirtual 46, 109, 2, 41), (433, .aload_n 2, 0, 0, 0), (434, .aload_n 0, 0, 0, 0), (435, .iload_n 3, 0, 0, 0), (436, .iconst 1, 0, 0, 0), (437, .iadd, 0, 0, 0), (438, .iaload, 0, 0, 0), (439, .aload_n 0, 0, 0, 0)]
set_option maxRecDepth 100000 in
theorem sk_k244_3 : sk_t244_3.all (sk_chk 13 false (sk_inf 244)) = true := by decide +kernel
end
section
/-! ===== table of the law (written by program) ===== -/
def sk_t244_4 : List sk_E := [(440, .iload_n 3, 0, 0, 0), (441, .iconst 2, 0, 0, 0), (442, .iadd, 0, 0, 0), (443, .iaload, 0, 0, 0), (444, .invokevirtual 49, 172, 2, 45), (447, .if_icmp .eq 777, 1224, 0, 0), (450, .iconst 0, 0, 0, 0), (451, .ireturn, 0, 0, 0), (452, .aload_n 1, 0, 0, 0), (453, .aload_n 0, 0, 0, 0), (454, .iload_n 3, 0, 0, 0), (455, .iconst 1, 0, 0, 0), (456, .iadd, 0, 0, 0), (457, .iaload, 0, 0, 0), (458, .aload_n 0, 0, 0, 0), (459, .iload_n 3, 0, 0, 0), (460, .iconst 2, 0, 0, 0), (461, .iadd, 0, 0, 0), (462, .iaload, 0, 0, 0), (463, .invokevirtual 50, 110, 2, 41), (466, .aload_n 2, 0, 0, 0), (467, .aload_n 0, 0, 0, 0), (468, .iload_n 3, 0, 0, 0), (469, .iconst 1, 0, 0, 0), (470, .iadd, 0, 0, 0), (471, .iaload, 0, 0, 0), (472, .aload_n 0, 0, 0, 0), (473, .iload_n 3, 0, 0, 0), (474, .iconst 2, 0, 0, 0), (475, .iadd, 0, 0, 0), (476, .iaload, 0, 0, 0), (477, .invokevirtual 53, 173, 2, 45), (480, .if_icmp .eq 744, 1224, 0, 0), (483, .iconst 0, 0, 0, 0), (484, .ireturn, 0, 0, 0), (485, .aload_n 1, 0, 0, 0), (486, .aload_n 0, 0, 0, 0), (487, .iload_n 3, 0, 0, 0), (488, .iconst 1, 0, 0, 0), (489, .iadd, 0, 0, 0), (490, .iaload, 0, 0, 0), (491, .aload_n 0, 0, 0, 0), (492, .iload_n 3, 0, 0, 0), (493, .iconst 2, 0, 0, 0), (494, .iadd, 0, 0, 0), (495, .iaload, 0, 0, 0), (496, .invokevirtual 54, 111, 2, 41), (499, .aload_n 2, 0, 0, 0), (500, .aload_n 0, 0, 0, 0), (501, .iload_n 3, 0, 0, 0), (502, .iconst 1, 0, 0, 0), (503, .iadd, 0, 0, 0), (504, .iaload, 0, 0, 0), (505, .aload_n 0, 0, 0, 0), (506, .iload_n 3, 0, 0, 0), (507, .iconst 2, 0, 0, 0), (508, .iadd, 0, 0, 0), (509, .iaload, 0, 0, 0), (510, .invokevirtual 57, 186, 2, 45), (513, .if_icmp .eq 711, 1224, 0, 0)]
set_option maxRecDepth 100000 in
theorem sk_k244_4 : sk_t244_4.all (sk_chk 13 false (sk_inf 244)) = true := by decide +kernel
def sk_t244_5 : List sk_E := [(516, .iconst 0, 0, 0, 0), (517, .ireturn, 0, 0, 0), (518, .aload_n 1, 0, 0, 0), (519, .aload_n 0, 0, 0, 0), (520, .iload_n 3, 0, 0, 0), (521, .iconst 1, 0, 0, 0), (522, .iadd, 0, 0, 0), (523, .iaload, 0, 0, 0), (524, .invokevirtual 58, 112, 1, 41), (527, .aload_n 2, 0, 0, 0), (528, .aload_n 0, 0, 0, 0), (529, .iload_n 3, 0, 0, 0), (530, .iconst 1, 0, 0, 0), (531, .iadd, 0, 0, 0), (532, .iaload, 0, 0, 0), (533, .invokevirtual 61, 187, 1, 45), (536, .if_icmp .eq 688, 1224, 0, 0), (539, .iconst 0, 0, 0, 0), (540, .ireturn, 0, 0, 0), (541, .aload_n 1, 0, 0, 0), (542, .invokevirtual 62, 113, 0, 41), (545, .aload_n 2, 0, 0, 0), (546, .invokevirtual 65, 188, 0, 45), (549, .if_icmp .eq 675, 1224, 0, 0), (552, .iconst 0, 0, 0, 0), (553, .ireturn, 0, 0, 0), (554, .aload_n 1, 0, 0, 0), (555, .aload_n 0, 0, 0, 0), (556, .iload_n 3, 0, 0, 0), (557, .iconst 1, 0, 0, 0), (558, .iadd, 0, 0, 0), (559, .iaload, 0, 0, 0), (560, .aload_n 0, 0, 0, 0), (561, .iload_n 3, 0, 0, 0), (562, .iconst 2, 0, 0, 0), (563, .iadd, 0, 0, 0), (564, .iaload, 0, 0, 0), (565, .invokevirtual 66, 114, 2, 41), (568, .aload_n 2, 0, 0, 0), (569, .aload_n 0, 0, 0, 0), (570, .iload_n 3, 0, 0, 0), (571, .iconst 1, 0, 0, 0), (572, .iadd, 0, 0, 0), (573, .iaload, 0, 0, 0), (574, .aload_n 0, 0, 0, 0), (575, .iload_n 3, 0, 0, 0), (576, .iconst 2, 0, 0, 0), (577, .iadd, 0, 0, 0), (578, .iaload, 0, 0, 0), (579, .invokevirtual 69, 189, 2, 45), (582, .if_icmp .eq 642, 1224, 0, 0), (585, .iconst 0, 0, 0, 0), (586, .ireturn, 0, 0, 0), (587, .aload_n 1, 0, 0, 0), (588, .aload_n 0, 0, 0, 0), (589, .iload_n 3, 0, 0, 0), (590, .iconst 1, 0, 0, 0), (591, .iadd, 0, 0, 0), (592, .iaload, 0, 0, 0), (593, .aload_n 0, 0, 0, 0)]
set_option maxRecDepth 100000 in
theorem sk_k244_5 : sk_t244_5.all (sk_chk 13 false (sk_inf 244)) = true := by decide +kernel
def sk_t244_6 : List sk_E := [(594, .iload_n 3, 0, 0, 0), (595, .iconst 2, 0, 0, 0), (596, .iadd, 0, 0, 0), (597, .iaload, 0, 0, 0), (598, .invokevirtual 70, 115, 2, 41), (601, .aload_n 2, 0, 0, 0), (602, .aload_n 0, 0, 0, 0), (603, .iload_n 3, 0, 0, 0), (604, .iconst 1, 0, 0, 0), (605, .iadd, 0, 0, 0), (606, .iaload, 0, 0, 0), (607, .aload_n 0, 0, 0, 0), (608, .iload_n 3, 0, 0, 0), (609, .iconst 2, 0, 0, 0), (610, .iadd, 0, 0, 0), (611, .iaload, 0, 0, 0), (612, .invokevirtual 73, 190, 2, 45), (615, .if_icmp .eq 609, 1224, 0, 0), (618, .iconst 0, 0, 0, 0), (619, .ireturn, 0, 0, 0), (620, .aload_n 1, 0, 0, 0), (621, .aload_n 0, 0, 0, 0), (622, .iload_n 3, 0, 0, 0), (623, .iconst 1, 0, 0, 0), (624, .iadd, 0, 0, 0), (625, .iaload, 0, 0, 0), (626, .invokevirtual 74, 116, 1, 41), (629, .aload_n 2, 0, 0, 0), (630, .aload_n 0, 0, 0, 0), (631, .iload_n 3, 0, 0, 0), (632, .iconst 1, 0, 0, 0), (633, .iadd, 0, 0, 0), (634, .iaload, 0, 0, 0), (635, .invokevirtual 77, 196, 1, 45), (638, .if_icmp .eq 586, 1224, 0, 0), (641, .iconst 0, 0, 0, 0), (642, .ireturn, 0, 0, 0), (643, .aload_n 1, 0, 0, 0), (644, .aload_n 0, 0, 0, 0), (645, .iload_n 3, 0, 0, 0), (646, .iconst 1, 0, 0, 0), (647, .iadd, 0, 0, 0), (648, .iaload, 0, 0, 0), (649, .invokevirtual 78, 117, 1, 41), (652, .aload_n 2, 0, 0, 0), (653, .aload_n 0, 0, 0, 0), (654, .iload_n 3, 0, 0, 0), (655, .iconst 1, 0, 0, 0), (656, .iadd, 0, 0, 0), (657, .iaload, 0, 0, 0), (658, .invokevirtual 81, 200, 1, 45), (661, .if_icmp .eq 563, 1224, 0, 0), (664, .iconst 0, 0, 0, 0), (665, .ireturn, 0, 0, 0), (666, .aload_n 1, 0, 0, 0), (667, .aload_n 0, 0, 0, 0), (668, .iload_n 3, 0, 0, 0), (669, .iconst 1, 0, 0, 0), (670, .iadd, 0, 0, 0), (671, .iaload, 0, 0, 0)]
set_option maxRecDepth 100000 in
theorem sk_k244_6 : sk_t244_6.all (sk_chk 13 false (sk_inf 244)) = true := by decide +kernel
def sk_t244_7 : List sk_E := [(672, .invokevirtual 82, 118, 1, 41), (675, .aload_n 2, 0, 0, 0), (676, .aload_n 0, 0, 0, 0), (677, .iload_n 3, 0, 0, 0), (678, .iconst 1, 0, 0, 0), (679, .iadd, 0, 0, 0), (680, .iaload, 0, 0, 0), (681, .invokevirtual 85, 203, 1, 45), (684, .if_icmp .eq 540, 1224, 0, 0), (687, .iconst 0, 0, 0, 0), (688, .ireturn, 0, 0, 0), (689, .aload_n 1, 0, 0, 0), (690, .invokevirtual 86, 119, 0, 41), (693, .aload_n 2, 0, 0, 0), (694, .invokevirtual 89, 211, 0, 45), (697, .if_icmp .eq 527, 1224, 0, 0), (700, .iconst 0, 0, 0, 0), (701, .ireturn, 0, 0, 0), (702, .aload_n 1, 0, 0, 0), (703, .aload_n 0, 0, 0, 0), (704, .iload_n 3, 0, 0, 0), (705, .iconst 1, 0, 0, 0), (706, .iadd, 0, 0, 0), (707, .iaload, 0, 0, 0), (708, .invokevirtual 90, 120, 1, 41), (711, .aload_n 2, 0, 0, 0), (712, .aload_n 0, 0, 0, 0), (713, .iload_n 3, 0, 0, 0), (714, .iconst 1, 0, 0, 0), (715, .iadd, 0, 0, 0), (716, .iaload, 0, 0, 0), (717, .invokevirtual 93, 213, 1, 45), (720, .if_icmp .eq 504, 1224, 0, 0), (723, .iconst 0, 0, 0, 0), (724, .ireturn, 0, 0, 0), (725, .aload_n 1, 0, 0, 0), (726, .aload_n 0, 0, 0, 0), (727, .iload_n 3, 0, 0, 0), (728, .iconst 1, 0, 0, 0), (729, .iadd, 0, 0, 0), (730, .iaload, 0, 0, 0), (731, .aload_n 0, 0, 0, 0), (732, .iload_n 3, 0, 0, 0), (733, .iconst 2, 0, 0, 0), (734, .iadd, 0, 0, 0), (735, .iaload, 0, 0, 0), (736, .invokevirtual 94, 121, 2, 41), (739, .aload_n 2, 0, 0, 0), (740, .aload_n 0, 0, 0, 0), (741, .iload_n 3, 0, 0, 0), (742, .iconst 1, 0, 0, 0), (743, .iadd, 0, 0, 0), (744, .iaload, 0, 0, 0), (745, .aload_n 0, 0, 0, 0), (746, .iload_n 3, 0, 0, 0), (747, .iconst 2, 0, 0, 0), (748, .iadd, 0, 0, 0), (749, .iaload, 0, 0, 0), (750, .invokevirtual 97, 215, 2, 45), (753, .if_icmp .eq 471, 1224, 0, 0)]
set_option maxRecDepth 100000 in
theorem sk_k244_7 : sk_t244_7.all (sk_chk 13 false (sk_inf 244)) = true := by decide +kernel
end
section
/-! ===== table of the law (written by program) ===== -/
def sk_t244_8 : List sk_E := [(756, .iconst 0, 0, 0, 0), (757, .ireturn, 0, 0, 0), (758, .aload_n 1, 0, 0, 0), (759, .aload_n 0, 0, 0, 0), (760, .iload_n 3, 0, 0, 0), (761, .iconst 1, 0, 0, 0), (762, .iadd, 0, 0, 0), (763, .iaload, 0, 0, 0), (764, .aload_n 0, 0, 0, 0), (765, .iload_n 3, 0, 0, 0), (766, .iconst 2, 0, 0, 0), (767, .iadd, 0, 0, 0), (768, .iaload, 0, 0, 0), (769, .aload_n 0, 0, 0, 0), (770, .iload_n 3, 0, 0, 0), (771, .iconst 3, 0, 0, 0), (772, .iadd, 0, 0, 0), (773, .iaload, 0, 0, 0), (774, .aload_n 0, 0, 0, 0), (775, .iload_n 3, 0, 0, 0), (776, .iconst 4, 0, 0, 0), (777, .iadd, 0, 0, 0), (778, .iaload, 0, 0, 0), (779, .invokevirtual 98, 122, 4, 41), (782, .aload_n 2, 0, 0, 0), (783, .aload_n 0, 0, 0, 0), (784, .iload_n 3, 0, 0, 0), (785, .iconst 1, 0, 0, 0), (786, .iadd, 0, 0, 0), (787, .iaload, 0, 0, 0), (788, .aload_n 0, 0, 0, 0), (789, .iload_n 3, 0, 0, 0), (790, .iconst 2, 0, 0, 0), (791, .iadd, 0, 0, 0), (792, .iaload, 0, 0, 0), (793, .aload_n 0, 0, 0, 0), (794, .iload_n 3, 0, 0, 0), (795, .iconst 3, 0, 0, 0), (796, .iadd, 0, 0, 0), (797, .iaload, 0, 0, 0), (798, .aload_n 0, 0, 0, 0), (799, .iload_n 3, 0, 0, 0), (800, .iconst 4, 0, 0, 0), (801, .iadd, 0, 0, 0), (802, .iaload, 0, 0, 0), (803, .invokevirtual 102, 216, 4, 45), (806, .if_icmp .eq 418, 1224, 0, 0), (809, .iconst 0, 0, 0, 0), (810, .ireturn, 0, 0, 0), (811, .aload_n 1, 0, 0, 0), (812, .aload_n 0, 0, 0, 0), (813, .iload_n 3, 0, 0, 0), (814, .iconst 1, 0, 0, 0), (815, .iadd, 0, 0, 0), (816, .iaload, 0, 0, 0), (817, .aload_n 0, 0, 0, 0), (818, .iload_n 3, 0, 0, 0), (819, .iconst 2, 0, 0, 0), (820, .iadd, 0, 0, 0), (821, .iaload, 0, 0, 0)]
set_option maxRecDepth 100000 in
theorem sk_k244_8 : sk_t244_8.all (sk_chk 13 false (sk_inf 244)) = true := by decide +kernel
def sk_t244_9 : List sk_E := [(822, .invokevirtual 103, 123, 2, 41), (825, .aload_n 2, 0, 0, 0), (826, .aload_n 0, 0, 0, 0), (827, .iload_n 3, 0, 0, 0), (828, .iconst 1, 0, 0, 0), (829, .iadd, 0, 0, 0), (830, .iaload, 0, 0, 0), (831, .aload_n 0, 0, 0, 0), (832, .iload_n 3, 0, 0, 0), (833, .iconst 2, 0, 0, 0), (834, .iadd, 0, 0, 0), (835, .iaload, 0, 0, 0), (836, .invokevirtual 106, 219, 2, 45), (839, .if_icmp .eq 385, 1224, 0, 0), (842, .iconst 0, 0, 0, 0), (843, .ireturn, 0, 0, 0), (844, .aload_n 1, 0, 0, 0), (845, .aload_n 0, 0, 0, 0), (846, .iload_n 3, 0, 0, 0), (847, .iconst 1, 0, 0, 0), (848, .iadd, 0, 0, 0), (849, .iaload, 0, 0, 0), (850, .aload_n 0, 0, 0, 0), (851, .iload_n 3, 0, 0, 0), (852, .iconst 2, 0, 0, 0), (853, .iadd, 0, 0, 0), (854, .iaload, 0, 0, 0), (855, .aload_n 0, 0, 0, 0), (856, .iload_n 3, 0, 0, 0), (857, .iconst 3, 0, 0, 0), (858, .iadd, 0, 0, 0), (859, .iaload, 0, 0, 0), (860, .invokevirtual 107, 124, 3, 41), (863, .aload_n 2, 0, 0, 0), (864, .aload_n 0, 0, 0, 0), (865, .iload_n 3, 0, 0, 0), (866, .iconst 1, 0, 0, 0), (867, .iadd, 0, 0, 0), (868, .iaload, 0, 0, 0), (869, .aload_n 0, 0, 0, 0), (870, .iload_n 3, 0, 0, 0), (871, .iconst 2, 0, 0, 0), (872, .iadd, 0, 0, 0), (873, .iaload, 0, 0, 0), (874, .aload_n 0, 0, 0, 0), (875, .iload_n 3, 0, 0, 0), (876, .iconst 3, 0, 0, 0), (877, .iadd, 0, 0, 0), (878, .iaload, 0, 0, 0), (879, .invokevirtual 110, 222, 3, 45), (882, .if_icmp .eq 342, 1224, 0, 0), (885, .iconst 0, 0, 0, 0), (886, .ireturn, 0, 0, 0), (887, .aload_n 1, 0, 0, 0), (888, .aload_n 0, 0, 0, 0), (889, .iload_n 3, 0, 0, 0), (890, .iconst 1, 0, 0, 0), (891, .iadd, 0, 0, 0), (892, .iaload, 0, 0, 0), (893, .aload_n 0, 0, 0, 0)]
set_option maxRecDepth 100000 in
theorem sk_k244_9 : sk_t244_9.all (sk_chk 13 false (sk_inf 244)) = true := by decide +kernel
def sk_t244_10 : List sk_E := [(894, .iload_n 3, 0, 0, 0), (895, .iconst 2, 0, 0, 0), (896, .iadd, 0, 0, 0), (897, .iaload, 0, 0, 0), (898, .aload_n 0, 0, 0, 0), (899, .iload_n 3, 0, 0, 0), (900, .iconst 3, 0, 0, 0), (901, .iadd, 0, 0, 0), (902, .iaload, 0, 0, 0), (903, .invokevirtual 111, 125, 3, 41), (906, .aload_n 2, 0, 0, 0), (907, .aload_n 0, 0, 0, 0), (908, .iload_n 3, 0, 0, 0), (909, .iconst 1, 0, 0, 0), (910, .iadd, 0, 0, 0), (911, .iaload, 0, 0, 0), (912, .aload_n 0, 0, 0, 0), (913, .iload_n 3, 0, 0, 0), (914, .iconst 2, 0, 0, 0), (915, .iadd, 0, 0, 0), (916, .iaload, 0, 0, 0), (917, .aload_n 0, 0, 0, 0), (918, .iload_n 3, 0, 0, 0), (919, .iconst 3, 0, 0, 0), (920, .iadd, 0, 0, 0), (921, .iaload, 0, 0, 0), (922, .invokevirtual 114, 224, 3, 45), (925, .if_icmp .eq 299, 1224, 0, 0), (928, .iconst 0, 0, 0, 0), (929, .ireturn, 0, 0, 0), (930, .aload_n 1, 0, 0, 0), (931, .aload_n 0, 0, 0, 0), (932, .iload_n 3, 0, 0, 0), (933, .iconst 1, 0, 0, 0), (934, .iadd, 0, 0, 0), (935, .iaload, 0, 0, 0), (936, .aload_n 0, 0, 0, 0), (937, .iload_n 3, 0, 0, 0), (938, .iconst 2, 0, 0, 0), (939, .iadd, 0, 0, 0), (940, .iaload, 0, 0, 0), (941, .aload_n 0, 0, 0, 0), (942, .iload_n 3, 0, 0, 0), (943, .iconst 3, 0, 0, 0), (944, .iadd, 0, 0, 0), (945, .iaload, 0, 0, 0), (946, .aload_n 0, 0, 0, 0), (947, .iload_n 3, 0, 0, 0), (948, .iconst 4, 0, 0, 0), (949, .iadd, 0, 0, 0), (950, .iaload, 0, 0, 0), (951, .aload_n 0, 0, 0, 0), (952, .iload_n 3, 0, 0, 0), (953, .iconst 5, 0, 0, 0), (954, .iadd, 0, 0, 0), (955, .iaload, 0, 0, 0), (956, .invokevirtual 115, 126, 5, 41), (959, .aload_n 2, 0, 0, 0), (960, .aload_n 0, 0, 0, 0), (961, .iload_n 3, 0, 0, 0)]
set_option maxRecDepth 100000 in
theorem sk_k244_10 : sk_t244_10.all (sk_chk 13 false (sk_inf 244)) = true := by decide +kernel
def sk_t244_11 : List sk_E := [(962, .iconst 1, 0, 0, 0), (963, .iadd, 0, 0, 0), (964, .iaload, 0, 0, 0), (965, .aload_n 0, 0, 0, 0), (966, .iload_n 3, 0, 0, 0), (967, .iconst 2, 0, 0, 0), (968, .iadd, 0, 0, 0), (969, .iaload, 0, 0, 0), (970, .aload_n 0, 0, 0, 0), (971, .iload_n 3, 0, 0, 0), (972, .iconst 3, 0, 0, 0), (973, .iadd, 0, 0, 0), (974, .iaload, 0, 0, 0), (975, .aload_n 0, 0, 0, 0), (976, .iload_n 3, 0, 0, 0), (977, .iconst 4, 0, 0, 0), (978, .iadd, 0, 0, 0), (979, .iaload, 0, 0, 0), (980, .aload_n 0, 0, 0, 0), (981, .iload_n 3, 0, 0, 0), (982, .iconst 5, 0, 0, 0), (983, .iadd, 0, 0, 0), (984, .iaload, 0, 0, 0), (985, .invokevirtual 119, 225, 5, 45), (988, .if_icmp .eq 236, 1224, 0, 0), (991, .iconst 0, 0, 0, 0), (992, .ireturn, 0, 0, 0), (993, .aload_n 1, 0, 0, 0), (994, .aload_n 0, 0, 0, 0), (995, .iload_n 3, 0, 0, 0), (996, .iconst 1, 0, 0, 0), (997, .iadd, 0, 0, 0), (998, .iaload, 0, 0, 0), (999, .aload_n 0, 0, 0, 0), (1000, .iload_n 3, 0, 0, 0), (1001, .iconst 2, 0, 0, 0), (1002, .iadd, 0, 0, 0), (1003, .iaload, 0, 0, 0), (1004, .invokevirtual 120, 127, 2, 41), (1007, .aload_n 2, 0, 0, 0), (1008, .aload_n 0, 0, 0, 0), (1009, .iload_n 3, 0, 0, 0), (1010, .iconst 1, 0, 0, 0), (1011, .iadd, 0, 0, 0), (1012, .iaload, 0, 0, 0), (1013, .aload_n 0, 0, 0, 0), (1014, .iload_n 3, 0, 0, 0), (1015, .iconst 2, 0, 0, 0), (1016, .iadd, 0, 0, 0), (1017, .iaload, 0, 0, 0), (1018, .invokevirtual 123, 226, 2, 45), (1021, .if_icmp .eq 203, 1224, 0, 0), (1024, .iconst 0, 0, 0, 0), (1025, .ireturn, 0, 0, 0), (1026, .aload_n 1, 0, 0, 0), (1027, .invokevirtual 124, 128, 0, 41), (1030, .aload_n 2, 0, 0, 0), (1031, .invokevirtual 127, 227, 0, 45), (1034, .if_icmp .eq 190, 1224, 0, 0), (1037, .iconst 0, 0, 0, 0)]
set_option maxRecDepth 100000 in
theorem sk_k244_11 : sk_t244_11.all (sk_chk 13 false (sk_inf 244)) = true := by decide +kernel
end
section
/-! ===== table of the law (written by program) ===== -/
def sk_t244_12 : List sk_E := [(1038, .ireturn, 0, 0, 0), (1039, .aload_n 1, 0, 0, 0), (1040, .invokevirtual 128, 129, 0, 41), (1043, .aload_n 2, 0, 0, 0), (1044, .invokevirtual 131, 228, 0, 45), (1047, .if_icmp .eq 177, 1224, 0, 0), (1050, .iconst 0, 0, 0, 0), (1051, .ireturn, 0, 0, 0), (1052, .aload_n 1, 0, 0, 0), (1053, .aload_n 0, 0, 0, 0), (1054, .iload_n 3, 0, 0, 0), (1055, .iconst 1, 0, 0, 0), (1056, .iadd, 0, 0, 0), (1057, .iaload, 0, 0, 0), (1058, .invokevirtual 132, 130, 1, 41), (1061, .aload_n 2, 0, 0, 0), (1062, .aload_n 0, 0, 0, 0), (1063, .iload_n 3, 0, 0, 0), (1064, .iconst 1, 0, 0, 0), (1065, .iadd, 0, 0, 0), (1066, .iaload, 0, 0, 0), (1067, .invokevirtual 135, 232, 1, 45), (1070, .if_icmp .eq 154, 1224, 0, 0), (1073, .iconst 0, 0, 0, 0), (1074, .ireturn, 0, 0, 0), (1075, .aload_n 1, 0, 0, 0), (1076, .aload_n 0, 0, 0, 0), (1077, .iload_n 3, 0, 0, 0), (1078, .iconst 1, 0, 0, 0), (1079, .iadd, 0, 0, 0), (1080, .iaload, 0, 0, 0), (1081, .aload_n 0, 0, 0, 0), (1082, .iload_n 3, 0, 0, 0), (1083, .iconst 2, 0, 0, 0), (1084, .iadd, 0, 0, 0), (1085, .iaload, 0, 0, 0), (1086, .aload_n 0, 0, 0, 0), (1087, .iload_n 3, 0, 0, 0), (1088, .iconst 3, 0, 0, 0), (1089, .iadd, 0, 0, 0), (1090, .iaload, 0, 0, 0), (1091, .invokevirtual 136, 131, 3, 41), (1094, .aload_n 2, 0, 0, 0), (1095, .aload_n 0, 0, 0, 0), (1096, .iload_n 3, 0, 0, 0), (1097, .iconst 1, 0, 0, 0), (1098, .iadd, 0, 0, 0), (1099, .iaload, 0, 0, 0), (1100, .aload_n 0, 0, 0, 0), (1101, .iload_n 3, 0, 0, 0), (1102, .iconst 2, 0, 0, 0), (1103, .iadd, 0, 0, 0), (1104, .iaload, 0, 0, 0), (1105, .aload_n 0, 0, 0, 0), (1106, .iload_n 3, 0, 0, 0), (1107, .iconst 3, 0, 0, 0), (1108, .iadd, 0, 0, 0), (1109, .iaload, 0, 0, 0), (1110, .invokevirtual 139, 234, 3, 45), (1113, .if_icmp .eq 111, 1224, 0, 0)]
set_option maxRecDepth 100000 in
theorem sk_k244_12 : sk_t244_12.all (sk_chk 13 false (sk_inf 244)) = true := by decide +kernel
def sk_t244_13 : List sk_E := [(1116, .iconst 0, 0, 0, 0), (1117, .ireturn, 0, 0, 0), (1118, .aload_n 1, 0, 0, 0), (1119, .aload_n 0, 0, 0, 0), (1120, .iload_n 3, 0, 0, 0), (1121, .iconst 1, 0, 0, 0), (1122, .iadd, 0, 0, 0), (1123, .iaload, 0, 0, 0), (1124, .aload_n 0, 0, 0, 0), (1125, .iload_n 3, 0, 0, 0), (1126, .iconst 2, 0, 0, 0), (1127, .iadd, 0, 0, 0), (1128, .iaload, 0, 0, 0), (1129, .aload_n 0, 0, 0, 0), (1130, .iload_n 3, 0, 0, 0), (1131, .iconst 3, 0, 0, 0), (1132, .iadd, 0, 0, 0), (1133, .iaload, 0, 0, 0), (1134, .invokevirtual 140, 132, 3, 41), (1137, .aload_n 2, 0, 0, 0), (1138, .aload_n 0, 0, 0, 0), (1139, .iload_n 3, 0, 0, 0), (1140, .iconst 1, 0, 0, 0), (1141, .iadd, 0, 0, 0), (1142, .iaload, 0, 0, 0), (1143, .aload_n 0, 0, 0, 0), (1144, .iload_n 3, 0, 0, 0), (1145, .iconst 2, 0, 0, 0), (1146, .iadd, 0, 0, 0), (1147, .iaload, 0, 0, 0), (1148, .aload_n 0, 0, 0, 0), (1149, .iload_n 3, 0, 0, 0), (1150, .iconst 3, 0, 0, 0), (1151, .iadd, 0, 0, 0), (1152, .iaload, 0, 0, 0), (1153, .invokevirtual 143, 235, 3, 45), (1156, .if_icmp .eq 68, 1224, 0, 0), (1159, .iconst 0, 0, 0, 0), (1160, .ireturn, 0, 0, 0), (1161, .aload_n 1, 0, 0, 0), (1162, .aload_n 0, 0, 0, 0), (1163, .iload_n 3, 0, 0, 0), (1164, .iconst 1, 0, 0, 0), (1165, .iadd, 0, 0, 0), (1166, .iaload, 0, 0, 0), (1167, .aload_n 0, 0, 0, 0), (1168, .iload_n 3, 0, 0, 0), (1169, .iconst 2, 0, 0, 0), (1170, .iadd, 0, 0, 0), (1171, .iaload, 0, 0, 0), (1172, .aload_n 0, 0, 0, 0), (1173, .iload_n 3, 0, 0, 0), (1174, .iconst 3, 0, 0, 0), (1175, .iadd, 0, 0, 0), (1176, .iaload, 0, 0, 0), (1177, .aload_n 0, 0, 0, 0), (1178, .iload_n 3, 0, 0, 0), (1179, .iconst 4, 0, 0, 0), (1180, .iadd, 0, 0, 0), (1181, .iaload, 0, 0, 0)]
set_option maxRecDepth 100000 in
theorem sk_k244_13 : sk_t244_13.all (sk_chk 13 false (sk_inf 244)) = true := by decide +kernel
def sk_t244_14 : List sk_E := [(1182, .aload_n 0, 0, 0, 0), (1183, .iload_n 3, 0, 0, 0), (1184, .iconst 5, 0, 0, 0), (1185, .iadd, 0, 0, 0), (1186, .iaload, 0, 0, 0), (1187, .invokevirtual 144, 133, 5, 41), (1190, .aload_n 2, 0, 0, 0), (1191, .aload_n 0, 0, 0, 0), (1192, .iload_n 3, 0, 0, 0), (1193, .iconst 1, 0, 0, 0), (1194, .iadd, 0, 0, 0), (1195, .iaload, 0, 0, 0), (1196, .aload_n 0, 0, 0, 0), (1197, .iload_n 3, 0, 0, 0), (1198, .iconst 2, 0, 0, 0), (1199, .iadd, 0, 0, 0), (1200, .iaload, 0, 0, 0), (1201, .aload_n 0, 0, 0, 0), (1202, .iload_n 3, 0, 0, 0), (1203, .iconst 3, 0, 0, 0), (1204, .iadd, 0, 0, 0), (1205, .iaload, 0, 0, 0), (1206, .aload_n 0, 0, 0, 0), (1207, .iload_n 3, 0, 0, 0), (1208, .iconst 4, 0, 0, 0), (1209, .iadd, 0, 0, 0), (1210, .iaload, 0, 0, 0), (1211, .aload_n 0, 0, 0, 0), (1212, .iload_n 3, 0, 0, 0), (1213, .iconst 5, 0, 0, 0), (1214, .iadd, 0, 0, 0), (1215, .iaload, 0, 0, 0), (1216, .invokevirtual 147, 236, 5, 45), (1219, .if_icmp .eq 5, 1224, 0, 0), (1222, .iconst 0, 0, 0, 0), (1223, .ireturn, 0, 0, 0), (1224, .iinc 3 7, 0, 0, 0), (1227, .goto (-1209), 18, 0, 0), (1230, .iconst 1, 0, 0, 0), (1231, .ireturn, 0, 0, 0)]
set_option maxRecDepth 100000 in
theorem sk_k244_14 : sk_t244_14.all (sk_chk 13 false (sk_inf 244)) = true := by decide +kernel
def sk_t244 : List sk_E := sk_t244_0 ++ (sk_t244_1 ++ (sk_t244_2 ++ (sk_t244_3 ++ (sk_t244_4 ++ (sk_t244_5 ++ (sk_t244_6 ++ (sk_t244_7 ++ (sk_t244_8 ++ (sk_t244_9 ++ (sk_t244_10 ++ (sk_t244_11 ++ (sk_t244_12 ++ (sk_t244_13 ++ (sk_t244_14))))))))))))))
theorem sk_k244c : sk_t244.all (sk_chk 13 false (sk_inf 244)) = true := by
  unfold sk_t244
  simp only [List.all_append, sk_k244_0, sk_k244_1, sk_k244_2, sk_k244_3, sk_k244_4, sk_k244_5, sk_k244_6, sk_k244_7, sk_k244_8, sk_k244_9, sk_k244_10, sk_k244_11, sk_k244_12, sk_k244_13, sk_k244_14, Bool.and_self]
theorem sk_k244 : sk_mOK sk_inf sk_nest (sk_inf 244) sk_t244 := sk_mOK_of 13 false rfl (fun h => absurd h (by decide)) (by decide +kernel) sk_k244c
end
section
/-! ===== all tables ===== -/
def sk_tabL : List (List sk_E) := [[], [], [], sk_t3, sk_t4, sk_t5, sk_t6, sk_t7, sk_t8, sk_t9, sk_t10, sk_t11, sk_t12, sk_t13, sk_t14, sk_t15, sk_t16, sk_t17, sk_t18, sk_t19, sk_t20, sk_t21, sk_t22, sk_t23, sk_t24, sk_t25, sk_t26, sk_t27, sk_t28, sk_t29, sk_t30, sk_t31, sk_t32, sk_t33, sk_t34, sk_t35, sk_t36, sk_t37, sk_t38, sk_t39, sk_t40, sk_t41, sk_t42, sk_t43, sk_t44, sk_t45, sk_t46, sk_t47, sk_t48, sk_t49, sk_t50, sk_t51, sk_t52, sk_t53, sk_t54, sk_t55, sk_t56, sk_t57, sk_t58, sk_t59, sk_t60, sk_t61, sk_t62, sk_t63, sk_t64, sk_t65, sk_t66, sk_t67, sk_t68, sk_t69, sk_t70, sk_t71, sk_t72, sk_t73, sk_t74, sk_t75, sk_t76, sk_t77, sk_t78, sk_t79, sk_t80, sk_t81, sk_t82, sk_t83, sk_t84, sk_t85, sk_t86, sk_t87, sk_t88, sk_t89, sk_t90, sk_t91, sk_t92, sk_t93, sk_t94, sk_t95, sk_t96, sk_t97, sk_t98, sk_t99, sk_t100, sk_t101, sk_t102, sk_t103, sk_t104, sk_t105, sk_t106, sk_t107, sk_t108, sk_t109, sk_t110, sk_t111, sk_t112, sk_t113, sk_t114, sk_t115, sk_t116, sk_t117, sk_t118, sk_t119, sk_t120, sk_t121, sk_t122, sk_t123, sk_t124, sk_t125, sk_t126, sk_t127, sk_t128, sk_t129, sk_t130, sk_t131, sk_t132, sk_t133, sk_t134, sk_t135, sk_t136, sk_t137, sk_t138, sk_t139, sk_t140, sk_t141, sk_t142, sk_t143, sk_t144, sk_t145, sk_t146, sk_t147, sk_t148, sk_t149, sk_t150, sk_t151, sk_t152, sk_t153, sk_t154, sk_t155, sk_t156, sk_t157, sk_t158, sk_t159, sk_t160, sk_t161, sk_t162, sk_t163, sk_t164, sk_t165, sk_t166, sk_t167, sk_t168, sk_t169, sk_t170, sk_t171, sk_t172, sk_t173, sk_t174, sk_t175, sk_t176, sk_t177, sk_t178, sk_t179, sk_t180, sk_t181, sk_t182, sk_t183, sk_t184, sk_t185, sk_t186, sk_t187, sk_t188, sk_t189, sk_t190, sk_t191, sk_t192, sk_t193, sk_t194, sk_t195, sk_t196, sk_t197, sk_t198, sk_t199, sk_t200, sk_t201, sk_t202, sk_t203, sk_t204, sk_t205, sk_t206, sk_t207, sk_t208, sk_t209, sk_t210, sk_t211, sk_t212, sk_t213, sk_t214, sk_t215, sk_t216, sk_t217, sk_t218, sk_t219, sk_t220, sk_t221, sk_t222, sk_t223, sk_t224, sk_t225, sk_t226, sk_t227, sk_t228, sk_t229, sk_t230, sk_t231, sk_t232, sk_t233, sk_t234, sk_t235, sk_t236, sk_t237, sk_t238, sk_t239, sk_t240, sk_t241, sk_t242, sk_t243, sk_t244]
theorem sk_tabL_len : sk_tabL.length = 245 := by decide +kernel
def sk_tabs (mi : Nat) : List sk_E := sk_tabL.getD mi []
theorem sk_tabs_all : ∀ k : Nat, k < 242 → sk_mOK sk_inf sk_nest (sk_inf (k + 3)) (sk_tabs (k + 3)) := by
  intro k h
  match k, h with
  | 0, _ => exact sk_k3
  | 1, _ => exact sk_k4
  | 2, _ => exact sk_k5
  | 3, _ => exact sk_k6
  | 4, _ => exact sk_k7
  | 5, _ => exact sk_k8
  | 6, _ => exact sk_k9
  | 7, _ => exact sk_k10
  | 8, _ => exact sk_k11
  | 9, _ => exact sk_k12
  | 10, _ => exact sk_k13
  | 11, _ => exact sk_k14
  | 12, _ => exact sk_k15
  | 13, _ => exact sk_k16
  | 14, _ => exact sk_k17
  | 15, _ => exact sk_k18
  | 16, _ => exact sk_k19
  | 17, _ => exact sk_k20
  | 18, _ => exact sk_k21
  | 19, _ => exact sk_k22
  | 20, _ => exact sk_k23
  | 21, _ => exact sk_k24
  | 22, _ => exact sk_k25
  | 23, _ => exact sk_k26
  | 24, _ => exact sk_k27
  | 25, _ => exact sk_k28
  | 26, _ => exact sk_k29
  | 27, _ => exact sk_k30
  | 28, _ => exact sk_k31
  | 29, _ => exact sk_k32
  | 30, _ => exact sk_k33
  | 31, _ => exact sk_k34
  | 32, _ => exact sk_k35
  | 33, _ => exact sk_k36
  | 34, _ => exact sk_k37
  | 35, _ => exact sk_k38
  | 36, _ => exact sk_k39
  | 37, _ => exact sk_k40
  | 38, _ => exact sk_k41
  | 39, _ => exact sk_k42
  | 40, _ => exact sk_k43
  | 41, _ => exact sk_k44
  | 42, _ => exact sk_k45
  | 43, _ => exact sk_k46
  | 44, _ => exact sk_k47
  | 45, _ => exact sk_k48
  | 46, _ => exact sk_k49
  | 47, _ => exact sk_k50
  | 48, _ => exact sk_k51
  | 49, _ => exact sk_k52
  | 50, _ => exact sk_k53
  | 51, _ => exact sk_k54
  | 52, _ => exact sk_k55
  | 53, _ => exact sk_k56
  | 54, _ => exact sk_k57
  | 55, _ => exact sk_k58
  | 56, _ => exact sk_k59
  | 57, _ => exact sk_k60
  | 58, _ => exact sk_k61
  | 59, _ => exact sk_k62
  | 60, _ => exact sk_k63
  | 61, _ => exact sk_k64
  | 62, _ => exact sk_k65
  | 63, _ => exact sk_k66
  | 64, _ => exact sk_k67
  | 65, _ => exact sk_k68
  | 66, _ => exact sk_k69
  | 67, _ => exact sk_k70
  | 68, _ => exact sk_k71
  | 69, _ => exact sk_k72
  | 70, _ => exact sk_k73
  | 71, _ => exact sk_k74
  | 72, _ => exact sk_k75
  | 73, _ => exact sk_k76
  | 74, _ => exact sk_k77
  | 75, _ => exact sk_k78
  | 76, _ => exact sk_k79
  | 77, _ => exact sk_k80
  | 78, _ => exact sk_k81
  | 79, _ => exact sk_k82
  | 80, _ => exact sk_k83
  | 81, _ => exact sk_k84
  | 82, _ => exact sk_k85
  | 83, _ => exact sk_k86
  | 84, _ => exact sk_k87
  | 85, _ => exact sk_k88
  | 86, _ => exact sk_k89
  | 87, _ => exact sk_k90
  | 88, _ => exact sk_k91
  | 89, _ => exact sk_k92
  | 90, _ => exact sk_k93
  | 91, _ => exact sk_k94
  | 92, _ => exact sk_k95
  | 93, _ => exact sk_k96
  | 94, _ => exact sk_k97
  | 95, _ => exact sk_k98
  | 96, _ => exact sk_k99
  | 97, _ => exact sk_k100
  | 98, _ => exact sk_k101
  | 99, _ => exact sk_k102
  | 100, _ => exact sk_k103
  | 101, _ => exact sk_k104
  | 102, _ => exact sk_k105
  | 103, _ => exact sk_k106
  | 104, _ => exact sk_k107
  | 105, _ => exact sk_k108
  | 106, _ => exact sk_k109
  | 107, _ => exact sk_k110
  | 108, _ => exact sk_k111
  | 109, _ => exact sk_k112
  | 110, _ => exact sk_k113
  | 111, _ => exact sk_k114
  | 112, _ => exact sk_k115
  | 113, _ => exact sk_k116
  | 114, _ => exact sk_k117
  | 115, _ => exact sk_k118
  | 116, _ => exact sk_k119
  | 117, _ => exact sk_k120
  | 118, _ => exact sk_k121
  | 119, _ => exact sk_k122
  | 120, _ => exact sk_k123
  | 121, _ => exact sk_k124
  | 122, _ => exact sk_k125
  | 123, _ => exact sk_k126
  | 124, _ => exact sk_k127
  | 125, _ => exact sk_k128
  | 126, _ => exact sk_k129
  | 127, _ => exact sk_k130
  | 128, _ => exact sk_k131
  | 129, _ => exact sk_k132
  | 130, _ => exact sk_k133
  | 131, _ => exact sk_k134
  | 132, _ => exact sk_k135
  | 133, _ => exact sk_k136
  | 134, _ => exact sk_k137
  | 135, _ => exact sk_k138
  | 136, _ => exact sk_k139
  | 137, _ => exact sk_k140
  | 138, _ => exact sk_k141
  | 139, _ => exact sk_k142
  | 140, _ => exact sk_k143
  | 141, _ => exact sk_k144
  | 142, _ => exact sk_k145
  | 143, _ => exact sk_k146
  | 144, _ => exact sk_k147
  | 145, _ => exact sk_k148
  | 146, _ => exact sk_k149
  | 147, _ => exact sk_k150
  | 148, _ => exact sk_k151
  | 149, _ => exact sk_k152
  | 150, _ => exact sk_k153
  | 151, _ => exact sk_k154
  | 152, _ => exact sk_k155
  | 153, _ => exact sk_k156
  | 154, _ => exact sk_k157
  | 155, _ => exact sk_k158
  | 156, _ => exact sk_k159
  | 157, _ => exact sk_k160
  | 158, _ => exact sk_k161
  | 159, _ => exact sk_k162
  | 160, _ => exact sk_k163
  | 161, _ => exact sk_k164
  | 162, _ => exact sk_k165
  | 163, _ => exact sk_k166
  | 164, _ => exact sk_k167
  | 165, _ => exact sk_k168
  | 166, _ => exact sk_k169
  | 167, _ => exact sk_k170
  | 168, _ => exact sk_k171
  | 169, _ => exact sk_k172
  | 170, _ => exact sk_k173
  | 171, _ => exact sk_k174
  | 172, _ => exact sk_k175
  | 173, _ => exact sk_k176
  | 174, _ => exact sk_k177
  | 175, _ => exact sk_k178
  | 176, _ => exact sk_k179
  | 177, _ => exact sk_k180
  | 178, _ => exact sk_k181
  | 179, _ => exact sk_k182
  | 180, _ => exact sk_k183
  | 181, _ => exact sk_k184
  | 182, _ => exact sk_k185
  | 183, _ => exact sk_k186
  | 184, _ => exact sk_k187
  | 185, _ => exact sk_k188
  | 186, _ => exact sk_k189
  | 187, _ => exact sk_k190
  | 188, _ => exact sk_k191
  | 189, _ => exact sk_k192
  | 190, _ => exact sk_k193
  | 191, _ => exact sk_k194
  | 192, _ => exact sk_k195
  | 193, _ => exact sk_k196
  | 194, _ => exact sk_k197
  | 195, _ => exact sk_k198
  | 196, _ => exact sk_k199
  | 197, _ => exact sk_k200
  | 198, _ => exact sk_k201
  | 199, _ => exact sk_k202
  | 200, _ => exact sk_k203
  | 201, _ => exact sk_k204
  | 202, _ => exact sk_k205
  | 203, _ => exact sk_k206
  | 204, _ => exact sk_k207
  | 205, _ => exact sk_k208
  | 206, _ => exact sk_k209
  | 207, _ => exact sk_k210
  | 208, _ => exact sk_k211
  | 209, _ => exact sk_k212
  | 210, _ => exact sk_k213
  | 211, _ => exact sk_k214
  | 212, _ => exact sk_k215
  | 213, _ => exact sk_k216
  | 214, _ => exact sk_k217
  | 215, _ => exact sk_k218
  | 216, _ => exact sk_k219
  | 217, _ => exact sk_k220
  | 218, _ => exact sk_k221
  | 219, _ => exact sk_k222
  | 220, _ => exact sk_k223
  | 221, _ => exact sk_k224
  | 222, _ => exact sk_k225
  | 223, _ => exact sk_k226
  | 224, _ => exact sk_k227
  | 225, _ => exact sk_k228
  | 226, _ => exact sk_k229
  | 227, _ => exact sk_k230
  | 228, _ => exact sk_k231
  | 229, _ => exact sk_k232
  | 230, _ => exact sk_k233
  | 231, _ => exact sk_k234
  | 232, _ => exact sk_k235
  | 233, _ => exact sk_k236
  | 234, _ => exact sk_k237
  | 235, _ => exact sk_k238
  | 236, _ => exact sk_k239
  | 237, _ => exact sk_k240
  | 238, _ => exact sk_k241
  | 239, _ => exact sk_k242
  | 240, _ => exact sk_k243
  | 241, _ => exact sk_k244
  | k + 242, h => omega
theorem sk_tabs_ok (mi : Nat) : sk_tabs mi = [] ∨ sk_mOK sk_inf sk_nest (sk_inf mi) (sk_tabs mi) := by
  by_cases h3 : mi < 3
  · rcases (show mi = 0 ∨ mi = 1 ∨ mi = 2 by omega) with rfl | rfl | rfl <;> exact Or.inl rfl
  · by_cases h : mi < 245
    · have := sk_tabs_all (mi - 3) (by omega)
      rw [show mi - 3 + 3 = mi by omega] at this
      exact Or.inr this
    · refine Or.inl ?_
      unfold sk_tabs
      have hl : sk_tabL.length ≤ mi := by rw [sk_tabL_len]; omega
      rw [List.getD_eq_getElem?_getD, List.getElem?_eq_none hl]
      rfl
end
section
/-! THE CLAIM OUT OF ONE WALK OF THE LAW'S BODY. Your part is whole_start (and what it stands on); all else here is the same for every law, but numbers. -/
def R_law : String := "SkylineNesterLaw"
def lw_P (b : Addr) (xs : List Int32) (args : Array Value) (s : State) : Prop := args = #[.ref b] ∧ s.IntsAt b xs ∧ xs.length ≤ 3584 ∧ (Jvm.Cond.and given_1 narrow_1).before args s = true
/-- what a walk over the start with the record d0 says of its end, said of the start itself -/
theorem lw_closed {s t : State} {o : Outcome} {d0 : Drawn} {L : List Loc} {k n : Nat} (hd0 : s.drawn.sameBut d0 lw_cs) (hv : ∃ v, o = .returned v) (hW : (s.setDrawn d0).WarmedH t.vm) (hs : (s.setDrawn d0).sameButNew ({ t with vm := s.vm } : State) L k n) : State.butDraws s t lw_cs (fun t1 => Framed s o t1 L k n) := by
  have h2 : t.drawn = d0 := congrArg State.drawn hs.1
  refine ⟨⟨hv, hW, State.sameButNew.setDrawn hs s.drawn⟩, ?_, by decide⟩
  rw [h2]
  exact hd0
def lw_Q (_ : Array Value) (s : State) (o : Outcome) (t : State) : Prop := o = .returned (some (.int 1)) ∧ State.butDraws s t lw_cs (fun t1 => Framed s o t1 [] 600000 7302250)
def lw_Z (below : List Frame) (a : Array Value) (s : State) : State → Prop := fun t => ∃ o, t.status = .running ∧ Ended t below o ∧ lw_Q a s o t
/-- the law's own end, with 1 on the stack, nothing written that was there before, its room as the claim has it; d0: the record of draws at this point (at the entry s.drawn: begin with 'refine W.base ?_' and 'have hd0 := Drawn.sameBut.refl s.drawn lw_cs') -/
theorem lw_ret {p : Program} {l : Launch} {e : Env} {s : State} {m : MethodId} {below : List Frame} {meth : Method} {c : Code} {b : Nat} {d0 : Drawn} (hd0 : s.drawn.sameBut d0 lw_cs) (hx : p.tables.exec = Jvm.exec) (hb : c.code = code) (hr : meth.sig.returnType = ret) (hlocks : meth.locks = false) {pc : Nat} {H : Heap} {ls : Array Slot} (hdg : decode code pc = .ok (.ireturn, 1)) : W p l e room_1 (s.setDrawn d0) m #[Value.ref b] below meth c H [] 600000 7302250 (lw_Z below #[Value.ref b] s) (F0 m pc ls [.int 1]) := by
  intro T hT X
  obtain ⟨fs, hret, hrun, hended, hW, hframe⟩ := X.leave (v := some (.int 1)) (hlocks := hlocks) (fun h => by rw [hr] at h; cases h)
  have hmeth' : T.vm.method? m = some meth := X.method'
  refine ⟨T.setFrames fs, ?_, .returned (some (.int 1)), hrun, hended, rfl, lw_closed hd0 ⟨_, rfl⟩ hW hframe⟩
  jvm_step X.here [X.here.top, hx, hb, hdg, hmeth', hr, ret, narrow_b1]
  (try refine ⟨rfl, ?_⟩); (try refine ⟨rfl, ?_⟩)
  first | (intro acts; rw [hret _ acts rfl rfl rfl]) | rw [hret _ _ rfl rfl rfl]
  exact Steps.refl _
/-- what holds at the law's entry: the machine, the code, the tables' words (any of lw_tbl by 'hts w (by decide +kernel)'), the script of L ints xs at the cell b, what the Statement gives of the start (any of its parts by flat_of_before) -/
def lw_At (p : Program) (s : State) (m : MethodId) (meth : Method) (c : Code) (b L : Nat) (xs : Nat → Int32) : Prop :=
  p.tables.exec = Jvm.exec ∧ c.code = code ∧ meth.sig.returnType = ret ∧ c.maxLocals = 4 ∧ s.vm.findClass R_law = some m.cls ∧ (∀ w ∈ lw_tbl, w.before #[Value.ref b] s = true) ∧ va_X b L xs s s.heap ∧ b < s.heap.size ∧ meth.locks = false ∧ (Jvm.Cond.and given_1 narrow_1).before #[Value.ref b] s = true
end
section
/-! ===== SkylineNester.isUnder: a table that nobody writes ===== -/
def sk_KA (j : Nat) : Int32 := ([-1, 0, 0, 1, 2, 0] : List Int32).getD j 0
def sk_under : Nat → Int32 → Int32 → Option Int32
  | 0, _, _ => some 0
  | n + 1, a, b => if a = -1 then some 0 else if a = b then some 1 else if a < 0 ∨ 6 ≤ a.toNatClampNeg then none else sk_under n (sk_KA a.toNatClampNeg) b
def sk_prim1 (as : List Value) (w : sk_W) : Option sk_R := match as with
  | [.int k, .int b] => (sk_under 6 k b).bind fun v => some (some (.int v), w)
  | _ => none
/-- the static table -/
def sk_S1 (H0 : Heap) (s : State) : Prop := ∃ t : Nat, va_Z "SkylineNester" "KIND_ABOVE" "[I" (.ref t) (fun q : Nat => H0.size ≤ q) s H0 ∧ va_T .int t 6 (fun j => .int (sk_KA j)) (fun q : Nat => H0.size ≤ q) s H0
theorem sk_S1.warm {H0 : Heap} {s U : State} (hW : s.WarmedH U.vm) (h : sk_S1 H0 s) : sk_S1 H0 U := by
  obtain ⟨t, h1, h2⟩ := h
  exact ⟨t, va_Z.moved hW.alike h1, va_T.moved hW.alike h2⟩
theorem sk_under_01 : ∀ (n : Nat) (a b v : Int32), sk_under n a b = some v → v = 0 ∨ v = 1
  | 0, _, _, _, h => by cases h; exact Or.inl rfl
  | n + 1, a, b, v, h => by
    unfold sk_under at h
    split at h
    · cases h; exact Or.inl rfl
    · split at h
      · cases h; exact Or.inr rfl
      · split at h
        · cases h
        · exact sk_under_01 n _ _ _ h
theorem sk_dU : decode cX11_isUnder 0 = .ok (.iload_n 0, 1) ∧ decode cX11_isUnder 1 = .ok (.istore_n 2, 1) ∧ decode cX11_isUnder 2 = .ok (.iconst 0, 1) ∧ decode cX11_isUnder 3 = .ok (.istore_n 3, 1) ∧ decode cX11_isUnder 4 = .ok (.iload_n 3, 1) ∧ decode cX11_isUnder 5 = .ok (.bipush 6, 2) ∧ decode cX11_isUnder 7 = .ok (.if_icmp .ge 27, 3) ∧ decode cX11_isUnder 10 = .ok (.iload_n 2, 1) ∧ decode cX11_isUnder 11 = .ok (.iconst (-1), 1) ∧ decode cX11_isUnder 12 = .ok (.if_icmp .eq 22, 3) ∧ decode cX11_isUnder 15 = .ok (.iload_n 2, 1) ∧ decode cX11_isUnder 16 = .ok (.iload_n 1, 1) ∧ decode cX11_isUnder 17 = .ok (.if_icmp .ne 5, 3) ∧ decode cX11_isUnder 20 = .ok (.iconst 1, 1) ∧ decode cX11_isUnder 21 = .ok (.ireturn, 1) ∧ decode cX11_isUnder 22 = .ok (.getstatic 361, 3) ∧ decode cX11_isUnder 25 = .ok (.iload_n 2, 1) ∧ decode cX11_isUnder 26 = .ok (.iaload, 1) ∧ decode cX11_isUnder 27 = .ok (.istore_n 2, 1) ∧ decode cX11_isUnder 28 = .ok (.iinc 3 1, 3) ∧ decode cX11_isUnder 31 = .ok (.goto (-27), 3) ∧ decode cX11_isUnder 34 = .ok (.iconst 0, 1) ∧ decode cX11_isUnder 35 = .ok (.ireturn, 1) := by
  (repeat' apply And.intro) <;> decide +kernel
theorem sk_flU : Jvm.Cond.fieldLink "SkylineNester" 361 "SkylineNester" "KIND_ABOVE" "[I" ∈ sk_B := sk_memB [Jvm.Cond.fieldLink "SkylineNester" 361 "SkylineNester" "KIND_ABOVE" "[I"] [589] (by decide +kernel) (by decide +kernel) _ List.mem_cons_self
set_option maxHeartbeats 4000000 in
theorem sk_loopU {p : Program} {l : Launch} {e : Env} {R : Room} {s : State} {m : MethodId} {args : Array Value} {below : List Frame} {meth : Method} {c : Code} {Q : State → Prop} {H0 : Heap} (hx : p.tables.exec = Jvm.exec) (hb : c.code = cX11_isUnder) (hown : s.vm.findClass "SkylineNester" = some m.cls) (hlk : (Jvm.Cond.fieldLink "SkylineNester" 361 "SkylineNester" "KIND_ABOVE" "[I").before args s = true) (hS1 : sk_S1 H0 s) (hh : ∀ q : Nat, q < H0.size → s.heap[q]? = H0[q]?) {k b v : Int32}
    (hret : ∀ (pc : Nat) (ls : Array Slot), decode cX11_isUnder pc = .ok (.ireturn, 1) → W p l e R s m args below meth c s.heap [] 0 0 Q (F0 m pc ls [.int v])) :
    ∀ (n : Nat) (a st : Int32) (ls : Array Slot), n ≤ 6 → st = nI (6 - n) → sk_under n a b = some v → lv_has ls 4 [(0, .int k), (1, .int b), (2, .int a), (3, .int st)] → W p l e R s m args below meth c s.heap [] 0 0 Q (F0 m 4 ls []) := by
  obtain ⟨d0, d1, d2, d3, d4, d5, d7, d10, d11, d12, d15, d16, d17, d20, d21, d22, d25, d26, d27, d28, d31, d34, d35⟩ := sk_dU
  intro n
  induction n with
  | zero =>
    intro a st ls hn hst hu hl
    cases hu
    subst hst
    refine lv_iload_n hx hb d4 rfl (lv_at hl 3 rfl) ?_
    refine lv_bipush (v := 6) hx hb d5 (by decide) ?_
    refine lv_icmp_ge (tgt := 34) hx hb d7 (by decide) (fun _ => ?_) (fun hc => absurd (by decide : (6 : Int32) ≤ nI (6 - 0)) hc)
    refine lv_iconst (v := 0) hx hb d34 (by decide) ?_
    exact hret _ _ d35
  | succ n ih =>
    intro a st ls hn hst hu hl
    refine lv_iload_n hx hb d4 rfl (lv_at hl 3 rfl) ?_
    refine lv_bipush (v := 6) hx hb d5 (by decide) ?_
    have h6 : ¬ (6 : Int32) ≤ st := by
      rw [hst]
      exact nI_ge (a := 6 - (n + 1)) (b := 6) (by omega) (by decide)
    refine lv_icmp_ge (tgt := 34) hx hb d7 (by decide) (fun hc => absurd hc h6) (fun _ => ?_)
    refine lv_iload_n hx hb d10 rfl (lv_at hl 2 rfl) ?_
    refine lv_iconst (v := -1) hx hb d11 (by decide) ?_
    unfold sk_under at hu
    refine lv_icmp_eq (tgt := 34) hx hb d12 (by decide) (fun hc => ?_) (fun hc => ?_)
    · rw [if_pos hc] at hu
      cases hu
      refine lv_iconst (v := 0) hx hb d34 (by decide) ?_
      exact hret _ _ d35
    · rw [if_neg hc] at hu
      refine lv_iload_n hx hb d15 rfl (lv_at hl 2 rfl) ?_
      refine lv_iload_n hx hb d16 rfl (lv_at hl 1 rfl) ?_
      refine lv_icmp_ne (tgt := 22) hx hb d17 (by decide) (fun hc2 => ?_) (fun hc2 => ?_)
      · rw [if_neg hc2] at hu
        split at hu
        · cases hu
        · next hin =>
          obtain ⟨t, hZ, hT⟩ := hS1
          have hq : ∀ a : Nat, a < H0.size → ¬ (H0.size ≤ a) → s.heap[a]? = H0[a]? := fun a ha _ => hh a ha
          refine va_gets (C := "SkylineNester") hx hb (va_Z.kept hZ hq) va_S.rf hown hlk (fun x hx => hx) d22 ?_
          refine lv_iload_n hx hb d25 rfl (lv_at hl 2 rfl) ?_
          refine va_ti hx hb (va_T.kept hT hq) va_S.rf hin rfl d26 ?_
          refine lv_istore_n (lv' := [(2, .int (sk_KA a.toNatClampNeg)), (0, .int k), (1, .int b), (3, .int st)]) hx hb d27 rfl hl (by decide) rfl (fun ls hl => ?_)
          refine lv_iinc (v := st + 1) (lv' := [(3, .int (st + 1)), (2, .int (sk_KA a.toNatClampNeg)), (0, .int k), (1, .int b)]) hx hb d28 hl (k := 3) rfl rfl (by decide) rfl (fun ls hl => ?_)
          refine lv_goto (tgt := 4) hx hb d31 (by decide) ?_
          refine ih (sk_KA a.toNatClampNeg) (st + 1) ls (by omega) ?_ hu (lv_sub hl [2, 3, 1, 0] rfl)
          rw [hst, nI_1]
          congr 1
          omega
      · rw [if_pos hc2] at hu
        cases hu
        refine lv_iconst (v := 1) hx hb d20 (by decide) ?_
        exact hret _ _ d21
theorem sk_prim1_met {l : Launch} {nest : List Jvm.Cond} {Sx : State → Prop} {D : va_G} {cA : Nat → ClassId} {b : Nat} {X : Nat × (Nat → Int32)} {H0 : Heap} (hSx : ∀ s : State, Sx s → sk_S1 H0 s) (d : Nat) (as : List Value) (w : sk_W) (r : sk_R) (h : sk_prim1 as w = some r) : sk_Met l nest Sx D cA b X H0 (sk_inf 1).1 (sk_inf 1).2.1 (sk_inf 1).2.2.1 (sk_inf 1).2.2.2 (d + 1) as w r.1 r.2 ∧ w.length ≤ r.2.length ∧ sk_sz w ≤ sk_sz r.2 := by
  unfold sk_prim1 at h
  split at h
  · next k0 b0 =>
    obtain ⟨v, hv, h⟩ := Option.bind_eq_some_iff.mp h
    cases h
    refine ⟨?_, Nat.le_refl _, Nat.le_refl _⟩
    refine Met.ofW (cc := cX11_isUnder) (maxL := 4) (ret := some .boolean) (by decide +kernel) rfl ?_
    intro p e s m args below meth c s₁ B hml hP
    obtain ⟨rfl, hR, hsize, hT⟩ := hP
    have hx := B.exec
    have hb := B.bytes
    have hr := B.returns
    have hts := atoms_spec (ws := Cond.code (sk_inf 1).1 (sk_inf 1).2.1 (sk_inf 1).2.2.1 (sk_inf 1).2.2.2 :: sk_B) B.pre
    have hown : s.vm.findClass "SkylineNester" = some m.cls := findClass_of_methodNamed B.named
    have hlocks := B.notSynchronized
    have hS1 := hSx s hT.2.2.2.2.2
    obtain ⟨lsA, he, hlv, -⟩ := sk_entry (b := b) (n0 := H0.size) (m := m) (as := [.int k0, .int b0]) (nL := 4) (Nat.le_of_ble_eq_true rfl) (by simp [Value.category])
    rw [he]
    have hl : lv_has lsA 4 [(0, .int k0), (1, .int b0)] := hlv
    have hh : ∀ q : Nat, q < H0.size → s.heap[q]? = H0[q]? := by
      obtain ⟨t, -, -, -, h4⟩ := hR
      exact h4
    show W p l e _ s m _ below meth c s.heap [] 0 0 (MQ below _ _ s (w.length - w.length) (sk_sz w - sk_sz w) _) _
    rw [Nat.sub_self, Nat.sub_self]
    obtain ⟨d0, d1, d2, d3, -⟩ := sk_dU
    refine lv_iload_n hx hb d0 rfl (lv_at hl 0 rfl) ?_
    refine lv_istore_n (lv' := [(2, .int k0), (0, .int k0), (1, .int b0)]) hx hb d1 rfl hl (by decide) rfl (fun ls hl => ?_)
    refine lv_iconst (v := 0) hx hb d2 (by decide) ?_
    refine lv_istore_n (lv' := [(3, .int 0), (2, .int k0), (0, .int k0), (1, .int b0)]) hx hb d3 rfl hl (by decide) rfl (fun ls hl => ?_)
    refine sk_loopU (H0 := H0) (v := v) hx hb hown (hts _ (List.mem_cons_of_mem _ sk_flU)) hS1 hh (fun pc ls hd => ?_) 6 k0 0 ls (Nat.le_refl _) (by decide) hv (lv_sub hl [2, 3, 1, 0] rfl)
    refine W.zret hx hb hr ?_ (fun t ht _ => ⟨rfl, by rw [ht]; exact hR⟩) (fun _ h => by cases h) hd
    rcases sk_under_01 6 _ _ _ hv with rfl | rfl <;> rfl
  · cases h
end
section
/-! ===== SkylineNesterModel.kindOf: a String constant ===== -/
def sk_KB (j : Nat) : Int32 := ([112, 116, 103, 99, 115, 104] : List Int32).getD j 0
def sk_kof : Nat → Nat → Int32 → Int32
  | 0, _, _ => -1
  | n + 1, k, x => if sk_KB k = x then nI k else sk_kof n (k + 1) x
def sk_prim2 (as : List Value) (w : sk_W) : Option sk_R := match as with
  | [.int x] => some (some (.int (sk_kof 6 0 x)), w)
  | _ => none
/-- the String constant, and what its members ask -/
def sk_S2 (H0 : Heap) (s : State) : Prop := ∃ adK adV : Nat → Nat, vk_S 1 [6] [[112, 116, 103, 99, 115, 104]] adK adV (fun q : Nat => H0.size ≤ q) s H0 ∧ vk_R "SkylineNesterModel" 105 "ptgcsh" (adK 0) s ∧ va_Z "java/lang/String" "COMPACT_STRINGS" "Z" (.int 1) (fun q : Nat => H0.size ≤ q) s H0 ∧ va_Zq "jdk/internal/util/Preconditions" "SIOOBE_FORMATTER" "Ljava/util/function/BiFunction;" (fun q : Nat => H0.size ≤ q) s H0
theorem sk_S2.warm {H0 : Heap} {s U : State} (hW : s.WarmedH U.vm) (h : sk_S2 H0 s) : sk_S2 H0 U := by
  obtain ⟨k, v, h1, h2, h3, h4⟩ := h
  exact ⟨k, v, vk_S.moved hW.alike h1, h2.warm hW, va_Z.moved hW.alike h3, va_Zq.moved hW.alike h4⟩
def sk_Low (H0 : Heap) (U : State) : Prop := ∀ q : Nat, q < H0.size → ¬ (H0.size ≤ q) → U.heap[q]? = H0[q]?
def sk_P0 (H0 : Heap) (Px : State → Prop) (av : List Value) : Array Value → State → Prop := fun a U => a = av.toArray ∧ sk_Low H0 U ∧ sk_S2 H0 U ∧ Px U
def sk_QV : Array Value → State → Outcome → State → Prop := fun _ st o t => o = .returned none ∧ t.heap = st.heap
theorem sk_P0_blind {H0 : Heap} {av : List Value} {P : Prop} : FrameBlind (sk_P0 H0 (fun _ => P) av) := by
  rintro v U g mk ⟨h1, h2, h3, h4⟩
  exact ⟨h1, h2, sk_S2.warm (s := U) (U := U.calling g mk v) (State.WarmedH.refl U) h3, h4⟩
theorem sk_callV0 {p : Program} {l : Launch} {e : Env} {R : Room} {s : State} {m : MethodId} {args : Array Value} {below : List Frame} {meth : Method} {c : Code} {H : Heap} {locs : List Loc} {cells slots : Nat} {Q : State → Prop} {g : JFrame} {rest : List Value} {a : Array Value} (hr : CallRun p l e R s m args below meth c H locs cells slots 0 0 g rest (sk_QV a) (fun _ => False)) (kk : W p l e R s m args below meth c H locs cells slots Q { g with pc := g.pc + 3, stack := rest }) : W p l e R s m args below meth c H locs cells slots Q g := by
  intro T hT X
  obtain ⟨v, st₀, t, T', L, h0, X', hL, e1, ⟨hv, hh⟩, st⟩ := hr T hT X
  cases hv
  obtain ⟨t2, a1, b1⟩ := kk T' (by rw [e1, hh, h0]) (Stand.forget X' (fun q h => (hL q h).elim))
  exact ⟨t2, st t2 a1, b1⟩
abbrev sk_rm (f : Nat) : Room := { frames := f, cells := 0, slots := 0, locals := 80 * f }
set_option maxRecDepth 100000 in
theorem sk_kw : ∀ w ∈ [Jvm.Cond.code yJ3_checkIndex_8e157 cJ3_checkIndex_8e157 3 (some .int), Jvm.Cond.code yJ0_checkIndex_df160 cJ0_checkIndex_df160 2 none, Jvm.Cond.code yJ1_charAt_3b067 cJ1_charAt_3b067 2 (some .char), Jvm.Cond.code yJ0_isLatin1_aae02 cJ0_isLatin1_aae02 1 (some .boolean), Jvm.Cond.code yJ0_charAt_5068e cJ0_charAt_5068e 2 (some .char)], w ∈ sk_B := sk_memB _ [1181, 1176, 1173, 1168, 1164] rfl rfl
theorem sk_kx : ∀ w ∈ [Jvm.Cond.methodLink "java/lang/String" 1059 yJ3_checkIndex_8e157, Jvm.Cond.static yJ3_checkIndex_8e157, Jvm.Cond.initialized "jdk/internal/util/Preconditions", Jvm.Cond.methodLink "java/lang/StringLatin1" 9 yJ0_checkIndex_df160, Jvm.Cond.static yJ0_checkIndex_df160, Jvm.Cond.initialized "java/lang/String", Jvm.Cond.methodLink "java/lang/String" 495 yJ1_charAt_3b067, Jvm.Cond.static yJ1_charAt_3b067, Jvm.Cond.initialized "java/lang/StringLatin1", Jvm.Cond.methodLink "java/lang/String" 492 yJ0_isLatin1_aae02, Jvm.Cond.instanceMethod yJ0_isLatin1_aae02, Jvm.Cond.selects "java/lang/String" yJ0_isLatin1_aae02 yJ0_isLatin1_aae02, Jvm.Cond.methodLink "SkylineNesterModel" 107 yJ0_charAt_5068e, Jvm.Cond.instanceMethod yJ0_charAt_5068e, Jvm.Cond.selects "java/lang/String" yJ0_charAt_5068e yJ0_charAt_5068e, Jvm.Cond.fieldLink "java/lang/String" 38 "java/lang/String" "COMPACT_STRINGS" "Z", Jvm.Cond.fieldLink "java/lang/String" 1053 "jdk/internal/util/Preconditions" "SIOOBE_FORMATTER" "Ljava/util/function/BiFunction;", Jvm.Cond.fieldLink "java/lang/String" 15 "java/lang/String" "coder" "B", Jvm.Cond.fieldLink "java/lang/String" 9 "java/lang/String" "value" "[B"], w ∈ sk_B := sk_memB _ [1179, 1180, 94, 1174, 1175, 92, 1171, 1172, 93, 1165, 1166, 1167, 1161, 1162, 1163, 1169, 1177, 1547, 1548] (by decide +kernel) (by decide +kernel)
theorem sk_goodW {w0 : Jvm.Cond} (h : w0 ∈ sk_B) : GoodIn sk_B (w0 :: sk_B) := fun w hw => by
  rcases List.mem_cons.mp hw with rfl | hw
  · exact ⟨h, sk_B_good h⟩
  · exact ⟨hw, sk_B_good hw⟩
theorem sk_goodL {ws : List Jvm.Cond} {w0 : Jvm.Cond} (hl : ∀ w ∈ ws, w ∈ sk_B) (h : w0 ∈ sk_B) : GoodIn sk_B (ws ++ (w0 :: sk_B)) := fun w hw => by
  rcases List.mem_append.mp hw with hw | hw
  · exact ⟨hl w hw, sk_B_good (hl w hw)⟩
  · exact sk_goodW h w hw
theorem sk_dK : decode cJ3_checkIndex_8e157 0 = .ok (.iload_n 0, 1) ∧ decode cJ3_checkIndex_8e157 1 = .ok (.ifCond .lt 8, 3) ∧ decode cJ3_checkIndex_8e157 4 = .ok (.iload_n 0, 1) ∧ decode cJ3_checkIndex_8e157 5 = .ok (.iload_n 1, 1) ∧ decode cJ3_checkIndex_8e157 6 = .ok (.if_icmp .lt 10, 3) ∧ decode cJ3_checkIndex_8e157 16 = .ok (.iload_n 0, 1) ∧ decode cJ3_checkIndex_8e157 17 = .ok (.ireturn, 1) := by
  (repeat' apply And.intro) <;> decide +kernel
theorem sk_dK2 : decode cJ0_checkIndex_df160 0 = .ok (.iload_n 0, 1) ∧ decode cJ0_checkIndex_df160 1 = .ok (.iload_n 1, 1) ∧ decode cJ0_checkIndex_df160 2 = .ok (.getstatic 1053, 3) ∧ decode cJ0_checkIndex_df160 5 = .ok (.invokestatic 1059, 3) ∧ decode cJ0_checkIndex_df160 8 = .ok (.pop, 1) ∧ decode cJ0_checkIndex_df160 9 = .ok (.return_, 1) := by
  (repeat' apply And.intro) <;> decide +kernel
theorem sk_dK3 : decode cJ1_charAt_3b067 0 = .ok (.iload_n 1, 1) ∧ decode cJ1_charAt_3b067 1 = .ok (.aload_n 0, 1) ∧ decode cJ1_charAt_3b067 2 = .ok (.arraylength, 1) ∧ decode cJ1_charAt_3b067 3 = .ok (.invokestatic 9, 3) ∧ decode cJ1_charAt_3b067 6 = .ok (.aload_n 0, 1) ∧ decode cJ1_charAt_3b067 7 = .ok (.iload_n 1, 1) ∧ decode cJ1_charAt_3b067 8 = .ok (.baload, 1) ∧ decode cJ1_charAt_3b067 9 = .ok (.sipush 255, 3) ∧ decode cJ1_charAt_3b067 12 = .ok (.iand, 1) ∧ decode cJ1_charAt_3b067 13 = .ok (.i2c, 1) ∧ decode cJ1_charAt_3b067 14 = .ok (.ireturn, 1) := by
  (repeat' apply And.intro) <;> decide +kernel
theorem sk_dK4 : decode cJ0_isLatin1_aae02 0 = .ok (.getstatic 38, 3) ∧ decode cJ0_isLatin1_aae02 3 = .ok (.ifCond .eq 14, 3) ∧ decode cJ0_isLatin1_aae02 6 = .ok (.aload_n 0, 1) ∧ decode cJ0_isLatin1_aae02 7 = .ok (.getfield 15, 3) ∧ decode cJ0_isLatin1_aae02 10 = .ok (.ifCond .ne 7, 3) ∧ decode cJ0_isLatin1_aae02 13 = .ok (.iconst 1, 1) ∧ decode cJ0_isLatin1_aae02 14 = .ok (.goto 4, 3) ∧ decode cJ0_isLatin1_aae02 18 = .ok (.ireturn, 1) := by
  (repeat' apply And.intro) <;> decide +kernel
theorem sk_dK5 : decode cJ0_charAt_5068e 0 = .ok (.aload_n 0, 1) ∧ decode cJ0_charAt_5068e 1 = .ok (.invokevirtual 492, 3) ∧ decode cJ0_charAt_5068e 4 = .ok (.ifCond .eq 12, 3) ∧ decode cJ0_charAt_5068e 7 = .ok (.aload_n 0, 1) ∧ decode cJ0_charAt_5068e 8 = .ok (.getfield 9, 3) ∧ decode cJ0_charAt_5068e 11 = .ok (.iload_n 1, 1) ∧ decode cJ0_charAt_5068e 12 = .ok (.invokestatic 495, 3) ∧ decode cJ0_charAt_5068e 15 = .ok (.ireturn, 1) := by
  (repeat' apply And.intro) <;> decide +kernel
theorem sk_dK6 : decode cX12_kindOf 0 = .ok (.iconst 0, 1) ∧ decode cX12_kindOf 1 = .ok (.istore_n 1, 1) ∧ decode cX12_kindOf 2 = .ok (.iload_n 1, 1) ∧ decode cX12_kindOf 3 = .ok (.bipush 6, 2) ∧ decode cX12_kindOf 5 = .ok (.if_icmp .ge 21, 3) ∧ decode cX12_kindOf 8 = .ok (.ldc 105, 2) ∧ decode cX12_kindOf 10 = .ok (.iload_n 1, 1) ∧ decode cX12_kindOf 11 = .ok (.invokevirtual 107, 3) ∧ decode cX12_kindOf 14 = .ok (.iload_n 0, 1) ∧ decode cX12_kindOf 15 = .ok (.if_icmp .ne 5, 3) ∧ decode cX12_kindOf 18 = .ok (.iload_n 1, 1) ∧ decode cX12_kindOf 19 = .ok (.ireturn, 1) ∧ decode cX12_kindOf 20 = .ok (.iinc 1 1, 3) ∧ decode cX12_kindOf 23 = .ok (.goto (-21), 3) ∧ decode cX12_kindOf 26 = .ok (.iconst (-1), 1) ∧ decode cX12_kindOf 27 = .ok (.ireturn, 1) := by
  (repeat' apply And.intro) <;> decide +kernel
/-- the start of a walk without a world -/
theorem sk_start0 {m : MethodId} {as : List Value} {nL : Nat} (hlen : as.length ≤ nL) (hcat : ∀ v ∈ as, v.category = 1) : ∃ lsA : Array Slot, entryFrame m as.toArray nL = F0 m 0 lsA [] ∧ lv_has lsA nL (lv_args 0 as) := by
  have hl := lv_entry as (n := nL) (by rw [sk_args_sl _ hcat]; exact hlen)
  exact ⟨_, lg_entry_eq m as nL, hl⟩
theorem sk_c1 (l : Launch) (H0 : Heap) (i n : Int32) (fv : Value) (hf : fv.category = 1) (h1 : ¬ i < 0) (h2 : i < n) : Met l yJ3_checkIndex_8e157 (.code yJ3_checkIndex_8e157 cJ3_checkIndex_8e157 3 (some .int) :: sk_B) (sk_rm 1) (sk_P0 H0 (fun _ => True) [.int i, .int n, fv]) (QcRead i) 0 0 (fun _ => False) := by
  refine Met.ofW (cc := cJ3_checkIndex_8e157) (maxL := 3) (ret := some .int) (by decide +kernel) rfl ?_
  intro p e s m args below meth c s₁ B hml hP
  obtain ⟨rfl, -⟩ := hP
  have hx := B.exec
  have hb := B.bytes
  have hr := B.returns
  have hlocks := B.notSynchronized
  obtain ⟨d0, d1, d4, d5, d6, d16, d17⟩ := sk_dK
  obtain ⟨ls, he, hl⟩ := sk_start0 (m := m) (as := [.int i, .int n, fv]) (nL := 3) (Nat.le_of_ble_eq_true rfl) (by intro v hv; simp only [List.mem_cons, List.not_mem_nil, or_false] at hv; rcases hv with rfl | rfl | rfl <;> first | rfl | exact hf)
  rw [he]
  have hl : lv_has ls 3 [(0, .int i), (1, .int n), (2, fv)] := hl
  refine lv_iload_n hx hb d0 rfl (lv_at hl 0 rfl) ?_
  refine lv_if_lt (tgt := 9) hx hb d1 (by decide) (fun q => absurd q h1) (fun _ => ?_)
  refine lv_iload_n hx hb d4 rfl (lv_at hl 0 rfl) ?_
  refine lv_iload_n hx hb d5 rfl (lv_at hl 1 rfl) ?_
  refine lv_icmp_lt (tgt := 16) hx hb d6 (by decide) (fun _ => ?_) (fun q => absurd h2 q)
  refine lv_iload_n hx hb d16 rfl (lv_at hl 0 rfl) ?_
  exact W.iret hx hb hr (fun t ht _ => ⟨rfl, ht⟩) (fun _ h => by cases h) d17
theorem sk_c2 (l : Launch) (H0 : Heap) (i n : Int32) (h1 : ¬ i < 0) (h2 : i < n) : Met l yJ0_checkIndex_df160 (.code yJ0_checkIndex_df160 cJ0_checkIndex_df160 2 none :: sk_B) (sk_rm 2) (sk_P0 H0 (fun _ => True) [.int i, .int n]) sk_QV 0 0 (fun _ => False) := by
  refine Met.ofW (cc := cJ0_checkIndex_df160) (maxL := 2) (ret := none) (by decide +kernel) rfl ?_
  intro p e s m args below meth c s₁ B hml hP
  obtain ⟨rfl, hlow, hS2, -⟩ := hP
  have hx := B.exec
  have hb := B.bytes
  have hr := B.returns
  have hlocks := B.notSynchronized
  have hts0 := atoms_spec (ws := Cond.code yJ0_checkIndex_df160 cJ0_checkIndex_df160 2 none :: sk_B) B.pre
  have hts : ∀ w ∈ sk_B, w.before _ s = true := fun w h => hts0 w (List.mem_cons_of_mem _ h)
  have hown : s.vm.findClass "java/lang/String" = some m.cls := findClass_of_methodNamed B.named
  obtain ⟨d0, d1, d2, d5, d8, d9⟩ := sk_dK2
  obtain ⟨ls, he, hl⟩ := sk_start0 (m := m) (as := [.int i, .int n]) (nL := 2) (Nat.le_of_ble_eq_true rfl) (by simp [Value.category])
  rw [he]
  have hl : lv_has ls 2 [(0, .int i), (1, .int n)] := hl
  have main : ∀ fv : Value, fv.category = 1 → va_Z "jdk/internal/util/Preconditions" "SIOOBE_FORMATTER" "Ljava/util/function/BiFunction;" fv (fun q : Nat => H0.size ≤ q) s H0 → W p l e (headSpec (Cond.code yJ0_checkIndex_df160 cJ0_checkIndex_df160 2 none :: sk_B) (sk_rm 2)).room s m (List.toArray [.int i, .int n]) below meth c s.heap [] 0 0 (MQ below sk_QV (List.toArray [.int i, .int n]) s 0 0 (fun _ => False)) (F0 m 0 ls []) := by
    intro fv hfv hZ
    refine lv_iload_n hx hb d0 rfl (lv_at hl 0 rfl) ?_
    refine lv_iload_n hx hb d1 rfl (lv_at hl 1 rfl) ?_
    refine va_gets (C := "jdk/internal/util/Preconditions") hx hb (va_Z.kept hZ hlow) va_S.rf hown (hts _ (sk_kx _ (by decide +kernel))) (fun x hx => hx) d2 ?_
    refine W.callR (W.runS (As := [.int i, .int n, fv]) (rest := []) ⟨hx, hb, hml, hown, hts⟩ (sk_c1 l H0 i n fv hfv h1 h2) (va_cwS 3 hts (sk_goodL (ws := [.methodLink "java/lang/String" 1059 yJ3_checkIndex_8e157, .static yJ3_checkIndex_8e157, .initialized "jdk/internal/util/Preconditions"]) (fun w hw => sk_kx w (by simp only [List.mem_cons, List.not_mem_nil, or_false] at hw; rcases hw with rfl | rfl | rfl <;> decide +kernel)) (sk_kw _ (List.mem_of_getElem? (i := 0) rfl))) rfl rfl rfl (by decide +kernel) ⟨by decide, by decide⟩) ⟨sk_P0_blind, fun U hU hW => ⟨rfl, fun q h1 h2 => by rw [hU]; exact hlow q h1 h2, hS2.warm hW, trivial⟩⟩ rfl rfl hl.1 rfl (lv_room (by decide)) d5 ⟨by decide, by decide⟩) ?_
    refine W.eq (g2 := F0 m 8 ls [.int i]) rfl ?_
    refine lv_pop hx hb d8 rfl ?_
    exact W.vret hx hb hr (fun t ht _ => ⟨rfl, ht⟩) (fun _ h => by cases h) d9
  obtain ⟨_, _, -, -, -, hq⟩ := hS2
  rcases hq with h | ⟨t, h⟩
  · exact main .null rfl h
  · exact main (.ref t) rfl h
theorem sk_KBb : ∀ k : Nat, k < 6 → ((sk_KB k &&& 255).toUInt32.toUInt16.toUInt32.toInt32 = sk_KB k ∧ narrow .char (.int (sk_KB k)) = .int (sk_KB k)) := by decide +kernel
theorem sk_c3 (l : Launch) (H0 : Heap) (k : Nat) (hk : k < 6) (a : Nat) : Met l yJ1_charAt_3b067 (.code yJ1_charAt_3b067 cJ1_charAt_3b067 2 (some .char) :: sk_B) (sk_rm 3) (fun v U => sk_P0 H0 (fun _ => True) [.ref a, .int (nI k)] v U ∧ va_T .byte a 6 (fun j => .int (sk_KB j)) (fun q : Nat => H0.size ≤ q) U H0) (QcRead (sk_KB k)) 0 0 (fun _ => False) := by
  refine Met.ofW (cc := cJ1_charAt_3b067) (maxL := 2) (ret := some .char) (by decide +kernel) rfl ?_
  intro p e s m args below meth c s₁ B hml hP
  obtain ⟨⟨rfl, hlow, hS2, -⟩, hT0⟩ := hP
  have hx := B.exec
  have hb := B.bytes
  have hr := B.returns
  have hlocks := B.notSynchronized
  have hts0 := atoms_spec (ws := Cond.code yJ1_charAt_3b067 cJ1_charAt_3b067 2 (some .char) :: sk_B) B.pre
  have hts : ∀ w ∈ sk_B, w.before _ s = true := fun w h => hts0 w (List.mem_cons_of_mem _ h)
  have hown : s.vm.findClass "java/lang/StringLatin1" = some m.cls := findClass_of_methodNamed B.named
  have hT := va_T.kept hT0 hlow
  obtain ⟨d0, d1, d2, d3, d6, d7, d8, d9, d12, d13, d14⟩ := sk_dK3
  obtain ⟨ls, he, hl⟩ := sk_start0 (m := m) (as := [.ref a, .int (nI k)]) (nL := 2) (Nat.le_of_ble_eq_true rfl) (by simp [Value.category])
  rw [he]
  have hl : lv_has ls 2 [(0, .ref a), (1, .int (nI k))] := hl
  have h31 : k < 2 ^ 31 := by omega
  refine lv_iload_n hx hb d0 rfl (lv_at hl 1 rfl) ?_
  refine lv_aload_n hx hb d1 rfl (lv_at hl 0 rfl) ?_
  refine va_tlen hx hb hT va_S.rf (v := nI 6) rfl d2 ?_
  refine sk_callV0 (W.runS (As := [.int (nI k), .int (nI 6)]) (rest := []) ⟨hx, hb, hml, hown, hts⟩ (sk_c2 l H0 (nI k) (nI 6) (nI_pos h31) (nI_lt hk (by decide))) (va_cwS 2 hts (sk_goodL (ws := [.methodLink "java/lang/StringLatin1" 9 yJ0_checkIndex_df160, .static yJ0_checkIndex_df160, .initialized "java/lang/String"]) (fun w hw => sk_kx w (by simp only [List.mem_cons, List.not_mem_nil, or_false] at hw; rcases hw with rfl | rfl | rfl <;> decide +kernel)) (sk_kw _ (List.mem_of_getElem? (i := 1) rfl))) rfl rfl rfl (by decide +kernel) ⟨by decide, by decide⟩) ⟨sk_P0_blind, fun U hU hW => ⟨rfl, fun q h1 h2 => by rw [hU]; exact hlow q h1 h2, hS2.warm hW, trivial⟩⟩ rfl rfl hl.1 rfl (lv_room (by decide)) d3 ⟨by decide, by decide⟩) ?_
  refine W.eq (g2 := F0 m 6 ls []) rfl ?_
  refine lv_aload_n hx hb d6 rfl (lv_at hl 0 rfl) ?_
  refine lv_iload_n hx hb d7 rfl (lv_at hl 1 rfl) ?_
  refine va_tb hx hb hT va_S.rf (vp_in_nI hk (by decide)) (v := .int (sk_KB k)) (by rw [nI_clamp h31]) d8 ?_
  refine lv_sipush (v := 255) hx hb d9 (by decide) ?_
  refine lv_iand hx hb d12 ?_
  refine lv_i2c (v := sk_KB k) hx hb d13 (sk_KBb k hk).1 ?_
  exact W.zret hx hb hr (sk_KBb k hk).2 (fun t ht _ => ⟨rfl, ht⟩) (fun _ h => by cases h) d14
theorem sk_c4 (l : Launch) (H0 : Heap) (a : Nat) : Met l yJ0_isLatin1_aae02 (.code yJ0_isLatin1_aae02 cJ0_isLatin1_aae02 1 (some .boolean) :: sk_B) (sk_rm 1) (fun v U => sk_P0 H0 (fun _ => True) [.ref a] v U ∧ va_OF "java/lang/String" "coder" "B" (.int 0) a (fun q : Nat => H0.size ≤ q) U H0) (QcRead 1) 0 0 (fun _ => False) := by
  refine Met.ofW (cc := cJ0_isLatin1_aae02) (maxL := 1) (ret := some .boolean) (by decide +kernel) rfl ?_
  intro p e s m args below meth c s₁ B hml hP
  obtain ⟨⟨rfl, hlow, hS2, -⟩, hF0⟩ := hP
  have hx := B.exec
  have hb := B.bytes
  have hr := B.returns
  have hlocks := B.notSynchronized
  have hts0 := atoms_spec (ws := Cond.code yJ0_isLatin1_aae02 cJ0_isLatin1_aae02 1 (some .boolean) :: sk_B) B.pre
  have hts : ∀ w ∈ sk_B, w.before _ s = true := fun w h => hts0 w (List.mem_cons_of_mem _ h)
  have hown : s.vm.findClass "java/lang/String" = some m.cls := findClass_of_methodNamed B.named
  obtain ⟨_, _, -, -, hZ, -⟩ := hS2
  obtain ⟨d0, d3, d6, d7, d10, d13, d14, d18⟩ := sk_dK4
  obtain ⟨ls, he, hl⟩ := sk_start0 (m := m) (as := [.ref a]) (nL := 1) (Nat.le_of_ble_eq_true rfl) (by simp [Value.category])
  rw [he]
  have hl : lv_has ls 1 [(0, .ref a)] := hl
  refine va_gets (C := "java/lang/String") hx hb (va_Z.kept hZ hlow) va_S.rf hown (hts _ (sk_kx _ (by decide +kernel))) (fun x hx => hx) d0 ?_
  refine lv_if_eq (tgt := 17) hx hb d3 (by decide) (fun q => absurd q (by decide)) (fun _ => ?_)
  refine lv_aload_n hx hb d6 rfl (lv_at hl 0 rfl) ?_
  refine vk_getf hx hb (va_OF.kept hF0 hlow) va_S.rf hown (hts _ (sk_kx _ (by decide +kernel))) (fun x hx => hx) d7 ?_
  refine lv_if_ne (tgt := 17) hx hb d10 (by decide) (fun q => absurd rfl q) (fun _ => ?_)
  refine lv_iconst (v := 1) hx hb d13 (by decide) ?_
  refine lv_goto (tgt := 18) hx hb d14 (by decide) ?_
  exact W.zret hx hb hr rfl (fun t ht _ => ⟨rfl, ht⟩) (fun _ h => by cases h) d18
theorem sk_blind2 {H0 : Heap} {av : List Value} {P : Prop} {F : State → Prop} (hF : ∀ u U : State, u.vm.Alike U.vm → F u → F U) : FrameBlind (fun v U => sk_P0 H0 (fun _ => P) av v U ∧ F U) := by
  rintro v U g mk ⟨h1, h2⟩
  exact ⟨sk_P0_blind v U g mk h1, hF U (U.calling g mk v) (Vm.Alike.refl U.vm) h2⟩
theorem sk_c5 (l : Launch) (H0 : Heap) (k : Nat) (hk : k < 6) (a v : Nat) : Met l yJ0_charAt_5068e (.code yJ0_charAt_5068e cJ0_charAt_5068e 2 (some .char) :: sk_B) (sk_rm 4) (fun w U => sk_P0 H0 (fun _ => True) [.ref a, .int (nI k)] w U ∧ (va_O "java/lang/String" a (fun q : Nat => H0.size ≤ q) U H0 ∧ va_OF "java/lang/String" "coder" "B" (.int 0) a (fun q : Nat => H0.size ≤ q) U H0 ∧ va_OF "java/lang/String" "value" "[B" (.ref v) a (fun q : Nat => H0.size ≤ q) U H0 ∧ va_T .byte v 6 (fun j => .int (sk_KB j)) (fun q : Nat => H0.size ≤ q) U H0)) (QcRead (sk_KB k)) 0 0 (fun _ => False) := by
  refine Met.ofW (cc := cJ0_charAt_5068e) (maxL := 2) (ret := some .char) (by decide +kernel) rfl ?_
  intro p e s m args below meth c s₁ B hml hP
  obtain ⟨⟨rfl, hlow, hS2, -⟩, hO, hFc, hFv, hT⟩ := hP
  have hx := B.exec
  have hb := B.bytes
  have hr := B.returns
  have hlocks := B.notSynchronized
  have hts0 := atoms_spec (ws := Cond.code yJ0_charAt_5068e cJ0_charAt_5068e 2 (some .char) :: sk_B) B.pre
  have hts : ∀ w ∈ sk_B, w.before _ s = true := fun w h => hts0 w (List.mem_cons_of_mem _ h)
  have hown : s.vm.findClass "java/lang/String" = some m.cls := findClass_of_methodNamed B.named
  obtain ⟨d0, d1, d4, d7, d8, d11, d12, d15⟩ := sk_dK5
  obtain ⟨ls, he, hl⟩ := sk_start0 (m := m) (as := [.ref a, .int (nI k)]) (nL := 2) (Nat.le_of_ble_eq_true rfl) (by simp [Value.category])
  rw [he]
  have hl : lv_has ls 2 [(0, .ref a), (1, .int (nI k))] := hl
  have hrecv : ∃ cell : Cell, s.heap[a]? = some cell ∧ cell.vm.isStatics = false ∧ s.vm.findClass "java/lang/String" = some cell.cls := by
    obtain ⟨cell, h1, h2, h3, -⟩ := va_O.kept hO hlow
    exact ⟨cell, h1, h2, h3⟩
  refine lv_aload_n hx hb d0 rfl (lv_at hl 0 rfl) ?_
  refine W.callR (W.runV (As := []) (b := a) (rest := []) ⟨hx, hb, hml, hown, hts⟩ (sk_c4 l H0 a) (cwV (C := "java/lang/String") 0 hts (sk_goodL (ws := [.methodLink "java/lang/String" 492 yJ0_isLatin1_aae02, .instanceMethod yJ0_isLatin1_aae02, .selects "java/lang/String" yJ0_isLatin1_aae02 yJ0_isLatin1_aae02, .initialized "java/lang/String"]) (fun w hw => sk_kx w (by simp only [List.mem_cons, List.not_mem_nil, or_false] at hw; rcases hw with rfl | rfl | rfl | rfl <;> decide +kernel)) (sk_kw _ (List.mem_of_getElem? (i := 3) rfl))) rfl rfl rfl (by decide +kernel) ⟨by decide, by decide⟩) ⟨sk_blind2 (fun u U h h2 => va_OF.moved h h2), hrecv, fun U hU hW => ⟨⟨rfl, fun q h1 h2 => by rw [hU]; exact hlow q h1 h2, hS2.warm hW, trivial⟩, va_OF.moved hW.alike hFc⟩⟩ rfl rfl hl.1 rfl (lv_room (by decide)) d1 ⟨by decide, by decide⟩) ?_
  refine W.eq (g2 := F0 m 4 ls [.int 1]) rfl ?_
  refine lv_if_eq (tgt := 16) hx hb d4 (by decide) (fun q => absurd q (by decide)) (fun _ => ?_)
  refine lv_aload_n hx hb d7 rfl (lv_at hl 0 rfl) ?_
  refine vk_getf hx hb (va_OF.kept hFv hlow) va_S.rf hown (hts _ (sk_kx _ (by decide +kernel))) (fun x hx => hx) d8 ?_
  refine lv_iload_n hx hb d11 rfl (lv_at hl 1 rfl) ?_
  refine W.callR (W.runS (As := [.ref v, .int (nI k)]) (rest := []) ⟨hx, hb, hml, hown, hts⟩ (sk_c3 l H0 k hk v) (va_cwS 2 hts (sk_goodL (ws := [.methodLink "java/lang/String" 495 yJ1_charAt_3b067, .static yJ1_charAt_3b067, .initialized "java/lang/StringLatin1"]) (fun w hw => sk_kx w (by simp only [List.mem_cons, List.not_mem_nil, or_false] at hw; rcases hw with rfl | rfl | rfl <;> decide +kernel)) (sk_kw _ (List.mem_of_getElem? (i := 2) rfl))) rfl rfl rfl (by decide +kernel) ⟨by decide, by decide⟩) ⟨sk_blind2 (fun u U h h2 => va_T.moved h h2), fun U hU hW => ⟨⟨rfl, fun q h1 h2 => by rw [hU]; exact hlow q h1 h2, hS2.warm hW, trivial⟩, va_T.moved hW.alike hT⟩⟩ rfl rfl hl.1 rfl (lv_room (by decide)) d12 ⟨by decide, by decide⟩) ?_
  refine W.eq (g2 := F0 m 15 ls [.int (sk_KB k)]) rfl ?_
  exact W.zret hx hb hr (sk_KBb k hk).2 (fun t ht _ => ⟨rfl, ht⟩) (fun _ h => by cases h) d15
set_option maxHeartbeats 4000000 in
theorem sk_loopK {p : Program} {l : Launch} {e : Env} {R : Room} {s : State} {m : MethodId} {args : Array Value} {below : List Frame} {meth : Method} {c : Code} {Q : State → Prop} {H0 : Heap} (hx : p.tables.exec = Jvm.exec) (hb : c.code = cX12_kindOf) (hml : c.maxLocals = 2) (hown : s.vm.findClass "SkylineNesterModel" = some m.cls) (hts : ∀ w ∈ sk_B, w.before args s = true) (hlow : sk_Low H0 s) (hS2 : sk_S2 H0 s) (hR : 5 ≤ R.frames ∧ 400 ≤ R.locals) {x : Int32}
    (hret : ∀ (pc : Nat) (ls : Array Slot) (v : Int32), v = sk_kof 6 0 x → decode cX12_kindOf pc = .ok (.ireturn, 1) → W p l e R s m args below meth c s.heap [] 0 0 Q (F0 m pc ls [.int v])) :
    ∀ (n k : Nat) (ls : Array Slot), n + k = 6 → sk_kof n k x = sk_kof 6 0 x → lv_has ls 2 [(0, .int x), (1, .int (nI k))] → W p l e R s m args below meth c s.heap [] 0 0 Q (F0 m 2 ls []) := by
  obtain ⟨d0, d1, d2, d3, d5, d8, d10, d11, d14, d15, d18, d19, d20, d23, d26, d27⟩ := sk_dK6
  intro n
  induction n with
  | zero =>
    intro k ls hn hk hl
    have hk6 : k = 6 := by omega
    subst hk6
    refine lv_iload_n hx hb d2 rfl (lv_at hl 1 rfl) ?_
    refine lv_bipush (v := 6) hx hb d3 (by decide) ?_
    refine lv_icmp_ge (tgt := 26) hx hb d5 (by decide) (fun _ => ?_) (fun hc => absurd (by decide : (6 : Int32) ≤ nI 6) hc)
    refine lv_iconst (v := -1) hx hb d26 (by decide) ?_
    exact hret _ _ _ hk d27
  | succ n ih =>
    intro k ls hn hk hl
    have hk6 : k < 6 := by omega
    refine lv_iload_n hx hb d2 rfl (lv_at hl 1 rfl) ?_
    refine lv_bipush (v := 6) hx hb d3 (by decide) ?_
    refine lv_icmp_ge (tgt := 26) hx hb d5 (by decide) (fun hc => absurd hc (nI_ge (a := k) (b := 6) hk6 (by decide))) (fun _ => ?_)
    obtain ⟨adK, adV, hS, hRf, hZ, hq⟩ := id hS2
    obtain ⟨hO, hFc, hFv, hT⟩ := hS.1 0 (by decide)
    refine va_ldcS hx hb hown hRf d8 ?_
    refine lv_iload_n hx hb d10 rfl (lv_at hl 1 rfl) ?_
    have hrecv : ∃ cell : Cell, s.heap[adK 0]? = some cell ∧ cell.vm.isStatics = false ∧ s.vm.findClass "java/lang/String" = some cell.cls := by
      obtain ⟨cell, h1, h2, h3, -⟩ := va_O.kept hO hlow
      exact ⟨cell, h1, h2, h3⟩
    refine W.callR (W.runV (As := [.int (nI k)]) (b := adK 0) (rest := []) ⟨hx, hb, hml, hown, hts⟩ (sk_c5 l H0 k hk6 (adK 0) (adV 0)) (cwV (C := "java/lang/String") 1 hts (sk_goodL (ws := [.methodLink "SkylineNesterModel" 107 yJ0_charAt_5068e, .instanceMethod yJ0_charAt_5068e, .selects "java/lang/String" yJ0_charAt_5068e yJ0_charAt_5068e, .initialized "java/lang/String"]) (fun w hw => sk_kx w (by simp only [List.mem_cons, List.not_mem_nil, or_false] at hw; rcases hw with rfl | rfl | rfl | rfl <;> decide +kernel)) (sk_kw _ (List.mem_of_getElem? (i := 4) rfl))) rfl rfl rfl (by decide +kernel) ⟨hR.1, by show 8 + (2 + 11) + 80 * 4 ≤ R.locals; have := hR.2; omega⟩) ⟨sk_blind2 (fun u U h h2 => ⟨va_O.moved h h2.1, va_OF.moved h h2.2.1, va_OF.moved h h2.2.2.1, va_T.moved h h2.2.2.2⟩), hrecv, fun U hU hW => ⟨⟨rfl, fun q h1 h2 => by rw [hU]; exact hlow q h1 h2, hS2.warm hW, trivial⟩, va_O.moved hW.alike hO, va_OF.moved hW.alike hFc, va_OF.moved hW.alike hFv, va_T.moved hW.alike hT⟩⟩ rfl rfl hl.1 rfl (lv_room (by decide)) d11 ⟨Nat.zero_le _, Nat.zero_le _⟩) ?_
    refine W.eq (g2 := F0 m 14 ls [.int (sk_KB k)]) rfl ?_
    refine lv_iload_n hx hb d14 rfl (lv_at hl 0 rfl) ?_
    unfold sk_kof at hk
    refine lv_icmp_ne (tgt := 20) hx hb d15 (by decide) (fun hc => ?_) (fun hc => ?_)
    · rw [if_neg hc] at hk
      refine lv_iinc (v := nI k + 1) (lv' := [(1, .int (nI k + 1)), (0, .int x)]) hx hb d20 hl (k := 1) rfl rfl (by decide) rfl (fun ls hl => ?_)
      refine lv_goto (tgt := 2) hx hb d23 (by decide) ?_
      rw [nI_1] at hl
      exact ih (k + 1) ls (by omega) hk (lv_sub hl [1, 0] rfl)
    · rw [if_pos hc] at hk
      refine lv_iload_n hx hb d18 rfl (lv_at hl 1 rfl) ?_
      exact hret _ _ _ hk d19
theorem sk_prim2_met {l : Launch} {nest : List Jvm.Cond} {Sx : State → Prop} {D : va_G} {cA : Nat → ClassId} {b : Nat} {X : Nat × (Nat → Int32)} {H0 : Heap} (hSx : ∀ s : State, Sx s → sk_S2 H0 s) (d : Nat) (hd6 : 6 ≤ d) (as : List Value) (w : sk_W) (r : sk_R) (h : sk_prim2 as w = some r) : sk_Met l nest Sx D cA b X H0 (sk_inf 2).1 (sk_inf 2).2.1 (sk_inf 2).2.2.1 (sk_inf 2).2.2.2 (d + 1) as w r.1 r.2 ∧ w.length ≤ r.2.length ∧ sk_sz w ≤ sk_sz r.2 := by
  unfold sk_prim2 at h
  split at h
  · next x =>
    cases h
    refine ⟨?_, Nat.le_refl _, Nat.le_refl _⟩
    refine Met.ofW (cc := cX12_kindOf) (maxL := 2) (ret := some .int) (by decide +kernel) rfl ?_
    intro p e s m args below meth c s₁ B hml hP
    obtain ⟨rfl, hR, hsize, hT⟩ := hP
    have hx := B.exec
    have hb := B.bytes
    have hr := B.returns
    have hts0 := atoms_spec (ws := Cond.code (sk_inf 2).1 (sk_inf 2).2.1 (sk_inf 2).2.2.1 (sk_inf 2).2.2.2 :: sk_B) B.pre
    have hts : ∀ w ∈ sk_B, w.before _ s = true := fun w h => hts0 w (List.mem_cons_of_mem _ h)
    have hown : s.vm.findClass "SkylineNesterModel" = some m.cls := findClass_of_methodNamed B.named
    have hlocks := B.notSynchronized
    have hS2 := hSx s hT.2.2.2.2.2
    obtain ⟨lsA, he, hlv, -⟩ := sk_entry (b := b) (n0 := H0.size) (m := m) (as := [.int x]) (nL := 2) (Nat.le_of_ble_eq_true rfl) (by simp [Value.category])
    rw [he]
    have hl : lv_has lsA 2 [(0, .int x)] := hlv
    have hlow : sk_Low H0 s := by
      obtain ⟨t, -, -, -, h4⟩ := hR
      exact fun q h1 _ => h4 q h1
    show W p l e _ s m _ below meth c s.heap [] 0 0 (MQ below _ _ s (w.length - w.length) (sk_sz w - sk_sz w) _) _
    rw [Nat.sub_self, Nat.sub_self]
    obtain ⟨d0, d1, -⟩ := sk_dK6
    refine lv_iconst (v := 0) hx hb d0 (by decide) ?_
    refine lv_istore_n (lv' := [(1, .int 0), (0, .int x)]) hx hb d1 rfl hl (by decide) rfl (fun ls hl => ?_)
    refine sk_loopK (H0 := H0) (x := x) hx hb hml hown hts hlow hS2 ⟨by show 5 ≤ d + 1; omega, by show 400 ≤ 80 * (d + 1); omega⟩ (fun pc ls v hv hd => ?_) 6 0 ls rfl rfl (lv_sub hl [1, 0] rfl)
    subst hv
    exact W.iret hx hb hr (fun t ht _ => ⟨rfl, by rw [ht]; exact hR⟩) (fun _ h => by cases h) hd
  · cases h
end
section
/-! ===== the law from its entry: the claim, out of one run of the abstract machine ===== -/
def sk_prims : Nat → Option (List Value → sk_W → Option sk_R)
  | 1 => some sk_prim1
  | 2 => some sk_prim2
  | _ => none
noncomputable abbrev sk_c (d : Nat) : Nat → List Value → sk_W → Option sk_R := sk_cal sk_prims sk_inf sk_tabs d
def sk_Sx (H0 : Heap) (s : State) : Prop := sk_S1 H0 s ∧ sk_S2 H0 s ∧ (Jvm.Cond.arrayOver (.array .int)).before #[] s = true
theorem sk_Sx_ok (H0 : Heap) : sk_SxOK (sk_Sx H0) := fun s U hW h => ⟨h.1.warm hW, h.2.1.warm hW, Jvm.Stand.arrayOver_alikeB hW.alike h.2.2⟩
theorem sk_c_OK {l : Launch} {D : va_G} {cA : Nat → ClassId} {b : Nat} {X : Nat × (Nat → Int32)} {H0 : Heap} (d : Nat) : sk_calOK l sk_nest (sk_Sx H0) D cA b X H0 sk_inf d (sk_c d) := by
  refine sk_cal_OK sk_nest_ok (sk_Sx_ok H0) (sk_multi_rule (fun s h => h.2.2)) (fun mi _ => sk_tabs_ok mi) ?_ d
  intro mi f hf d as w r hd h
  match mi, hf with
  | 0, hf => cases hf
  | 1, hf => cases hf; exact sk_prim1_met (fun s h => h.1) d as w r h
  | 2, hf => cases hf; exact sk_prim2_met (fun s h => h.2.1) d hd as w r h
  | mi + 3, hf => cases hf
theorem sk_tbl_of {w : Jvm.Cond} (i : Nat) (h : lw_tbl[i]? = some w) : w ∈ lw_tbl := List.mem_of_getElem? h
theorem sk_st1 : (Jvm.Cond.laysStatic "SkylineNester" "KIND_ABOVE" "[I") ∈ lw_tbl ∧ (Jvm.Cond.laysStatic "java/lang/String" "COMPACT_STRINGS" "Z") ∈ lw_tbl ∧ (Jvm.Cond.laysStatic "jdk/internal/util/Preconditions" "SIOOBE_FORMATTER" "Ljava/util/function/BiFunction;") ∈ lw_tbl ∧ (Jvm.Cond.stringRef "SkylineNesterModel" 105 "ptgcsh") ∈ lw_tbl ∧ (Jvm.Cond.initialized "SkylineNester") ∈ lw_tbl ∧ (Jvm.Cond.initialized "java/lang/String") ∈ lw_tbl ∧ (Jvm.Cond.initialized "jdk/internal/util/Preconditions") ∈ lw_tbl ∧ (Jvm.Cond.arrayOver (.object RX3)) ∈ lw_tbl ∧ (Jvm.Cond.arrayOver (.object RX5)) ∈ lw_tbl ∧ (Jvm.Cond.arrayOver (.object RX7)) ∈ lw_tbl ∧ (Jvm.Cond.arrayOver (.array .int)) ∈ lw_tbl ∧ (Jvm.Cond.arrayClass .int) ∈ lw_tbl := by
  (repeat' apply And.intro) <;> decide +kernel
theorem sk_whole {p : Program} {e : Env} {s : State} {m : MethodId} {below : List Frame} {meth : Method} {c : Code} (l : Launch) {b L : Nat} {xs : Nat → Int32} (C0 : lw_At p s m meth c b L xs) {n : Nat} {w1 : sk_W} (hrun : sk_run (sk_c 20) sk_fields true sk_t244 n 0 (sk_locs [.ref 0] 4) [] [.inl (L, xs)] = some (some (.int 1), w1)) (hw1 : w1.length ≤ 600001 ∧ sk_sz w1 ≤ 7302250 + L) : W p l e room_1 s m #[Value.ref b] below meth c s.heap [] 0 0 (lw_Z below #[Value.ref b] s) (entryFrame m ([Value.ref b] : List Value).toArray 4) := by
  obtain ⟨hx, hb, hr, hml, hown, hts, hX, hbl, hlocks, hgv⟩ := id C0
  have hA : ∀ a : Nat, a < s.heap.size → ¬ (s.heap.size ≤ a) := fun a h => Nat.not_le.mpr h
  have hB : ∀ w ∈ sk_B, w.before #[Value.ref b] s = true := fun w hw => hts w (List.mem_filter.mp hw).1
  obtain ⟨t1, t2, t3, t4, t5, t6, t7, t8, t9, t10, t11, t12⟩ := sk_st1
  have hs := flat_of_before _ hgv
  -- kinds of objects
  have hcl : ∀ k : Nat, ∃ q : ClassId × (Nat → Nat), k < 12 → u_Kn s (sk_q k).1 (sk_q k).2.1 (sk_q k).2.2 q.1 q.2 := by
    intro k
    by_cases hk : k < 12
    · obtain ⟨-, h2, -, -, h5, -⟩ := sk_cls_all k hk
      obtain ⟨cC, iS, h⟩ := u_known hB h2 (hB _ h5)
      exact ⟨(cC, iS), fun _ => h⟩
    · exact ⟨(0, fun _ => 0), fun h => absurd h hk⟩
  obtain ⟨f, hf⟩ := Classical.axiomOfChoice hcl
  -- arrays
  have hobj : ∀ C : String, Jvm.Cond.arrayOver (.object C) ∈ lw_tbl → ∃ cA : ClassId, ArrOfT s cA (.object C) ∧ va_RA s cA (.object C) := by
    intro C hC
    obtain ⟨comp, c, k, h1, h2, h3, h4, h5⟩ := Cond.arrayOver_spec (hts _ hC)
    exact ⟨c, fun N z => ⟨(fun k h => by cases h), k, h3, comp, h4⟩, k, comp, h3, h4, h1, h5⟩
  obtain ⟨c0, hc0⟩ := hobj _ t8
  obtain ⟨c1, hc1⟩ := hobj _ t9
  obtain ⟨c2, hc2⟩ := hobj _ t10
  obtain ⟨c3, hc3⟩ : ∃ cA : ClassId, ArrOfT s cA (.array .int) ∧ va_RA s cA (.array .int) := by
    obtain ⟨comp, c, k, h1, h2, h3, h4, h5⟩ := Jvm.Stand.arrayOver_specB (hts _ t11)
    exact ⟨c, fun N z => ⟨(fun k h => by cases h), k, h3, comp, h4⟩, h5⟩
  obtain ⟨c4, hc4⟩ : ∃ cA : ClassId, ArrOfT s cA .int ∧ va_RA s cA .int := by
    obtain ⟨c, k, comp, h1, h2, h3⟩ := Cond.arrayClass_spec (hts _ t12)
    exact ⟨c, fun N z => ⟨(fun k h => by cases h), k, h2, comp, h3⟩, h1⟩
  have hK : va_K (fun k => (f k).1, fun k => (f k).2) vwCl (sk_tys fun t => match t with | 0 => c0 | 1 => c1 | 2 => c2 | 3 => c3 | _ => c4) s := by
    refine ⟨fun k q hq => ?_, fun k q hq => ?_⟩
    · have hk : k < 12 := (List.getElem?_eq_some_iff.mp hq).1
      have h1 := (sk_cls_all k hk).1
      cases hq.symm.trans h1
      exact hf k hk
    · have hk : k < 5 := (List.getElem?_eq_some_iff.mp hq).1
      match k, hk, hq with
      | 0, _, hq => cases hq; exact hc0
      | 1, _, hq => cases hq; exact hc1
      | 2, _, hq => cases hq; exact hc2
      | 3, _, hq => cases hq; exact hc3
      | 4, _, hq => cases hq; exact hc4
  generalize hD : ((fun k => (f k).1, fun k => (f k).2) : va_G) = D at hK
  generalize hcA : (fun t : Nat => (match t with | 0 => c0 | 1 => c1 | 2 => c2 | 3 => c3 | _ => c4 : ClassId)) = cA at hK
  -- the statics
  have hS1 : sk_S1 s.heap s := by
    obtain ⟨t, ht, hT⟩ := va_Tof (args := #[Value.ref b]) (s := s) (tm := .static "SkylineNester" "KIND_ABOVE" "[I") (ty := .int) (N := 6) (f := fun j => .int (sk_KA j)) (A := fun q : Nat => s.heap.size ≤ q) (by decide) (hs _ (by decide +kernel)) (va_eqt (hs _ (by decide +kernel))) (fun j hj => by
      match j, hj with
      | 0, _ => exact va_eqt (hs _ (by decide +kernel))
      | 1, _ => exact va_eqt (hs _ (by decide +kernel))
      | 2, _ => exact va_eqt (hs _ (by decide +kernel))
      | 3, _ => exact va_eqt (hs _ (by decide +kernel))
      | 4, _ => exact va_eqt (hs _ (by decide +kernel))
      | 5, _ => exact va_eqt (hs _ (by decide +kernel))) hA
    exact ⟨t, va_Zref (hts _ t1) (hts _ t5) ht hA, hT⟩
  have hS2 : sk_S2 s.heap s := by
    obtain ⟨adK, adV, h1, h2⟩ := vk_Sof (args := #[Value.ref b]) (s := s) (N := 1) (tm := fun _ => .string "SkylineNesterModel" 105) (len := [6]) (byt := [[112, 116, 103, 99, 115, 104]]) (A := fun q : Nat => s.heap.size ≤ q) (fun i hi => by
        obtain rfl : i = 0 := by omega
        decide) (fun i hi => hs _ (by decide +kernel)) (fun i hi => hs _ (by decide +kernel)) (fun i hi => hs _ (by decide +kernel)) (fun i hi => by
        obtain rfl : i = 0 := by omega
        exact hs _ (by decide +kernel)) (fun i hi j hj => by
        obtain rfl : i = 0 := by omega
        have hj : j < 6 := hj
        match j, hj with
        | 0, _ => exact hs _ (by decide +kernel)
        | 1, _ => exact hs _ (by decide +kernel)
        | 2, _ => exact hs _ (by decide +kernel)
        | 3, _ => exact hs _ (by decide +kernel)
        | 4, _ => exact hs _ (by decide +kernel)
        | 5, _ => exact hs _ (by decide +kernel)) (fun i j hi hj hij => by omega) hA
    exact ⟨adK, adV, h1, vk_R.of (hts _ t4) (h2 0 (by decide)), va_Zof (hts _ t2) (hts _ t6) (va_eqt (hs _ (by decide +kernel))) hA, va_Zqof (hts _ t3) (hts _ t7) (hs _ (by decide +kernel)) hA⟩
  have hT : sk_Tb sk_nest (sk_Sx s.heap) D cA b (L, xs) s.heap s := by
    refine ⟨hK, fun x hx => ?_, ⟨va_AO.of (hts _ t8), va_AO.of (hts _ t9), va_AO.of (hts _ t10)⟩, hX, hbl, hS1, hS2, hts _ t11⟩
    obtain ⟨o, i, y, h, rfl⟩ := sk_nest_ok x hx
    exact va_Nw.of rfl (hts _ (sk_nest_tbl _ hx))
  have hC : sk_Cx sk_nest (sk_Sx s.heap) D cA b (L, xs) s.heap [.inl (L, xs)] RL meth.name code 4 p s m #[Value.ref b] meth c := ⟨⟨hx, hb, hml, hown, hB⟩, hT, rfl, rfl⟩
  obtain ⟨lsA, he, hlv, hlok⟩ := sk_entry (b := b) (n0 := s.heap.size) (m := m) (as := [.ref 0]) (nL := 4) (Nat.le_of_ble_eq_true rfl) (by simp [Value.category])
  have he : entryFrame m ([Value.ref b] : List Value).toArray 4 = F0 m 0 lsA [] := he
  rw [he]
  have htab : sk_tabOK sk_inf sk_nest RL meth.name code 4 sk_t244 := fun pc i x y z hf => by
    have h1 := List.all_eq_true.mp sk_k244c _ (sk_find_mem sk_t244 pc _ hf)
    unfold sk_chk at h1
    rw [Bool.and_eq_true, decide_eq_true_eq] at h1
    exact ⟨h1.1, (sk_chkI_ok (fun h => absurd h (by decide)) h1.2).1⟩
  have hgood := sk_run_snd (l := l) (e := e) (R := room_1) (below := below) (Q := lw_Z below #[Value.ref b] s) hC sk_nest_ok (sk_Sx_ok s.heap) (sk_multi_rule (fun s h => h.2.2)) (sk_c_OK 20) htab (rz := true) (r := (some (.int 1), w1)) ⟨by decide, by decide, ?_, ?_⟩ ?_ ?_ ?_ n 0 (sk_locs [.ref 0] 4) [] [.inl (L, xs)] hrun
  · have := hgood s.heap [] lsA ⟨[], rfl, fun k q h => by simp [sk_lay] at h, Nat.le_refl _, fun _ _ => rfl⟩ (fun _ h => by cases h) (Nat.le_refl _) (Nat.le_refl _) hlok hlv
    rw [Nat.sub_self, Nat.sub_self] at this
    exact this
  · show w1.length - 1 ≤ 600000
    omega
  · show sk_sz w1 - sk_sz [.inl (L, xs)] ≤ 7302250
    have : sk_sz [(.inl (L, xs) : sk_C)] = L := by simp [sk_sz, sk_csz]
    omega
  · intro pc ls v x y z hf hd hv hz H locs lsA hR1 hL h1 h2 h3 h4
    cases hv
    refine W.base ?_
    refine va_forget (s := s.setDrawn s.drawn) hL ?_
    refine W.widen (k := 600000) (n := 7302250) ?_ ?_ ?_
    · show w1.length - 1 ≤ 600000
      omega
    · show sk_sz w1 - sk_sz [.inl (L, xs)] ≤ 7302250
      have : sk_sz [(.inl (L, xs) : sk_C)] = L := by simp [sk_sz, sk_csz]
      omega
    · exact lw_ret (Drawn.sameBut.refl s.drawn lw_cs) hx hb hr hlocks hd
  · intro pc ls v x y z hf hd hv
    cases hv
  · intro pc ls x y z hf hd hv
    cases hv
end
