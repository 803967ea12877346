section
-- ===== PART A: goes FIRST, ahead of the names: the tables' words, and 'selects' of the private methods out of them =====
/-- a private method of a class that the tables say can be made, by its rows of tables_1 -/
def lw_okq (q : MethodName × Nat) : Prop := (q.1.cls ≠ "java/lang/invoke/MethodHandle" ∧ q.1.cls ≠ "java/lang/invoke/VarHandle") ∧ Cond.instantiable q.1.cls q.2 ∈ tables_1 ∧ Cond.privateMethod q.1 ∈ tables_1 ∧ Cond.instanceMethod q.1 ∈ tables_1
theorem lw_p0 : lw_okq (⟨"LeavesObject", "innThatHolds", "()LLeavesObject$Inn;"⟩, 12) := ⟨⟨by decide +kernel, by decide +kernel⟩, List.mem_of_getElem? (i := 21) (by decide +kernel), List.mem_of_getElem? (i := 310) (by decide +kernel), List.mem_of_getElem? (i := 311) (by decide +kernel)⟩
theorem lw_p1 : lw_okq (⟨"LeavesObject$Inn", "ask", "(LLeavesObject$Cup;II)V"⟩, 8) := ⟨⟨by decide +kernel, by decide +kernel⟩, List.mem_of_getElem? (i := 149) (by decide +kernel), List.mem_of_getElem? (i := 318) (by decide +kernel), List.mem_of_getElem? (i := 319) (by decide +kernel)⟩
theorem lw_p2 : lw_okq (⟨"LeavesObject$Inn", "holds", "(II)Z"⟩, 8) := ⟨⟨by decide +kernel, by decide +kernel⟩, List.mem_of_getElem? (i := 149) (by decide +kernel), List.mem_of_getElem? (i := 328) (by decide +kernel), List.mem_of_getElem? (i := 329) (by decide +kernel)⟩
theorem lw_p3 : lw_okq (⟨"LeavesObject$Inn", "testHolds", "(I)Z"⟩, 8) := ⟨⟨by decide +kernel, by decide +kernel⟩, List.mem_of_getElem? (i := 149) (by decide +kernel), List.mem_of_getElem? (i := 333) (by decide +kernel), List.mem_of_getElem? (i := 334) (by decide +kernel)⟩
theorem lw_p4 : lw_okq (⟨"LeavesObject$Text", "readClause", "(LLeavesObject$Inn;)Z"⟩, 3) := ⟨⟨by decide +kernel, by decide +kernel⟩, List.mem_of_getElem? (i := 130) (by decide +kernel), List.mem_of_getElem? (i := 403) (by decide +kernel), List.mem_of_getElem? (i := 404) (by decide +kernel)⟩
theorem lw_p5 : lw_okq (⟨"LeavesObject$Text", "sign", "()I"⟩, 3) := ⟨⟨by decide +kernel, by decide +kernel⟩, List.mem_of_getElem? (i := 130) (by decide +kernel), List.mem_of_getElem? (i := 407) (by decide +kernel), List.mem_of_getElem? (i := 408) (by decide +kernel)⟩
theorem lw_p6 : lw_okq (⟨"LeavesObject$Text", "readWord", "(Ljava/lang/String;)Z"⟩, 3) := ⟨⟨by decide +kernel, by decide +kernel⟩, List.mem_of_getElem? (i := 130) (by decide +kernel), List.mem_of_getElem? (i := 418) (by decide +kernel), List.mem_of_getElem? (i := 419) (by decide +kernel)⟩
theorem lw_p7 : lw_okq (⟨"LeavesObject$Text", "readNumber", "()I"⟩, 3) := ⟨⟨by decide +kernel, by decide +kernel⟩, List.mem_of_getElem? (i := 130) (by decide +kernel), List.mem_of_getElem? (i := 471) (by decide +kernel), List.mem_of_getElem? (i := 472) (by decide +kernel)⟩
theorem lw_p8 : lw_okq (⟨"LeavesObject$Text", "readEither", "(LLeavesObject$Inn;I)Z"⟩, 3) := ⟨⟨by decide +kernel, by decide +kernel⟩, List.mem_of_getElem? (i := 130) (by decide +kernel), List.mem_of_getElem? (i := 477) (by decide +kernel), List.mem_of_getElem? (i := 478) (by decide +kernel)⟩
theorem lw_p9 : lw_okq (⟨"LeavesObject$Text", "readBoth", "(LLeavesObject$Inn;I)Z"⟩, 3) := ⟨⟨by decide +kernel, by decide +kernel⟩, List.mem_of_getElem? (i := 130) (by decide +kernel), List.mem_of_getElem? (i := 481) (by decide +kernel), List.mem_of_getElem? (i := 482) (by decide +kernel)⟩
theorem lw_p10 : lw_okq (⟨"LeavesObject$Text", "readOne", "(LLeavesObject$Inn;I)Z"⟩, 3) := ⟨⟨by decide +kernel, by decide +kernel⟩, List.mem_of_getElem? (i := 130) (by decide +kernel), List.mem_of_getElem? (i := 485) (by decide +kernel), List.mem_of_getElem? (i := 486) (by decide +kernel)⟩
theorem lw_p11 : lw_okq (⟨"LeavesObject$Text", "readTest", "(LLeavesObject$Inn;)Z"⟩, 3) := ⟨⟨by decide +kernel, by decide +kernel⟩, List.mem_of_getElem? (i := 130) (by decide +kernel), List.mem_of_getElem? (i := 489) (by decide +kernel), List.mem_of_getElem? (i := 490) (by decide +kernel)⟩
theorem lw_p12 : lw_okq (⟨"LeavesObject$Text", "readOneOf", "(Ljava/lang/String;)I"⟩, 3) := ⟨⟨by decide +kernel, by decide +kernel⟩, List.mem_of_getElem? (i := 130) (by decide +kernel), List.mem_of_getElem? (i := 494) (by decide +kernel), List.mem_of_getElem? (i := 495) (by decide +kernel)⟩
theorem lw_p13 : lw_okq (⟨"LeavesObject", "wouldHear", "(LLeavesObject$Cup;I)Z"⟩, 12) := ⟨⟨by decide +kernel, by decide +kernel⟩, List.mem_of_getElem? (i := 21) (by decide +kernel), List.mem_of_getElem? (i := 573) (by decide +kernel), List.mem_of_getElem? (i := 574) (by decide +kernel)⟩
theorem lw_p14 : lw_okq (⟨"LeavesObject", "thatFit", "(LLeavesObject$Cup;IZ)I"⟩, 12) := ⟨⟨by decide +kernel, by decide +kernel⟩, List.mem_of_getElem? (i := 21) (by decide +kernel), List.mem_of_getElem? (i := 669) (by decide +kernel), List.mem_of_getElem? (i := 670) (by decide +kernel)⟩
theorem lw_p15 : lw_okq (⟨"LeavesObject", "fitsSeen", "(LLeavesObject$Cup;IZ)Z"⟩, 12) := ⟨⟨by decide +kernel, by decide +kernel⟩, List.mem_of_getElem? (i := 21) (by decide +kernel), List.mem_of_getElem? (i := 673) (by decide +kernel), List.mem_of_getElem? (i := 674) (by decide +kernel)⟩
def lw_privs_1 : List (MethodName × Nat) := [(⟨"LeavesObject", "innThatHolds", "()LLeavesObject$Inn;"⟩, 12), (⟨"LeavesObject$Inn", "ask", "(LLeavesObject$Cup;II)V"⟩, 8), (⟨"LeavesObject$Inn", "holds", "(II)Z"⟩, 8), (⟨"LeavesObject$Inn", "testHolds", "(I)Z"⟩, 8), (⟨"LeavesObject$Text", "readClause", "(LLeavesObject$Inn;)Z"⟩, 3), (⟨"LeavesObject$Text", "sign", "()I"⟩, 3), (⟨"LeavesObject$Text", "readWord", "(Ljava/lang/String;)Z"⟩, 3), (⟨"LeavesObject$Text", "readNumber", "()I"⟩, 3), (⟨"LeavesObject$Text", "readEither", "(LLeavesObject$Inn;I)Z"⟩, 3), (⟨"LeavesObject$Text", "readBoth", "(LLeavesObject$Inn;I)Z"⟩, 3), (⟨"LeavesObject$Text", "readOne", "(LLeavesObject$Inn;I)Z"⟩, 3), (⟨"LeavesObject$Text", "readTest", "(LLeavesObject$Inn;)Z"⟩, 3), (⟨"LeavesObject$Text", "readOneOf", "(Ljava/lang/String;)I"⟩, 3), (⟨"LeavesObject", "wouldHear", "(LLeavesObject$Cup;I)Z"⟩, 12), (⟨"LeavesObject", "thatFit", "(LLeavesObject$Cup;IZ)I"⟩, 12), (⟨"LeavesObject", "fitsSeen", "(LLeavesObject$Cup;IZ)Z"⟩, 12)]
theorem lw_r1 : ∀ q ∈ lw_privs_1, lw_okq q := List.forall_mem_cons.mpr ⟨lw_p0, List.forall_mem_cons.mpr ⟨lw_p1, List.forall_mem_cons.mpr ⟨lw_p2, List.forall_mem_cons.mpr ⟨lw_p3, List.forall_mem_cons.mpr ⟨lw_p4, List.forall_mem_cons.mpr ⟨lw_p5, List.forall_mem_cons.mpr ⟨lw_p6, List.forall_mem_cons.mpr ⟨lw_p7, List.forall_mem_cons.mpr ⟨lw_p8, List.forall_mem_cons.mpr ⟨lw_p9, List.forall_mem_cons.mpr ⟨lw_p10, List.forall_mem_cons.mpr ⟨lw_p11, List.forall_mem_cons.mpr ⟨lw_p12, List.forall_mem_cons.mpr ⟨lw_p13, List.forall_mem_cons.mpr ⟨lw_p14, List.forall_mem_cons.mpr ⟨lw_p15, fun _ h => absurd h List.not_mem_nil⟩⟩⟩⟩⟩⟩⟩⟩⟩⟩⟩⟩⟩⟩⟩⟩
theorem lw_p16 : lw_okq (⟨"LeavesObject", "tapeAt", "(I)LLeavesObject$Tape;"⟩, 12) := ⟨⟨by decide +kernel, by decide +kernel⟩, List.mem_of_getElem? (i := 21) (by decide +kernel), List.mem_of_getElem? (i := 740) (by decide +kernel), List.mem_of_getElem? (i := 741) (by decide +kernel)⟩
theorem lw_p17 : lw_okq (⟨"LeavesObject$Acts", "runFrom", "(ILLeavesObject$Cup;III)I"⟩, 2) := ⟨⟨by decide +kernel, by decide +kernel⟩, List.mem_of_getElem? (i := 206) (by decide +kernel), List.mem_of_getElem? (i := 769) (by decide +kernel), List.mem_of_getElem? (i := 770) (by decide +kernel)⟩
theorem lw_p18 : lw_okq (⟨"LeavesObject$Acts", "begin", "(I)V"⟩, 2) := ⟨⟨by decide +kernel, by decide +kernel⟩, List.mem_of_getElem? (i := 206) (by decide +kernel), List.mem_of_getElem? (i := 783) (by decide +kernel), List.mem_of_getElem? (i := 784) (by decide +kernel)⟩
theorem lw_p19 : lw_okq (⟨"LeavesObject$Acts", "runAbove", "(ILLeavesObject$Cup;III)I"⟩, 2) := ⟨⟨by decide +kernel, by decide +kernel⟩, List.mem_of_getElem? (i := 206) (by decide +kernel), List.mem_of_getElem? (i := 788) (by decide +kernel), List.mem_of_getElem? (i := 789) (by decide +kernel)⟩
theorem lw_p20 : lw_okq (⟨"LeavesObject$Tape", "cut", "(J)J"⟩, 3) := ⟨⟨by decide +kernel, by decide +kernel⟩, List.mem_of_getElem? (i := 221) (by decide +kernel), List.mem_of_getElem? (i := 832) (by decide +kernel), List.mem_of_getElem? (i := 833) (by decide +kernel)⟩
theorem lw_p21 : lw_okq (⟨"LeavesObjectModel", "in", "(III)Z"⟩, 65) := ⟨⟨by decide +kernel, by decide +kernel⟩, List.mem_of_getElem? (i := 845) (by decide +kernel), List.mem_of_getElem? (i := 1052) (by decide +kernel), List.mem_of_getElem? (i := 1053) (by decide +kernel)⟩
theorem lw_p22 : lw_okq (⟨"LeavesObjectModel", "isShape", "(I)Z"⟩, 65) := ⟨⟨by decide +kernel, by decide +kernel⟩, List.mem_of_getElem? (i := 845) (by decide +kernel), List.mem_of_getElem? (i := 1056) (by decide +kernel), List.mem_of_getElem? (i := 1057) (by decide +kernel)⟩
theorem lw_p23 : lw_okq (⟨"LeavesObjectModel", "isCup", "(I)Z"⟩, 65) := ⟨⟨by decide +kernel, by decide +kernel⟩, List.mem_of_getElem? (i := 845) (by decide +kernel), List.mem_of_getElem? (i := 1064) (by decide +kernel), List.mem_of_getElem? (i := 1065) (by decide +kernel)⟩
theorem lw_p24 : lw_okq (⟨"LeavesObjectModel", "goesText", "(I)Z"⟩, 65) := ⟨⟨by decide +kernel, by decide +kernel⟩, List.mem_of_getElem? (i := 845) (by decide +kernel), List.mem_of_getElem? (i := 1080) (by decide +kernel), List.mem_of_getElem? (i := 1081) (by decide +kernel)⟩
theorem lw_p25 : lw_okq (⟨"LeavesObjectModel", "takesClause", "(I)Z"⟩, 65) := ⟨⟨by decide +kernel, by decide +kernel⟩, List.mem_of_getElem? (i := 845) (by decide +kernel), List.mem_of_getElem? (i := 1084) (by decide +kernel), List.mem_of_getElem? (i := 1085) (by decide +kernel)⟩
theorem lw_p26 : lw_okq (⟨"LeavesObjectModel", "takesHead", "(I)Z"⟩, 65) := ⟨⟨by decide +kernel, by decide +kernel⟩, List.mem_of_getElem? (i := 845) (by decide +kernel), List.mem_of_getElem? (i := 1088) (by decide +kernel), List.mem_of_getElem? (i := 1089) (by decide +kernel)⟩
theorem lw_p27 : lw_okq (⟨"LeavesObjectModel", "peek", "()I"⟩, 65) := ⟨⟨by decide +kernel, by decide +kernel⟩, List.mem_of_getElem? (i := 845) (by decide +kernel), List.mem_of_getElem? (i := 1092) (by decide +kernel), List.mem_of_getElem? (i := 1093) (by decide +kernel)⟩
theorem lw_p28 : lw_okq (⟨"LeavesObjectModel", "takesWord", "(II)Z"⟩, 65) := ⟨⟨by decide +kernel, by decide +kernel⟩, List.mem_of_getElem? (i := 845) (by decide +kernel), List.mem_of_getElem? (i := 1096) (by decide +kernel), List.mem_of_getElem? (i := 1097) (by decide +kernel)⟩
theorem lw_p29 : lw_okq (⟨"LeavesObjectModel", "takes", "(I)Z"⟩, 65) := ⟨⟨by decide +kernel, by decide +kernel⟩, List.mem_of_getElem? (i := 845) (by decide +kernel), List.mem_of_getElem? (i := 1100) (by decide +kernel), List.mem_of_getElem? (i := 1101) (by decide +kernel)⟩
theorem lw_p30 : lw_okq (⟨"LeavesObjectModel", "takesNumber", "()Z"⟩, 65) := ⟨⟨by decide +kernel, by decide +kernel⟩, List.mem_of_getElem? (i := 845) (by decide +kernel), List.mem_of_getElem? (i := 1104) (by decide +kernel), List.mem_of_getElem? (i := 1105) (by decide +kernel)⟩
theorem lw_p31 : lw_okq (⟨"LeavesObjectModel", "isDigit", "()Z"⟩, 65) := ⟨⟨by decide +kernel, by decide +kernel⟩, List.mem_of_getElem? (i := 845) (by decide +kernel), List.mem_of_getElem? (i := 1108) (by decide +kernel), List.mem_of_getElem? (i := 1109) (by decide +kernel)⟩
def lw_privs_2 : List (MethodName × Nat) := [(⟨"LeavesObject", "tapeAt", "(I)LLeavesObject$Tape;"⟩, 12), (⟨"LeavesObject$Acts", "runFrom", "(ILLeavesObject$Cup;III)I"⟩, 2), (⟨"LeavesObject$Acts", "begin", "(I)V"⟩, 2), (⟨"LeavesObject$Acts", "runAbove", "(ILLeavesObject$Cup;III)I"⟩, 2), (⟨"LeavesObject$Tape", "cut", "(J)J"⟩, 3), (⟨"LeavesObjectModel", "in", "(III)Z"⟩, 65), (⟨"LeavesObjectModel", "isShape", "(I)Z"⟩, 65), (⟨"LeavesObjectModel", "isCup", "(I)Z"⟩, 65), (⟨"LeavesObjectModel", "goesText", "(I)Z"⟩, 65), (⟨"LeavesObjectModel", "takesClause", "(I)Z"⟩, 65), (⟨"LeavesObjectModel", "takesHead", "(I)Z"⟩, 65), (⟨"LeavesObjectModel", "peek", "()I"⟩, 65), (⟨"LeavesObjectModel", "takesWord", "(II)Z"⟩, 65), (⟨"LeavesObjectModel", "takes", "(I)Z"⟩, 65), (⟨"LeavesObjectModel", "takesNumber", "()Z"⟩, 65), (⟨"LeavesObjectModel", "isDigit", "()Z"⟩, 65)]
theorem lw_r2 : ∀ q ∈ lw_privs_2, lw_okq q := List.forall_mem_cons.mpr ⟨lw_p16, List.forall_mem_cons.mpr ⟨lw_p17, List.forall_mem_cons.mpr ⟨lw_p18, List.forall_mem_cons.mpr ⟨lw_p19, List.forall_mem_cons.mpr ⟨lw_p20, List.forall_mem_cons.mpr ⟨lw_p21, List.forall_mem_cons.mpr ⟨lw_p22, List.forall_mem_cons.mpr ⟨lw_p23, List.forall_mem_cons.mpr ⟨lw_p24, List.forall_mem_cons.mpr ⟨lw_p25, List.forall_mem_cons.mpr ⟨lw_p26, List.forall_mem_cons.mpr ⟨lw_p27, List.forall_mem_cons.mpr ⟨lw_p28, List.forall_mem_cons.mpr ⟨lw_p29, List.forall_mem_cons.mpr ⟨lw_p30, List.forall_mem_cons.mpr ⟨lw_p31, fun _ h => absurd h List.not_mem_nil⟩⟩⟩⟩⟩⟩⟩⟩⟩⟩⟩⟩⟩⟩⟩⟩
theorem lw_p32 : lw_okq (⟨"LeavesObjectModel", "takesE", "(I)Z"⟩, 65) := ⟨⟨by decide +kernel, by decide +kernel⟩, List.mem_of_getElem? (i := 845) (by decide +kernel), List.mem_of_getElem? (i := 1112) (by decide +kernel), List.mem_of_getElem? (i := 1113) (by decide +kernel)⟩
theorem lw_p33 : lw_okq (⟨"LeavesObjectModel", "takesTest", "()Z"⟩, 65) := ⟨⟨by decide +kernel, by decide +kernel⟩, List.mem_of_getElem? (i := 845) (by decide +kernel), List.mem_of_getElem? (i := 1116) (by decide +kernel), List.mem_of_getElem? (i := 1117) (by decide +kernel)⟩
theorem lw_p34 : lw_okq (⟨"LeavesObjectModel", "place", "(I)I"⟩, 65) := ⟨⟨by decide +kernel, by decide +kernel⟩, List.mem_of_getElem? (i := 845) (by decide +kernel), List.mem_of_getElem? (i := 1120) (by decide +kernel), List.mem_of_getElem? (i := 1121) (by decide +kernel)⟩
theorem lw_p35 : lw_okq (⟨"LeavesObjectModel", "emits", "(I)V"⟩, 65) := ⟨⟨by decide +kernel, by decide +kernel⟩, List.mem_of_getElem? (i := 845) (by decide +kernel), List.mem_of_getElem? (i := 1124) (by decide +kernel), List.mem_of_getElem? (i := 1125) (by decide +kernel)⟩
theorem lw_p36 : lw_okq (⟨"LeavesObjectModel", "whole", "()V"⟩, 65) := ⟨⟨by decide +kernel, by decide +kernel⟩, List.mem_of_getElem? (i := 845) (by decide +kernel), List.mem_of_getElem? (i := 1128) (by decide +kernel), List.mem_of_getElem? (i := 1129) (by decide +kernel)⟩
theorem lw_p37 : lw_okq (⟨"LeavesObjectModel", "settle", "(I)V"⟩, 65) := ⟨⟨by decide +kernel, by decide +kernel⟩, List.mem_of_getElem? (i := 845) (by decide +kernel), List.mem_of_getElem? (i := 1132) (by decide +kernel), List.mem_of_getElem? (i := 1133) (by decide +kernel)⟩
theorem lw_p38 : lw_okq (⟨"LeavesObjectModel", "will", "(II)I"⟩, 65) := ⟨⟨by decide +kernel, by decide +kernel⟩, List.mem_of_getElem? (i := 845) (by decide +kernel), List.mem_of_getElem? (i := 1140) (by decide +kernel), List.mem_of_getElem? (i := 1141) (by decide +kernel)⟩
theorem lw_p39 : lw_okq (⟨"LeavesObjectModel", "begin", "()I"⟩, 65) := ⟨⟨by decide +kernel, by decide +kernel⟩, List.mem_of_getElem? (i := 845) (by decide +kernel), List.mem_of_getElem? (i := 1144) (by decide +kernel), List.mem_of_getElem? (i := 1145) (by decide +kernel)⟩
theorem lw_p40 : lw_okq (⟨"LeavesObjectModel", "behind", "()I"⟩, 65) := ⟨⟨by decide +kernel, by decide +kernel⟩, List.mem_of_getElem? (i := 845) (by decide +kernel), List.mem_of_getElem? (i := 1148) (by decide +kernel), List.mem_of_getElem? (i := 1149) (by decide +kernel)⟩
theorem lw_p41 : lw_okq (⟨"LeavesObjectModel", "holds", "(III)Z"⟩, 65) := ⟨⟨by decide +kernel, by decide +kernel⟩, List.mem_of_getElem? (i := 845) (by decide +kernel), List.mem_of_getElem? (i := 1152) (by decide +kernel), List.mem_of_getElem? (i := 1153) (by decide +kernel)⟩
theorem lw_p42 : lw_okq (⟨"LeavesObjectModel", "factOf", "(III)I"⟩, 65) := ⟨⟨by decide +kernel, by decide +kernel⟩, List.mem_of_getElem? (i := 845) (by decide +kernel), List.mem_of_getElem? (i := 1156) (by decide +kernel), List.mem_of_getElem? (i := 1157) (by decide +kernel)⟩
theorem lw_p43 : lw_okq (⟨"LeavesObjectModel", "bits", "(I)I"⟩, 65) := ⟨⟨by decide +kernel, by decide +kernel⟩, List.mem_of_getElem? (i := 845) (by decide +kernel), List.mem_of_getElem? (i := 1160) (by decide +kernel), List.mem_of_getElem? (i := 1161) (by decide +kernel)⟩
theorem lw_p44 : lw_okq (⟨"LeavesObjectModel", "has", "(II)Z"⟩, 65) := ⟨⟨by decide +kernel, by decide +kernel⟩, List.mem_of_getElem? (i := 845) (by decide +kernel), List.mem_of_getElem? (i := 1164) (by decide +kernel), List.mem_of_getElem? (i := 1165) (by decide +kernel)⟩
theorem lw_p45 : lw_okq (⟨"LeavesObjectModel", "does", "(II)I"⟩, 65) := ⟨⟨by decide +kernel, by decide +kernel⟩, List.mem_of_getElem? (i := 845) (by decide +kernel), List.mem_of_getElem? (i := 1168) (by decide +kernel), List.mem_of_getElem? (i := 1169) (by decide +kernel)⟩
theorem lw_p46 : lw_okq (⟨"LeavesObjectModel", "shyly", "(II)I"⟩, 65) := ⟨⟨by decide +kernel, by decide +kernel⟩, List.mem_of_getElem? (i := 845) (by decide +kernel), List.mem_of_getElem? (i := 1172) (by decide +kernel), List.mem_of_getElem? (i := 1173) (by decide +kernel)⟩
theorem lw_p47 : lw_okq (⟨"LeavesObjectModel", "plainly", "(IIZ)I"⟩, 65) := ⟨⟨by decide +kernel, by decide +kernel⟩, List.mem_of_getElem? (i := 845) (by decide +kernel), List.mem_of_getElem? (i := 1176) (by decide +kernel), List.mem_of_getElem? (i := 1177) (by decide +kernel)⟩
def lw_privs_3 : List (MethodName × Nat) := [(⟨"LeavesObjectModel", "takesE", "(I)Z"⟩, 65), (⟨"LeavesObjectModel", "takesTest", "()Z"⟩, 65), (⟨"LeavesObjectModel", "place", "(I)I"⟩, 65), (⟨"LeavesObjectModel", "emits", "(I)V"⟩, 65), (⟨"LeavesObjectModel", "whole", "()V"⟩, 65), (⟨"LeavesObjectModel", "settle", "(I)V"⟩, 65), (⟨"LeavesObjectModel", "will", "(II)I"⟩, 65), (⟨"LeavesObjectModel", "begin", "()I"⟩, 65), (⟨"LeavesObjectModel", "behind", "()I"⟩, 65), (⟨"LeavesObjectModel", "holds", "(III)Z"⟩, 65), (⟨"LeavesObjectModel", "factOf", "(III)I"⟩, 65), (⟨"LeavesObjectModel", "bits", "(I)I"⟩, 65), (⟨"LeavesObjectModel", "has", "(II)Z"⟩, 65), (⟨"LeavesObjectModel", "does", "(II)I"⟩, 65), (⟨"LeavesObjectModel", "shyly", "(II)I"⟩, 65), (⟨"LeavesObjectModel", "plainly", "(IIZ)I"⟩, 65)]
theorem lw_r3 : ∀ q ∈ lw_privs_3, lw_okq q := List.forall_mem_cons.mpr ⟨lw_p32, List.forall_mem_cons.mpr ⟨lw_p33, List.forall_mem_cons.mpr ⟨lw_p34, List.forall_mem_cons.mpr ⟨lw_p35, List.forall_mem_cons.mpr ⟨lw_p36, List.forall_mem_cons.mpr ⟨lw_p37, List.forall_mem_cons.mpr ⟨lw_p38, List.forall_mem_cons.mpr ⟨lw_p39, List.forall_mem_cons.mpr ⟨lw_p40, List.forall_mem_cons.mpr ⟨lw_p41, List.forall_mem_cons.mpr ⟨lw_p42, List.forall_mem_cons.mpr ⟨lw_p43, List.forall_mem_cons.mpr ⟨lw_p44, List.forall_mem_cons.mpr ⟨lw_p45, List.forall_mem_cons.mpr ⟨lw_p46, List.forall_mem_cons.mpr ⟨lw_p47, fun _ h => absurd h List.not_mem_nil⟩⟩⟩⟩⟩⟩⟩⟩⟩⟩⟩⟩⟩⟩⟩⟩
theorem lw_p48 : lw_okq (⟨"LeavesObjectModel", "spread", "(IZ)I"⟩, 65) := ⟨⟨by decide +kernel, by decide +kernel⟩, List.mem_of_getElem? (i := 845) (by decide +kernel), List.mem_of_getElem? (i := 1180) (by decide +kernel), List.mem_of_getElem? (i := 1181) (by decide +kernel)⟩
theorem lw_p49 : lw_okq (⟨"LeavesObjectModel", "thinned", "(IZ)I"⟩, 65) := ⟨⟨by decide +kernel, by decide +kernel⟩, List.mem_of_getElem? (i := 845) (by decide +kernel), List.mem_of_getElem? (i := 1184) (by decide +kernel), List.mem_of_getElem? (i := 1185) (by decide +kernel)⟩
theorem lw_p50 : lw_okq (⟨"LeavesObjectModel", "beside", "(II)I"⟩, 65) := ⟨⟨by decide +kernel, by decide +kernel⟩, List.mem_of_getElem? (i := 845) (by decide +kernel), List.mem_of_getElem? (i := 1188) (by decide +kernel), List.mem_of_getElem? (i := 1189) (by decide +kernel)⟩
theorem lw_p51 : lw_okq (⟨"LeavesObjectModel", "moved", "(III)I"⟩, 65) := ⟨⟨by decide +kernel, by decide +kernel⟩, List.mem_of_getElem? (i := 845) (by decide +kernel), List.mem_of_getElem? (i := 1192) (by decide +kernel), List.mem_of_getElem? (i := 1193) (by decide +kernel)⟩
theorem lw_p52 : lw_okq (⟨"LeavesObjectModel", "isSaying", "(I)Z"⟩, 65) := ⟨⟨by decide +kernel, by decide +kernel⟩, List.mem_of_getElem? (i := 845) (by decide +kernel), List.mem_of_getElem? (i := 1200) (by decide +kernel), List.mem_of_getElem? (i := 1201) (by decide +kernel)⟩
theorem lw_p53 : lw_okq (⟨"LeavesObjectModel", "isRefused", "(II)Z"⟩, 65) := ⟨⟨by decide +kernel, by decide +kernel⟩, List.mem_of_getElem? (i := 845) (by decide +kernel), List.mem_of_getElem? (i := 1204) (by decide +kernel), List.mem_of_getElem? (i := 1205) (by decide +kernel)⟩
theorem lw_p54 : lw_okq (⟨"LeavesObjectModel", "goSaying", "(II)V"⟩, 65) := ⟨⟨by decide +kernel, by decide +kernel⟩, List.mem_of_getElem? (i := 845) (by decide +kernel), List.mem_of_getElem? (i := 1208) (by decide +kernel), List.mem_of_getElem? (i := 1209) (by decide +kernel)⟩
theorem lw_p55 : lw_okq (⟨"LeavesObjectModel", "least", "(II)I"⟩, 65) := ⟨⟨by decide +kernel, by decide +kernel⟩, List.mem_of_getElem? (i := 845) (by decide +kernel), List.mem_of_getElem? (i := 1212) (by decide +kernel), List.mem_of_getElem? (i := 1213) (by decide +kernel)⟩
theorem lw_p56 : lw_okq (⟨"LeavesObjectModel", "lastOf", "(II)I"⟩, 65) := ⟨⟨by decide +kernel, by decide +kernel⟩, List.mem_of_getElem? (i := 845) (by decide +kernel), List.mem_of_getElem? (i := 1216) (by decide +kernel), List.mem_of_getElem? (i := 1217) (by decide +kernel)⟩
theorem lw_p57 : lw_okq (⟨"LeavesObjectModel", "goNight", "()V"⟩, 65) := ⟨⟨by decide +kernel, by decide +kernel⟩, List.mem_of_getElem? (i := 845) (by decide +kernel), List.mem_of_getElem? (i := 1224) (by decide +kernel), List.mem_of_getElem? (i := 1225) (by decide +kernel)⟩
theorem lw_p58 : lw_okq (⟨"LeavesObjectModel", "liesAfter", "(II)I"⟩, 65) := ⟨⟨by decide +kernel, by decide +kernel⟩, List.mem_of_getElem? (i := 845) (by decide +kernel), List.mem_of_getElem? (i := 1232) (by decide +kernel), List.mem_of_getElem? (i := 1233) (by decide +kernel)⟩
theorem lw_p59 : lw_okq (⟨"LeavesObjectModel", "save", "()V"⟩, 65) := ⟨⟨by decide +kernel, by decide +kernel⟩, List.mem_of_getElem? (i := 845) (by decide +kernel), List.mem_of_getElem? (i := 1236) (by decide +kernel), List.mem_of_getElem? (i := 1237) (by decide +kernel)⟩
theorem lw_p60 : lw_okq (⟨"LeavesObjectModel", "putBack", "()V"⟩, 65) := ⟨⟨by decide +kernel, by decide +kernel⟩, List.mem_of_getElem? (i := 845) (by decide +kernel), List.mem_of_getElem? (i := 1241) (by decide +kernel), List.mem_of_getElem? (i := 1242) (by decide +kernel)⟩
theorem lw_p61 : lw_okq (⟨"LeavesObjectModel", "liesBy", "(III)I"⟩, 65) := ⟨⟨by decide +kernel, by decide +kernel⟩, List.mem_of_getElem? (i := 845) (by decide +kernel), List.mem_of_getElem? (i := 1249) (by decide +kernel), List.mem_of_getElem? (i := 1250) (by decide +kernel)⟩
theorem lw_p62 : lw_okq (⟨"LeavesObjectModel", "digitOf", "(III)I"⟩, 65) := ⟨⟨by decide +kernel, by decide +kernel⟩, List.mem_of_getElem? (i := 845) (by decide +kernel), List.mem_of_getElem? (i := 1253) (by decide +kernel), List.mem_of_getElem? (i := 1254) (by decide +kernel)⟩
theorem lw_p63 : lw_okq (⟨"LeavesObjectModel", "joined", "()I"⟩, 65) := ⟨⟨by decide +kernel, by decide +kernel⟩, List.mem_of_getElem? (i := 845) (by decide +kernel), List.mem_of_getElem? (i := 1273) (by decide +kernel), List.mem_of_getElem? (i := 1274) (by decide +kernel)⟩
def lw_privs_4 : List (MethodName × Nat) := [(⟨"LeavesObjectModel", "spread", "(IZ)I"⟩, 65), (⟨"LeavesObjectModel", "thinned", "(IZ)I"⟩, 65), (⟨"LeavesObjectModel", "beside", "(II)I"⟩, 65), (⟨"LeavesObjectModel", "moved", "(III)I"⟩, 65), (⟨"LeavesObjectModel", "isSaying", "(I)Z"⟩, 65), (⟨"LeavesObjectModel", "isRefused", "(II)Z"⟩, 65), (⟨"LeavesObjectModel", "goSaying", "(II)V"⟩, 65), (⟨"LeavesObjectModel", "least", "(II)I"⟩, 65), (⟨"LeavesObjectModel", "lastOf", "(II)I"⟩, 65), (⟨"LeavesObjectModel", "goNight", "()V"⟩, 65), (⟨"LeavesObjectModel", "liesAfter", "(II)I"⟩, 65), (⟨"LeavesObjectModel", "save", "()V"⟩, 65), (⟨"LeavesObjectModel", "putBack", "()V"⟩, 65), (⟨"LeavesObjectModel", "liesBy", "(III)I"⟩, 65), (⟨"LeavesObjectModel", "digitOf", "(III)I"⟩, 65), (⟨"LeavesObjectModel", "joined", "()I"⟩, 65)]
theorem lw_r4 : ∀ q ∈ lw_privs_4, lw_okq q := List.forall_mem_cons.mpr ⟨lw_p48, List.forall_mem_cons.mpr ⟨lw_p49, List.forall_mem_cons.mpr ⟨lw_p50, List.forall_mem_cons.mpr ⟨lw_p51, List.forall_mem_cons.mpr ⟨lw_p52, List.forall_mem_cons.mpr ⟨lw_p53, List.forall_mem_cons.mpr ⟨lw_p54, List.forall_mem_cons.mpr ⟨lw_p55, List.forall_mem_cons.mpr ⟨lw_p56, List.forall_mem_cons.mpr ⟨lw_p57, List.forall_mem_cons.mpr ⟨lw_p58, List.forall_mem_cons.mpr ⟨lw_p59, List.forall_mem_cons.mpr ⟨lw_p60, List.forall_mem_cons.mpr ⟨lw_p61, List.forall_mem_cons.mpr ⟨lw_p62, List.forall_mem_cons.mpr ⟨lw_p63, fun _ h => absurd h List.not_mem_nil⟩⟩⟩⟩⟩⟩⟩⟩⟩⟩⟩⟩⟩⟩⟩⟩
theorem lw_p64 : lw_okq (⟨"LeavesObjectModel", "joinedOf", "(I)I"⟩, 65) := ⟨⟨by decide +kernel, by decide +kernel⟩, List.mem_of_getElem? (i := 845) (by decide +kernel), List.mem_of_getElem? (i := 1277) (by decide +kernel), List.mem_of_getElem? (i := 1278) (by decide +kernel)⟩
theorem lw_p65 : lw_okq (⟨"LeavesObjectModel", "twice", "()I"⟩, 65) := ⟨⟨by decide +kernel, by decide +kernel⟩, List.mem_of_getElem? (i := 845) (by decide +kernel), List.mem_of_getElem? (i := 1281) (by decide +kernel), List.mem_of_getElem? (i := 1282) (by decide +kernel)⟩
theorem lw_p66 : lw_okq (⟨"LeavesObjectModel", "mirrored", "()I"⟩, 65) := ⟨⟨by decide +kernel, by decide +kernel⟩, List.mem_of_getElem? (i := 845) (by decide +kernel), List.mem_of_getElem? (i := 1285) (by decide +kernel), List.mem_of_getElem? (i := 1286) (by decide +kernel)⟩
theorem lw_p67 : lw_okq (⟨"LeavesObjectModel", "alike", "()I"⟩, 65) := ⟨⟨by decide +kernel, by decide +kernel⟩, List.mem_of_getElem? (i := 845) (by decide +kernel), List.mem_of_getElem? (i := 1289) (by decide +kernel), List.mem_of_getElem? (i := 1290) (by decide +kernel)⟩
theorem lw_p68 : lw_okq (⟨"LeavesObjectModel", "isSeen", "(I)Z"⟩, 65) := ⟨⟨by decide +kernel, by decide +kernel⟩, List.mem_of_getElem? (i := 845) (by decide +kernel), List.mem_of_getElem? (i := 1309) (by decide +kernel), List.mem_of_getElem? (i := 1310) (by decide +kernel)⟩
theorem lw_p69 : lw_okq (⟨"LeavesObjectModel", "lowest", "(III)J"⟩, 65) := ⟨⟨by decide +kernel, by decide +kernel⟩, List.mem_of_getElem? (i := 845) (by decide +kernel), List.mem_of_getElem? (i := 1322) (by decide +kernel), List.mem_of_getElem? (i := 1323) (by decide +kernel)⟩
theorem lw_p70 : lw_okq (⟨"LeavesObjectModel", "divisor", "(II)I"⟩, 65) := ⟨⟨by decide +kernel, by decide +kernel⟩, List.mem_of_getElem? (i := 845) (by decide +kernel), List.mem_of_getElem? (i := 1326) (by decide +kernel), List.mem_of_getElem? (i := 1327) (by decide +kernel)⟩
theorem lw_p71 : lw_okq (⟨"LeavesObjectModel", "isTape", "(I)Z"⟩, 65) := ⟨⟨by decide +kernel, by decide +kernel⟩, List.mem_of_getElem? (i := 845) (by decide +kernel), List.mem_of_getElem? (i := 1354) (by decide +kernel), List.mem_of_getElem? (i := 1355) (by decide +kernel)⟩
theorem lw_p72 : lw_okq (⟨"LeavesObjectModel", "liesAct", "(II)I"⟩, 65) := ⟨⟨by decide +kernel, by decide +kernel⟩, List.mem_of_getElem? (i := 845) (by decide +kernel), List.mem_of_getElem? (i := 1370) (by decide +kernel), List.mem_of_getElem? (i := 1371) (by decide +kernel)⟩
theorem lw_p73 : lw_okq (⟨"LeavesObjectModel", "body", "(I)V"⟩, 65) := ⟨⟨by decide +kernel, by decide +kernel⟩, List.mem_of_getElem? (i := 845) (by decide +kernel), List.mem_of_getElem? (i := 1374) (by decide +kernel), List.mem_of_getElem? (i := 1375) (by decide +kernel)⟩
theorem lw_p74 : lw_okq (⟨"LeavesObjectModel", "cupLies", "(II)I"⟩, 65) := ⟨⟨by decide +kernel, by decide +kernel⟩, List.mem_of_getElem? (i := 845) (by decide +kernel), List.mem_of_getElem? (i := 1378) (by decide +kernel), List.mem_of_getElem? (i := 1379) (by decide +kernel)⟩
theorem lw_p75 : lw_okq (⟨"LeavesObjectModel", "saysAct", "(II)I"⟩, 65) := ⟨⟨by decide +kernel, by decide +kernel⟩, List.mem_of_getElem? (i := 845) (by decide +kernel), List.mem_of_getElem? (i := 1382) (by decide +kernel), List.mem_of_getElem? (i := 1383) (by decide +kernel)⟩
theorem lw_p76 : lw_okq (⟨"LeavesObjectModel", "shySays", "(II)I"⟩, 65) := ⟨⟨by decide +kernel, by decide +kernel⟩, List.mem_of_getElem? (i := 845) (by decide +kernel), List.mem_of_getElem? (i := 1386) (by decide +kernel), List.mem_of_getElem? (i := 1387) (by decide +kernel)⟩
theorem lw_p77 : lw_okq (⟨"LeavesObjectModel", "cupSays", "(II)I"⟩, 65) := ⟨⟨by decide +kernel, by decide +kernel⟩, List.mem_of_getElem? (i := 845) (by decide +kernel), List.mem_of_getElem? (i := 1390) (by decide +kernel), List.mem_of_getElem? (i := 1391) (by decide +kernel)⟩
theorem lw_p78 : lw_okq (⟨"LeavesObjectModel", "tellsAct", "(II)I"⟩, 65) := ⟨⟨by decide +kernel, by decide +kernel⟩, List.mem_of_getElem? (i := 845) (by decide +kernel), List.mem_of_getElem? (i := 1394) (by decide +kernel), List.mem_of_getElem? (i := 1395) (by decide +kernel)⟩
theorem lw_p79 : lw_okq (⟨"LeavesObjectModel", "cupTells", "(II)I"⟩, 65) := ⟨⟨by decide +kernel, by decide +kernel⟩, List.mem_of_getElem? (i := 845) (by decide +kernel), List.mem_of_getElem? (i := 1398) (by decide +kernel), List.mem_of_getElem? (i := 1399) (by decide +kernel)⟩
def lw_privs_5 : List (MethodName × Nat) := [(⟨"LeavesObjectModel", "joinedOf", "(I)I"⟩, 65), (⟨"LeavesObjectModel", "twice", "()I"⟩, 65), (⟨"LeavesObjectModel", "mirrored", "()I"⟩, 65), (⟨"LeavesObjectModel", "alike", "()I"⟩, 65), (⟨"LeavesObjectModel", "isSeen", "(I)Z"⟩, 65), (⟨"LeavesObjectModel", "lowest", "(III)J"⟩, 65), (⟨"LeavesObjectModel", "divisor", "(II)I"⟩, 65), (⟨"LeavesObjectModel", "isTape", "(I)Z"⟩, 65), (⟨"LeavesObjectModel", "liesAct", "(II)I"⟩, 65), (⟨"LeavesObjectModel", "body", "(I)V"⟩, 65), (⟨"LeavesObjectModel", "cupLies", "(II)I"⟩, 65), (⟨"LeavesObjectModel", "saysAct", "(II)I"⟩, 65), (⟨"LeavesObjectModel", "shySays", "(II)I"⟩, 65), (⟨"LeavesObjectModel", "cupSays", "(II)I"⟩, 65), (⟨"LeavesObjectModel", "tellsAct", "(II)I"⟩, 65), (⟨"LeavesObjectModel", "cupTells", "(II)I"⟩, 65)]
theorem lw_r5 : ∀ q ∈ lw_privs_5, lw_okq q := List.forall_mem_cons.mpr ⟨lw_p64, List.forall_mem_cons.mpr ⟨lw_p65, List.forall_mem_cons.mpr ⟨lw_p66, List.forall_mem_cons.mpr ⟨lw_p67, List.forall_mem_cons.mpr ⟨lw_p68, List.forall_mem_cons.mpr ⟨lw_p69, List.forall_mem_cons.mpr ⟨lw_p70, List.forall_mem_cons.mpr ⟨lw_p71, List.forall_mem_cons.mpr ⟨lw_p72, List.forall_mem_cons.mpr ⟨lw_p73, List.forall_mem_cons.mpr ⟨lw_p74, List.forall_mem_cons.mpr ⟨lw_p75, List.forall_mem_cons.mpr ⟨lw_p76, List.forall_mem_cons.mpr ⟨lw_p77, List.forall_mem_cons.mpr ⟨lw_p78, List.forall_mem_cons.mpr ⟨lw_p79, fun _ h => absurd h List.not_mem_nil⟩⟩⟩⟩⟩⟩⟩⟩⟩⟩⟩⟩⟩⟩⟩⟩
theorem lw_p80 : lw_okq (⟨"LeavesObjectModel", "narrow", "(IJ)J"⟩, 65) := ⟨⟨by decide +kernel, by decide +kernel⟩, List.mem_of_getElem? (i := 845) (by decide +kernel), List.mem_of_getElem? (i := 1422) (by decide +kernel), List.mem_of_getElem? (i := 1423) (by decide +kernel)⟩
def lw_privs_6 : List (MethodName × Nat) := [(⟨"LeavesObjectModel", "narrow", "(IJ)J"⟩, 65)]
theorem lw_r6 : ∀ q ∈ lw_privs_6, lw_okq q := List.forall_mem_cons.mpr ⟨lw_p80, fun _ h => absurd h List.not_mem_nil⟩
def lw_privs : List (MethodName × Nat) := lw_privs_1 ++ (lw_privs_2 ++ (lw_privs_3 ++ (lw_privs_4 ++ (lw_privs_5 ++ (lw_privs_6)))))
def lw_tbl : List Cond := k2_sels lw_privs ++ tables_1
theorem lw_privs_ok : ∀ q ∈ lw_privs, lw_okq q := by
  show ∀ q ∈ lw_privs_1 ++ (lw_privs_2 ++ (lw_privs_3 ++ (lw_privs_4 ++ (lw_privs_5 ++ (lw_privs_6))))), lw_okq q
  exact List.forall_mem_append.mpr ⟨lw_r1, List.forall_mem_append.mpr ⟨lw_r2, List.forall_mem_append.mpr ⟨lw_r3, List.forall_mem_append.mpr ⟨lw_r4, List.forall_mem_append.mpr ⟨lw_r5, lw_r6⟩⟩⟩⟩⟩
end
section
theorem goodIn_r {big : List Cond} (ws : List Cond) (ps : List Nat) (hp : ws = ps.filterMap (fun i => big[i]?)) (h : ws.all goodWord = true) : GoodIn big ws := by
  intro w hw
  have h1 := List.all_eq_true.mp h w hw
  rw [hp] at hw
  obtain ⟨i, -, hi⟩ := List.mem_filterMap.mp hw
  have hm : w ∈ big := by first | exact List.mem_of_getElem? hi | exact List.getElem?_mem hi
  exact ⟨hm, good_of_word h1⟩
def RX0 : String := "LeavesObject$Acts"
def TX0 : u_T := fun k => match k with
  | 0 => ("LeavesObject$Acts", "first", "[I", true)
  | _ => ("LeavesObject$Acts", "ran", "I", false)
def tyX0 : Nat → FieldType := fun k => match k with
  | 0 => .array .int
  | _ => .int
theorem nmX0 : ∀ a, a < 2 → ∀ b, b < 2 → a ≠ b → (TX0 a).2.1 ≠ (TX0 b).2.1 := by decide +kernel
theorem tyX0_ok : ∀ k, k < 2 → parseFieldDescriptor (TX0 k).2.2.1 = some (tyX0 k) := by decide +kernel
def RX1 : String := "LeavesObject$Cup"
def TX1 : u_T := fun k => match k with
  | 0 => ("LeavesObject$Cup", "number", "I", false)
  | 1 => ("LeavesObject$Cup", "kind", "I", false)
  | 2 => ("LeavesObject$Cup", "v", "I", false)
  | 3 => ("LeavesObject$Cup", "leaves", "I", false)
  | 4 => ("LeavesObject$Cup", "mood", "I", false)
  | 5 => ("LeavesObject$Cup", "refused", "I", false)
  | _ => ("LeavesObject$Cup", "lines", "[I", true)
def tyX1 : Nat → FieldType := fun k => match k with
  | 0 => .int
  | 1 => .int
  | 2 => .int
  | 3 => .int
  | 4 => .int
  | 5 => .int
  | _ => .array .int
theorem nmX1 : ∀ a, a < 7 → ∀ b, b < 7 → a ≠ b → (TX1 a).2.1 ≠ (TX1 b).2.1 := by decide +kernel
theorem tyX1_ok : ∀ k, k < 7 → parseFieldDescriptor (TX1 k).2.2.1 = some (tyX1 k) := by decide +kernel
def RX2 : String := "LeavesObject$Inn"
def TX2 : u_T := fun k => match k with
  | 0 => ("LeavesObject$Inn", "rise", "I", false)
  | 1 => ("LeavesObject$Inn", "fall", "I", false)
  | 2 => ("LeavesObject$Inn", "changes", "I", false)
  | 3 => ("LeavesObject$Inn", "amounts", "[I", true)
  | 4 => ("LeavesObject$Inn", "ends", "[I", true)
  | 5 => ("LeavesObject$Inn", "steps", "I", false)
  | 6 => ("LeavesObject$Inn", "code", "[I", true)
  | _ => ("LeavesObject$Inn", "asked", "[I", true)
def tyX2 : Nat → FieldType := fun k => match k with
  | 0 => .int
  | 1 => .int
  | 2 => .int
  | 3 => .array .int
  | 4 => .array .int
  | 5 => .int
  | 6 => .array .int
  | _ => .array .int
theorem nmX2 : ∀ a, a < 8 → ∀ b, b < 8 → a ≠ b → (TX2 a).2.1 ≠ (TX2 b).2.1 := by decide +kernel
theorem tyX2_ok : ∀ k, k < 8 → parseFieldDescriptor (TX2 k).2.2.1 = some (tyX2 k) := by decide +kernel
def RX3 : String := "LeavesObject$Leaves"
def TX3 : u_T := fun k => match k with
  | _ => ("", "", "", false)
def tyX3 : Nat → FieldType := fun k => match k with
  | _ => .int
theorem nmX3 : ∀ a, a < 0 → ∀ b, b < 0 → a ≠ b → (TX3 a).2.1 ≠ (TX3 b).2.1 := by decide +kernel
theorem tyX3_ok : ∀ k, k < 0 → parseFieldDescriptor (TX3 k).2.2.1 = some (tyX3 k) := by decide +kernel
def RX4 : String := "LeavesObject$Rows"
def TX4 : u_T := fun k => match k with
  | 0 => ("LeavesObject$Rows", "firsts", "[I", true)
  | 1 => ("LeavesObject$Rows", "seconds", "[I", true)
  | _ => ("LeavesObject$Rows", "size", "I", false)
def tyX4 : Nat → FieldType := fun k => match k with
  | 0 => .array .int
  | 1 => .array .int
  | _ => .int
theorem nmX4 : ∀ a, a < 3 → ∀ b, b < 3 → a ≠ b → (TX4 a).2.1 ≠ (TX4 b).2.1 := by decide +kernel
theorem tyX4_ok : ∀ k, k < 3 → parseFieldDescriptor (TX4 k).2.2.1 = some (tyX4 k) := by decide +kernel
def RX5 : String := "LeavesObject$Table"
def TX5 : u_T := fun k => match k with
  | 0 => ("LeavesObject$Table", "slots", "[LLeavesObject$Cup;", true)
  | 1 => ("LeavesObject$Table", "cupCount", "I", false)
  | 2 => ("LeavesObject$Table", "night", "I", false)
  | 3 => ("LeavesObject$Table", "held", "I", false)
  | 4 => ("LeavesObject$Table", "seen", "LLeavesObject$Rows;", true)
  | 5 => ("LeavesObject$Table", "evening", "LLeavesObject$Rows;", true)
  | _ => ("LeavesObject$Table", "book", "LLeavesObject$Rows;", true)
def tyX5 : Nat → FieldType := fun k => match k with
  | 0 => .array (.object "LeavesObject$Cup")
  | 1 => .int
  | 2 => .int
  | 3 => .int
  | 4 => .object "LeavesObject$Rows"
  | 5 => .object "LeavesObject$Rows"
  | _ => .object "LeavesObject$Rows"
theorem nmX5 : ∀ a, a < 7 → ∀ b, b < 7 → a ≠ b → (TX5 a).2.1 ≠ (TX5 b).2.1 := by decide +kernel
theorem tyX5_ok : ∀ k, k < 7 → parseFieldDescriptor (TX5 k).2.2.1 = some (tyX5 k) := by decide +kernel
def RX6 : String := "LeavesObject$Tape"
def TX6 : u_T := fun k => match k with
  | 0 => ("LeavesObject$Tape", "sort", "I", false)
  | 1 => ("LeavesObject$Tape", "size", "I", false)
  | _ => ("LeavesObject$Tape", "items", "[J", true)
def tyX6 : Nat → FieldType := fun k => match k with
  | 0 => .int
  | 1 => .int
  | _ => .array .long
theorem nmX6 : ∀ a, a < 3 → ∀ b, b < 3 → a ≠ b → (TX6 a).2.1 ≠ (TX6 b).2.1 := by decide +kernel
theorem tyX6_ok : ∀ k, k < 3 → parseFieldDescriptor (TX6 k).2.2.1 = some (tyX6 k) := by decide +kernel
def RX7 : String := "LeavesObject$Text"
def TX7 : u_T := fun k => match k with
  | 0 => ("LeavesObject$Text", "signs", "[I", true)
  | 1 => ("LeavesObject$Text", "size", "I", false)
  | _ => ("LeavesObject$Text", "place", "I", false)
def tyX7 : Nat → FieldType := fun k => match k with
  | 0 => .array .int
  | 1 => .int
  | _ => .int
theorem nmX7 : ∀ a, a < 3 → ∀ b, b < 3 → a ≠ b → (TX7 a).2.1 ≠ (TX7 b).2.1 := by decide +kernel
theorem tyX7_ok : ∀ k, k < 3 → parseFieldDescriptor (TX7 k).2.2.1 = some (tyX7 k) := by decide +kernel
def RX8 : String := "LeavesObject$Tries"
def TX8 : u_T := fun k => match k with
  | 0 => ("LeavesObject$Tries", "leaves", "[I", true)
  | 1 => ("LeavesObject$Tries", "moods", "[I", true)
  | _ => ("LeavesObject$Tries", "cup", "LLeavesObject$Cup;", true)
def tyX8 : Nat → FieldType := fun k => match k with
  | 0 => .array .int
  | 1 => .array .int
  | _ => .object "LeavesObject$Cup"
theorem nmX8 : ∀ a, a < 3 → ∀ b, b < 3 → a ≠ b → (TX8 a).2.1 ≠ (TX8 b).2.1 := by decide +kernel
theorem tyX8_ok : ∀ k, k < 3 → parseFieldDescriptor (TX8 k).2.2.1 = some (tyX8 k) := by decide +kernel
def RX9 : String := "LeavesObject"
def TX9 : u_T := fun k => match k with
  | 0 => ("LeavesObject", "now", "LLeavesObject$Table;", true)
  | 1 => ("LeavesObject", "kept", "LLeavesObject$Table;", true)
  | 2 => ("LeavesObject", "evenings", "LLeavesObject$Table;", true)
  | 3 => ("LeavesObject", "isKept", "Z", false)
  | 4 => ("LeavesObject", "text", "LLeavesObject$Text;", true)
  | 5 => ("LeavesObject", "inns", "[LLeavesObject$Inn;", true)
  | 6 => ("LeavesObject", "innCount", "I", false)
  | 7 => ("LeavesObject", "without", "LLeavesObject$Inn;", true)
  | 8 => ("LeavesObject", "trial", "LLeavesObject$Cup;", true)
  | 9 => ("LeavesObject", "tries", "LLeavesObject$Tries;", true)
  | 10 => ("LeavesObject", "acts", "LLeavesObject$Acts;", true)
  | _ => ("LeavesObject", "tapes", "[LLeavesObject$Tape;", true)
def tyX9 : Nat → FieldType := fun k => match k with
  | 0 => .object "LeavesObject$Table"
  | 1 => .object "LeavesObject$Table"
  | 2 => .object "LeavesObject$Table"
  | 3 => .boolean
  | 4 => .object "LeavesObject$Text"
  | 5 => .array (.object "LeavesObject$Inn")
  | 6 => .int
  | 7 => .object "LeavesObject$Inn"
  | 8 => .object "LeavesObject$Cup"
  | 9 => .object "LeavesObject$Tries"
  | 10 => .object "LeavesObject$Acts"
  | _ => .array (.object "LeavesObject$Tape")
theorem nmX9 : ∀ a, a < 12 → ∀ b, b < 12 → a ≠ b → (TX9 a).2.1 ≠ (TX9 b).2.1 := by decide +kernel
theorem tyX9_ok : ∀ k, k < 12 → parseFieldDescriptor (TX9 k).2.2.1 = some (tyX9 k) := by decide +kernel
def RX10 : String := "LeavesObjectModel"
def TX10 : u_T := fun k => match k with
  | 0 => ("LeavesObjectModel", "cups", "I", false)
  | 1 => ("LeavesObjectModel", "nights", "I", false)
  | 2 => ("LeavesObjectModel", "kind", "[I", true)
  | 3 => ("LeavesObjectModel", "v", "[I", true)
  | 4 => ("LeavesObjectModel", "lies", "[I", true)
  | 5 => ("LeavesObjectModel", "mood", "[I", true)
  | 6 => ("LeavesObjectModel", "refused", "[I", true)
  | 7 => ("LeavesObjectModel", "lines", "[I", true)
  | 8 => ("LeavesObjectModel", "inns", "I", false)
  | 9 => ("LeavesObjectModel", "the", "I", false)
  | 10 => ("LeavesObjectModel", "fed", "I", false)
  | 11 => ("LeavesObjectModel", "at", "I", false)
  | 12 => ("LeavesObjectModel", "digits", "I", false)
  | 13 => ("LeavesObjectModel", "text", "[I", true)
  | 14 => ("LeavesObjectModel", "clauses", "[I", true)
  | 15 => ("LeavesObjectModel", "word", "[I", true)
  | 16 => ("LeavesObjectModel", "number", "[I", true)
  | 17 => ("LeavesObjectModel", "from", "[I", true)
  | 18 => ("LeavesObjectModel", "to", "[I", true)
  | 19 => ("LeavesObjectModel", "sign", "[I", true)
  | 20 => ("LeavesObjectModel", "waits", "[I", true)
  | 21 => ("LeavesObjectModel", "signs", "I", false)
  | 22 => ("LeavesObjectModel", "waiting", "I", false)
  | 23 => ("LeavesObjectModel", "open", "I", false)
  | 24 => ("LeavesObjectModel", "letters", "[I", true)
  | 25 => ("LeavesObjectModel", "pile", "[Z", true)
  | 26 => ("LeavesObjectModel", "mostRefused", "I", false)
  | 27 => ("LeavesObjectModel", "keptNights", "I", false)
  | 28 => ("LeavesObjectModel", "keptLies", "[I", true)
  | 29 => ("LeavesObjectModel", "keptMood", "[I", true)
  | 30 => ("LeavesObjectModel", "keptRefused", "[I", true)
  | 31 => ("LeavesObjectModel", "seen", "I", false)
  | 32 => ("LeavesObjectModel", "seenSaying", "[I", true)
  | 33 => ("LeavesObjectModel", "seenLies", "[I", true)
  | 34 => ("LeavesObjectModel", "evenings", "I", false)
  | 35 => ("LeavesObjectModel", "books", "I", false)
  | 36 => ("LeavesObjectModel", "eveningCup", "[I", true)
  | 37 => ("LeavesObjectModel", "eveningSaying", "[I", true)
  | 38 => ("LeavesObjectModel", "bookCup", "[I", true)
  | 39 => ("LeavesObjectModel", "bookLies", "[I", true)
  | 40 => ("LeavesObjectModel", "hasImage", "Z", false)
  | 41 => ("LeavesObjectModel", "imageThe", "I", false)
  | 42 => ("LeavesObjectModel", "imageCups", "I", false)
  | 43 => ("LeavesObjectModel", "imageNights", "I", false)
  | 44 => ("LeavesObjectModel", "imageSeen", "I", false)
  | 45 => ("LeavesObjectModel", "imageEvenings", "I", false)
  | 46 => ("LeavesObjectModel", "imageBooks", "I", false)
  | 47 => ("LeavesObjectModel", "imageKind", "[I", true)
  | 48 => ("LeavesObjectModel", "imageV", "[I", true)
  | 49 => ("LeavesObjectModel", "imageLies", "[I", true)
  | 50 => ("LeavesObjectModel", "imageMood", "[I", true)
  | 51 => ("LeavesObjectModel", "imageRefused", "[I", true)
  | 52 => ("LeavesObjectModel", "imageLines", "[I", true)
  | 53 => ("LeavesObjectModel", "imageSaying", "[I", true)
  | 54 => ("LeavesObjectModel", "imageSeenLies", "[I", true)
  | 55 => ("LeavesObjectModel", "imageCup", "[I", true)
  | 56 => ("LeavesObjectModel", "imageSaid", "[I", true)
  | 57 => ("LeavesObjectModel", "imageBookCup", "[I", true)
  | 58 => ("LeavesObjectModel", "imageBookLies", "[I", true)
  | 59 => ("LeavesObjectModel", "ran", "I", false)
  | 60 => ("LeavesObjectModel", "bodies", "[I", true)
  | 61 => ("LeavesObjectModel", "sort", "[I", true)
  | 62 => ("LeavesObjectModel", "length", "[I", true)
  | 63 => ("LeavesObjectModel", "item", "[J", true)
  | _ => ("LeavesObjectModel", "aside", "[J", true)
def tyX10 : Nat → FieldType := fun k => match k with
  | 0 => .int
  | 1 => .int
  | 2 => .array .int
  | 3 => .array .int
  | 4 => .array .int
  | 5 => .array .int
  | 6 => .array .int
  | 7 => .array .int
  | 8 => .int
  | 9 => .int
  | 10 => .int
  | 11 => .int
  | 12 => .int
  | 13 => .array .int
  | 14 => .array .int
  | 15 => .array .int
  | 16 => .array .int
  | 17 => .array .int
  | 18 => .array .int
  | 19 => .array .int
  | 20 => .array .int
  | 21 => .int
  | 22 => .int
  | 23 => .int
  | 24 => .array .int
  | 25 => .array .boolean
  | 26 => .int
  | 27 => .int
  | 28 => .array .int
  | 29 => .array .int
  | 30 => .array .int
  | 31 => .int
  | 32 => .array .int
  | 33 => .array .int
  | 34 => .int
  | 35 => .int
  | 36 => .array .int
  | 37 => .array .int
  | 38 => .array .int
  | 39 => .array .int
  | 40 => .boolean
  | 41 => .int
  | 42 => .int
  | 43 => .int
  | 44 => .int
  | 45 => .int
  | 46 => .int
  | 47 => .array .int
  | 48 => .array .int
  | 49 => .array .int
  | 50 => .array .int
  | 51 => .array .int
  | 52 => .array .int
  | 53 => .array .int
  | 54 => .array .int
  | 55 => .array .int
  | 56 => .array .int
  | 57 => .array .int
  | 58 => .array .int
  | 59 => .int
  | 60 => .array .int
  | 61 => .array .int
  | 62 => .array .int
  | 63 => .array .long
  | _ => .array .long
theorem nmX10 : ∀ a, a < 65 → ∀ b, b < 65 → a ≠ b → (TX10 a).2.1 ≠ (TX10 b).2.1 := by decide +kernel
theorem tyX10_ok : ∀ k, k < 65 → parseFieldDescriptor (TX10 k).2.2.1 = some (tyX10 k) := by decide +kernel
set_option maxRecDepth 20000 in
theorem inX0 : ∀ w ∈ u_ws RX0 TX0 2, w ∈ lw_tbl := fun w h => (goodIn_r (big := lw_tbl) (u_ws RX0 TX0 2) [295, 297] (by decide +kernel) (by decide +kernel) w h).1
set_option maxRecDepth 20000 in
theorem inX1 : ∀ w ∈ u_ws RX1 TX1 7, w ∈ lw_tbl := fun w h => (goodIn_r (big := lw_tbl) (u_ws RX1 TX1 7) [167, 169, 171, 173, 175, 177, 179] (by decide +kernel) (by decide +kernel) w h).1
set_option maxRecDepth 20000 in
theorem inX2 : ∀ w ∈ u_ws RX2 TX2 8, w ∈ lw_tbl := fun w h => (goodIn_r (big := lw_tbl) (u_ws RX2 TX2 8) [249, 251, 253, 255, 257, 259, 261, 263] (by decide +kernel) (by decide +kernel) w h).1
set_option maxRecDepth 20000 in
theorem inX3 : ∀ w ∈ u_ws RX3 TX3 0, w ∈ lw_tbl := fun w h => (goodIn_r (big := lw_tbl) (u_ws RX3 TX3 0) [] (by decide +kernel) (by decide +kernel) w h).1
set_option maxRecDepth 20000 in
theorem inX4 : ∀ w ∈ u_ws RX4 TX4 3, w ∈ lw_tbl := fun w h => (goodIn_r (big := lw_tbl) (u_ws RX4 TX4 3) [130, 132, 134] (by decide +kernel) (by decide +kernel) w h).1
set_option maxRecDepth 20000 in
theorem inX5 : ∀ w ∈ u_ws RX5 TX5 7, w ∈ lw_tbl := fun w h => (goodIn_r (big := lw_tbl) (u_ws RX5 TX5 7) [195, 197, 199, 201, 203, 205, 207] (by decide +kernel) (by decide +kernel) w h).1
set_option maxRecDepth 20000 in
theorem inX6 : ∀ w ∈ u_ws RX6 TX6 3, w ∈ lw_tbl := fun w h => (goodIn_r (big := lw_tbl) (u_ws RX6 TX6 3) [312, 314, 316] (by decide +kernel) (by decide +kernel) w h).1
set_option maxRecDepth 20000 in
theorem inX7 : ∀ w ∈ u_ws RX7 TX7 3, w ∈ lw_tbl := fun w h => (goodIn_r (big := lw_tbl) (u_ws RX7 TX7 3) [221, 223, 225] (by decide +kernel) (by decide +kernel) w h).1
set_option maxRecDepth 20000 in
theorem inX8 : ∀ w ∈ u_ws RX8 TX8 3, w ∈ lw_tbl := fun w h => (goodIn_r (big := lw_tbl) (u_ws RX8 TX8 3) [279, 281, 283] (by decide +kernel) (by decide +kernel) w h).1
set_option maxRecDepth 20000 in
theorem inX9 : ∀ w ∈ u_ws RX9 TX9 12, w ∈ lw_tbl := fun w h => (goodIn_r (big := lw_tbl) (u_ws RX9 TX9 12) [332, 334, 336, 338, 340, 342, 344, 346, 348, 350, 352, 354] (by decide +kernel) (by decide +kernel) w h).1
set_option maxRecDepth 20000 in
theorem inX10 : ∀ w ∈ u_ws RX10 TX10 65, w ∈ lw_tbl := fun w h => (goodIn_r (big := lw_tbl) (u_ws RX10 TX10 65) [996, 998, 1000, 1002, 1004, 1006, 1008, 1010, 1012, 1014, 1016, 1018, 1020, 1022, 1024, 1026, 1028, 1030, 1032, 1034, 1036, 1038, 1040, 1042, 1044, 1046, 1048, 1050, 1052, 1054, 1056, 1058, 1060, 1062, 1064, 1066, 1068, 1070, 1072, 1074, 1076, 1078, 1080, 1082, 1084, 1086, 1088, 1090, 1092, 1094, 1096, 1098, 1100, 1102, 1104, 1106, 1108, 1110, 1112, 1114, 1116, 1118, 1120, 1122, 1124] (by decide +kernel) (by decide +kernel) w h).1
abbrev classes : List vw_C := [(RX0, TX0, 2), (RX1, TX1, 7), (RX2, TX2, 8), (RX4, TX4, 3), (RX4, TX4, 3), (RX5, TX5, 7), (RX6, TX6, 3), (RX7, TX7, 3), (RX8, TX8, 3), (RX9, TX9, 12), (RX10, TX10, 65)]
end
section
/-! A small machine of our own, over numbered cells: what it answers the real one answers (part 06 on). -/
abbrev XK : Type := List ((FieldType × Nat) ⊕ Nat)
abbrev XW : Type := XK × (Nat → Nat → Option Nat) × (Nat → Nat → Int32) × (Nat → Nat → Int64)
/-- an entry of code: place, instruction, length, three numbers that its links come to, the place of its word in lw_tbl, a table -/
abbrev XE : Type := Nat × Instr × Nat × Nat × Nat × Nat × Nat × List (Int × Nat)
/-- a method: name, bytes, locals, what it answers, its code, how many parameters, the places of its words in lw_tbl -/
abbrev MI : Type := MethodName × ByteArray × Nat × Option FieldType × List XE × Nat × List Nat
abbrev XL : Type := List (Option Value)
abbrev XS : Type := Nat × XL × List Value × XW
def xBIG : Nat := 1000000
def clT (ci : Nat) : Nat → FieldType := match ci with
  | 0 => tyX0
  | 1 => tyX1
  | 2 => tyX2
  | 3 => tyX4
  | 4 => tyX4
  | 5 => tyX5
  | 6 => tyX6
  | 7 => tyX7
  | 8 => tyX8
  | 9 => tyX9
  | _ => tyX10
def clN (ci : Nat) : Nat := match classes[ci]? with
  | some r => r.2.2
  | none => 0
def rfv : Option Nat → Value
  | none => .null
  | some n => .ref n
/-- what a slot of a type holds -/
def fval (ty : FieldType) (r : Option Nat) (i : Int32) (l : Int64) : Value := match ty with
  | .object _ => rfv r
  | .array _ => rfv r
  | .long => .long l
  | _ => .int i
def isRefT : FieldType → Bool
  | .object _ => true
  | .array _ => true
  | _ => false
def isIntT : FieldType → Bool
  | .int => true
  | .boolean => true
  | _ => false
def updR {α : Type} (f : Nat → Nat → α) (k j : Nat) (v : α) : Nat → Nat → α := fun a b => if a = k ∧ b = j then v else f a b
def clrR {α : Type} (f : Nat → Nat → α) (k : Nat) (v : α) : Nat → Nat → α := fun a b => if a = k then v else f a b
/-- n items of cell a from sp on come to cell b from dp on -/
def cpyR {α : Type} (f : Nat → Nat → α) (a sp b dp n : Nat) : Nat → Nat → α := fun k j => if k = b ∧ dp ≤ j ∧ j < dp + n then f a (sp + (j - dp)) else f k j
def lget (ls : XL) (i : Nat) : Option Value := match ls[i]? with
  | some (some v) => some v
  | _ => none
def lclr (ls : XL) : Nat → XL
  | 0 => ls
  | i + 1 => match ls[i]? with
    | some (some (.long _)) => ls.set i none
    | some (some (.double _)) => ls.set i none
    | _ => ls
def lset1 (ls : XL) (i : Nat) (v : Value) : XL := (lclr ls i).set i (some v)
def lset2 (ls : XL) (i : Nat) (v : Value) : XL := ((lclr ls i).set i (some v)).set (i + 1) none
def entL : List Value → XL
  | [] => []
  | v :: vs => if v.category = 2 then some v :: none :: entL vs else some v :: entL vs
def entX (n : Nat) (vs : List Value) : XL := entL vs ++ List.replicate (n - (entL vs).length) none
/-- what was there before: the class's tables, the script (X: 0, none is told; n + 1: of n ints) -/
def cInts (X : Nat × (Nat → Int32)) (k : Nat) : Option (Nat × (Nat → Int32)) :=
  if k = 1000040 then some (7, fun j => ([-1, 0, 0, 0, 1, 2, 3] : List Int32).getD j 0)
  else if k = 1000041 then some (21, fun j => ([10, 11, 12, 0, 20, 0, 30, 0, 0, 0, 0, 40, 50, 51, 0, 0, 0, 60, 71, 70, 0] : List Int32).getD j 0)
  else if k = 1000042 then some (6, fun j => ([0, 1, 5, 21, 85, 341] : List Int32).getD j 0)
  else if k = 1000050 then (match X.1 with
    | 0 => none
    | n + 1 => some (n, X.2))
  else none
def strLen : List Nat := [4, 4, 4, 4, 1, 6, 3, 1]
def strByt : List (List Int32) := [[98, 97, 108, 107], [114, 105, 115, 101], [102, 97, 108, 108], [119, 105, 108, 108], [32], [99, 119, 107, 118, 108, 110], [60, 61, 62], [41]]
def cByts (k : Nat) : Option (Nat × (Nat → Int32)) :=
  if 1000020 ≤ k ∧ k < 1000028 then some (strLen.getD (k - 1000020) 0, fun j => (strByt.getD (k - 1000020) []).getD j 0) else none
def inA (i : Int32) (n : Nat) : Bool := !(decide (i < 0) || decide (n ≤ i.toNatClampNeg))
def sWord (st : List Value) : Bool := decide ((st.map fun v => v.category).sum ≤ 8)
/-- where a switch goes -/
def swT (t : List (Int × Nat)) (d : Nat) (x : Int) : Nat := match t with
  | [] => d
  | q :: t => if x = q.1 then q.2 else swT t d x
def stpJ (e : XE) (pc : Nat) (ls : XL) (st : List Value) (w : XW) : Option XS := match e with
  | (_, i, _, a, _, _, _, t) => match i, st with
    | .goto _, st => some (a, ls, st, w)
    | .ifCond .eq _, .int x :: st => some (if x = 0 then a else pc + 3, ls, st, w)
    | .ifCond .ne _, .int x :: st => some (if x = 0 then pc + 3 else a, ls, st, w)
    | .ifCond .lt _, .int x :: st => some (if x < 0 then a else pc + 3, ls, st, w)
    | .ifCond .ge _, .int x :: st => some (if x < 0 then pc + 3 else a, ls, st, w)
    | .ifCond .gt _, .int x :: st => some (if 0 < x then a else pc + 3, ls, st, w)
    | .ifCond .le _, .int x :: st => some (if 0 < x then pc + 3 else a, ls, st, w)
    | .if_icmp .eq _, .int y :: .int x :: st => some (if x = y then a else pc + 3, ls, st, w)
    | .if_icmp .ne _, .int y :: .int x :: st => some (if x = y then pc + 3 else a, ls, st, w)
    | .if_icmp .lt _, .int y :: .int x :: st => some (if x < y then a else pc + 3, ls, st, w)
    | .if_icmp .ge _, .int y :: .int x :: st => some (if x < y then pc + 3 else a, ls, st, w)
    | .if_icmp .gt _, .int y :: .int x :: st => some (if y < x then a else pc + 3, ls, st, w)
    | .if_icmp .le _, .int y :: .int x :: st => some (if y < x then pc + 3 else a, ls, st, w)
    | .ifnull _, .null :: st => some (a, ls, st, w)
    | .ifnull _, .ref k :: st => if k < w.1.length then some (pc + 3, ls, st, w) else none
    | .ifnonnull _, .null :: st => some (pc + 3, ls, st, w)
    | .ifnonnull _, .ref k :: st => if k < w.1.length then some (a, ls, st, w) else none
    | .tableswitch _ _ _ _, .int x :: st => some (swT t a x.toInt, ls, st, w)
    | .lookupswitch _ _, .int x :: st => some (swT t a x.toInt, ls, st, w)
    | _, _ => none
def stpV (e : XE) (pc : Nat) (ls : XL) (st : List Value) (w : XW) : Option XS := match e with
  | (_, i, n, _, _, _, _, t) => match i, st with
    | .iconst z, st => some (pc + n, ls, .int (Int32.ofInt z) :: st, w)
    | .bipush z, st => some (pc + n, ls, .int (Int8.ofInt z).toInt32 :: st, w)
    | .sipush z, st => some (pc + n, ls, .int (Int16.ofInt z).toInt32 :: st, w)
    | .lconst z, st => some (pc + n, ls, .long (Int64.ofNat z) :: st, w)
    | .ldc_w _, st => match t with
      | (z, _) :: _ => some (pc + n, ls, .int (Int32.ofInt z) :: st, w)
      | [] => none
    | .ldc2_w _, st => match t with
      | (z, _) :: _ => some (pc + n, ls, .long (Int64.ofInt z) :: st, w)
      | [] => none
    | .aconst_null, st => some (pc + n, ls, .null :: st, w)
    | .dup, v :: st => if v.category = 1 then some (pc + n, ls, v :: v :: st, w) else none
    | .pop, v :: st => if v.category = 1 then some (pc + n, ls, st, w) else none
    | .iadd, .int y :: .int x :: st => some (pc + n, ls, .int (x + y) :: st, w)
    | .isub, .int y :: .int x :: st => some (pc + n, ls, .int (x - y) :: st, w)
    | .imul, .int y :: .int x :: st => some (pc + n, ls, .int (x * y) :: st, w)
    | .idiv, .int y :: .int x :: st => if y = 0 then none else some (pc + n, ls, .int (x / y) :: st, w)
    | .irem, .int y :: .int x :: st => if y = 0 then none else some (pc + n, ls, .int (x - x / y * y) :: st, w)
    | .iand, .int y :: .int x :: st => some (pc + n, ls, .int (x &&& y) :: st, w)
    | .ior, .int y :: .int x :: st => some (pc + n, ls, .int (x ||| y) :: st, w)
    | .ixor, .int y :: .int x :: st => some (pc + n, ls, .int (x ^^^ y) :: st, w)
    | .ineg, .int x :: st => some (pc + n, ls, .int (-x) :: st, w)
    | .ishl, .int y :: .int x :: st => some (pc + n, ls, .int (x <<< (y &&& 31)) :: st, w)
    | .ishr, .int y :: .int x :: st => some (pc + n, ls, .int (x >>> (y &&& 31)) :: st, w)
    | .iushr, .int y :: .int x :: st => some (pc + n, ls, .int (x.toUInt32 >>> (y.toUInt32 &&& Int32.toUInt32 31)).toInt32 :: st, w)
    | .i2l, .int x :: st => some (pc + n, ls, .long x.toInt64 :: st, w)
    | .l2i, .long x :: st => some (pc + n, ls, .int x.toInt32 :: st, w)
    | .i2b, .int x :: st => some (pc + n, ls, .int x.toInt8.toInt32 :: st, w)
    | .i2s, .int x :: st => some (pc + n, ls, .int x.toInt16.toInt32 :: st, w)
    | .i2c, .int x :: st => some (pc + n, ls, .int (x.toUInt32 % 65536).toInt32 :: st, w)
    | .lcmp, .long y :: .long x :: st => some (pc + n, ls, .int (lg_cmp x y) :: st, w)
    | .lshl, .int y :: .long x :: st => some (pc + n, ls, .long (x <<< (y.toInt64 &&& 63)) :: st, w)
    | .land, .long y :: .long x :: st => some (pc + n, ls, .long (x &&& y) :: st, w)
    | .lor, .long y :: .long x :: st => some (pc + n, ls, .long (x ||| y) :: st, w)
    | _, _ => none
def stpL (e : XE) (pc : Nat) (ls : XL) (st : List Value) (w : XW) : Option XS := match e with
  | (_, i, n, a, _, _, _, _) => match i, st with
    | .iload_n _, st => match lget ls a with
      | some (.int x) => some (pc + n, ls, .int x :: st, w)
      | _ => none
    | .iload _, st => match lget ls a with
      | some (.int x) => some (pc + n, ls, .int x :: st, w)
      | _ => none
    | .lload_n _, st => match lget ls a with
      | some (.long x) => some (pc + n, ls, .long x :: st, w)
      | _ => none
    | .aload_n _, st => match lget ls a with
      | some (.ref x) => some (pc + n, ls, .ref x :: st, w)
      | some .null => some (pc + n, ls, .null :: st, w)
      | _ => none
    | .aload _, st => match lget ls a with
      | some (.ref x) => some (pc + n, ls, .ref x :: st, w)
      | some .null => some (pc + n, ls, .null :: st, w)
      | _ => none
    | .istore_n _, .int x :: st => if a < ls.length then some (pc + n, lset1 ls a (.int x), st, w) else none
    | .istore _, .int x :: st => if a < ls.length then some (pc + n, lset1 ls a (.int x), st, w) else none
    | .lstore_n _, .long x :: st => if a + 1 < ls.length then some (pc + n, lset2 ls a (.long x), st, w) else none
    | .astore_n _, .ref x :: st => if a < ls.length then some (pc + n, lset1 ls a (.ref x), st, w) else none
    | .astore_n _, .null :: st => if a < ls.length then some (pc + n, lset1 ls a .null, st, w) else none
    | .astore _, .ref x :: st => if a < ls.length then some (pc + n, lset1 ls a (.ref x), st, w) else none
    | .astore _, .null :: st => if a < ls.length then some (pc + n, lset1 ls a .null, st, w) else none
    | .iinc _ z, st => if a < ls.length then (match lget ls a with
      | some (.int x) => some (pc + n, lset1 ls a (.int (x + Int32.ofInt z)), st, w)
      | _ => none) else none
    | _, _ => none
def stpH (X : Nat × (Nat → Int32)) (e : XE) (pc : Nat) (ls : XL) (st : List Value) (w : XW) : Option XS := match e, w with
  | (_, i, n, a, b, c, _, _), (K, R, I, L) => match i, st with
    | .getfield _, .ref k :: st => match K[k]? with
      | some (.inr ci) => if c = 0 ∧ ci = a ∧ b < clN a then some (pc + n, ls, fval (clT a b) (R k b) (I k b) (L k b) :: st, w) else none
      | some (.inl _) => none
      | none => if c = 1 ∧ 1000000 ≤ k ∧ k < 1000008 then some (pc + n, ls, (if b = 0 then .int 0 else .ref (k + 20)) :: st, w) else none
    | .putfield _, .int x :: .ref k :: st => match K[k]? with
      | some (.inr ci) => if ci = a ∧ b < clN a ∧ isIntT (clT a b) = true ∧ fits (clT a b) (.int x) = true then some (pc + n, ls, st, (K, R, updR I k b x, L)) else none
      | _ => none
    | .putfield _, .ref x :: .ref k :: st => match K[k]? with
      | some (.inr ci) => if ci = a ∧ b < clN a ∧ isRefT (clT a b) = true ∧ x < K.length then some (pc + n, ls, st, (K, updR R k b (some x), I, L)) else none
      | _ => none
    | .getstatic _, st => some (pc + n, ls, (if c = 1 then .int (Int32.ofNat b) else .ref (1000040 + b)) :: st, w)
    | .ldc _, st => some (pc + n, ls, .ref (1000000 + a) :: st, w)
    | .iaload, .int i :: .ref k :: st => match K[k]? with
      | some (.inl (.int, m)) => if inA i m = true then some (pc + n, ls, .int (I k i.toNatClampNeg) :: st, w) else none
      | some _ => none
      | none => match cInts X k with
        | some (m, f) => if inA i m = true then some (pc + n, ls, .int (f i.toNatClampNeg) :: st, w) else none
        | none => none
    | .baload, .int i :: .ref k :: st => match K[k]? with
      | some (.inl (.boolean, m)) => if inA i m = true then some (pc + n, ls, .int (I k i.toNatClampNeg) :: st, w) else none
      | some _ => none
      | none => match cByts k with
        | some (m, f) => if inA i m = true then some (pc + n, ls, .int (f i.toNatClampNeg) :: st, w) else none
        | none => none
    | .laload, .int i :: .ref k :: st => match K[k]? with
      | some (.inl (.long, m)) => if inA i m = true then some (pc + n, ls, .long (L k i.toNatClampNeg) :: st, w) else none
      | _ => none
    | .aaload, .int i :: .ref k :: st => match K[k]? with
      | some (.inl (.object _, m)) => if inA i m = true then some (pc + n, ls, rfv (R k i.toNatClampNeg) :: st, w) else none
      | _ => none
    | .iastore, .int x :: .int i :: .ref k :: st => match K[k]? with
      | some (.inl (.int, m)) => if inA i m = true then some (pc + n, ls, st, (K, R, updR I k i.toNatClampNeg x, L)) else none
      | _ => none
    | .bastore, .int x :: .int i :: .ref k :: st => match K[k]? with
      | some (.inl (.boolean, m)) => if inA i m = true ∧ fits .boolean (.int x) = true then some (pc + n, ls, st, (K, R, updR I k i.toNatClampNeg x, L)) else none
      | _ => none
    | .lastore, .long x :: .int i :: .ref k :: st => match K[k]? with
      | some (.inl (.long, m)) => if inA i m = true then some (pc + n, ls, st, (K, R, I, updR L k i.toNatClampNeg x)) else none
      | _ => none
    | .aastore, .ref x :: .int i :: .ref k :: st => match K[k]?, K[x]? with
      | some (.inl (.object C, m)), some (.inr ci) => if inA i m = true ∧ (classes[ci]?).map (fun r => r.1) = some C then some (pc + n, ls, st, (K, updR R k i.toNatClampNeg (some x), I, L)) else none
      | _, _ => none
    | .arraylength, .ref k :: st => match K[k]? with
      | some (.inl (_, m)) => some (pc + n, ls, .int (Int32.ofNat m) :: st, w)
      | some (.inr _) => none
      | none => match cInts X k with
        | some (m, _) => some (pc + n, ls, .int (Int32.ofNat m) :: st, w)
        | none => match cByts k with
          | some (m, _) => some (pc + n, ls, .int (Int32.ofNat m) :: st, w)
          | none => none
    | _, _ => none
def xnew (K : XK) (R : Nat → Nat → Option Nat) (I : Nat → Nat → Int32) (L : Nat → Nat → Int64) (q : (FieldType × Nat) ⊕ Nat) : XW := (K ++ [q], clrR R K.length none, clrR I K.length 0, clrR L K.length 0)
def stpN (e : XE) (pc : Nat) (ls : XL) (st : List Value) (w : XW) : Option XS := match e, w with
  | (_, i, n, a, b, c, _, _), (K, R, I, L) => match i, st with
    | .new _, st => if K.length < 900000 ∧ a < 11 then some (pc + n, ls, .ref K.length :: st, xnew K R I L (.inr a)) else none
    | .newarray .int, .int x :: st => if K.length < 900000 ∧ ¬ x < 0 ∧ x.toNatClampNeg ≤ 10000 then some (pc + n, ls, .ref K.length :: st, xnew K R I L (.inl (.int, x.toNatClampNeg))) else none
    | .newarray .long, .int x :: st => if K.length < 900000 ∧ ¬ x < 0 ∧ x.toNatClampNeg ≤ 10000 then some (pc + n, ls, .ref K.length :: st, xnew K R I L (.inl (.long, x.toNatClampNeg))) else none
    | .newarray .boolean, .int x :: st => if K.length < 900000 ∧ ¬ x < 0 ∧ x.toNatClampNeg ≤ 10000 then some (pc + n, ls, .ref K.length :: st, xnew K R I L (.inl (.boolean, x.toNatClampNeg))) else none
    | .anewarray _, .int x :: st => match classes[a]? with
      | some r => if K.length < 900000 ∧ ¬ x < 0 ∧ x.toNatClampNeg ≤ 10000 then some (pc + n, ls, .ref K.length :: st, xnew K R I L (.inl (.object r.1, x.toNatClampNeg))) else none
      | none => none
    | .invokespecial _, .ref k :: st => if c = 21 ∧ sWord st = true ∧ k < K.length then some (pc + n, ls, st, w) else none
    | .invokestatic _, .int z :: .int dp :: .ref k1 :: .int sp :: .ref k0 :: st => match K[k0]?, K[k1]? with
      | some (.inl (t0, m0)), some (.inl (t1, m1)) => if c = 20 ∧ sWord st = true ∧ t0 = t1 ∧ ¬ sp < 0 ∧ ¬ dp < 0 ∧ ¬ z < 0 ∧ sp.toNatClampNeg + z.toNatClampNeg ≤ m0 ∧ dp.toNatClampNeg + z.toNatClampNeg ≤ m1 then
          (match t0 with
          | .int => some (pc + n, ls, st, (K, R, cpyR I k0 sp.toNatClampNeg k1 dp.toNatClampNeg z.toNatClampNeg, L))
          | .long => some (pc + n, ls, st, (K, R, I, cpyR L k0 sp.toNatClampNeg k1 dp.toNatClampNeg z.toNatClampNeg))
          | _ => none) else none
      | _, _ => none
    | _, _ => none
/-- which group an instruction is of: 0 jumps, 1 values, 2 locals, 3 cells, 4 makes cells and what is done at once, 5 returns, 6 calls -/
def grp (e : XE) : Nat := match e with
  | (_, i, _, _, _, c, _, _) => match i with
    | .goto _ => 0
    | .ifCond _ _ => 0
    | .if_icmp _ _ => 0
    | .ifnull _ => 0
    | .ifnonnull _ => 0
    | .tableswitch _ _ _ _ => 0
    | .lookupswitch _ _ => 0
    | .iload_n _ => 2
    | .iload _ => 2
    | .lload_n _ => 2
    | .aload_n _ => 2
    | .aload _ => 2
    | .istore_n _ => 2
    | .istore _ => 2
    | .lstore_n _ => 2
    | .astore_n _ => 2
    | .astore _ => 2
    | .iinc _ _ => 2
    | .getfield _ => 3
    | .putfield _ => 3
    | .getstatic _ => 3
    | .ldc _ => 3
    | .iaload => 3
    | .baload => 3
    | .laload => 3
    | .aaload => 3
    | .iastore => 3
    | .bastore => 3
    | .lastore => 3
    | .aastore => 3
    | .arraylength => 3
    | .new _ => 4
    | .newarray _ => 4
    | .anewarray _ => 4
    | .invokespecial _ => if c < 20 then 6 else 4
    | .invokestatic _ => if c < 20 then 6 else 4
    | .invokevirtual _ => 6
    | .ireturn => 5
    | .lreturn => 5
    | .areturn => 5
    | .return_ => 5
    | _ => 1
def stp (X : Nat × (Nat → Int32)) (e : XE) (pc : Nat) (ls : XL) (st : List Value) (w : XW) : Option XS := match grp e with
  | 0 => stpJ e pc ls st w
  | 1 => stpV e pc ls st w
  | 2 => stpL e pc ls st w
  | 3 => stpH X e pc ls st w
  | 4 => stpN e pc ls st w
  | _ => none
/-- a method's end -/
def rtn (ret : Option FieldType) (e : XE) (st : List Value) : Option (Option Value) := match e with
  | (_, i, _) => match i, st, ret with
    | .ireturn, [.int x], some .int => some (some (.int x))
    | .ireturn, [.int x], some ty => if fits ty (.int x) = true then some (some (.int x)) else none
    | .lreturn, [.long x], some .long => some (some (.long x))
    | .areturn, [.ref x], some (.object _) => some (some (.ref x))
    | .areturn, [.null], some (.object _) => some (some .null)
    | .return_, [], none => some none
    | _, _, _ => none
def cdx (cd : List XE) (pc : Nat) : Option XE := match cd with
  | [] => none
  | e :: cd => if e.1 = pc then some e else cdx cd pc
end
section
/-! The methods: each one's code as entries, its links come to numbers (printed by a program of ours out of the Statement). -/
/-- LeavesObject.<init>()V -/
def k0 : List XE := [(0, .aload_n 0, 1, 0, 0, 0, 0, []),
  (1, .invokespecial 3, 3, 0, 0, 21, 1025, []),
  (4, .aload_n 0, 1, 0, 0, 0, 0, []),
  (5, .new 9, 3, 5, 0, 0, 1028, []),
  (8, .dup, 1, 0, 0, 0, 0, []),
  (9, .invokespecial 11, 3, 1, 0, 2, 1030, []),
  (12, .putfield 12, 3, 9, 0, 1, 1239, []),
  (15, .aload_n 0, 1, 0, 0, 0, 0, []),
  (16, .new 9, 3, 5, 0, 0, 1028, []),
  (19, .dup, 1, 0, 0, 0, 0, []),
  (20, .invokespecial 11, 3, 1, 0, 2, 1030, []),
  (23, .putfield 18, 3, 9, 1, 1, 2000, []),
  (26, .aload_n 0, 1, 0, 0, 0, 0, []),
  (27, .new 9, 3, 5, 0, 0, 1028, []),
  (30, .dup, 1, 0, 0, 0, 0, []),
  (31, .invokespecial 11, 3, 1, 0, 2, 1030, []),
  (34, .putfield 21, 3, 9, 2, 1, 2001, []),
  (37, .aload_n 0, 1, 0, 0, 0, 0, []),
  (38, .new 24, 3, 7, 0, 0, 1129, []),
  (41, .dup, 1, 0, 0, 0, 0, []),
  (42, .invokespecial 26, 3, 5, 0, 3, 1131, []),
  (45, .putfield 27, 3, 9, 4, 1, 2003, []),
  (48, .aload_n 0, 1, 0, 0, 0, 0, []),
  (49, .bipush 6, 2, 0, 0, 0, 0, []),
  (51, .anewarray 31, 3, 2, 0, 0, 1147, []),
  (54, .putfield 33, 3, 9, 5, 1, 2004, []),
  (57, .aload_n 0, 1, 0, 0, 0, 0, []),
  (58, .new 31, 3, 2, 0, 0, 1147, []),
  (61, .dup, 1, 0, 0, 0, 0, []),
  (62, .invokespecial 37, 3, 6, 0, 3, 1150, []),
  (65, .putfield 38, 3, 9, 7, 1, 2006, []),
  (68, .aload_n 0, 1, 0, 0, 0, 0, []),
  (69, .new 42, 3, 1, 0, 0, 1185, []),
  (72, .dup, 1, 0, 0, 0, 0, []),
  (73, .invokespecial 44, 3, 4, 0, 3, 1186, []),
  (76, .putfield 45, 3, 9, 8, 1, 2007, []),
  (79, .aload_n 0, 1, 0, 0, 0, 0, []),
  (80, .new 49, 3, 8, 0, 0, 1187, []),
  (83, .dup, 1, 0, 0, 0, 0, []),
  (84, .invokespecial 51, 3, 7, 0, 3, 1189, []),
  (87, .putfield 52, 3, 9, 9, 1, 2008, []),
  (90, .aload_n 0, 1, 0, 0, 0, 0, []),
  (91, .new 56, 3, 0, 0, 0, 1205, []),
  (94, .dup, 1, 0, 0, 0, 0, []),
  (95, .invokespecial 58, 3, 8, 0, 3, 1207, []),
  (98, .putfield 59, 3, 9, 10, 1, 2009, []),
  (101, .aload_n 0, 1, 0, 0, 0, 0, []),
  (102, .bipush 6, 2, 0, 0, 0, 0, []),
  (104, .anewarray 63, 3, 6, 0, 0, 1219, []),
  (107, .putfield 65, 3, 9, 11, 1, 2010, []),
  (110, .iconst 0, 1, 0, 0, 0, 0, []),
  (111, .istore_n 1, 1, 1, 0, 0, 0, []),
  (112, .iload_n 1, 1, 1, 0, 0, 0, []),
  (113, .aload_n 0, 1, 0, 0, 0, 0, []),
  (114, .getfield 33, 3, 9, 5, 0, 2004, []),
  (117, .arraylength, 1, 0, 0, 0, 0, []),
  (118, .if_icmp .ge 22, 3, 140, 0, 0, 0, []),
  (121, .aload_n 0, 1, 0, 0, 0, 0, []),
  (122, .getfield 33, 3, 9, 5, 0, 2004, []),
  (125, .iload_n 1, 1, 1, 0, 0, 0, []),
  (126, .new 31, 3, 2, 0, 0, 1147, []),
  (129, .dup, 1, 0, 0, 0, 0, []),
  (130, .invokespecial 37, 3, 6, 0, 3, 1150, []),
  (133, .aastore, 1, 0, 0, 0, 0, []),
  (134, .iinc 1 1, 3, 1, 0, 0, 0, []),
  (137, .goto (-25), 3, 112, 0, 0, 0, []),
  (140, .iconst 0, 1, 0, 0, 0, 0, []),
  (141, .istore_n 1, 1, 1, 0, 0, 0, []),
  (142, .iload_n 1, 1, 1, 0, 0, 0, []),
  (143, .aload_n 0, 1, 0, 0, 0, 0, []),
  (144, .getfield 65, 3, 9, 11, 0, 2010, []),
  (147, .arraylength, 1, 0, 0, 0, 0, []),
  (148, .if_icmp .ge 22, 3, 170, 0, 0, 0, []),
  (151, .aload_n 0, 1, 0, 0, 0, 0, []),
  (152, .getfield 65, 3, 9, 11, 0, 2010, []),
  (155, .iload_n 1, 1, 1, 0, 0, 0, []),
  (156, .new 63, 3, 6, 0, 0, 1219, []),
  (159, .dup, 1, 0, 0, 0, 0, []),
  (160, .invokespecial 69, 3, 9, 0, 3, 1222, []),
  (163, .aastore, 1, 0, 0, 0, 0, []),
  (164, .iinc 1 1, 3, 1, 0, 0, 0, []),
  (167, .goto (-25), 3, 142, 0, 0, 0, []),
  (170, .return_, 1, 0, 0, 0, 0, [])]
def m0 : MI := (⟨"LeavesObject", "<init>", "()V"⟩, prog_1_method_1_code, 2, none, k0, 0, [1024, 1001, 1023, 9999])
/-- LeavesObject$Table.<init>()V -/
def k1 : List XE := [(0, .aload_n 0, 1, 0, 0, 0, 0, []),
  (1, .invokespecial 3, 3, 0, 0, 21, 1033, []),
  (4, .aload_n 0, 1, 0, 0, 0, 0, []),
  (5, .iconst 5, 1, 0, 0, 0, 0, []),
  (6, .anewarray 9, 3, 1, 0, 0, 1034, []),
  (9, .putfield 11, 3, 5, 0, 1, 1101, []),
  (12, .aload_n 0, 1, 0, 0, 0, 0, []),
  (13, .iconst (-1), 1, 0, 0, 0, 0, []),
  (14, .putfield 17, 3, 5, 3, 0, 1106, []),
  (17, .aload_n 0, 1, 0, 0, 0, 0, []),
  (18, .new 21, 3, 4, 0, 0, 1036, []),
  (21, .dup, 1, 0, 0, 0, 0, []),
  (22, .iconst 5, 1, 0, 0, 0, 0, []),
  (23, .invokespecial 23, 3, 2, 1, 2, 1038, []),
  (26, .putfield 26, 3, 5, 4, 1, 1108, []),
  (29, .aload_n 0, 1, 0, 0, 0, 0, []),
  (30, .new 21, 3, 4, 0, 0, 1036, []),
  (33, .dup, 1, 0, 0, 0, 0, []),
  (34, .bipush 10, 2, 0, 0, 0, 0, []),
  (36, .invokespecial 23, 3, 2, 1, 2, 1038, []),
  (39, .putfield 30, 3, 5, 5, 1, 1110, []),
  (42, .aload_n 0, 1, 0, 0, 0, 0, []),
  (43, .new 21, 3, 4, 0, 0, 1036, []),
  (46, .dup, 1, 0, 0, 0, 0, []),
  (47, .bipush 8, 2, 0, 0, 0, 0, []),
  (49, .invokespecial 23, 3, 2, 1, 2, 1038, []),
  (52, .putfield 33, 3, 5, 6, 1, 1112, []),
  (55, .iconst 0, 1, 0, 0, 0, 0, []),
  (56, .istore_n 1, 1, 1, 0, 0, 0, []),
  (57, .iload_n 1, 1, 1, 0, 0, 0, []),
  (58, .aload_n 0, 1, 0, 0, 0, 0, []),
  (59, .getfield 11, 3, 5, 0, 0, 1101, []),
  (62, .arraylength, 1, 0, 0, 0, 0, []),
  (63, .if_icmp .ge 22, 3, 85, 0, 0, 0, []),
  (66, .aload_n 0, 1, 0, 0, 0, 0, []),
  (67, .getfield 11, 3, 5, 0, 0, 1101, []),
  (70, .iload_n 1, 1, 1, 0, 0, 0, []),
  (71, .new 9, 3, 1, 0, 0, 1034, []),
  (74, .dup, 1, 0, 0, 0, 0, []),
  (75, .invokespecial 36, 3, 4, 0, 3, 1058, []),
  (78, .aastore, 1, 0, 0, 0, 0, []),
  (79, .iinc 1 1, 3, 1, 0, 0, 0, []),
  (82, .goto (-25), 3, 57, 0, 0, 0, []),
  (85, .return_, 1, 0, 0, 0, 0, [])]
def m1 : MI := (⟨"LeavesObject$Table", "<init>", "()V"⟩, prog_7_method_1_code, 2, none, k1, 0, [1032, 1002, 1031, 9999])
/-- LeavesObject$Rows.<init>(I)V -/
def k2 : List XE := [(0, .aload_n 0, 1, 0, 0, 0, 0, []),
  (1, .invokespecial 1, 3, 0, 0, 21, 1041, []),
  (4, .iload_n 1, 1, 1, 0, 0, 0, []),
  (5, .iconst 0, 1, 0, 0, 0, 0, []),
  (6, .invokestatic 7, 3, 3, 2, 5, 1042, []),
  (9, .istore_n 2, 1, 2, 0, 0, 0, []),
  (10, .aload_n 0, 1, 0, 0, 0, 0, []),
  (11, .iload_n 2, 1, 2, 0, 0, 0, []),
  (12, .newarray .int, 2, 0, 0, 0, 0, []),
  (14, .putfield 13, 3, 4, 0, 1, 1045, []),
  (17, .aload_n 0, 1, 0, 0, 0, 0, []),
  (18, .iload_n 2, 1, 2, 0, 0, 0, []),
  (19, .newarray .int, 2, 0, 0, 0, 0, []),
  (21, .putfield 19, 3, 4, 1, 1, 1046, []),
  (24, .return_, 1, 0, 0, 0, 0, [])]
def m2 : MI := (⟨"LeavesObject$Rows", "<init>", "(I)V"⟩, prog_6_method_1_code, 3, none, k2, 1, [1040, 1003, 1039, 9999])
/-- java/lang/Math.max(II)I -/
def k3 : List XE := [(0, .iload_n 0, 1, 0, 0, 0, 0, []),
  (1, .iload_n 1, 1, 1, 0, 0, 0, []),
  (2, .if_icmp .lt 7, 3, 9, 0, 0, 0, []),
  (5, .iload_n 0, 1, 0, 0, 0, 0, []),
  (6, .goto 4, 3, 10, 0, 0, 0, []),
  (9, .iload_n 1, 1, 1, 0, 0, 0, []),
  (10, .ireturn, 1, 0, 0, 0, 0, [])]
def m3 : MI := (⟨"java/lang/Math", "max", "(II)I"⟩, prog_14_method_65_code, 2, (Option.some Jvm.ClassFile.FieldType.int), k3, 2, [1044, 1004, 1043, 9999])
/-- LeavesObject$Cup.<init>()V -/
def k4 : List XE := [(0, .aload_n 0, 1, 0, 0, 0, 0, []),
  (1, .invokespecial 3, 3, 0, 0, 21, 1061, []),
  (4, .aload_n 0, 1, 0, 0, 0, 0, []),
  (5, .iconst 4, 1, 0, 0, 0, 0, []),
  (6, .newarray .int, 2, 0, 0, 0, 0, []),
  (8, .putfield 9, 3, 1, 6, 1, 1085, []),
  (11, .return_, 1, 0, 0, 0, 0, [])]
def m4 : MI := (⟨"LeavesObject$Cup", "<init>", "()V"⟩, prog_3_method_1_code, 1, none, k4, 0, [1060, 1005, 1059, 9999])
/-- LeavesObject$Text.<init>()V -/
def k5 : List XE := [(0, .aload_n 0, 1, 0, 0, 0, 0, []),
  (1, .invokespecial 3, 3, 0, 0, 21, 1134, []),
  (4, .aload_n 0, 1, 0, 0, 0, 0, []),
  (5, .bipush 100, 2, 0, 0, 0, 0, []),
  (7, .newarray .int, 2, 0, 0, 0, 0, []),
  (9, .putfield 9, 3, 7, 0, 1, 1135, []),
  (12, .return_, 1, 0, 0, 0, 0, [])]
def m5 : MI := (⟨"LeavesObject$Text", "<init>", "()V"⟩, prog_9_method_1_code, 1, none, k5, 0, [1133, 1006, 1132, 9999])
/-- LeavesObject$Inn.<init>()V -/
def k6 : List XE := [(0, .aload_n 0, 1, 0, 0, 0, 0, []),
  (1, .invokespecial 3, 3, 0, 0, 21, 1153, []),
  (4, .aload_n 0, 1, 0, 0, 0, 0, []),
  (5, .iconst 2, 1, 0, 0, 0, 0, []),
  (6, .putfield 11, 3, 2, 0, 0, 1154, []),
  (9, .aload_n 0, 1, 0, 0, 0, 0, []),
  (10, .iconst 1, 1, 0, 0, 0, 0, []),
  (11, .putfield 15, 3, 2, 1, 0, 1158, []),
  (14, .aload_n 0, 1, 0, 0, 0, 0, []),
  (15, .bipush 10, 2, 0, 0, 0, 0, []),
  (17, .newarray .int, 2, 0, 0, 0, 0, []),
  (19, .putfield 18, 3, 2, 3, 1, 1163, []),
  (22, .aload_n 0, 1, 0, 0, 0, 0, []),
  (23, .bipush 10, 2, 0, 0, 0, 0, []),
  (25, .newarray .int, 2, 0, 0, 0, 0, []),
  (27, .putfield 22, 3, 2, 4, 1, 1164, []),
  (30, .aload_n 0, 1, 0, 0, 0, 0, []),
  (31, .bipush 100, 2, 0, 0, 0, 0, []),
  (33, .newarray .int, 2, 0, 0, 0, 0, []),
  (35, .putfield 25, 3, 2, 6, 1, 1166, []),
  (38, .aload_n 0, 1, 0, 0, 0, 0, []),
  (39, .bipush 6, 2, 0, 0, 0, 0, []),
  (41, .newarray .int, 2, 0, 0, 0, 0, []),
  (43, .putfield 28, 3, 2, 7, 1, 1167, []),
  (46, .return_, 1, 0, 0, 0, 0, [])]
def m6 : MI := (⟨"LeavesObject$Inn", "<init>", "()V"⟩, prog_4_method_1_code, 1, none, k6, 0, [1152, 1007, 1151, 9999])
/-- LeavesObject$Tries.<init>()V -/
def k7 : List XE := [(0, .aload_n 0, 1, 0, 0, 0, 0, []),
  (1, .invokespecial 3, 3, 0, 0, 21, 1192, []),
  (4, .aload_n 0, 1, 0, 0, 0, 0, []),
  (5, .sipush 341, 3, 0, 0, 0, 0, []),
  (8, .newarray .int, 2, 0, 0, 0, 0, []),
  (10, .putfield 9, 3, 8, 0, 1, 1195, []),
  (13, .aload_n 0, 1, 0, 0, 0, 0, []),
  (14, .sipush 341, 3, 0, 0, 0, 0, []),
  (17, .newarray .int, 2, 0, 0, 0, 0, []),
  (19, .putfield 15, 3, 8, 1, 1, 1196, []),
  (22, .aload_n 0, 1, 0, 0, 0, 0, []),
  (23, .new 18, 3, 1, 0, 0, 1193, []),
  (26, .dup, 1, 0, 0, 0, 0, []),
  (27, .invokespecial 20, 3, 4, 0, 3, 1194, []),
  (30, .putfield 21, 3, 8, 2, 1, 1197, []),
  (33, .return_, 1, 0, 0, 0, 0, [])]
def m7 : MI := (⟨"LeavesObject$Tries", "<init>", "()V"⟩, prog_10_method_1_code, 1, none, k7, 0, [1191, 1008, 1190, 9999])
/-- LeavesObject$Acts.<init>()V -/
def k8 : List XE := [(0, .aload_n 0, 1, 0, 0, 0, 0, []),
  (1, .invokespecial 3, 3, 0, 0, 21, 1210, []),
  (4, .aload_n 0, 1, 0, 0, 0, 0, []),
  (5, .bipush 20, 2, 0, 0, 0, 0, []),
  (7, .newarray .int, 2, 0, 0, 0, 0, []),
  (9, .putfield 9, 3, 0, 0, 1, 1211, []),
  (12, .return_, 1, 0, 0, 0, 0, [])]
def m8 : MI := (⟨"LeavesObject$Acts", "<init>", "()V"⟩, prog_2_method_1_code, 1, none, k8, 0, [1209, 1009, 1208, 9999])
/-- LeavesObject$Tape.<init>()V -/
def k9 : List XE := [(0, .aload_n 0, 1, 0, 0, 0, 0, []),
  (1, .invokespecial 3, 3, 0, 0, 21, 1225, []),
  (4, .aload_n 0, 1, 0, 0, 0, 0, []),
  (5, .iconst (-1), 1, 0, 0, 0, 0, []),
  (6, .putfield 9, 3, 6, 0, 0, 1226, []),
  (9, .aload_n 0, 1, 0, 0, 0, 0, []),
  (10, .bipush 60, 2, 0, 0, 0, 0, []),
  (12, .newarray .long, 2, 0, 0, 0, 0, []),
  (14, .putfield 15, 3, 6, 2, 1, 1229, []),
  (17, .return_, 1, 0, 0, 0, 0, [])]
def m9 : MI := (⟨"LeavesObject$Tape", "<init>", "()V"⟩, prog_8_method_1_code, 1, none, k9, 0, [1224, 1010, 1223, 9999])
/-- LeavesObject.cup(III)I -/
def k10 : List XE := [(0, .iload_n 1, 1, 1, 0, 0, 0, []),
  (1, .ifCond .lt 9, 3, 10, 0, 0, 0, []),
  (4, .iload_n 1, 1, 1, 0, 0, 0, []),
  (5, .bipush 7, 2, 0, 0, 0, 0, []),
  (7, .if_icmp .lt 5, 3, 12, 0, 0, 0, []),
  (10, .iconst (-1), 1, 0, 0, 0, 0, []),
  (11, .ireturn, 1, 0, 0, 0, 0, []),
  (12, .iload_n 2, 1, 2, 0, 0, 0, []),
  (13, .invokestatic 70, 3, 11, 1, 4, 2040, []),
  (16, .ifCond .eq 10, 3, 26, 0, 0, 0, []),
  (19, .iload_n 3, 1, 3, 0, 0, 0, []),
  (20, .invokestatic 74, 3, 12, 1, 4, 2043, []),
  (23, .ifCond .ne 6, 3, 29, 0, 0, 0, []),
  (26, .bipush (-2), 2, 0, 0, 0, 0, []),
  (28, .ireturn, 1, 0, 0, 0, 0, []),
  (29, .aload_n 0, 1, 0, 0, 0, 0, []),
  (30, .getfield 12, 3, 9, 0, 0, 1239, []),
  (33, .aload_n 0, 1, 0, 0, 0, 0, []),
  (34, .getfield 12, 3, 9, 0, 0, 1239, []),
  (37, .getfield 77, 3, 5, 1, 0, 1102, []),
  (40, .invokevirtual 81, 3, 13, 1, 0, 2046, [(5, 0)]),
  (43, .astore 4, 2, 4, 0, 0, 0, []),
  (45, .aload 4, 2, 4, 0, 0, 0, []),
  (47, .ifnonnull 6, 3, 53, 0, 0, 0, []),
  (50, .bipush (-4), 2, 0, 0, 0, 0, []),
  (52, .ireturn, 1, 0, 0, 0, 0, []),
  (53, .aload 4, 2, 4, 0, 0, 0, []),
  (55, .aload_n 0, 1, 0, 0, 0, 0, []),
  (56, .getfield 12, 3, 9, 0, 0, 1239, []),
  (59, .getfield 77, 3, 5, 1, 0, 1102, []),
  (62, .iload_n 1, 1, 1, 0, 0, 0, []),
  (63, .iload_n 2, 1, 2, 0, 0, 0, []),
  (64, .iload_n 3, 1, 3, 0, 0, 0, []),
  (65, .invokevirtual 85, 3, 14, 4, 0, 2050, [(1, 0)]),
  (68, .aload_n 0, 1, 0, 0, 0, 0, []),
  (69, .getfield 12, 3, 9, 0, 0, 1239, []),
  (72, .dup, 1, 0, 0, 0, 0, []),
  (73, .getfield 77, 3, 5, 1, 0, 1102, []),
  (76, .iconst 1, 1, 0, 0, 0, 0, []),
  (77, .iadd, 1, 0, 0, 0, 0, []),
  (78, .putfield 77, 3, 5, 1, 0, 1102, []),
  (81, .aload 4, 2, 4, 0, 0, 0, []),
  (83, .getfield 89, 3, 1, 0, 0, 1063, []),
  (86, .ireturn, 1, 0, 0, 0, 0, [])]
def m10 : MI := (⟨"LeavesObject", "cup", "(III)I"⟩, prog_1_method_2_code, 5, (Option.some Jvm.ClassFile.FieldType.int), k10, 3, [2039, 1001, 2037, 2038])
/-- LeavesObject.isDigit(I)Z -/
def k11 : List XE := [(0, .iload_n 0, 1, 0, 0, 0, 0, []),
  (1, .ifCond .lt 13, 3, 14, 0, 0, 0, []),
  (4, .iload_n 0, 1, 0, 0, 0, 0, []),
  (5, .bipush 10, 2, 0, 0, 0, 0, []),
  (7, .if_icmp .ge 7, 3, 14, 0, 0, 0, []),
  (10, .iconst 1, 1, 0, 0, 0, 0, []),
  (11, .goto 4, 3, 15, 0, 0, 0, []),
  (14, .iconst 0, 1, 0, 0, 0, 0, []),
  (15, .ireturn, 1, 0, 0, 0, 0, [])]
def m11 : MI := (⟨"LeavesObject", "isDigit", "(I)Z"⟩, prog_1_method_39_code, 1, (Option.some Jvm.ClassFile.FieldType.boolean), k11, 1, [2042, 1001, 2041, 9999])
/-- LeavesObject.areLeaves(I)Z -/
def k12 : List XE := [(0, .iload_n 0, 1, 0, 0, 0, 0, []),
  (1, .ifCond .lt 14, 3, 15, 0, 0, 0, []),
  (4, .iload_n 0, 1, 0, 0, 0, 0, []),
  (5, .sipush 4095, 3, 0, 0, 0, 0, []),
  (8, .if_icmp .gt 7, 3, 15, 0, 0, 0, []),
  (11, .iconst 1, 1, 0, 0, 0, 0, []),
  (12, .goto 4, 3, 16, 0, 0, 0, []),
  (15, .iconst 0, 1, 0, 0, 0, 0, []),
  (16, .ireturn, 1, 0, 0, 0, 0, [])]
def m12 : MI := (⟨"LeavesObject", "areLeaves", "(I)Z"⟩, prog_1_method_38_code, 1, (Option.some Jvm.ClassFile.FieldType.boolean), k12, 1, [2045, 1001, 2044, 9999])
/-- LeavesObject$Table.slotAt(I)LLeavesObject$Cup; -/
def k13 : List XE := [(0, .iload_n 1, 1, 1, 0, 0, 0, []),
  (1, .ifCond .lt 21, 3, 22, 0, 0, 0, []),
  (4, .iload_n 1, 1, 1, 0, 0, 0, []),
  (5, .aload_n 0, 1, 0, 0, 0, 0, []),
  (6, .getfield 11, 3, 5, 0, 0, 1101, []),
  (9, .arraylength, 1, 0, 0, 0, 0, []),
  (10, .if_icmp .ge 12, 3, 22, 0, 0, 0, []),
  (13, .aload_n 0, 1, 0, 0, 0, 0, []),
  (14, .getfield 11, 3, 5, 0, 0, 1101, []),
  (17, .iload_n 1, 1, 1, 0, 0, 0, []),
  (18, .aaload, 1, 0, 0, 0, 0, []),
  (19, .goto 4, 3, 23, 0, 0, 0, []),
  (22, .aconst_null, 1, 0, 0, 0, 0, []),
  (23, .areturn, 1, 0, 0, 0, 0, [])]
def m13 : MI := (⟨"LeavesObject$Table", "slotAt", "(I)LLeavesObject$Cup;"⟩, prog_7_method_2_code, 2, (Option.some (Jvm.ClassFile.FieldType.object "LeavesObject$Cup")), k13, 1, [2049, 1002, 2047, 2048])
/-- LeavesObject$Cup.become(IIII)V -/
def k14 : List XE := [(0, .aload_n 0, 1, 0, 0, 0, 0, []),
  (1, .iload_n 1, 1, 1, 0, 0, 0, []),
  (2, .putfield 15, 3, 1, 0, 0, 1062, []),
  (5, .aload_n 0, 1, 0, 0, 0, 0, []),
  (6, .iload_n 2, 1, 2, 0, 0, 0, []),
  (7, .putfield 19, 3, 1, 1, 0, 1066, []),
  (10, .aload_n 0, 1, 0, 0, 0, 0, []),
  (11, .iload_n 3, 1, 3, 0, 0, 0, []),
  (12, .putfield 22, 3, 1, 2, 0, 1070, []),
  (15, .aload_n 0, 1, 0, 0, 0, 0, []),
  (16, .iload 4, 2, 4, 0, 0, 0, []),
  (18, .putfield 25, 3, 1, 3, 0, 1075, []),
  (21, .aload_n 0, 1, 0, 0, 0, 0, []),
  (22, .iconst 0, 1, 0, 0, 0, 0, []),
  (23, .putfield 28, 3, 1, 4, 0, 1079, []),
  (26, .aload_n 0, 1, 0, 0, 0, 0, []),
  (27, .iconst 0, 1, 0, 0, 0, 0, []),
  (28, .putfield 31, 3, 1, 5, 0, 1083, []),
  (31, .aload_n 0, 1, 0, 0, 0, 0, []),
  (32, .getfield 9, 3, 1, 6, 0, 1085, []),
  (35, .iconst 0, 1, 0, 0, 0, 0, []),
  (36, .invokestatic 34, 3, 15, 2, 5, 2054, []),
  (39, .return_, 1, 0, 0, 0, 0, [])]
def m14 : MI := (⟨"LeavesObject$Cup", "become", "(IIII)V"⟩, prog_3_method_2_code, 5, none, k14, 4, [2053, 1005, 2051, 2052])
/-- java/util/Arrays.fill([II)V -/
def k15 : List XE := [(0, .iconst 0, 1, 0, 0, 0, 0, []),
  (1, .istore_n 2, 1, 2, 0, 0, 0, []),
  (2, .aload_n 0, 1, 0, 0, 0, 0, []),
  (3, .arraylength, 1, 0, 0, 0, 0, []),
  (4, .istore_n 3, 1, 3, 0, 0, 0, []),
  (5, .iload_n 2, 1, 2, 0, 0, 0, []),
  (6, .iload_n 3, 1, 3, 0, 0, 0, []),
  (7, .if_icmp .ge 13, 3, 20, 0, 0, 0, []),
  (10, .aload_n 0, 1, 0, 0, 0, 0, []),
  (11, .iload_n 2, 1, 2, 0, 0, 0, []),
  (12, .iload_n 1, 1, 1, 0, 0, 0, []),
  (13, .iastore, 1, 0, 0, 0, 0, []),
  (14, .iinc 2 1, 3, 2, 0, 0, 0, []),
  (17, .goto (-12), 3, 5, 0, 0, 0, []),
  (20, .return_, 1, 0, 0, 0, 0, [])]
def m15 : MI := (⟨"java/util/Arrays", "fill", "([II)V"⟩, prog_19_method_103_code, 4, none, k15, 2, [2056, 1012, 2055, 9999])
/-- LeavesObject.of(II)I -/
def k16 : List XE := [(0, .aload_n 0, 1, 0, 0, 0, 0, []),
  (1, .getfield 12, 3, 9, 0, 0, 1239, []),
  (4, .iload_n 1, 1, 1, 0, 0, 0, []),
  (5, .invokevirtual 92, 3, 17, 1, 0, 2061, [(5, 0)]),
  (8, .astore_n 3, 1, 3, 0, 0, 0, []),
  (9, .aload_n 3, 1, 3, 0, 0, 0, []),
  (10, .ifnonnull 5, 3, 15, 0, 0, 0, []),
  (13, .iconst (-1), 1, 0, 0, 0, 0, []),
  (14, .ireturn, 1, 0, 0, 0, 0, []),
  (15, .iload_n 2, 1, 2, 0, 0, 0, []),
  (16, .bipush 10, 2, 0, 0, 0, 0, []),
  (18, .isub, 1, 0, 0, 0, 0, []),
  (19, .invokestatic 95, 3, 18, 1, 4, 2066, []),
  (22, .ifCond .eq 23, 3, 45, 0, 0, 0, []),
  (25, .aload_n 0, 1, 0, 0, 0, 0, []),
  (26, .invokevirtual 98, 3, 19, 0, 0, 2069, [(9, 0)]),
  (29, .aload_n 3, 1, 3, 0, 0, 0, []),
  (30, .iload_n 2, 1, 2, 0, 0, 0, []),
  (31, .bipush 10, 2, 0, 0, 0, 0, []),
  (33, .isub, 1, 0, 0, 0, 0, []),
  (34, .aload_n 0, 1, 0, 0, 0, 0, []),
  (35, .getfield 12, 3, 9, 0, 0, 1239, []),
  (38, .getfield 102, 3, 5, 2, 0, 1104, []),
  (41, .invokevirtual 105, 3, 20, 3, 0, 2073, [(2, 0)]),
  (44, .ireturn, 1, 0, 0, 0, 0, []),
  (45, .iload_n 2, 1, 2, 0, 0, 0, []),
  (46, .bipush 20, 2, 0, 0, 0, 0, []),
  (48, .isub, 1, 0, 0, 0, 0, []),
  (49, .invokestatic 95, 3, 18, 1, 4, 2066, []),
  (52, .ifCond .eq 19, 3, 71, 0, 0, 0, []),
  (55, .aload_n 3, 1, 3, 0, 0, 0, []),
  (56, .iload_n 2, 1, 2, 0, 0, 0, []),
  (57, .bipush 20, 2, 0, 0, 0, 0, []),
  (59, .isub, 1, 0, 0, 0, 0, []),
  (60, .aload_n 0, 1, 0, 0, 0, 0, []),
  (61, .getfield 12, 3, 9, 0, 0, 1239, []),
  (64, .getfield 102, 3, 5, 2, 0, 1104, []),
  (67, .invokevirtual 109, 3, 25, 2, 0, 2096, [(1, 0)]),
  (70, .ireturn, 1, 0, 0, 0, 0, []),
  (71, .iload_n 2, 1, 2, 0, 0, 0, []),
  (72, .tableswitch 61 0 4 #[36, 41, 46, 51, 56], 36, 133, 0, 0, 0, [(0, 108), (1, 113), (2, 118), (3, 123), (4, 128)]),
  (108, .aload_n 3, 1, 3, 0, 0, 0, []),
  (109, .getfield 113, 3, 1, 1, 0, 1067, []),
  (112, .ireturn, 1, 0, 0, 0, 0, []),
  (113, .aload_n 3, 1, 3, 0, 0, 0, []),
  (114, .getfield 116, 3, 1, 2, 0, 1071, []),
  (117, .ireturn, 1, 0, 0, 0, 0, []),
  (118, .aload_n 3, 1, 3, 0, 0, 0, []),
  (119, .getfield 119, 3, 1, 3, 0, 1076, []),
  (122, .ireturn, 1, 0, 0, 0, 0, []),
  (123, .aload_n 3, 1, 3, 0, 0, 0, []),
  (124, .getfield 122, 3, 1, 4, 0, 1081, []),
  (127, .ireturn, 1, 0, 0, 0, 0, []),
  (128, .aload_n 3, 1, 3, 0, 0, 0, []),
  (129, .getfield 125, 3, 1, 5, 0, 1084, []),
  (132, .ireturn, 1, 0, 0, 0, 0, []),
  (133, .iconst (-1), 1, 0, 0, 0, 0, []),
  (134, .ireturn, 1, 0, 0, 0, 0, [])]
def m16 : MI := (⟨"LeavesObject", "of", "(II)I"⟩, prog_1_method_3_code, 4, (Option.some Jvm.ClassFile.FieldType.int), k16, 2, [2060, 1001, 2058, 2059])
/-- LeavesObject$Table.cupAt(I)LLeavesObject$Cup; -/
def k17 : List XE := [(0, .iload_n 1, 1, 1, 0, 0, 0, []),
  (1, .aload_n 0, 1, 0, 0, 0, 0, []),
  (2, .getfield 37, 3, 5, 1, 0, 1103, []),
  (5, .if_icmp .ge 11, 3, 16, 0, 0, 0, []),
  (8, .aload_n 0, 1, 0, 0, 0, 0, []),
  (9, .iload_n 1, 1, 1, 0, 0, 0, []),
  (10, .invokevirtual 40, 3, 13, 1, 0, 2065, [(5, 0)]),
  (13, .goto 4, 3, 17, 0, 0, 0, []),
  (16, .aconst_null, 1, 0, 0, 0, 0, []),
  (17, .areturn, 1, 0, 0, 0, 0, [])]
def m17 : MI := (⟨"LeavesObject$Table", "cupAt", "(I)LLeavesObject$Cup;"⟩, prog_7_method_3_code, 2, (Option.some (Jvm.ClassFile.FieldType.object "LeavesObject$Cup")), k17, 1, [2064, 1002, 2062, 2063])
/-- LeavesObject.isSaying(I)Z -/
def k18 : List XE := [(0, .iload_n 0, 1, 0, 0, 0, 0, []),
  (1, .ifCond .lt 12, 3, 13, 0, 0, 0, []),
  (4, .iload_n 0, 1, 0, 0, 0, 0, []),
  (5, .iconst 4, 1, 0, 0, 0, 0, []),
  (6, .if_icmp .ge 7, 3, 13, 0, 0, 0, []),
  (9, .iconst 1, 1, 0, 0, 0, 0, []),
  (10, .goto 4, 3, 14, 0, 0, 0, []),
  (13, .iconst 0, 1, 0, 0, 0, 0, []),
  (14, .ireturn, 1, 0, 0, 0, 0, [])]
def m18 : MI := (⟨"LeavesObject", "isSaying", "(I)Z"⟩, prog_1_method_40_code, 1, (Option.some Jvm.ClassFile.FieldType.boolean), k18, 1, [2068, 1001, 2067, 9999])
/-- LeavesObject.innThatHolds()LLeavesObject$Inn; -/
def k19 : List XE := [(0, .aload_n 0, 1, 0, 0, 0, 0, []),
  (1, .getfield 12, 3, 9, 0, 0, 1239, []),
  (4, .getfield 152, 3, 5, 3, 0, 1107, []),
  (7, .ifCond .lt 18, 3, 25, 0, 0, 0, []),
  (10, .aload_n 0, 1, 0, 0, 0, 0, []),
  (11, .getfield 12, 3, 9, 0, 0, 1239, []),
  (14, .getfield 152, 3, 5, 3, 0, 1107, []),
  (17, .aload_n 0, 1, 0, 0, 0, 0, []),
  (18, .getfield 33, 3, 9, 5, 0, 2004, []),
  (21, .arraylength, 1, 0, 0, 0, 0, []),
  (22, .if_icmp .lt 8, 3, 30, 0, 0, 0, []),
  (25, .aload_n 0, 1, 0, 0, 0, 0, []),
  (26, .getfield 38, 3, 9, 7, 0, 2006, []),
  (29, .areturn, 1, 0, 0, 0, 0, []),
  (30, .aload_n 0, 1, 0, 0, 0, 0, []),
  (31, .getfield 33, 3, 9, 5, 0, 2004, []),
  (34, .aload_n 0, 1, 0, 0, 0, 0, []),
  (35, .getfield 12, 3, 9, 0, 0, 1239, []),
  (38, .getfield 152, 3, 5, 3, 0, 1107, []),
  (41, .aaload, 1, 0, 0, 0, 0, []),
  (42, .astore_n 1, 1, 1, 0, 0, 0, []),
  (43, .aload_n 1, 1, 1, 0, 0, 0, []),
  (44, .ifnonnull 10, 3, 54, 0, 0, 0, []),
  (47, .aload_n 0, 1, 0, 0, 0, 0, []),
  (48, .getfield 38, 3, 9, 7, 0, 2006, []),
  (51, .goto 4, 3, 55, 0, 0, 0, []),
  (54, .aload_n 1, 1, 1, 0, 0, 0, []),
  (55, .areturn, 1, 0, 0, 0, 0, [])]
def m19 : MI := (⟨"LeavesObject", "innThatHolds", "()LLeavesObject$Inn;"⟩, prog_1_method_45_code, 2, (Option.some (Jvm.ClassFile.FieldType.object "LeavesObject$Inn")), k19, 0, [2072, 1001, 2071, 0])
/-- LeavesObject$Inn.willOf(LLeavesObject$Cup;II)I -/
def k20 : List XE := [(0, .aload_n 0, 1, 0, 0, 0, 0, []),
  (1, .aload_n 1, 1, 1, 0, 0, 0, []),
  (2, .iload_n 2, 1, 2, 0, 0, 0, []),
  (3, .iload_n 3, 1, 3, 0, 0, 0, []),
  (4, .invokevirtual 41, 3, 21, 3, 0, 2077, [(2, 0)]),
  (7, .iconst 5, 1, 0, 0, 0, 0, []),
  (8, .istore 4, 2, 4, 0, 0, 0, []),
  (10, .iconst 0, 1, 0, 0, 0, 0, []),
  (11, .istore 5, 2, 5, 0, 0, 0, []),
  (13, .iconst 0, 1, 0, 0, 0, 0, []),
  (14, .istore 6, 2, 6, 0, 0, 0, []),
  (16, .iload 6, 2, 6, 0, 0, 0, []),
  (18, .aload_n 0, 1, 0, 0, 0, 0, []),
  (19, .getfield 31, 3, 2, 2, 0, 1162, []),
  (22, .if_icmp .ge 66, 3, 88, 0, 0, 0, []),
  (25, .iload 6, 2, 6, 0, 0, 0, []),
  (27, .aload_n 0, 1, 0, 0, 0, 0, []),
  (28, .getfield 18, 3, 2, 3, 0, 1163, []),
  (31, .arraylength, 1, 0, 0, 0, 0, []),
  (32, .if_icmp .ge 56, 3, 88, 0, 0, 0, []),
  (35, .iload 6, 2, 6, 0, 0, 0, []),
  (37, .aload_n 0, 1, 0, 0, 0, 0, []),
  (38, .getfield 22, 3, 2, 4, 0, 1164, []),
  (41, .arraylength, 1, 0, 0, 0, 0, []),
  (42, .if_icmp .ge 46, 3, 88, 0, 0, 0, []),
  (45, .aload_n 0, 1, 0, 0, 0, 0, []),
  (46, .iload 5, 2, 5, 0, 0, 0, []),
  (48, .aload_n 0, 1, 0, 0, 0, 0, []),
  (49, .getfield 22, 3, 2, 4, 0, 1164, []),
  (52, .iload 6, 2, 6, 0, 0, 0, []),
  (54, .iaload, 1, 0, 0, 0, 0, []),
  (55, .invokevirtual 45, 3, 23, 2, 0, 2087, [(2, 0)]),
  (58, .ifCond .eq 15, 3, 73, 0, 0, 0, []),
  (61, .iload 4, 2, 4, 0, 0, 0, []),
  (63, .aload_n 0, 1, 0, 0, 0, 0, []),
  (64, .getfield 18, 3, 2, 3, 0, 1163, []),
  (67, .iload 6, 2, 6, 0, 0, 0, []),
  (69, .iaload, 1, 0, 0, 0, 0, []),
  (70, .iadd, 1, 0, 0, 0, 0, []),
  (71, .istore 4, 2, 4, 0, 0, 0, []),
  (73, .aload_n 0, 1, 0, 0, 0, 0, []),
  (74, .getfield 22, 3, 2, 4, 0, 1164, []),
  (77, .iload 6, 2, 6, 0, 0, 0, []),
  (79, .iaload, 1, 0, 0, 0, 0, []),
  (80, .istore 5, 2, 5, 0, 0, 0, []),
  (82, .iinc 6 1, 3, 6, 0, 0, 0, []),
  (85, .goto (-69), 3, 16, 0, 0, 0, []),
  (88, .iload 4, 2, 4, 0, 0, 0, []),
  (90, .iconst 0, 1, 0, 0, 0, 0, []),
  (91, .invokestatic 49, 3, 3, 2, 5, 2091, []),
  (94, .ireturn, 1, 0, 0, 0, 0, [])]
def m20 : MI := (⟨"LeavesObject$Inn", "willOf", "(LLeavesObject$Cup;II)I"⟩, prog_4_method_6_code, 7, (Option.some Jvm.ClassFile.FieldType.int), k20, 3, [2076, 1007, 2074, 2075])
/-- LeavesObject$Inn.ask(LLeavesObject$Cup;II)V -/
def k21 : List XE := [(0, .aload_n 0, 1, 0, 0, 0, 0, []),
  (1, .getfield 28, 3, 2, 7, 0, 1167, []),
  (4, .iconst 0, 1, 0, 0, 0, 0, []),
  (5, .aload_n 1, 1, 1, 0, 0, 0, []),
  (6, .getfield 55, 3, 1, 0, 0, 1064, []),
  (9, .iastore, 1, 0, 0, 0, 0, []),
  (10, .aload_n 0, 1, 0, 0, 0, 0, []),
  (11, .getfield 28, 3, 2, 7, 0, 1167, []),
  (14, .iconst 1, 1, 0, 0, 0, 0, []),
  (15, .iload_n 2, 1, 2, 0, 0, 0, []),
  (16, .iastore, 1, 0, 0, 0, 0, []),
  (17, .aload_n 0, 1, 0, 0, 0, 0, []),
  (18, .getfield 28, 3, 2, 7, 0, 1167, []),
  (21, .iconst 2, 1, 0, 0, 0, 0, []),
  (22, .aload_n 1, 1, 1, 0, 0, 0, []),
  (23, .getfield 60, 3, 1, 1, 0, 1068, []),
  (26, .iastore, 1, 0, 0, 0, 0, []),
  (27, .aload_n 0, 1, 0, 0, 0, 0, []),
  (28, .getfield 28, 3, 2, 7, 0, 1167, []),
  (31, .iconst 3, 1, 0, 0, 0, 0, []),
  (32, .aload_n 1, 1, 1, 0, 0, 0, []),
  (33, .getfield 63, 3, 1, 2, 0, 1072, []),
  (36, .iastore, 1, 0, 0, 0, 0, []),
  (37, .aload_n 0, 1, 0, 0, 0, 0, []),
  (38, .getfield 28, 3, 2, 7, 0, 1167, []),
  (41, .iconst 4, 1, 0, 0, 0, 0, []),
  (42, .aload_n 1, 1, 1, 0, 0, 0, []),
  (43, .getfield 66, 3, 1, 3, 0, 1078, []),
  (46, .invokestatic 69, 3, 22, 1, 5, 2081, []),
  (49, .iastore, 1, 0, 0, 0, 0, []),
  (50, .aload_n 0, 1, 0, 0, 0, 0, []),
  (51, .getfield 28, 3, 2, 7, 0, 1167, []),
  (54, .iconst 5, 1, 0, 0, 0, 0, []),
  (55, .iload_n 3, 1, 3, 0, 0, 0, []),
  (56, .bipush 10, 2, 0, 0, 0, 0, []),
  (58, .irem, 1, 0, 0, 0, 0, []),
  (59, .iastore, 1, 0, 0, 0, 0, []),
  (60, .return_, 1, 0, 0, 0, 0, [])]
def m21 : MI := (⟨"LeavesObject$Inn", "ask", "(LLeavesObject$Cup;II)V"⟩, prog_4_method_7_code, 4, none, k21, 3, [2080, 1007, 2079, 1])
/-- java/lang/Integer.bitCount(I)I -/
def k22 : List XE := [(0, .iload_n 0, 1, 0, 0, 0, 0, []),
  (1, .iload_n 0, 1, 0, 0, 0, 0, []),
  (2, .iconst 1, 1, 0, 0, 0, 0, []),
  (3, .iushr, 1, 0, 0, 0, 0, []),
  (4, .ldc_w 265, 3, 0, 0, 0, 2084, [(1431655765, 0)]),
  (7, .iand, 1, 0, 0, 0, 0, []),
  (8, .isub, 1, 0, 0, 0, 0, []),
  (9, .istore_n 0, 1, 0, 0, 0, 0, []),
  (10, .iload_n 0, 1, 0, 0, 0, 0, []),
  (11, .ldc_w 266, 3, 0, 0, 0, 2085, [(858993459, 0)]),
  (14, .iand, 1, 0, 0, 0, 0, []),
  (15, .iload_n 0, 1, 0, 0, 0, 0, []),
  (16, .iconst 2, 1, 0, 0, 0, 0, []),
  (17, .iushr, 1, 0, 0, 0, 0, []),
  (18, .ldc_w 266, 3, 0, 0, 0, 2085, [(858993459, 0)]),
  (21, .iand, 1, 0, 0, 0, 0, []),
  (22, .iadd, 1, 0, 0, 0, 0, []),
  (23, .istore_n 0, 1, 0, 0, 0, 0, []),
  (24, .iload_n 0, 1, 0, 0, 0, 0, []),
  (25, .iload_n 0, 1, 0, 0, 0, 0, []),
  (26, .iconst 4, 1, 0, 0, 0, 0, []),
  (27, .iushr, 1, 0, 0, 0, 0, []),
  (28, .iadd, 1, 0, 0, 0, 0, []),
  (29, .ldc_w 267, 3, 0, 0, 0, 2086, [(252645135, 0)]),
  (32, .iand, 1, 0, 0, 0, 0, []),
  (33, .istore_n 0, 1, 0, 0, 0, 0, []),
  (34, .iload_n 0, 1, 0, 0, 0, 0, []),
  (35, .iload_n 0, 1, 0, 0, 0, 0, []),
  (36, .bipush 8, 2, 0, 0, 0, 0, []),
  (38, .iushr, 1, 0, 0, 0, 0, []),
  (39, .iadd, 1, 0, 0, 0, 0, []),
  (40, .istore_n 0, 1, 0, 0, 0, 0, []),
  (41, .iload_n 0, 1, 0, 0, 0, 0, []),
  (42, .iload_n 0, 1, 0, 0, 0, 0, []),
  (43, .bipush 16, 2, 0, 0, 0, 0, []),
  (45, .iushr, 1, 0, 0, 0, 0, []),
  (46, .iadd, 1, 0, 0, 0, 0, []),
  (47, .istore_n 0, 1, 0, 0, 0, 0, []),
  (48, .iload_n 0, 1, 0, 0, 0, 0, []),
  (49, .bipush 63, 2, 0, 0, 0, 0, []),
  (51, .iand, 1, 0, 0, 0, 0, []),
  (52, .ireturn, 1, 0, 0, 0, 0, [])]
def m22 : MI := (⟨"java/lang/Integer", "bitCount", "(I)I"⟩, prog_13_method_49_code, 1, (Option.some Jvm.ClassFile.FieldType.int), k22, 1, [2083, 1013, 2082, 9999])
/-- LeavesObject$Inn.holds(II)Z -/
def k23 : List XE := [(0, .iconst 0, 1, 0, 0, 0, 0, []),
  (1, .istore_n 3, 1, 3, 0, 0, 0, []),
  (2, .iload_n 1, 1, 1, 0, 0, 0, []),
  (3, .iconst 0, 1, 0, 0, 0, 0, []),
  (4, .invokestatic 49, 3, 3, 2, 5, 2091, []),
  (7, .istore 4, 2, 4, 0, 0, 0, []),
  (9, .iload 4, 2, 4, 0, 0, 0, []),
  (11, .iload_n 2, 1, 2, 0, 0, 0, []),
  (12, .if_icmp .ge 112, 3, 124, 0, 0, 0, []),
  (15, .iload 4, 2, 4, 0, 0, 0, []),
  (17, .aload_n 0, 1, 0, 0, 0, 0, []),
  (18, .getfield 25, 3, 2, 6, 0, 1166, []),
  (21, .arraylength, 1, 0, 0, 0, 0, []),
  (22, .if_icmp .ge 102, 3, 124, 0, 0, 0, []),
  (25, .iload_n 3, 1, 3, 0, 0, 0, []),
  (26, .iconst 1, 1, 0, 0, 0, 0, []),
  (27, .iand, 1, 0, 0, 0, 0, []),
  (28, .istore 5, 2, 5, 0, 0, 0, []),
  (30, .aload_n 0, 1, 0, 0, 0, 0, []),
  (31, .getfield 25, 3, 2, 6, 0, 1166, []),
  (34, .iload 4, 2, 4, 0, 0, 0, []),
  (36, .iaload, 1, 0, 0, 0, 0, []),
  (37, .tableswitch 57 (-3) (-1) #[47, 34, 27], 27, 94, 0, 0, 0, [((-3), 84), ((-2), 71), ((-1), 64)]),
  (64, .iload_n 3, 1, 3, 0, 0, 0, []),
  (65, .iconst 1, 1, 0, 0, 0, 0, []),
  (66, .ixor, 1, 0, 0, 0, 0, []),
  (67, .istore_n 3, 1, 3, 0, 0, 0, []),
  (68, .goto 50, 3, 118, 0, 0, 0, []),
  (71, .iload_n 3, 1, 3, 0, 0, 0, []),
  (72, .iconst 1, 1, 0, 0, 0, 0, []),
  (73, .ishr, 1, 0, 0, 0, 0, []),
  (74, .iload 5, 2, 5, 0, 0, 0, []),
  (76, .bipush (-2), 2, 0, 0, 0, 0, []),
  (78, .ior, 1, 0, 0, 0, 0, []),
  (79, .iand, 1, 0, 0, 0, 0, []),
  (80, .istore_n 3, 1, 3, 0, 0, 0, []),
  (81, .goto 37, 3, 118, 0, 0, 0, []),
  (84, .iload_n 3, 1, 3, 0, 0, 0, []),
  (85, .iconst 1, 1, 0, 0, 0, 0, []),
  (86, .ishr, 1, 0, 0, 0, 0, []),
  (87, .iload 5, 2, 5, 0, 0, 0, []),
  (89, .ior, 1, 0, 0, 0, 0, []),
  (90, .istore_n 3, 1, 3, 0, 0, 0, []),
  (91, .goto 27, 3, 118, 0, 0, 0, []),
  (94, .iload_n 3, 1, 3, 0, 0, 0, []),
  (95, .iconst 1, 1, 0, 0, 0, 0, []),
  (96, .ishl, 1, 0, 0, 0, 0, []),
  (97, .aload_n 0, 1, 0, 0, 0, 0, []),
  (98, .aload_n 0, 1, 0, 0, 0, 0, []),
  (99, .getfield 25, 3, 2, 6, 0, 1166, []),
  (102, .iload 4, 2, 4, 0, 0, 0, []),
  (104, .iaload, 1, 0, 0, 0, 0, []),
  (105, .invokevirtual 75, 3, 24, 1, 0, 2092, [(2, 0)]),
  (108, .ifCond .eq 7, 3, 115, 0, 0, 0, []),
  (111, .iconst 1, 1, 0, 0, 0, 0, []),
  (112, .goto 4, 3, 116, 0, 0, 0, []),
  (115, .iconst 0, 1, 0, 0, 0, 0, []),
  (116, .ior, 1, 0, 0, 0, 0, []),
  (117, .istore_n 3, 1, 3, 0, 0, 0, []),
  (118, .iinc 4 1, 3, 4, 0, 0, 0, []),
  (121, .goto (-112), 3, 9, 0, 0, 0, []),
  (124, .iload_n 3, 1, 3, 0, 0, 0, []),
  (125, .iconst 1, 1, 0, 0, 0, 0, []),
  (126, .iand, 1, 0, 0, 0, 0, []),
  (127, .iconst 1, 1, 0, 0, 0, 0, []),
  (128, .if_icmp .ne 7, 3, 135, 0, 0, 0, []),
  (131, .iconst 1, 1, 0, 0, 0, 0, []),
  (132, .goto 4, 3, 136, 0, 0, 0, []),
  (135, .iconst 0, 1, 0, 0, 0, 0, []),
  (136, .ireturn, 1, 0, 0, 0, 0, [])]
def m23 : MI := (⟨"LeavesObject$Inn", "holds", "(II)Z"⟩, prog_4_method_8_code, 6, (Option.some Jvm.ClassFile.FieldType.boolean), k23, 2, [2090, 1007, 2089, 2])
/-- LeavesObject$Inn.testHolds(I)Z -/
def k24 : List XE := [(0, .iload_n 1, 1, 1, 0, 0, 0, []),
  (1, .bipush 100, 2, 0, 0, 0, 0, []),
  (3, .idiv, 1, 0, 0, 0, 0, []),
  (4, .iconst 3, 1, 0, 0, 0, 0, []),
  (5, .idiv, 1, 0, 0, 0, 0, []),
  (6, .istore_n 2, 1, 2, 0, 0, 0, []),
  (7, .iload_n 2, 1, 2, 0, 0, 0, []),
  (8, .ifCond .lt 12, 3, 20, 0, 0, 0, []),
  (11, .iload_n 2, 1, 2, 0, 0, 0, []),
  (12, .aload_n 0, 1, 0, 0, 0, 0, []),
  (13, .getfield 28, 3, 2, 7, 0, 1167, []),
  (16, .arraylength, 1, 0, 0, 0, 0, []),
  (17, .if_icmp .lt 5, 3, 22, 0, 0, 0, []),
  (20, .iconst 0, 1, 0, 0, 0, 0, []),
  (21, .ireturn, 1, 0, 0, 0, 0, []),
  (22, .iload_n 1, 1, 1, 0, 0, 0, []),
  (23, .bipush 100, 2, 0, 0, 0, 0, []),
  (25, .irem, 1, 0, 0, 0, 0, []),
  (26, .istore_n 3, 1, 3, 0, 0, 0, []),
  (27, .iload_n 1, 1, 1, 0, 0, 0, []),
  (28, .bipush 100, 2, 0, 0, 0, 0, []),
  (30, .idiv, 1, 0, 0, 0, 0, []),
  (31, .iconst 3, 1, 0, 0, 0, 0, []),
  (32, .irem, 1, 0, 0, 0, 0, []),
  (33, .lookupswitch 59 #[(0, 27), (1, 43)], 27, 92, 0, 0, 0, [(0, 60), (1, 76)]),
  (60, .aload_n 0, 1, 0, 0, 0, 0, []),
  (61, .getfield 28, 3, 2, 7, 0, 1167, []),
  (64, .iload_n 2, 1, 2, 0, 0, 0, []),
  (65, .iaload, 1, 0, 0, 0, 0, []),
  (66, .iload_n 3, 1, 3, 0, 0, 0, []),
  (67, .if_icmp .ge 7, 3, 74, 0, 0, 0, []),
  (70, .iconst 1, 1, 0, 0, 0, 0, []),
  (71, .goto 4, 3, 75, 0, 0, 0, []),
  (74, .iconst 0, 1, 0, 0, 0, 0, []),
  (75, .ireturn, 1, 0, 0, 0, 0, []),
  (76, .aload_n 0, 1, 0, 0, 0, 0, []),
  (77, .getfield 28, 3, 2, 7, 0, 1167, []),
  (80, .iload_n 2, 1, 2, 0, 0, 0, []),
  (81, .iaload, 1, 0, 0, 0, 0, []),
  (82, .iload_n 3, 1, 3, 0, 0, 0, []),
  (83, .if_icmp .ne 7, 3, 90, 0, 0, 0, []),
  (86, .iconst 1, 1, 0, 0, 0, 0, []),
  (87, .goto 4, 3, 91, 0, 0, 0, []),
  (90, .iconst 0, 1, 0, 0, 0, 0, []),
  (91, .ireturn, 1, 0, 0, 0, 0, []),
  (92, .aload_n 0, 1, 0, 0, 0, 0, []),
  (93, .getfield 28, 3, 2, 7, 0, 1167, []),
  (96, .iload_n 2, 1, 2, 0, 0, 0, []),
  (97, .iaload, 1, 0, 0, 0, 0, []),
  (98, .iload_n 3, 1, 3, 0, 0, 0, []),
  (99, .if_icmp .le 7, 3, 106, 0, 0, 0, []),
  (102, .iconst 1, 1, 0, 0, 0, 0, []),
  (103, .goto 4, 3, 107, 0, 0, 0, []),
  (106, .iconst 0, 1, 0, 0, 0, 0, []),
  (107, .ireturn, 1, 0, 0, 0, 0, [])]
def m24 : MI := (⟨"LeavesObject$Inn", "testHolds", "(I)Z"⟩, prog_4_method_9_code, 4, (Option.some Jvm.ClassFile.FieldType.boolean), k24, 1, [2095, 1007, 2094, 3])
/-- LeavesObject$Cup.leavesDone(II)I -/
def k25 : List XE := [(0, .iload_n 1, 1, 1, 0, 0, 0, []),
  (1, .aload_n 0, 1, 0, 0, 0, 0, []),
  (2, .getfield 25, 3, 1, 3, 0, 1075, []),
  (5, .invokestatic 73, 3, 26, 2, 5, 2100, []),
  (8, .istore_n 3, 1, 3, 0, 0, 0, []),
  (9, .aload_n 0, 1, 0, 0, 0, 0, []),
  (10, .getfield 25, 3, 1, 3, 0, 1075, []),
  (13, .invokestatic 78, 3, 22, 1, 5, 2118, []),
  (16, .bipush 6, 2, 0, 0, 0, 0, []),
  (18, .if_icmp .le 10, 3, 28, 0, 0, 0, []),
  (21, .aload_n 0, 1, 0, 0, 0, 0, []),
  (22, .getfield 25, 3, 1, 3, 0, 1075, []),
  (25, .goto 4, 3, 29, 0, 0, 0, []),
  (28, .iload_n 3, 1, 3, 0, 0, 0, []),
  (29, .istore 4, 2, 4, 0, 0, 0, []),
  (31, .aload_n 0, 1, 0, 0, 0, 0, []),
  (32, .getfield 19, 3, 1, 1, 0, 1066, []),
  (35, .tableswitch 95 1 6 #[37, 40, 49, 55, 62, 81], 37, 130, 0, 0, 0, [(1, 72), (2, 75), (3, 84), (4, 90), (5, 97), (6, 116)]),
  (72, .iload 4, 2, 4, 0, 0, 0, []),
  (74, .ireturn, 1, 0, 0, 0, 0, []),
  (75, .iload_n 1, 1, 1, 0, 0, 0, []),
  (76, .aload_n 0, 1, 0, 0, 0, 0, []),
  (77, .getfield 25, 3, 1, 3, 0, 1075, []),
  (80, .invokestatic 84, 3, 32, 2, 5, 2119, []),
  (83, .ireturn, 1, 0, 0, 0, 0, []),
  (84, .iload_n 1, 1, 1, 0, 0, 0, []),
  (85, .iload_n 3, 1, 3, 0, 0, 0, []),
  (86, .invokestatic 73, 3, 26, 2, 5, 2100, []),
  (89, .ireturn, 1, 0, 0, 0, 0, []),
  (90, .iload 4, 2, 4, 0, 0, 0, []),
  (92, .sipush (-3841), 3, 0, 0, 0, 0, []),
  (95, .iand, 1, 0, 0, 0, 0, []),
  (96, .ireturn, 1, 0, 0, 0, 0, []),
  (97, .iload_n 2, 1, 2, 0, 0, 0, []),
  (98, .iconst 2, 1, 0, 0, 0, 0, []),
  (99, .irem, 1, 0, 0, 0, 0, []),
  (100, .ifCond .ne 7, 3, 107, 0, 0, 0, []),
  (103, .iload_n 3, 1, 3, 0, 0, 0, []),
  (104, .goto 11, 3, 115, 0, 0, 0, []),
  (107, .iload_n 1, 1, 1, 0, 0, 0, []),
  (108, .aload_n 0, 1, 0, 0, 0, 0, []),
  (109, .getfield 25, 3, 1, 3, 0, 1075, []),
  (112, .invokestatic 84, 3, 32, 2, 5, 2119, []),
  (115, .ireturn, 1, 0, 0, 0, 0, []),
  (116, .iload_n 1, 1, 1, 0, 0, 0, []),
  (117, .iload_n 3, 1, 3, 0, 0, 0, []),
  (118, .invokestatic 73, 3, 26, 2, 5, 2100, []),
  (121, .aload_n 0, 1, 0, 0, 0, 0, []),
  (122, .iload_n 2, 1, 2, 0, 0, 0, []),
  (123, .iconst 4, 1, 0, 0, 0, 0, []),
  (124, .irem, 1, 0, 0, 0, 0, []),
  (125, .invokevirtual 87, 3, 34, 1, 0, 2125, [(1, 0)]),
  (128, .ior, 1, 0, 0, 0, 0, []),
  (129, .ireturn, 1, 0, 0, 0, 0, []),
  (130, .iload_n 3, 1, 3, 0, 0, 0, []),
  (131, .ireturn, 1, 0, 0, 0, 0, [])]
def m25 : MI := (⟨"LeavesObject$Cup", "leavesDone", "(II)I"⟩, prog_3_method_8_code, 5, (Option.some Jvm.ClassFile.FieldType.int), k25, 2, [2099, 1005, 2097, 2098])
/-- LeavesObject$Leaves.forth(II)I -/
def k26 : List XE := [(0, .iload_n 0, 1, 0, 0, 0, 0, []),
  (1, .tableswitch 70 0 3 #[31, 38, 43, 56], 31, 71, 0, 0, 0, [(0, 32), (1, 39), (2, 44), (3, 57)]),
  (32, .iload_n 1, 1, 1, 0, 0, 0, []),
  (33, .iload_n 1, 1, 1, 0, 0, 0, []),
  (34, .invokestatic 9, 3, 27, 1, 4, 2103, []),
  (37, .ior, 1, 0, 0, 0, 0, []),
  (38, .ireturn, 1, 0, 0, 0, 0, []),
  (39, .iload_n 1, 1, 1, 0, 0, 0, []),
  (40, .invokestatic 24, 3, 28, 1, 4, 2106, []),
  (43, .ireturn, 1, 0, 0, 0, 0, []),
  (44, .iload_n 1, 1, 1, 0, 0, 0, []),
  (45, .invokestatic 9, 3, 27, 1, 4, 2103, []),
  (48, .iload_n 1, 1, 1, 0, 0, 0, []),
  (49, .sipush 2184, 3, 0, 0, 0, 0, []),
  (52, .iand, 1, 0, 0, 0, 0, []),
  (53, .iconst 3, 1, 0, 0, 0, 0, []),
  (54, .ishr, 1, 0, 0, 0, 0, []),
  (55, .ior, 1, 0, 0, 0, 0, []),
  (56, .ireturn, 1, 0, 0, 0, 0, []),
  (57, .iload_n 1, 1, 1, 0, 0, 0, []),
  (58, .invokestatic 18, 3, 30, 1, 4, 2112, []),
  (61, .iload_n 1, 1, 1, 0, 0, 0, []),
  (62, .sipush 3840, 3, 0, 0, 0, 0, []),
  (65, .iand, 1, 0, 0, 0, 0, []),
  (66, .bipush 8, 2, 0, 0, 0, 0, []),
  (68, .ishr, 1, 0, 0, 0, 0, []),
  (69, .ior, 1, 0, 0, 0, 0, []),
  (70, .ireturn, 1, 0, 0, 0, 0, []),
  (71, .iload_n 1, 1, 1, 0, 0, 0, []),
  (72, .ireturn, 1, 0, 0, 0, 0, [])]
def m26 : MI := (⟨"LeavesObject$Leaves", "forth", "(II)I"⟩, prog_5_method_9_code, 2, (Option.some Jvm.ClassFile.FieldType.int), k26, 2, [2102, 1014, 2101, 9999])
/-- LeavesObject$Leaves.right(I)I -/
def k27 : List XE := [(0, .iload_n 0, 1, 0, 0, 0, 0, []),
  (1, .sipush (-2185), 3, 0, 0, 0, 0, []),
  (4, .iand, 1, 0, 0, 0, 0, []),
  (5, .iconst 1, 1, 0, 0, 0, 0, []),
  (6, .ishl, 1, 0, 0, 0, 0, []),
  (7, .ireturn, 1, 0, 0, 0, 0, [])]
def m27 : MI := (⟨"LeavesObject$Leaves", "right", "(I)I"⟩, prog_5_method_2_code, 1, (Option.some Jvm.ClassFile.FieldType.int), k27, 1, [2105, 1014, 2104, 9999])
/-- LeavesObject$Leaves.thinned(I)I -/
def k28 : List XE := [(0, .iload_n 0, 1, 0, 0, 0, 0, []),
  (1, .iload_n 0, 1, 0, 0, 0, 0, []),
  (2, .invokestatic 9, 3, 27, 1, 4, 2103, []),
  (5, .iload_n 0, 1, 0, 0, 0, 0, []),
  (6, .invokestatic 15, 3, 29, 1, 4, 2109, []),
  (9, .ior, 1, 0, 0, 0, 0, []),
  (10, .iload_n 0, 1, 0, 0, 0, 0, []),
  (11, .invokestatic 18, 3, 30, 1, 4, 2112, []),
  (14, .ior, 1, 0, 0, 0, 0, []),
  (15, .iload_n 0, 1, 0, 0, 0, 0, []),
  (16, .invokestatic 21, 3, 31, 1, 4, 2115, []),
  (19, .ior, 1, 0, 0, 0, 0, []),
  (20, .iand, 1, 0, 0, 0, 0, []),
  (21, .ireturn, 1, 0, 0, 0, 0, [])]
def m28 : MI := (⟨"LeavesObject$Leaves", "thinned", "(I)I"⟩, prog_5_method_6_code, 1, (Option.some Jvm.ClassFile.FieldType.int), k28, 1, [2108, 1014, 2107, 9999])
/-- LeavesObject$Leaves.left(I)I -/
def k29 : List XE := [(0, .iload_n 0, 1, 0, 0, 0, 0, []),
  (1, .sipush (-274), 3, 0, 0, 0, 0, []),
  (4, .iand, 1, 0, 0, 0, 0, []),
  (5, .iconst 1, 1, 0, 0, 0, 0, []),
  (6, .ishr, 1, 0, 0, 0, 0, []),
  (7, .ireturn, 1, 0, 0, 0, 0, [])]
def m29 : MI := (⟨"LeavesObject$Leaves", "left", "(I)I"⟩, prog_5_method_3_code, 1, (Option.some Jvm.ClassFile.FieldType.int), k29, 1, [2111, 1014, 2110, 9999])
/-- LeavesObject$Leaves.down(I)I -/
def k30 : List XE := [(0, .iload_n 0, 1, 0, 0, 0, 0, []),
  (1, .iconst 4, 1, 0, 0, 0, 0, []),
  (2, .ishl, 1, 0, 0, 0, 0, []),
  (3, .sipush 4095, 3, 0, 0, 0, 0, []),
  (6, .iand, 1, 0, 0, 0, 0, []),
  (7, .ireturn, 1, 0, 0, 0, 0, [])]
def m30 : MI := (⟨"LeavesObject$Leaves", "down", "(I)I"⟩, prog_5_method_4_code, 1, (Option.some Jvm.ClassFile.FieldType.int), k30, 1, [2114, 1014, 2113, 9999])
/-- LeavesObject$Leaves.up(I)I -/
def k31 : List XE := [(0, .iload_n 0, 1, 0, 0, 0, 0, []),
  (1, .iconst 4, 1, 0, 0, 0, 0, []),
  (2, .ishr, 1, 0, 0, 0, 0, []),
  (3, .ireturn, 1, 0, 0, 0, 0, [])]
def m31 : MI := (⟨"LeavesObject$Leaves", "up", "(I)I"⟩, prog_5_method_5_code, 1, (Option.some Jvm.ClassFile.FieldType.int), k31, 1, [2117, 1014, 2116, 9999])
/-- LeavesObject$Leaves.back(II)I -/
def k32 : List XE := [(0, .iload_n 0, 1, 0, 0, 0, 0, []),
  (1, .tableswitch 69 0 3 #[31, 38, 43, 56], 31, 70, 0, 0, 0, [(0, 32), (1, 39), (2, 44), (3, 57)]),
  (32, .iload_n 1, 1, 1, 0, 0, 0, []),
  (33, .iload_n 1, 1, 1, 0, 0, 0, []),
  (34, .invokestatic 15, 3, 29, 1, 4, 2109, []),
  (37, .ior, 1, 0, 0, 0, 0, []),
  (38, .ireturn, 1, 0, 0, 0, 0, []),
  (39, .iload_n 1, 1, 1, 0, 0, 0, []),
  (40, .invokestatic 27, 3, 33, 1, 4, 2122, []),
  (43, .ireturn, 1, 0, 0, 0, 0, []),
  (44, .iload_n 1, 1, 1, 0, 0, 0, []),
  (45, .invokestatic 15, 3, 29, 1, 4, 2109, []),
  (48, .iload_n 1, 1, 1, 0, 0, 0, []),
  (49, .sipush 273, 3, 0, 0, 0, 0, []),
  (52, .iand, 1, 0, 0, 0, 0, []),
  (53, .iconst 3, 1, 0, 0, 0, 0, []),
  (54, .ishl, 1, 0, 0, 0, 0, []),
  (55, .ior, 1, 0, 0, 0, 0, []),
  (56, .ireturn, 1, 0, 0, 0, 0, []),
  (57, .iload_n 1, 1, 1, 0, 0, 0, []),
  (58, .invokestatic 21, 3, 31, 1, 4, 2115, []),
  (61, .iload_n 1, 1, 1, 0, 0, 0, []),
  (62, .bipush 15, 2, 0, 0, 0, 0, []),
  (64, .iand, 1, 0, 0, 0, 0, []),
  (65, .bipush 8, 2, 0, 0, 0, 0, []),
  (67, .ishl, 1, 0, 0, 0, 0, []),
  (68, .ior, 1, 0, 0, 0, 0, []),
  (69, .ireturn, 1, 0, 0, 0, 0, []),
  (70, .iload_n 1, 1, 1, 0, 0, 0, []),
  (71, .ireturn, 1, 0, 0, 0, 0, [])]
def m32 : MI := (⟨"LeavesObject$Leaves", "back", "(II)I"⟩, prog_5_method_10_code, 2, (Option.some Jvm.ClassFile.FieldType.int), k32, 2, [2121, 1014, 2120, 9999])
/-- LeavesObject$Leaves.filled(I)I -/
def k33 : List XE := [(0, .iload_n 0, 1, 0, 0, 0, 0, []),
  (1, .invokestatic 9, 3, 27, 1, 4, 2103, []),
  (4, .istore_n 1, 1, 1, 0, 0, 0, []),
  (5, .iload_n 0, 1, 0, 0, 0, 0, []),
  (6, .invokestatic 15, 3, 29, 1, 4, 2109, []),
  (9, .istore_n 2, 1, 2, 0, 0, 0, []),
  (10, .iload_n 0, 1, 0, 0, 0, 0, []),
  (11, .invokestatic 18, 3, 30, 1, 4, 2112, []),
  (14, .istore_n 3, 1, 3, 0, 0, 0, []),
  (15, .iload_n 0, 1, 0, 0, 0, 0, []),
  (16, .invokestatic 21, 3, 31, 1, 4, 2115, []),
  (19, .istore 4, 2, 4, 0, 0, 0, []),
  (21, .iload_n 0, 1, 0, 0, 0, 0, []),
  (22, .iload_n 1, 1, 1, 0, 0, 0, []),
  (23, .iload_n 2, 1, 2, 0, 0, 0, []),
  (24, .iand, 1, 0, 0, 0, 0, []),
  (25, .ior, 1, 0, 0, 0, 0, []),
  (26, .iload_n 3, 1, 3, 0, 0, 0, []),
  (27, .iload 4, 2, 4, 0, 0, 0, []),
  (29, .iand, 1, 0, 0, 0, 0, []),
  (30, .ior, 1, 0, 0, 0, 0, []),
  (31, .iload_n 1, 1, 1, 0, 0, 0, []),
  (32, .iload_n 2, 1, 2, 0, 0, 0, []),
  (33, .ior, 1, 0, 0, 0, 0, []),
  (34, .iload_n 3, 1, 3, 0, 0, 0, []),
  (35, .iload 4, 2, 4, 0, 0, 0, []),
  (37, .ior, 1, 0, 0, 0, 0, []),
  (38, .iand, 1, 0, 0, 0, 0, []),
  (39, .ior, 1, 0, 0, 0, 0, []),
  (40, .ireturn, 1, 0, 0, 0, 0, [])]
def m33 : MI := (⟨"LeavesObject$Leaves", "filled", "(I)I"⟩, prog_5_method_7_code, 5, (Option.some Jvm.ClassFile.FieldType.int), k33, 1, [2124, 1014, 2123, 9999])
/-- LeavesObject$Cup.lineAt(I)I -/
def k34 : List XE := [(0, .iload_n 1, 1, 1, 0, 0, 0, []),
  (1, .ifCond .lt 21, 3, 22, 0, 0, 0, []),
  (4, .iload_n 1, 1, 1, 0, 0, 0, []),
  (5, .aload_n 0, 1, 0, 0, 0, 0, []),
  (6, .getfield 9, 3, 1, 6, 0, 1085, []),
  (9, .arraylength, 1, 0, 0, 0, 0, []),
  (10, .if_icmp .ge 12, 3, 22, 0, 0, 0, []),
  (13, .aload_n 0, 1, 0, 0, 0, 0, []),
  (14, .getfield 9, 3, 1, 6, 0, 1085, []),
  (17, .iload_n 1, 1, 1, 0, 0, 0, []),
  (18, .iaload, 1, 0, 0, 0, 0, []),
  (19, .goto 4, 3, 23, 0, 0, 0, []),
  (22, .iconst 0, 1, 0, 0, 0, 0, []),
  (23, .ireturn, 1, 0, 0, 0, 0, [])]
def m34 : MI := (⟨"LeavesObject$Cup", "lineAt", "(I)I"⟩, prog_3_method_4_code, 2, (Option.some Jvm.ClassFile.FieldType.int), k34, 1, [2128, 1005, 2126, 2127])
/-- LeavesObject.set(III)I -/
def k35 : List XE := [(0, .aload_n 0, 1, 0, 0, 0, 0, []),
  (1, .getfield 12, 3, 9, 0, 0, 1239, []),
  (4, .iload_n 1, 1, 1, 0, 0, 0, []),
  (5, .invokevirtual 92, 3, 17, 1, 0, 2061, [(5, 0)]),
  (8, .astore 4, 2, 4, 0, 0, 0, []),
  (10, .aload 4, 2, 4, 0, 0, 0, []),
  (12, .ifnull 12, 3, 24, 0, 0, 0, []),
  (15, .iload_n 2, 1, 2, 0, 0, 0, []),
  (16, .ifCond .lt 8, 3, 24, 0, 0, 0, []),
  (19, .iload_n 2, 1, 2, 0, 0, 0, []),
  (20, .iconst 1, 1, 0, 0, 0, 0, []),
  (21, .if_icmp .le 5, 3, 26, 0, 0, 0, []),
  (24, .iconst (-1), 1, 0, 0, 0, 0, []),
  (25, .ireturn, 1, 0, 0, 0, 0, []),
  (26, .iload_n 2, 1, 2, 0, 0, 0, []),
  (27, .ifCond .ne 13, 3, 40, 0, 0, 0, []),
  (30, .iload_n 3, 1, 3, 0, 0, 0, []),
  (31, .invokestatic 74, 3, 12, 1, 4, 2043, []),
  (34, .ifCond .ne 16, 3, 50, 0, 0, 0, []),
  (37, .goto 10, 3, 47, 0, 0, 0, []),
  (40, .iload_n 3, 1, 3, 0, 0, 0, []),
  (41, .invokestatic 70, 3, 11, 1, 4, 2040, []),
  (44, .ifCond .ne 6, 3, 50, 0, 0, 0, []),
  (47, .bipush (-2), 2, 0, 0, 0, 0, []),
  (49, .ireturn, 1, 0, 0, 0, 0, []),
  (50, .iload_n 2, 1, 2, 0, 0, 0, []),
  (51, .ifCond .ne 11, 3, 62, 0, 0, 0, []),
  (54, .aload 4, 2, 4, 0, 0, 0, []),
  (56, .getfield 119, 3, 1, 3, 0, 1076, []),
  (59, .goto 8, 3, 67, 0, 0, 0, []),
  (62, .aload 4, 2, 4, 0, 0, 0, []),
  (64, .getfield 122, 3, 1, 4, 0, 1081, []),
  (67, .istore 5, 2, 5, 0, 0, 0, []),
  (69, .iload_n 2, 1, 2, 0, 0, 0, []),
  (70, .ifCond .ne 12, 3, 82, 0, 0, 0, []),
  (73, .aload 4, 2, 4, 0, 0, 0, []),
  (75, .iload_n 3, 1, 3, 0, 0, 0, []),
  (76, .putfield 119, 3, 1, 3, 0, 1076, []),
  (79, .goto 9, 3, 88, 0, 0, 0, []),
  (82, .aload 4, 2, 4, 0, 0, 0, []),
  (84, .iload_n 3, 1, 3, 0, 0, 0, []),
  (85, .putfield 122, 3, 1, 4, 0, 1081, []),
  (88, .iload 5, 2, 5, 0, 0, 0, []),
  (90, .ireturn, 1, 0, 0, 0, 0, [])]
def m35 : MI := (⟨"LeavesObject", "set", "(III)I"⟩, prog_1_method_4_code, 6, (Option.some Jvm.ClassFile.FieldType.int), k35, 3, [2132, 1001, 2130, 2131])
/-- LeavesObject.line(III)I -/
def k36 : List XE := [(0, .aload_n 0, 1, 0, 0, 0, 0, []),
  (1, .getfield 12, 3, 9, 0, 0, 1239, []),
  (4, .iload_n 1, 1, 1, 0, 0, 0, []),
  (5, .invokevirtual 92, 3, 17, 1, 0, 2061, [(5, 0)]),
  (8, .astore 4, 2, 4, 0, 0, 0, []),
  (10, .aload 4, 2, 4, 0, 0, 0, []),
  (12, .ifnull 12, 3, 24, 0, 0, 0, []),
  (15, .iload_n 2, 1, 2, 0, 0, 0, []),
  (16, .ifCond .lt 8, 3, 24, 0, 0, 0, []),
  (19, .iload_n 2, 1, 2, 0, 0, 0, []),
  (20, .iconst 4, 1, 0, 0, 0, 0, []),
  (21, .if_icmp .lt 5, 3, 26, 0, 0, 0, []),
  (24, .iconst (-1), 1, 0, 0, 0, 0, []),
  (25, .ireturn, 1, 0, 0, 0, 0, []),
  (26, .iload_n 3, 1, 3, 0, 0, 0, []),
  (27, .invokestatic 70, 3, 11, 1, 4, 2040, []),
  (30, .ifCond .ne 6, 3, 36, 0, 0, 0, []),
  (33, .bipush (-2), 2, 0, 0, 0, 0, []),
  (35, .ireturn, 1, 0, 0, 0, 0, []),
  (36, .aload 4, 2, 4, 0, 0, 0, []),
  (38, .getfield 113, 3, 1, 1, 0, 1067, []),
  (41, .bipush 6, 2, 0, 0, 0, 0, []),
  (43, .if_icmp .eq 6, 3, 49, 0, 0, 0, []),
  (46, .bipush (-3), 2, 0, 0, 0, 0, []),
  (48, .ireturn, 1, 0, 0, 0, 0, []),
  (49, .aload 4, 2, 4, 0, 0, 0, []),
  (51, .iload_n 2, 1, 2, 0, 0, 0, []),
  (52, .invokevirtual 128, 3, 34, 1, 0, 2137, [(1, 0)]),
  (55, .istore 5, 2, 5, 0, 0, 0, []),
  (57, .aload 4, 2, 4, 0, 0, 0, []),
  (59, .iload_n 2, 1, 2, 0, 0, 0, []),
  (60, .iload_n 3, 1, 3, 0, 0, 0, []),
  (61, .invokevirtual 132, 3, 37, 2, 0, 2138, [(1, 0)]),
  (64, .iload 5, 2, 5, 0, 0, 0, []),
  (66, .ireturn, 1, 0, 0, 0, 0, [])]
def m36 : MI := (⟨"LeavesObject", "line", "(III)I"⟩, prog_1_method_5_code, 6, (Option.some Jvm.ClassFile.FieldType.int), k36, 3, [2136, 1001, 2134, 2135])
/-- LeavesObject$Cup.setLine(II)V -/
def k37 : List XE := [(0, .iload_n 1, 1, 1, 0, 0, 0, []),
  (1, .ifCond .lt 19, 3, 20, 0, 0, 0, []),
  (4, .iload_n 1, 1, 1, 0, 0, 0, []),
  (5, .aload_n 0, 1, 0, 0, 0, 0, []),
  (6, .getfield 9, 3, 1, 6, 0, 1085, []),
  (9, .arraylength, 1, 0, 0, 0, 0, []),
  (10, .if_icmp .ge 10, 3, 20, 0, 0, 0, []),
  (13, .aload_n 0, 1, 0, 0, 0, 0, []),
  (14, .getfield 9, 3, 1, 6, 0, 1085, []),
  (17, .iload_n 1, 1, 1, 0, 0, 0, []),
  (18, .iload_n 2, 1, 2, 0, 0, 0, []),
  (19, .iastore, 1, 0, 0, 0, 0, []),
  (20, .return_, 1, 0, 0, 0, 0, [])]
def m37 : MI := (⟨"LeavesObject$Cup", "setLine", "(II)V"⟩, prog_3_method_5_code, 3, none, k37, 2, [2141, 1005, 2139, 2140])
/-- LeavesObject.feed(I)I -/
def k38 : List XE := [(0, .iload_n 1, 1, 1, 0, 0, 0, []),
  (1, .ifCond .lt 10, 3, 11, 0, 0, 0, []),
  (4, .iload_n 1, 1, 1, 0, 0, 0, []),
  (5, .sipush 128, 3, 0, 0, 0, 0, []),
  (8, .if_icmp .lt 6, 3, 14, 0, 0, 0, []),
  (11, .bipush (-2), 2, 0, 0, 0, 0, []),
  (13, .ireturn, 1, 0, 0, 0, 0, []),
  (14, .aload_n 0, 1, 0, 0, 0, 0, []),
  (15, .getfield 27, 3, 9, 4, 0, 2003, []),
  (18, .iload_n 1, 1, 1, 0, 0, 0, []),
  (19, .invokevirtual 136, 3, 39, 1, 0, 2146, [(7, 0)]),
  (22, .ifCond .eq 13, 3, 35, 0, 0, 0, []),
  (25, .aload_n 0, 1, 0, 0, 0, 0, []),
  (26, .getfield 27, 3, 9, 4, 0, 2003, []),
  (29, .getfield 139, 3, 7, 1, 0, 1137, []),
  (32, .goto 5, 3, 37, 0, 0, 0, []),
  (35, .bipush (-4), 2, 0, 0, 0, 0, []),
  (37, .ireturn, 1, 0, 0, 0, 0, [])]
def m38 : MI := (⟨"LeavesObject", "feed", "(I)I"⟩, prog_1_method_6_code, 2, (Option.some Jvm.ClassFile.FieldType.int), k38, 1, [2145, 1001, 2143, 2144])
/-- LeavesObject$Text.takes(I)Z -/
def k39 : List XE := [(0, .aload_n 0, 1, 0, 0, 0, 0, []),
  (1, .getfield 15, 3, 7, 1, 0, 1136, []),
  (4, .ifCond .lt 15, 3, 19, 0, 0, 0, []),
  (7, .aload_n 0, 1, 0, 0, 0, 0, []),
  (8, .getfield 15, 3, 7, 1, 0, 1136, []),
  (11, .aload_n 0, 1, 0, 0, 0, 0, []),
  (12, .getfield 9, 3, 7, 0, 0, 1135, []),
  (15, .arraylength, 1, 0, 0, 0, 0, []),
  (16, .if_icmp .lt 5, 3, 21, 0, 0, 0, []),
  (19, .iconst 0, 1, 0, 0, 0, 0, []),
  (20, .ireturn, 1, 0, 0, 0, 0, []),
  (21, .aload_n 0, 1, 0, 0, 0, 0, []),
  (22, .getfield 9, 3, 7, 0, 0, 1135, []),
  (25, .aload_n 0, 1, 0, 0, 0, 0, []),
  (26, .getfield 15, 3, 7, 1, 0, 1136, []),
  (29, .iload_n 1, 1, 1, 0, 0, 0, []),
  (30, .iastore, 1, 0, 0, 0, 0, []),
  (31, .aload_n 0, 1, 0, 0, 0, 0, []),
  (32, .dup, 1, 0, 0, 0, 0, []),
  (33, .getfield 15, 3, 7, 1, 0, 1136, []),
  (36, .iconst 1, 1, 0, 0, 0, 0, []),
  (37, .iadd, 1, 0, 0, 0, 0, []),
  (38, .putfield 15, 3, 7, 1, 0, 1136, []),
  (41, .iconst 1, 1, 0, 0, 0, 0, []),
  (42, .ireturn, 1, 0, 0, 0, 0, [])]
def m39 : MI := (⟨"LeavesObject$Text", "takes", "(I)Z"⟩, prog_9_method_2_code, 2, (Option.some Jvm.ClassFile.FieldType.boolean), k39, 1, [2149, 1006, 2147, 2148])
/-- LeavesObject.inn()I -/
def k40 : List XE := [(0, .aload_n 0, 1, 0, 0, 0, 0, []),
  (1, .getfield 142, 3, 9, 6, 0, 2005, []),
  (4, .aload_n 0, 1, 0, 0, 0, 0, []),
  (5, .getfield 33, 3, 9, 5, 0, 2004, []),
  (8, .arraylength, 1, 0, 0, 0, 0, []),
  (9, .if_icmp .lt 6, 3, 15, 0, 0, 0, []),
  (12, .bipush (-4), 2, 0, 0, 0, 0, []),
  (14, .ireturn, 1, 0, 0, 0, 0, []),
  (15, .aload_n 0, 1, 0, 0, 0, 0, []),
  (16, .getfield 33, 3, 9, 5, 0, 2004, []),
  (19, .aload_n 0, 1, 0, 0, 0, 0, []),
  (20, .getfield 142, 3, 9, 6, 0, 2005, []),
  (23, .aaload, 1, 0, 0, 0, 0, []),
  (24, .astore_n 1, 1, 1, 0, 0, 0, []),
  (25, .aload_n 1, 1, 1, 0, 0, 0, []),
  (26, .ifnonnull 6, 3, 32, 0, 0, 0, []),
  (29, .bipush (-4), 2, 0, 0, 0, 0, []),
  (31, .ireturn, 1, 0, 0, 0, 0, []),
  (32, .aload_n 0, 1, 0, 0, 0, 0, []),
  (33, .getfield 27, 3, 9, 4, 0, 2003, []),
  (36, .aload_n 1, 1, 1, 0, 0, 0, []),
  (37, .invokevirtual 145, 3, 41, 1, 0, 2154, [(7, 0)]),
  (40, .istore_n 2, 1, 2, 0, 0, 0, []),
  (41, .aload_n 0, 1, 0, 0, 0, 0, []),
  (42, .getfield 27, 3, 9, 4, 0, 2003, []),
  (45, .iconst 0, 1, 0, 0, 0, 0, []),
  (46, .putfield 139, 3, 7, 1, 0, 1137, []),
  (49, .iload_n 2, 1, 2, 0, 0, 0, []),
  (50, .ifCond .ne 14, 3, 64, 0, 0, 0, []),
  (53, .bipush (-10), 2, 0, 0, 0, 0, []),
  (55, .aload_n 0, 1, 0, 0, 0, 0, []),
  (56, .getfield 27, 3, 9, 4, 0, 2003, []),
  (59, .getfield 149, 3, 7, 2, 0, 1139, []),
  (62, .isub, 1, 0, 0, 0, 0, []),
  (63, .ireturn, 1, 0, 0, 0, 0, []),
  (64, .aload_n 0, 1, 0, 0, 0, 0, []),
  (65, .getfield 12, 3, 9, 0, 0, 1239, []),
  (68, .aload_n 0, 1, 0, 0, 0, 0, []),
  (69, .getfield 142, 3, 9, 6, 0, 2005, []),
  (72, .putfield 152, 3, 5, 3, 0, 1107, []),
  (75, .aload_n 0, 1, 0, 0, 0, 0, []),
  (76, .dup, 1, 0, 0, 0, 0, []),
  (77, .getfield 142, 3, 9, 6, 0, 2005, []),
  (80, .iconst 1, 1, 0, 0, 0, 0, []),
  (81, .iadd, 1, 0, 0, 0, 0, []),
  (82, .putfield 142, 3, 9, 6, 0, 2005, []),
  (85, .aload_n 0, 1, 0, 0, 0, 0, []),
  (86, .getfield 12, 3, 9, 0, 0, 1239, []),
  (89, .getfield 152, 3, 5, 3, 0, 1107, []),
  (92, .ireturn, 1, 0, 0, 0, 0, [])]
def m40 : MI := (⟨"LeavesObject", "inn", "()I"⟩, prog_1_method_7_code, 3, (Option.some Jvm.ClassFile.FieldType.int), k40, 0, [2153, 1001, 2151, 2152])
/-- LeavesObject$Text.readInto(LLeavesObject$Inn;)Z -/
def k41 : List XE := [(0, .aload_n 0, 1, 0, 0, 0, 0, []),
  (1, .iconst 0, 1, 0, 0, 0, 0, []),
  (2, .putfield 19, 3, 7, 2, 0, 1138, []),
  (5, .aload_n 1, 1, 1, 0, 0, 0, []),
  (6, .invokevirtual 22, 3, 42, 0, 0, 2158, [(2, 0)]),
  (9, .iconst 0, 1, 0, 0, 0, 0, []),
  (10, .istore_n 2, 1, 2, 0, 0, 0, []),
  (11, .iload_n 2, 1, 2, 0, 0, 0, []),
  (12, .bipush 10, 2, 0, 0, 0, 0, []),
  (14, .if_icmp .ge 61, 3, 75, 0, 0, 0, []),
  (17, .aload_n 0, 1, 0, 0, 0, 0, []),
  (18, .aload_n 1, 1, 1, 0, 0, 0, []),
  (19, .invokevirtual 27, 3, 43, 1, 0, 2162, [(7, 0)]),
  (22, .ifCond .ne 5, 3, 27, 0, 0, 0, []),
  (25, .iconst 0, 1, 0, 0, 0, 0, []),
  (26, .ireturn, 1, 0, 0, 0, 0, []),
  (27, .aload_n 0, 1, 0, 0, 0, 0, []),
  (28, .invokevirtual 31, 3, 44, 0, 0, 2166, [(7, 0)]),
  (31, .bipush 59, 2, 0, 0, 0, 0, []),
  (33, .if_icmp .ne 9, 3, 42, 0, 0, 0, []),
  (36, .iload_n 2, 1, 2, 0, 0, 0, []),
  (37, .bipush 9, 2, 0, 0, 0, 0, []),
  (39, .if_icmp .ne 20, 3, 59, 0, 0, 0, []),
  (42, .aload_n 0, 1, 0, 0, 0, 0, []),
  (43, .getfield 19, 3, 7, 2, 0, 1138, []),
  (46, .aload_n 0, 1, 0, 0, 0, 0, []),
  (47, .getfield 15, 3, 7, 1, 0, 1136, []),
  (50, .if_icmp .ne 7, 3, 57, 0, 0, 0, []),
  (53, .iconst 1, 1, 0, 0, 0, 0, []),
  (54, .goto 4, 3, 58, 0, 0, 0, []),
  (57, .iconst 0, 1, 0, 0, 0, 0, []),
  (58, .ireturn, 1, 0, 0, 0, 0, []),
  (59, .aload_n 0, 1, 0, 0, 0, 0, []),
  (60, .dup, 1, 0, 0, 0, 0, []),
  (61, .getfield 19, 3, 7, 2, 0, 1138, []),
  (64, .iconst 1, 1, 0, 0, 0, 0, []),
  (65, .iadd, 1, 0, 0, 0, 0, []),
  (66, .putfield 19, 3, 7, 2, 0, 1138, []),
  (69, .iinc 2 1, 3, 2, 0, 0, 0, []),
  (72, .goto (-61), 3, 11, 0, 0, 0, []),
  (75, .iconst 0, 1, 0, 0, 0, 0, []),
  (76, .ireturn, 1, 0, 0, 0, 0, [])]
def m41 : MI := (⟨"LeavesObject$Text", "readInto", "(LLeavesObject$Inn;)Z"⟩, prog_9_method_3_code, 3, (Option.some Jvm.ClassFile.FieldType.boolean), k41, 1, [2157, 1006, 2155, 2156])
/-- LeavesObject$Inn.becomeEmpty()V -/
def k42 : List XE := [(0, .aload_n 0, 1, 0, 0, 0, 0, []),
  (1, .iconst 2, 1, 0, 0, 0, 0, []),
  (2, .putfield 11, 3, 2, 0, 0, 1154, []),
  (5, .aload_n 0, 1, 0, 0, 0, 0, []),
  (6, .iconst 1, 1, 0, 0, 0, 0, []),
  (7, .putfield 15, 3, 2, 1, 0, 1158, []),
  (10, .aload_n 0, 1, 0, 0, 0, 0, []),
  (11, .iconst 0, 1, 0, 0, 0, 0, []),
  (12, .putfield 31, 3, 2, 2, 0, 1162, []),
  (15, .aload_n 0, 1, 0, 0, 0, 0, []),
  (16, .iconst 0, 1, 0, 0, 0, 0, []),
  (17, .putfield 34, 3, 2, 5, 0, 1165, []),
  (20, .return_, 1, 0, 0, 0, 0, [])]
def m42 : MI := (⟨"LeavesObject$Inn", "becomeEmpty", "()V"⟩, prog_4_method_2_code, 1, none, k42, 0, [2161, 1007, 2159, 2160])
/-- LeavesObject$Text.readClause(LLeavesObject$Inn;)Z -/
def k43 : List XE := [(0, .aload_n 0, 1, 0, 0, 0, 0, []),
  (1, .invokevirtual 31, 3, 44, 0, 0, 2166, [(7, 0)]),
  (4, .istore_n 2, 1, 2, 0, 0, 0, []),
  (5, .aload_n 0, 1, 0, 0, 0, 0, []),
  (6, .iload_n 2, 1, 2, 0, 0, 0, []),
  (7, .invokestatic 35, 3, 45, 1, 4, 2170, []),
  (10, .invokevirtual 39, 3, 46, 1, 0, 2177, [(7, 0)]),
  (13, .ifCond .eq 12, 3, 25, 0, 0, 0, []),
  (16, .aload_n 0, 1, 0, 0, 0, 0, []),
  (17, .ldc 43, 2, 4, 0, 0, 2229, []),
  (19, .invokevirtual 39, 3, 46, 1, 0, 2177, [(7, 0)]),
  (22, .ifCond .ne 5, 3, 27, 0, 0, 0, []),
  (25, .iconst 0, 1, 0, 0, 0, 0, []),
  (26, .ireturn, 1, 0, 0, 0, 0, []),
  (27, .aload_n 0, 1, 0, 0, 0, 0, []),
  (28, .invokevirtual 45, 3, 54, 0, 0, 2230, [(7, 0)]),
  (31, .istore_n 3, 1, 3, 0, 0, 0, []),
  (32, .iload_n 3, 1, 3, 0, 0, 0, []),
  (33, .ifCond .ge 5, 3, 38, 0, 0, 0, []),
  (36, .iconst 0, 1, 0, 0, 0, 0, []),
  (37, .ireturn, 1, 0, 0, 0, 0, []),
  (38, .iload_n 2, 1, 2, 0, 0, 0, []),
  (39, .bipush 114, 2, 0, 0, 0, 0, []),
  (41, .if_icmp .ne 10, 3, 51, 0, 0, 0, []),
  (44, .aload_n 1, 1, 1, 0, 0, 0, []),
  (45, .iload_n 3, 1, 3, 0, 0, 0, []),
  (46, .putfield 48, 3, 2, 0, 0, 1155, []),
  (49, .iconst 1, 1, 0, 0, 0, 0, []),
  (50, .ireturn, 1, 0, 0, 0, 0, []),
  (51, .iload_n 2, 1, 2, 0, 0, 0, []),
  (52, .bipush 102, 2, 0, 0, 0, 0, []),
  (54, .if_icmp .ne 10, 3, 64, 0, 0, 0, []),
  (57, .aload_n 1, 1, 1, 0, 0, 0, []),
  (58, .iload_n 3, 1, 3, 0, 0, 0, []),
  (59, .putfield 51, 3, 2, 1, 0, 1159, []),
  (62, .iconst 1, 1, 0, 0, 0, 0, []),
  (63, .ireturn, 1, 0, 0, 0, 0, []),
  (64, .aload_n 0, 1, 0, 0, 0, 0, []),
  (65, .ldc 43, 2, 4, 0, 0, 2229, []),
  (67, .invokevirtual 39, 3, 46, 1, 0, 2177, [(7, 0)]),
  (70, .ifCond .eq 12, 3, 82, 0, 0, 0, []),
  (73, .aload_n 0, 1, 0, 0, 0, 0, []),
  (74, .aload_n 1, 1, 1, 0, 0, 0, []),
  (75, .iconst 0, 1, 0, 0, 0, 0, []),
  (76, .invokevirtual 54, 3, 55, 2, 0, 2236, [(7, 0)]),
  (79, .ifCond .ne 5, 3, 84, 0, 0, 0, []),
  (82, .iconst 0, 1, 0, 0, 0, 0, []),
  (83, .ireturn, 1, 0, 0, 0, 0, []),
  (84, .aload_n 1, 1, 1, 0, 0, 0, []),
  (85, .iload_n 2, 1, 2, 0, 0, 0, []),
  (86, .bipush 119, 2, 0, 0, 0, 0, []),
  (88, .if_icmp .ne 7, 3, 95, 0, 0, 0, []),
  (91, .iload_n 3, 1, 3, 0, 0, 0, []),
  (92, .goto 5, 3, 97, 0, 0, 0, []),
  (95, .iload_n 3, 1, 3, 0, 0, 0, []),
  (96, .ineg, 1, 0, 0, 0, 0, []),
  (97, .invokevirtual 58, 3, 62, 1, 0, 3028, [(2, 0)]),
  (100, .iconst 1, 1, 0, 0, 0, 0, []),
  (101, .ireturn, 1, 0, 0, 0, 0, [])]
def m43 : MI := (⟨"LeavesObject$Text", "readClause", "(LLeavesObject$Inn;)Z"⟩, prog_9_method_5_code, 4, (Option.some Jvm.ClassFile.FieldType.boolean), k43, 1, [2165, 1006, 2164, 4])
/-- LeavesObject$Text.sign()I -/
def k44 : List XE := [(0, .aload_n 0, 1, 0, 0, 0, 0, []),
  (1, .getfield 19, 3, 7, 2, 0, 1138, []),
  (4, .ifCond .lt 38, 3, 42, 0, 0, 0, []),
  (7, .aload_n 0, 1, 0, 0, 0, 0, []),
  (8, .getfield 19, 3, 7, 2, 0, 1138, []),
  (11, .aload_n 0, 1, 0, 0, 0, 0, []),
  (12, .getfield 15, 3, 7, 1, 0, 1136, []),
  (15, .if_icmp .ge 27, 3, 42, 0, 0, 0, []),
  (18, .aload_n 0, 1, 0, 0, 0, 0, []),
  (19, .getfield 19, 3, 7, 2, 0, 1138, []),
  (22, .aload_n 0, 1, 0, 0, 0, 0, []),
  (23, .getfield 9, 3, 7, 0, 0, 1135, []),
  (26, .arraylength, 1, 0, 0, 0, 0, []),
  (27, .if_icmp .ge 15, 3, 42, 0, 0, 0, []),
  (30, .aload_n 0, 1, 0, 0, 0, 0, []),
  (31, .getfield 9, 3, 7, 0, 0, 1135, []),
  (34, .aload_n 0, 1, 0, 0, 0, 0, []),
  (35, .getfield 19, 3, 7, 2, 0, 1138, []),
  (38, .iaload, 1, 0, 0, 0, 0, []),
  (39, .goto 4, 3, 43, 0, 0, 0, []),
  (42, .iconst (-1), 1, 0, 0, 0, 0, []),
  (43, .ireturn, 1, 0, 0, 0, 0, [])]
def m44 : MI := (⟨"LeavesObject$Text", "sign", "()I"⟩, prog_9_method_4_code, 1, (Option.some Jvm.ClassFile.FieldType.int), k44, 0, [2169, 1006, 2168, 5])
/-- LeavesObject$Text.wordWith(I)Ljava/lang/String; -/
def k45 : List XE := [(0, .iload_n 0, 1, 0, 0, 0, 0, []),
  (1, .lookupswitch 44 #[(98, 35), (102, 41), (114, 38)], 35, 45, 0, 0, 0, [(98, 36), (102, 42), (114, 39)]),
  (36, .ldc 62, 2, 0, 0, 0, 2173, []),
  (38, .areturn, 1, 0, 0, 0, 0, []),
  (39, .ldc 64, 2, 1, 0, 0, 2174, []),
  (41, .areturn, 1, 0, 0, 0, 0, []),
  (42, .ldc 65, 2, 2, 0, 0, 2175, []),
  (44, .areturn, 1, 0, 0, 0, 0, []),
  (45, .ldc 66, 2, 3, 0, 0, 2176, []),
  (47, .areturn, 1, 0, 0, 0, 0, [])]
def m45 : MI := (⟨"LeavesObject$Text", "wordWith", "(I)Ljava/lang/String;"⟩, prog_9_method_6_code, 1, (Option.some (Jvm.ClassFile.FieldType.object "java/lang/String")), k45, 1, [2172, 1006, 2171, 9999])
/-- LeavesObject$Text.readWord(Ljava/lang/String;)Z -/
def k46 : List XE := [(0, .iconst 0, 1, 0, 0, 0, 0, []),
  (1, .istore_n 2, 1, 2, 0, 0, 0, []),
  (2, .iload_n 2, 1, 2, 0, 0, 0, []),
  (3, .aload_n 1, 1, 1, 0, 0, 0, []),
  (4, .invokevirtual 68, 3, 47, 0, 0, 2181, [(99, 0)]),
  (7, .if_icmp .ge 33, 3, 40, 0, 0, 0, []),
  (10, .aload_n 0, 1, 0, 0, 0, 0, []),
  (11, .invokevirtual 31, 3, 44, 0, 0, 2166, [(7, 0)]),
  (14, .aload_n 1, 1, 1, 0, 0, 0, []),
  (15, .iload_n 2, 1, 2, 0, 0, 0, []),
  (16, .invokevirtual 73, 3, 49, 1, 0, 2191, [(99, 0)]),
  (19, .if_icmp .eq 5, 3, 24, 0, 0, 0, []),
  (22, .iconst 0, 1, 0, 0, 0, 0, []),
  (23, .ireturn, 1, 0, 0, 0, 0, []),
  (24, .aload_n 0, 1, 0, 0, 0, 0, []),
  (25, .dup, 1, 0, 0, 0, 0, []),
  (26, .getfield 19, 3, 7, 2, 0, 1138, []),
  (29, .iconst 1, 1, 0, 0, 0, 0, []),
  (30, .iadd, 1, 0, 0, 0, 0, []),
  (31, .putfield 19, 3, 7, 2, 0, 1138, []),
  (34, .iinc 2 1, 3, 2, 0, 0, 0, []),
  (37, .goto (-35), 3, 2, 0, 0, 0, []),
  (40, .iconst 1, 1, 0, 0, 0, 0, []),
  (41, .ireturn, 1, 0, 0, 0, 0, [])]
def m46 : MI := (⟨"LeavesObject$Text", "readWord", "(Ljava/lang/String;)Z"⟩, prog_9_method_7_code, 3, (Option.some Jvm.ClassFile.FieldType.boolean), k46, 1, [2180, 1006, 2179, 6])
/-- java/lang/String.length()I -/
def k47 : List XE := [(0, .aload_n 0, 1, 0, 0, 0, 0, []),
  (1, .getfield 9, 3, 0, 1, 1, 6234, []),
  (4, .arraylength, 1, 0, 0, 0, 0, []),
  (5, .aload_n 0, 1, 0, 0, 0, 0, []),
  (6, .invokevirtual 335, 3, 48, 0, 0, 2185, [(99, 0)]),
  (9, .ishr, 1, 0, 0, 0, 0, []),
  (10, .ireturn, 1, 0, 0, 0, 0, [])]
def m47 : MI := (⟨"java/lang/String", "length", "()I"⟩, prog_15_method_54_code, 1, (Option.some Jvm.ClassFile.FieldType.int), k47, 0, [2184, 1015, 2182, 2183])
/-- java/lang/String.coder()B -/
def k48 : List XE := [(0, .getstatic 38, 3, 0, 1, 1, 2189, []),
  (3, .ifCond .eq 10, 3, 13, 0, 0, 0, []),
  (6, .aload_n 0, 1, 0, 0, 0, 0, []),
  (7, .getfield 15, 3, 0, 0, 1, 6235, []),
  (10, .goto 4, 3, 14, 0, 0, 0, []),
  (13, .iconst 1, 1, 0, 0, 0, 0, []),
  (14, .ireturn, 1, 0, 0, 0, 0, [])]
def m48 : MI := (⟨"java/lang/String", "coder", "()B"⟩, prog_15_method_152_code, 1, (Option.some Jvm.ClassFile.FieldType.byte), k48, 0, [2188, 1015, 2186, 2187])
/-- java/lang/String.charAt(I)C -/
def k49 : List XE := [(0, .aload_n 0, 1, 0, 0, 0, 0, []),
  (1, .invokevirtual 492, 3, 50, 0, 0, 2195, [(99, 0)]),
  (4, .ifCond .eq 12, 3, 16, 0, 0, 0, []),
  (7, .aload_n 0, 1, 0, 0, 0, 0, []),
  (8, .getfield 9, 3, 0, 1, 1, 6234, []),
  (11, .iload_n 1, 1, 1, 0, 0, 0, []),
  (12, .invokestatic 495, 3, 51, 2, 5, 2199, []),
  (15, .ireturn, 1, 0, 0, 0, 0, []),
  (16, .aload_n 0, 1, 0, 0, 0, 0, []),
  (17, .getfield 9, 3, 0, 1, 1, 6234, []),
  (20, .iload_n 1, 1, 1, 0, 0, 0, []),
  (21, .invokestatic 498, 3, 0, 0, 99, 0, []),
  (24, .ireturn, 1, 0, 0, 0, 0, [])]
def m49 : MI := (⟨"java/lang/String", "charAt", "(I)C"⟩, prog_15_method_56_code, 2, (Option.some Jvm.ClassFile.FieldType.char), k49, 1, [2194, 1015, 2192, 2193])
/-- java/lang/String.isLatin1()Z -/
def k50 : List XE := [(0, .getstatic 38, 3, 0, 1, 1, 2189, []),
  (3, .ifCond .eq 14, 3, 17, 0, 0, 0, []),
  (6, .aload_n 0, 1, 0, 0, 0, 0, []),
  (7, .getfield 15, 3, 0, 0, 1, 6235, []),
  (10, .ifCond .ne 7, 3, 17, 0, 0, 0, []),
  (13, .iconst 1, 1, 0, 0, 0, 0, []),
  (14, .goto 4, 3, 18, 0, 0, 0, []),
  (17, .iconst 0, 1, 0, 0, 0, 0, []),
  (18, .ireturn, 1, 0, 0, 0, 0, [])]
def m50 : MI := (⟨"java/lang/String", "isLatin1", "()Z"⟩, prog_15_method_154_code, 1, (Option.some Jvm.ClassFile.FieldType.boolean), k50, 0, [2198, 1015, 2196, 2197])
/-- java/lang/StringLatin1.charAt([BI)C -/
def k51 : List XE := [(0, .iload_n 1, 1, 1, 0, 0, 0, []),
  (1, .aload_n 0, 1, 0, 0, 0, 0, []),
  (2, .arraylength, 1, 0, 0, 0, 0, []),
  (3, .invokestatic 9, 3, 52, 2, 5, 2202, []),
  (6, .aload_n 0, 1, 0, 0, 0, 0, []),
  (7, .iload_n 1, 1, 1, 0, 0, 0, []),
  (8, .baload, 1, 0, 0, 0, 0, []),
  (9, .sipush 255, 3, 0, 0, 0, 0, []),
  (12, .iand, 1, 0, 0, 0, 0, []),
  (13, .i2c, 1, 0, 0, 0, 0, []),
  (14, .ireturn, 1, 0, 0, 0, 0, [])]
def m51 : MI := (⟨"java/lang/StringLatin1", "charAt", "([BI)C"⟩, prog_16_method_2_code, 2, (Option.some Jvm.ClassFile.FieldType.char), k51, 2, [2201, 1016, 2200, 9999])
/-- java/lang/String.checkIndex(II)V -/
def k52 : List XE := [(0, .iload_n 0, 1, 0, 0, 0, 0, []),
  (1, .iload_n 1, 1, 1, 0, 0, 0, []),
  (2, .getstatic 1053, 3, 0, 20, 0, 2205, []),
  (5, .invokestatic 1059, 3, 53, 3, 5, 2207, []),
  (8, .pop, 1, 0, 0, 0, 0, []),
  (9, .return_, 1, 0, 0, 0, 0, [])]
def m52 : MI := (⟨"java/lang/String", "checkIndex", "(II)V"⟩, prog_15_method_155_code, 2, none, k52, 2, [2204, 1015, 2203, 9999])
/-- jdk/internal/util/Preconditions.checkIndex(IILjava/util/function/BiFunction;)I -/
def k53 : List XE := [(0, .iload_n 0, 1, 0, 0, 0, 0, []),
  (1, .ifCond .lt 8, 3, 9, 0, 0, 0, []),
  (4, .iload_n 0, 1, 0, 0, 0, 0, []),
  (5, .iload_n 1, 1, 1, 0, 0, 0, []),
  (6, .if_icmp .lt 10, 3, 16, 0, 0, 0, []),
  (9, .aload_n 2, 1, 2, 0, 0, 0, []),
  (10, .iload_n 0, 1, 0, 0, 0, 0, []),
  (11, .iload_n 1, 1, 1, 0, 0, 0, []),
  (12, .invokestatic 95, 3, 0, 0, 99, 0, []),
  (15, .athrow, 1, 0, 0, 0, 0, []),
  (16, .iload_n 0, 1, 0, 0, 0, 0, []),
  (17, .ireturn, 1, 0, 0, 0, 0, [])]
def m53 : MI := (⟨"jdk/internal/util/Preconditions", "checkIndex", "(IILjava/util/function/BiFunction;)I"⟩, prog_20_method_11_code, 3, (Option.some Jvm.ClassFile.FieldType.int), k53, 3, [2209, 1017, 2208, 9999])
/-- LeavesObject$Text.readNumber()I -/
def k54 : List XE := [(0, .iconst (-1), 1, 0, 0, 0, 0, []),
  (1, .istore_n 1, 1, 1, 0, 0, 0, []),
  (2, .iconst 0, 1, 0, 0, 0, 0, []),
  (3, .istore_n 2, 1, 2, 0, 0, 0, []),
  (4, .iload_n 2, 1, 2, 0, 0, 0, []),
  (5, .iconst 2, 1, 0, 0, 0, 0, []),
  (6, .if_icmp .ge 47, 3, 53, 0, 0, 0, []),
  (9, .aload_n 0, 1, 0, 0, 0, 0, []),
  (10, .invokevirtual 31, 3, 44, 0, 0, 2166, [(7, 0)]),
  (13, .bipush 48, 2, 0, 0, 0, 0, []),
  (15, .isub, 1, 0, 0, 0, 0, []),
  (16, .istore_n 3, 1, 3, 0, 0, 0, []),
  (17, .iload_n 3, 1, 3, 0, 0, 0, []),
  (18, .invokestatic 77, 3, 11, 1, 6, 2234, []),
  (21, .ifCond .ne 5, 3, 26, 0, 0, 0, []),
  (24, .iload_n 1, 1, 1, 0, 0, 0, []),
  (25, .ireturn, 1, 0, 0, 0, 0, []),
  (26, .iload_n 1, 1, 1, 0, 0, 0, []),
  (27, .iconst 0, 1, 0, 0, 0, 0, []),
  (28, .invokestatic 81, 3, 3, 2, 5, 2235, []),
  (31, .bipush 10, 2, 0, 0, 0, 0, []),
  (33, .imul, 1, 0, 0, 0, 0, []),
  (34, .iload_n 3, 1, 3, 0, 0, 0, []),
  (35, .iadd, 1, 0, 0, 0, 0, []),
  (36, .istore_n 1, 1, 1, 0, 0, 0, []),
  (37, .aload_n 0, 1, 0, 0, 0, 0, []),
  (38, .dup, 1, 0, 0, 0, 0, []),
  (39, .getfield 19, 3, 7, 2, 0, 1138, []),
  (42, .iconst 1, 1, 0, 0, 0, 0, []),
  (43, .iadd, 1, 0, 0, 0, 0, []),
  (44, .putfield 19, 3, 7, 2, 0, 1138, []),
  (47, .iinc 2 1, 3, 2, 0, 0, 0, []),
  (50, .goto (-46), 3, 4, 0, 0, 0, []),
  (53, .iload_n 1, 1, 1, 0, 0, 0, []),
  (54, .ireturn, 1, 0, 0, 0, 0, [])]
def m54 : MI := (⟨"LeavesObject$Text", "readNumber", "()I"⟩, prog_9_method_8_code, 4, (Option.some Jvm.ClassFile.FieldType.int), k54, 0, [2233, 1006, 2232, 7])
/-- LeavesObject$Text.readEither(LLeavesObject$Inn;I)Z -/
def k55 : List XE := [(0, .aload_n 0, 1, 0, 0, 0, 0, []),
  (1, .aload_n 1, 1, 1, 0, 0, 0, []),
  (2, .iload_n 2, 1, 2, 0, 0, 0, []),
  (3, .invokevirtual 87, 3, 56, 2, 0, 3000, [(7, 0)]),
  (6, .ifCond .ne 5, 3, 11, 0, 0, 0, []),
  (9, .iconst 0, 1, 0, 0, 0, 0, []),
  (10, .ireturn, 1, 0, 0, 0, 0, []),
  (11, .iconst 0, 1, 0, 0, 0, 0, []),
  (12, .istore_n 3, 1, 3, 0, 0, 0, []),
  (13, .iload_n 3, 1, 3, 0, 0, 0, []),
  (14, .bipush 100, 2, 0, 0, 0, 0, []),
  (16, .if_icmp .ge 45, 3, 61, 0, 0, 0, []),
  (19, .aload_n 0, 1, 0, 0, 0, 0, []),
  (20, .invokevirtual 31, 3, 44, 0, 0, 2166, [(7, 0)]),
  (23, .bipush 124, 2, 0, 0, 0, 0, []),
  (25, .if_icmp .ne 36, 3, 61, 0, 0, 0, []),
  (28, .aload_n 0, 1, 0, 0, 0, 0, []),
  (29, .dup, 1, 0, 0, 0, 0, []),
  (30, .getfield 19, 3, 7, 2, 0, 1138, []),
  (33, .iconst 1, 1, 0, 0, 0, 0, []),
  (34, .iadd, 1, 0, 0, 0, 0, []),
  (35, .putfield 19, 3, 7, 2, 0, 1138, []),
  (38, .aload_n 0, 1, 0, 0, 0, 0, []),
  (39, .aload_n 1, 1, 1, 0, 0, 0, []),
  (40, .iload_n 2, 1, 2, 0, 0, 0, []),
  (41, .invokevirtual 87, 3, 56, 2, 0, 3000, [(7, 0)]),
  (44, .ifCond .ne 5, 3, 49, 0, 0, 0, []),
  (47, .iconst 0, 1, 0, 0, 0, 0, []),
  (48, .ireturn, 1, 0, 0, 0, 0, []),
  (49, .aload_n 1, 1, 1, 0, 0, 0, []),
  (50, .bipush (-3), 2, 0, 0, 0, 0, []),
  (52, .invokevirtual 90, 3, 61, 1, 0, 3027, [(2, 0)]),
  (55, .iinc 3 1, 3, 3, 0, 0, 0, []),
  (58, .goto (-45), 3, 13, 0, 0, 0, []),
  (61, .iconst 1, 1, 0, 0, 0, 0, []),
  (62, .ireturn, 1, 0, 0, 0, 0, [])]
def m55 : MI := (⟨"LeavesObject$Text", "readEither", "(LLeavesObject$Inn;I)Z"⟩, prog_9_method_9_code, 4, (Option.some Jvm.ClassFile.FieldType.boolean), k55, 2, [2239, 1006, 2238, 8])
/-- LeavesObject$Text.readBoth(LLeavesObject$Inn;I)Z -/
def k56 : List XE := [(0, .aload_n 0, 1, 0, 0, 0, 0, []),
  (1, .aload_n 1, 1, 1, 0, 0, 0, []),
  (2, .iload_n 2, 1, 2, 0, 0, 0, []),
  (3, .invokevirtual 93, 3, 57, 2, 0, 3004, [(7, 0)]),
  (6, .ifCond .ne 5, 3, 11, 0, 0, 0, []),
  (9, .iconst 0, 1, 0, 0, 0, 0, []),
  (10, .ireturn, 1, 0, 0, 0, 0, []),
  (11, .iconst 0, 1, 0, 0, 0, 0, []),
  (12, .istore_n 3, 1, 3, 0, 0, 0, []),
  (13, .iload_n 3, 1, 3, 0, 0, 0, []),
  (14, .bipush 100, 2, 0, 0, 0, 0, []),
  (16, .if_icmp .ge 45, 3, 61, 0, 0, 0, []),
  (19, .aload_n 0, 1, 0, 0, 0, 0, []),
  (20, .invokevirtual 31, 3, 44, 0, 0, 2166, [(7, 0)]),
  (23, .bipush 38, 2, 0, 0, 0, 0, []),
  (25, .if_icmp .ne 36, 3, 61, 0, 0, 0, []),
  (28, .aload_n 0, 1, 0, 0, 0, 0, []),
  (29, .dup, 1, 0, 0, 0, 0, []),
  (30, .getfield 19, 3, 7, 2, 0, 1138, []),
  (33, .iconst 1, 1, 0, 0, 0, 0, []),
  (34, .iadd, 1, 0, 0, 0, 0, []),
  (35, .putfield 19, 3, 7, 2, 0, 1138, []),
  (38, .aload_n 0, 1, 0, 0, 0, 0, []),
  (39, .aload_n 1, 1, 1, 0, 0, 0, []),
  (40, .iload_n 2, 1, 2, 0, 0, 0, []),
  (41, .invokevirtual 93, 3, 57, 2, 0, 3004, [(7, 0)]),
  (44, .ifCond .ne 5, 3, 49, 0, 0, 0, []),
  (47, .iconst 0, 1, 0, 0, 0, 0, []),
  (48, .ireturn, 1, 0, 0, 0, 0, []),
  (49, .aload_n 1, 1, 1, 0, 0, 0, []),
  (50, .bipush (-2), 2, 0, 0, 0, 0, []),
  (52, .invokevirtual 90, 3, 61, 1, 0, 3027, [(2, 0)]),
  (55, .iinc 3 1, 3, 3, 0, 0, 0, []),
  (58, .goto (-45), 3, 13, 0, 0, 0, []),
  (61, .iconst 1, 1, 0, 0, 0, 0, []),
  (62, .ireturn, 1, 0, 0, 0, 0, [])]
def m56 : MI := (⟨"LeavesObject$Text", "readBoth", "(LLeavesObject$Inn;I)Z"⟩, prog_9_method_10_code, 4, (Option.some Jvm.ClassFile.FieldType.boolean), k56, 2, [3003, 1006, 3002, 9])
/-- LeavesObject$Text.readOne(LLeavesObject$Inn;I)Z -/
def k57 : List XE := [(0, .aload_n 0, 1, 0, 0, 0, 0, []),
  (1, .invokevirtual 31, 3, 44, 0, 0, 2166, [(7, 0)]),
  (4, .istore_n 3, 1, 3, 0, 0, 0, []),
  (5, .iload_n 3, 1, 3, 0, 0, 0, []),
  (6, .bipush 33, 2, 0, 0, 0, 0, []),
  (8, .if_icmp .eq 15, 3, 23, 0, 0, 0, []),
  (11, .iload_n 3, 1, 3, 0, 0, 0, []),
  (12, .bipush 40, 2, 0, 0, 0, 0, []),
  (14, .if_icmp .eq 9, 3, 23, 0, 0, 0, []),
  (17, .aload_n 0, 1, 0, 0, 0, 0, []),
  (18, .aload_n 1, 1, 1, 0, 0, 0, []),
  (19, .invokevirtual 96, 3, 58, 1, 0, 3008, [(7, 0)]),
  (22, .ireturn, 1, 0, 0, 0, 0, []),
  (23, .iload_n 2, 1, 2, 0, 0, 0, []),
  (24, .iconst 4, 1, 0, 0, 0, 0, []),
  (25, .if_icmp .lt 5, 3, 30, 0, 0, 0, []),
  (28, .iconst 0, 1, 0, 0, 0, 0, []),
  (29, .ireturn, 1, 0, 0, 0, 0, []),
  (30, .aload_n 0, 1, 0, 0, 0, 0, []),
  (31, .dup, 1, 0, 0, 0, 0, []),
  (32, .getfield 19, 3, 7, 2, 0, 1138, []),
  (35, .iconst 1, 1, 0, 0, 0, 0, []),
  (36, .iadd, 1, 0, 0, 0, 0, []),
  (37, .putfield 19, 3, 7, 2, 0, 1138, []),
  (40, .iload_n 3, 1, 3, 0, 0, 0, []),
  (41, .bipush 40, 2, 0, 0, 0, 0, []),
  (43, .if_icmp .ne 29, 3, 72, 0, 0, 0, []),
  (46, .aload_n 0, 1, 0, 0, 0, 0, []),
  (47, .aload_n 1, 1, 1, 0, 0, 0, []),
  (48, .iload_n 2, 1, 2, 0, 0, 0, []),
  (49, .iconst 1, 1, 0, 0, 0, 0, []),
  (50, .iadd, 1, 0, 0, 0, 0, []),
  (51, .invokevirtual 54, 3, 55, 2, 0, 2236, [(7, 0)]),
  (54, .ifCond .eq 16, 3, 70, 0, 0, 0, []),
  (57, .aload_n 0, 1, 0, 0, 0, 0, []),
  (58, .ldc 99, 2, 7, 0, 0, 3026, []),
  (60, .invokevirtual 39, 3, 46, 1, 0, 2177, [(7, 0)]),
  (63, .ifCond .eq 7, 3, 70, 0, 0, 0, []),
  (66, .iconst 1, 1, 0, 0, 0, 0, []),
  (67, .goto 4, 3, 71, 0, 0, 0, []),
  (70, .iconst 0, 1, 0, 0, 0, 0, []),
  (71, .ireturn, 1, 0, 0, 0, 0, []),
  (72, .aload_n 0, 1, 0, 0, 0, 0, []),
  (73, .aload_n 1, 1, 1, 0, 0, 0, []),
  (74, .iload_n 2, 1, 2, 0, 0, 0, []),
  (75, .iconst 1, 1, 0, 0, 0, 0, []),
  (76, .iadd, 1, 0, 0, 0, 0, []),
  (77, .invokevirtual 93, 3, 57, 2, 0, 3004, [(7, 0)]),
  (80, .ifCond .ne 5, 3, 85, 0, 0, 0, []),
  (83, .iconst 0, 1, 0, 0, 0, 0, []),
  (84, .ireturn, 1, 0, 0, 0, 0, []),
  (85, .aload_n 1, 1, 1, 0, 0, 0, []),
  (86, .iconst (-1), 1, 0, 0, 0, 0, []),
  (87, .invokevirtual 90, 3, 61, 1, 0, 3027, [(2, 0)]),
  (90, .iconst 1, 1, 0, 0, 0, 0, []),
  (91, .ireturn, 1, 0, 0, 0, 0, [])]
def m57 : MI := (⟨"LeavesObject$Text", "readOne", "(LLeavesObject$Inn;I)Z"⟩, prog_9_method_11_code, 4, (Option.some Jvm.ClassFile.FieldType.boolean), k57, 2, [3007, 1006, 3006, 10])
/-- LeavesObject$Text.readTest(LLeavesObject$Inn;)Z -/
def k58 : List XE := [(0, .aload_n 0, 1, 0, 0, 0, 0, []),
  (1, .ldc 101, 2, 5, 0, 0, 3012, []),
  (3, .invokevirtual 103, 3, 59, 1, 0, 3013, [(7, 0)]),
  (6, .istore_n 2, 1, 2, 0, 0, 0, []),
  (7, .iload_n 2, 1, 2, 0, 0, 0, []),
  (8, .ifCond .ge 7, 3, 15, 0, 0, 0, []),
  (11, .iconst (-1), 1, 0, 0, 0, 0, []),
  (12, .goto 9, 3, 21, 0, 0, 0, []),
  (15, .aload_n 0, 1, 0, 0, 0, 0, []),
  (16, .ldc 107, 2, 6, 0, 0, 3017, []),
  (18, .invokevirtual 103, 3, 59, 1, 0, 3013, [(7, 0)]),
  (21, .istore_n 3, 1, 3, 0, 0, 0, []),
  (22, .iload_n 3, 1, 3, 0, 0, 0, []),
  (23, .ifCond .ge 7, 3, 30, 0, 0, 0, []),
  (26, .iconst (-1), 1, 0, 0, 0, 0, []),
  (27, .goto 7, 3, 34, 0, 0, 0, []),
  (30, .aload_n 0, 1, 0, 0, 0, 0, []),
  (31, .invokevirtual 45, 3, 54, 0, 0, 2230, [(7, 0)]),
  (34, .istore 4, 2, 4, 0, 0, 0, []),
  (36, .iload 4, 2, 4, 0, 0, 0, []),
  (38, .ifCond .ge 5, 3, 43, 0, 0, 0, []),
  (41, .iconst 0, 1, 0, 0, 0, 0, []),
  (42, .ireturn, 1, 0, 0, 0, 0, []),
  (43, .aload_n 1, 1, 1, 0, 0, 0, []),
  (44, .iload_n 2, 1, 2, 0, 0, 0, []),
  (45, .iload_n 3, 1, 3, 0, 0, 0, []),
  (46, .iload 4, 2, 4, 0, 0, 0, []),
  (48, .invokevirtual 109, 3, 60, 3, 0, 3018, [(2, 0)]),
  (51, .iconst 1, 1, 0, 0, 0, 0, []),
  (52, .ireturn, 1, 0, 0, 0, 0, [])]
def m58 : MI := (⟨"LeavesObject$Text", "readTest", "(LLeavesObject$Inn;)Z"⟩, prog_9_method_12_code, 5, (Option.some Jvm.ClassFile.FieldType.boolean), k58, 1, [3011, 1006, 3010, 11])
/-- LeavesObject$Text.readOneOf(Ljava/lang/String;)I -/
def k59 : List XE := [(0, .iconst 0, 1, 0, 0, 0, 0, []),
  (1, .istore_n 2, 1, 2, 0, 0, 0, []),
  (2, .iload_n 2, 1, 2, 0, 0, 0, []),
  (3, .aload_n 1, 1, 1, 0, 0, 0, []),
  (4, .invokevirtual 68, 3, 47, 0, 0, 2181, [(99, 0)]),
  (7, .if_icmp .ge 33, 3, 40, 0, 0, 0, []),
  (10, .aload_n 0, 1, 0, 0, 0, 0, []),
  (11, .invokevirtual 31, 3, 44, 0, 0, 2166, [(7, 0)]),
  (14, .aload_n 1, 1, 1, 0, 0, 0, []),
  (15, .iload_n 2, 1, 2, 0, 0, 0, []),
  (16, .invokevirtual 73, 3, 49, 1, 0, 2191, [(99, 0)]),
  (19, .if_icmp .ne 15, 3, 34, 0, 0, 0, []),
  (22, .aload_n 0, 1, 0, 0, 0, 0, []),
  (23, .dup, 1, 0, 0, 0, 0, []),
  (24, .getfield 19, 3, 7, 2, 0, 1138, []),
  (27, .iconst 1, 1, 0, 0, 0, 0, []),
  (28, .iadd, 1, 0, 0, 0, 0, []),
  (29, .putfield 19, 3, 7, 2, 0, 1138, []),
  (32, .iload_n 2, 1, 2, 0, 0, 0, []),
  (33, .ireturn, 1, 0, 0, 0, 0, []),
  (34, .iinc 2 1, 3, 2, 0, 0, 0, []),
  (37, .goto (-35), 3, 2, 0, 0, 0, []),
  (40, .iconst (-1), 1, 0, 0, 0, 0, []),
  (41, .ireturn, 1, 0, 0, 0, 0, [])]
def m59 : MI := (⟨"LeavesObject$Text", "readOneOf", "(Ljava/lang/String;)I"⟩, prog_9_method_13_code, 3, (Option.some Jvm.ClassFile.FieldType.int), k59, 1, [3016, 1006, 3015, 12])
/-- LeavesObject$Inn.addTest(III)V -/
def k60 : List XE := [(0, .aload_n 0, 1, 0, 0, 0, 0, []),
  (1, .iload_n 1, 1, 1, 0, 0, 0, []),
  (2, .iconst 3, 1, 0, 0, 0, 0, []),
  (3, .imul, 1, 0, 0, 0, 0, []),
  (4, .iload_n 2, 1, 2, 0, 0, 0, []),
  (5, .iadd, 1, 0, 0, 0, 0, []),
  (6, .bipush 100, 2, 0, 0, 0, 0, []),
  (8, .imul, 1, 0, 0, 0, 0, []),
  (9, .iload_n 3, 1, 3, 0, 0, 0, []),
  (10, .iadd, 1, 0, 0, 0, 0, []),
  (11, .invokevirtual 37, 3, 61, 1, 0, 3022, [(2, 0)]),
  (14, .return_, 1, 0, 0, 0, 0, [])]
def m60 : MI := (⟨"LeavesObject$Inn", "addTest", "(III)V"⟩, prog_4_method_4_code, 4, none, k60, 3, [3021, 1007, 3019, 3020])
/-- LeavesObject$Inn.addStep(I)V -/
def k61 : List XE := [(0, .aload_n 0, 1, 0, 0, 0, 0, []),
  (1, .getfield 34, 3, 2, 5, 0, 1165, []),
  (4, .ifCond .lt 35, 3, 39, 0, 0, 0, []),
  (7, .aload_n 0, 1, 0, 0, 0, 0, []),
  (8, .getfield 34, 3, 2, 5, 0, 1165, []),
  (11, .aload_n 0, 1, 0, 0, 0, 0, []),
  (12, .getfield 25, 3, 2, 6, 0, 1166, []),
  (15, .arraylength, 1, 0, 0, 0, 0, []),
  (16, .if_icmp .ge 23, 3, 39, 0, 0, 0, []),
  (19, .aload_n 0, 1, 0, 0, 0, 0, []),
  (20, .getfield 25, 3, 2, 6, 0, 1166, []),
  (23, .aload_n 0, 1, 0, 0, 0, 0, []),
  (24, .getfield 34, 3, 2, 5, 0, 1165, []),
  (27, .iload_n 1, 1, 1, 0, 0, 0, []),
  (28, .iastore, 1, 0, 0, 0, 0, []),
  (29, .aload_n 0, 1, 0, 0, 0, 0, []),
  (30, .dup, 1, 0, 0, 0, 0, []),
  (31, .getfield 34, 3, 2, 5, 0, 1165, []),
  (34, .iconst 1, 1, 0, 0, 0, 0, []),
  (35, .iadd, 1, 0, 0, 0, 0, []),
  (36, .putfield 34, 3, 2, 5, 0, 1165, []),
  (39, .return_, 1, 0, 0, 0, 0, [])]
def m61 : MI := (⟨"LeavesObject$Inn", "addStep", "(I)V"⟩, prog_4_method_3_code, 2, none, k61, 1, [3025, 1007, 3023, 3024])
/-- LeavesObject$Inn.endChange(I)V -/
def k62 : List XE := [(0, .aload_n 0, 1, 0, 0, 0, 0, []),
  (1, .getfield 31, 3, 2, 2, 0, 1162, []),
  (4, .ifCond .lt 60, 3, 64, 0, 0, 0, []),
  (7, .aload_n 0, 1, 0, 0, 0, 0, []),
  (8, .getfield 31, 3, 2, 2, 0, 1162, []),
  (11, .aload_n 0, 1, 0, 0, 0, 0, []),
  (12, .getfield 18, 3, 2, 3, 0, 1163, []),
  (15, .arraylength, 1, 0, 0, 0, 0, []),
  (16, .if_icmp .ge 48, 3, 64, 0, 0, 0, []),
  (19, .aload_n 0, 1, 0, 0, 0, 0, []),
  (20, .getfield 31, 3, 2, 2, 0, 1162, []),
  (23, .aload_n 0, 1, 0, 0, 0, 0, []),
  (24, .getfield 22, 3, 2, 4, 0, 1164, []),
  (27, .arraylength, 1, 0, 0, 0, 0, []),
  (28, .if_icmp .ge 36, 3, 64, 0, 0, 0, []),
  (31, .aload_n 0, 1, 0, 0, 0, 0, []),
  (32, .getfield 18, 3, 2, 3, 0, 1163, []),
  (35, .aload_n 0, 1, 0, 0, 0, 0, []),
  (36, .getfield 31, 3, 2, 2, 0, 1162, []),
  (39, .iload_n 1, 1, 1, 0, 0, 0, []),
  (40, .iastore, 1, 0, 0, 0, 0, []),
  (41, .aload_n 0, 1, 0, 0, 0, 0, []),
  (42, .getfield 22, 3, 2, 4, 0, 1164, []),
  (45, .aload_n 0, 1, 0, 0, 0, 0, []),
  (46, .getfield 31, 3, 2, 2, 0, 1162, []),
  (49, .aload_n 0, 1, 0, 0, 0, 0, []),
  (50, .getfield 34, 3, 2, 5, 0, 1165, []),
  (53, .iastore, 1, 0, 0, 0, 0, []),
  (54, .aload_n 0, 1, 0, 0, 0, 0, []),
  (55, .dup, 1, 0, 0, 0, 0, []),
  (56, .getfield 31, 3, 2, 2, 0, 1162, []),
  (59, .iconst 1, 1, 0, 0, 0, 0, []),
  (60, .iadd, 1, 0, 0, 0, 0, []),
  (61, .putfield 31, 3, 2, 2, 0, 1162, []),
  (64, .return_, 1, 0, 0, 0, 0, [])]
def m62 : MI := (⟨"LeavesObject$Inn", "endChange", "(I)V"⟩, prog_4_method_5_code, 2, none, k62, 1, [3031, 1007, 3029, 3030])
/-- LeavesObject.told(I)I -/
def k63 : List XE := [(0, .iload_n 1, 1, 1, 0, 0, 0, []),
  (1, .tableswitch 100 0 6 #[43, 51, 59, 67, 76, 84, 92], 43, 101, 0, 0, 0, [(0, 44), (1, 52), (2, 60), (3, 68), (4, 77), (5, 85), (6, 93)]),
  (44, .aload_n 0, 1, 0, 0, 0, 0, []),
  (45, .getfield 12, 3, 9, 0, 0, 1239, []),
  (48, .getfield 102, 3, 5, 2, 0, 1104, []),
  (51, .ireturn, 1, 0, 0, 0, 0, []),
  (52, .aload_n 0, 1, 0, 0, 0, 0, []),
  (53, .invokevirtual 98, 3, 19, 0, 0, 2069, [(9, 0)]),
  (56, .getfield 155, 3, 2, 0, 0, 1157, []),
  (59, .ireturn, 1, 0, 0, 0, 0, []),
  (60, .aload_n 0, 1, 0, 0, 0, 0, []),
  (61, .invokevirtual 98, 3, 19, 0, 0, 2069, [(9, 0)]),
  (64, .getfield 158, 3, 2, 1, 0, 1161, []),
  (67, .ireturn, 1, 0, 0, 0, 0, []),
  (68, .aload_n 0, 1, 0, 0, 0, 0, []),
  (69, .getfield 12, 3, 9, 0, 0, 1239, []),
  (72, .iconst (-1), 1, 0, 0, 0, 0, []),
  (73, .invokevirtual 161, 3, 64, 1, 0, 3037, [(5, 0)]),
  (76, .ireturn, 1, 0, 0, 0, 0, []),
  (77, .aload_n 0, 1, 0, 0, 0, 0, []),
  (78, .getfield 12, 3, 9, 0, 0, 1239, []),
  (81, .invokevirtual 164, 3, 66, 0, 0, 3046, [(5, 0)]),
  (84, .ireturn, 1, 0, 0, 0, 0, []),
  (85, .aload_n 0, 1, 0, 0, 0, 0, []),
  (86, .getfield 12, 3, 9, 0, 0, 1239, []),
  (89, .invokevirtual 168, 3, 67, 0, 0, 3050, [(5, 0)]),
  (92, .ireturn, 1, 0, 0, 0, 0, []),
  (93, .aload_n 0, 1, 0, 0, 0, 0, []),
  (94, .getfield 12, 3, 9, 0, 0, 1239, []),
  (97, .invokevirtual 171, 3, 69, 0, 0, 3057, [(5, 0)]),
  (100, .ireturn, 1, 0, 0, 0, 0, []),
  (101, .iconst (-1), 1, 0, 0, 0, 0, []),
  (102, .ireturn, 1, 0, 0, 0, 0, [])]
def m63 : MI := (⟨"LeavesObject", "told", "(I)I"⟩, prog_1_method_8_code, 2, (Option.some Jvm.ClassFile.FieldType.int), k63, 1, [3036, 1001, 3034, 3035])
/-- LeavesObject$Table.joined(I)I -/
def k64 : List XE := [(0, .iconst 0, 1, 0, 0, 0, 0, []),
  (1, .istore_n 2, 1, 2, 0, 0, 0, []),
  (2, .iconst 0, 1, 0, 0, 0, 0, []),
  (3, .istore_n 3, 1, 3, 0, 0, 0, []),
  (4, .iload_n 3, 1, 3, 0, 0, 0, []),
  (5, .aload_n 0, 1, 0, 0, 0, 0, []),
  (6, .getfield 37, 3, 5, 1, 0, 1103, []),
  (9, .if_icmp .ge 22, 3, 31, 0, 0, 0, []),
  (12, .iload_n 3, 1, 3, 0, 0, 0, []),
  (13, .iload_n 1, 1, 1, 0, 0, 0, []),
  (14, .if_icmp .eq 11, 3, 25, 0, 0, 0, []),
  (17, .iload_n 2, 1, 2, 0, 0, 0, []),
  (18, .aload_n 0, 1, 0, 0, 0, 0, []),
  (19, .iload_n 3, 1, 3, 0, 0, 0, []),
  (20, .invokevirtual 69, 3, 65, 1, 0, 3041, [(5, 0)]),
  (23, .ior, 1, 0, 0, 0, 0, []),
  (24, .istore_n 2, 1, 2, 0, 0, 0, []),
  (25, .iinc 3 1, 3, 3, 0, 0, 0, []),
  (28, .goto (-24), 3, 4, 0, 0, 0, []),
  (31, .iload_n 2, 1, 2, 0, 0, 0, []),
  (32, .ireturn, 1, 0, 0, 0, 0, [])]
def m64 : MI := (⟨"LeavesObject$Table", "joined", "(I)I"⟩, prog_7_method_7_code, 4, (Option.some Jvm.ClassFile.FieldType.int), k64, 1, [3040, 1002, 3038, 3039])
/-- LeavesObject$Table.leavesOf(I)I -/
def k65 : List XE := [(0, .aload_n 0, 1, 0, 0, 0, 0, []),
  (1, .iload_n 1, 1, 1, 0, 0, 0, []),
  (2, .invokevirtual 44, 3, 17, 1, 0, 3045, [(5, 0)]),
  (5, .astore_n 2, 1, 2, 0, 0, 0, []),
  (6, .aload_n 2, 1, 2, 0, 0, 0, []),
  (7, .ifnonnull 7, 3, 14, 0, 0, 0, []),
  (10, .iconst 0, 1, 0, 0, 0, 0, []),
  (11, .goto 7, 3, 18, 0, 0, 0, []),
  (14, .aload_n 2, 1, 2, 0, 0, 0, []),
  (15, .getfield 47, 3, 1, 3, 0, 1077, []),
  (18, .ireturn, 1, 0, 0, 0, 0, [])]
def m65 : MI := (⟨"LeavesObject$Table", "leavesOf", "(I)I"⟩, prog_7_method_4_code, 3, (Option.some Jvm.ClassFile.FieldType.int), k65, 1, [3044, 1002, 3042, 3043])
/-- LeavesObject$Table.twice()I -/
def k66 : List XE := [(0, .iconst 0, 1, 0, 0, 0, 0, []),
  (1, .istore_n 1, 1, 1, 0, 0, 0, []),
  (2, .iconst 0, 1, 0, 0, 0, 0, []),
  (3, .istore_n 2, 1, 2, 0, 0, 0, []),
  (4, .iconst 0, 1, 0, 0, 0, 0, []),
  (5, .istore_n 3, 1, 3, 0, 0, 0, []),
  (6, .iload_n 3, 1, 3, 0, 0, 0, []),
  (7, .aload_n 0, 1, 0, 0, 0, 0, []),
  (8, .getfield 37, 3, 5, 1, 0, 1103, []),
  (11, .if_icmp .ge 27, 3, 38, 0, 0, 0, []),
  (14, .iload_n 2, 1, 2, 0, 0, 0, []),
  (15, .iload_n 1, 1, 1, 0, 0, 0, []),
  (16, .aload_n 0, 1, 0, 0, 0, 0, []),
  (17, .iload_n 3, 1, 3, 0, 0, 0, []),
  (18, .invokevirtual 69, 3, 65, 1, 0, 3041, [(5, 0)]),
  (21, .iand, 1, 0, 0, 0, 0, []),
  (22, .ior, 1, 0, 0, 0, 0, []),
  (23, .istore_n 2, 1, 2, 0, 0, 0, []),
  (24, .iload_n 1, 1, 1, 0, 0, 0, []),
  (25, .aload_n 0, 1, 0, 0, 0, 0, []),
  (26, .iload_n 3, 1, 3, 0, 0, 0, []),
  (27, .invokevirtual 69, 3, 65, 1, 0, 3041, [(5, 0)]),
  (30, .ior, 1, 0, 0, 0, 0, []),
  (31, .istore_n 1, 1, 1, 0, 0, 0, []),
  (32, .iinc 3 1, 3, 3, 0, 0, 0, []),
  (35, .goto (-29), 3, 6, 0, 0, 0, []),
  (38, .iload_n 2, 1, 2, 0, 0, 0, []),
  (39, .ireturn, 1, 0, 0, 0, 0, [])]
def m66 : MI := (⟨"LeavesObject$Table", "twice", "()I"⟩, prog_7_method_9_code, 4, (Option.some Jvm.ClassFile.FieldType.int), k66, 0, [3049, 1002, 3047, 3048])
/-- LeavesObject$Table.mirrored()I -/
def k67 : List XE := [(0, .iconst 0, 1, 0, 0, 0, 0, []),
  (1, .istore_n 1, 1, 1, 0, 0, 0, []),
  (2, .iconst 0, 1, 0, 0, 0, 0, []),
  (3, .istore_n 2, 1, 2, 0, 0, 0, []),
  (4, .iload_n 2, 1, 2, 0, 0, 0, []),
  (5, .aload_n 0, 1, 0, 0, 0, 0, []),
  (6, .getfield 37, 3, 5, 1, 0, 1103, []),
  (9, .if_icmp .ge 31, 3, 40, 0, 0, 0, []),
  (12, .aload_n 0, 1, 0, 0, 0, 0, []),
  (13, .iload_n 2, 1, 2, 0, 0, 0, []),
  (14, .invokevirtual 69, 3, 65, 1, 0, 3041, [(5, 0)]),
  (17, .invokestatic 73, 3, 68, 1, 5, 3054, []),
  (20, .aload_n 0, 1, 0, 0, 0, 0, []),
  (21, .iload_n 2, 1, 2, 0, 0, 0, []),
  (22, .invokevirtual 69, 3, 65, 1, 0, 3041, [(5, 0)]),
  (25, .if_icmp .ne 9, 3, 34, 0, 0, 0, []),
  (28, .iload_n 1, 1, 1, 0, 0, 0, []),
  (29, .iconst 1, 1, 0, 0, 0, 0, []),
  (30, .iload_n 2, 1, 2, 0, 0, 0, []),
  (31, .ishl, 1, 0, 0, 0, 0, []),
  (32, .ior, 1, 0, 0, 0, 0, []),
  (33, .istore_n 1, 1, 1, 0, 0, 0, []),
  (34, .iinc 2 1, 3, 2, 0, 0, 0, []),
  (37, .goto (-33), 3, 4, 0, 0, 0, []),
  (40, .iload_n 1, 1, 1, 0, 0, 0, []),
  (41, .ireturn, 1, 0, 0, 0, 0, [])]
def m67 : MI := (⟨"LeavesObject$Table", "mirrored", "()I"⟩, prog_7_method_10_code, 3, (Option.some Jvm.ClassFile.FieldType.int), k67, 0, [3053, 1002, 3051, 3052])
/-- LeavesObject$Leaves.mirrored(I)I -/
def k68 : List XE := [(0, .iload_n 0, 1, 0, 0, 0, 0, []),
  (1, .sipush 273, 3, 0, 0, 0, 0, []),
  (4, .iand, 1, 0, 0, 0, 0, []),
  (5, .iconst 3, 1, 0, 0, 0, 0, []),
  (6, .ishl, 1, 0, 0, 0, 0, []),
  (7, .iload_n 0, 1, 0, 0, 0, 0, []),
  (8, .sipush 546, 3, 0, 0, 0, 0, []),
  (11, .iand, 1, 0, 0, 0, 0, []),
  (12, .iconst 1, 1, 0, 0, 0, 0, []),
  (13, .ishl, 1, 0, 0, 0, 0, []),
  (14, .ior, 1, 0, 0, 0, 0, []),
  (15, .iload_n 0, 1, 0, 0, 0, 0, []),
  (16, .sipush 1092, 3, 0, 0, 0, 0, []),
  (19, .iand, 1, 0, 0, 0, 0, []),
  (20, .iconst 1, 1, 0, 0, 0, 0, []),
  (21, .ishr, 1, 0, 0, 0, 0, []),
  (22, .ior, 1, 0, 0, 0, 0, []),
  (23, .iload_n 0, 1, 0, 0, 0, 0, []),
  (24, .sipush 2184, 3, 0, 0, 0, 0, []),
  (27, .iand, 1, 0, 0, 0, 0, []),
  (28, .iconst 3, 1, 0, 0, 0, 0, []),
  (29, .ishr, 1, 0, 0, 0, 0, []),
  (30, .ior, 1, 0, 0, 0, 0, []),
  (31, .ireturn, 1, 0, 0, 0, 0, [])]
def m68 : MI := (⟨"LeavesObject$Leaves", "mirrored", "(I)I"⟩, prog_5_method_8_code, 1, (Option.some Jvm.ClassFile.FieldType.int), k68, 1, [3056, 1014, 3055, 9999])
/-- LeavesObject$Table.alike()I -/
def k69 : List XE := [(0, .bipush (-5), 2, 0, 0, 0, 0, []),
  (2, .istore_n 1, 1, 1, 0, 0, 0, []),
  (3, .bipush 13, 2, 0, 0, 0, 0, []),
  (5, .istore_n 2, 1, 2, 0, 0, 0, []),
  (6, .iconst 0, 1, 0, 0, 0, 0, []),
  (7, .istore_n 3, 1, 3, 0, 0, 0, []),
  (8, .iload_n 3, 1, 3, 0, 0, 0, []),
  (9, .aload_n 0, 1, 0, 0, 0, 0, []),
  (10, .getfield 37, 3, 5, 1, 0, 1103, []),
  (13, .if_icmp .ge 62, 3, 75, 0, 0, 0, []),
  (16, .iload_n 3, 1, 3, 0, 0, 0, []),
  (17, .iconst 1, 1, 0, 0, 0, 0, []),
  (18, .iadd, 1, 0, 0, 0, 0, []),
  (19, .istore 4, 2, 4, 0, 0, 0, []),
  (21, .iload 4, 2, 4, 0, 0, 0, []),
  (23, .aload_n 0, 1, 0, 0, 0, 0, []),
  (24, .getfield 37, 3, 5, 1, 0, 1103, []),
  (27, .if_icmp .ge 42, 3, 69, 0, 0, 0, []),
  (30, .aload_n 0, 1, 0, 0, 0, 0, []),
  (31, .iload_n 3, 1, 3, 0, 0, 0, []),
  (32, .invokevirtual 69, 3, 65, 1, 0, 3041, [(5, 0)]),
  (35, .aload_n 0, 1, 0, 0, 0, 0, []),
  (36, .iload 4, 2, 4, 0, 0, 0, []),
  (38, .invokevirtual 69, 3, 65, 1, 0, 3041, [(5, 0)]),
  (41, .invokestatic 78, 3, 70, 2, 6, 3061, []),
  (44, .istore 5, 2, 5, 0, 0, 0, []),
  (46, .iload 5, 2, 5, 0, 0, 0, []),
  (48, .iload_n 2, 1, 2, 0, 0, 0, []),
  (49, .if_icmp .ge 14, 3, 63, 0, 0, 0, []),
  (52, .iload 5, 2, 5, 0, 0, 0, []),
  (54, .istore_n 2, 1, 2, 0, 0, 0, []),
  (55, .bipush 10, 2, 0, 0, 0, 0, []),
  (57, .iload_n 3, 1, 3, 0, 0, 0, []),
  (58, .imul, 1, 0, 0, 0, 0, []),
  (59, .iload 4, 2, 4, 0, 0, 0, []),
  (61, .iadd, 1, 0, 0, 0, 0, []),
  (62, .istore_n 1, 1, 1, 0, 0, 0, []),
  (63, .iinc 4 1, 3, 4, 0, 0, 0, []),
  (66, .goto (-45), 3, 21, 0, 0, 0, []),
  (69, .iinc 3 1, 3, 3, 0, 0, 0, []),
  (72, .goto (-64), 3, 8, 0, 0, 0, []),
  (75, .iload_n 1, 1, 1, 0, 0, 0, []),
  (76, .ireturn, 1, 0, 0, 0, 0, [])]
def m69 : MI := (⟨"LeavesObject$Table", "alike", "()I"⟩, prog_7_method_11_code, 6, (Option.some Jvm.ClassFile.FieldType.int), k69, 0, [3060, 1002, 3058, 3059])
/-- LeavesObject.unlike(II)I -/
def k70 : List XE := [(0, .iload_n 0, 1, 0, 0, 0, 0, []),
  (1, .iload_n 1, 1, 1, 0, 0, 0, []),
  (2, .ixor, 1, 0, 0, 0, 0, []),
  (3, .invokestatic 217, 3, 22, 1, 5, 3064, []),
  (6, .ireturn, 1, 0, 0, 0, 0, [])]
def m70 : MI := (⟨"LeavesObject", "unlike", "(II)I"⟩, prog_1_method_42_code, 2, (Option.some Jvm.ClassFile.FieldType.int), k70, 2, [3063, 1001, 3062, 9999])
/-- LeavesObject.say(II)I -/
def k71 : List XE := [(0, .aload_n 0, 1, 0, 0, 0, 0, []),
  (1, .getfield 12, 3, 9, 0, 0, 1239, []),
  (4, .iload_n 1, 1, 1, 0, 0, 0, []),
  (5, .invokevirtual 92, 3, 17, 1, 0, 2061, [(5, 0)]),
  (8, .astore_n 3, 1, 3, 0, 0, 0, []),
  (9, .aload_n 3, 1, 3, 0, 0, 0, []),
  (10, .ifnull 10, 3, 20, 0, 0, 0, []),
  (13, .iload_n 2, 1, 2, 0, 0, 0, []),
  (14, .invokestatic 95, 3, 18, 1, 4, 2066, []),
  (17, .ifCond .ne 5, 3, 22, 0, 0, 0, []),
  (20, .iconst (-1), 1, 0, 0, 0, 0, []),
  (21, .ireturn, 1, 0, 0, 0, 0, []),
  (22, .aload_n 3, 1, 3, 0, 0, 0, []),
  (23, .getfield 125, 3, 1, 5, 0, 1084, []),
  (26, .sipush 9999, 3, 0, 0, 0, 0, []),
  (29, .if_icmp .lt 6, 3, 35, 0, 0, 0, []),
  (32, .bipush (-3), 2, 0, 0, 0, 0, []),
  (34, .ireturn, 1, 0, 0, 0, 0, []),
  (35, .aload_n 3, 1, 3, 0, 0, 0, []),
  (36, .iload_n 2, 1, 2, 0, 0, 0, []),
  (37, .aload_n 0, 1, 0, 0, 0, 0, []),
  (38, .getfield 12, 3, 9, 0, 0, 1239, []),
  (41, .getfield 102, 3, 5, 2, 0, 1104, []),
  (44, .aload_n 0, 1, 0, 0, 0, 0, []),
  (45, .invokevirtual 98, 3, 19, 0, 0, 2069, [(9, 0)]),
  (48, .invokevirtual 174, 3, 72, 3, 0, 3069, [(1, 0)]),
  (51, .ifCond .eq 7, 3, 58, 0, 0, 0, []),
  (54, .iconst 1, 1, 0, 0, 0, 0, []),
  (55, .goto 4, 3, 59, 0, 0, 0, []),
  (58, .iconst 0, 1, 0, 0, 0, 0, []),
  (59, .ireturn, 1, 0, 0, 0, 0, [])]
def m71 : MI := (⟨"LeavesObject", "say", "(II)I"⟩, prog_1_method_9_code, 4, (Option.some Jvm.ClassFile.FieldType.int), k71, 2, [3068, 1001, 3066, 3067])
/-- LeavesObject$Cup.hears(IILLeavesObject$Inn;)Z -/
def k72 : List XE := [(0, .aload_n 3, 1, 3, 0, 0, 0, []),
  (1, .aload_n 0, 1, 0, 0, 0, 0, []),
  (2, .iload_n 1, 1, 1, 0, 0, 0, []),
  (3, .iload_n 2, 1, 2, 0, 0, 0, []),
  (4, .invokevirtual 49, 3, 20, 3, 0, 3073, [(2, 0)]),
  (7, .aload_n 0, 1, 0, 0, 0, 0, []),
  (8, .getfield 28, 3, 1, 4, 0, 1079, []),
  (11, .if_icmp .ge 33, 3, 44, 0, 0, 0, []),
  (14, .aload_n 0, 1, 0, 0, 0, 0, []),
  (15, .dup, 1, 0, 0, 0, 0, []),
  (16, .getfield 31, 3, 1, 5, 0, 1083, []),
  (19, .iconst 1, 1, 0, 0, 0, 0, []),
  (20, .iadd, 1, 0, 0, 0, 0, []),
  (21, .putfield 31, 3, 1, 5, 0, 1083, []),
  (24, .aload_n 0, 1, 0, 0, 0, 0, []),
  (25, .aload_n 0, 1, 0, 0, 0, 0, []),
  (26, .getfield 28, 3, 1, 4, 0, 1079, []),
  (29, .aload_n 3, 1, 3, 0, 0, 0, []),
  (30, .getfield 55, 3, 2, 0, 0, 1156, []),
  (33, .iadd, 1, 0, 0, 0, 0, []),
  (34, .bipush 9, 2, 0, 0, 0, 0, []),
  (36, .invokestatic 58, 3, 73, 2, 5, 3074, []),
  (39, .putfield 28, 3, 1, 4, 0, 1079, []),
  (42, .iconst 0, 1, 0, 0, 0, 0, []),
  (43, .ireturn, 1, 0, 0, 0, 0, []),
  (44, .aload_n 0, 1, 0, 0, 0, 0, []),
  (45, .aload_n 0, 1, 0, 0, 0, 0, []),
  (46, .iload_n 1, 1, 1, 0, 0, 0, []),
  (47, .iload_n 2, 1, 2, 0, 0, 0, []),
  (48, .invokevirtual 64, 3, 25, 2, 0, 3077, [(1, 0)]),
  (51, .putfield 25, 3, 1, 3, 0, 1075, []),
  (54, .aload_n 0, 1, 0, 0, 0, 0, []),
  (55, .aload_n 0, 1, 0, 0, 0, 0, []),
  (56, .getfield 28, 3, 1, 4, 0, 1079, []),
  (59, .aload_n 3, 1, 3, 0, 0, 0, []),
  (60, .getfield 67, 3, 2, 1, 0, 1160, []),
  (63, .isub, 1, 0, 0, 0, 0, []),
  (64, .iconst 0, 1, 0, 0, 0, 0, []),
  (65, .invokestatic 70, 3, 3, 2, 5, 3078, []),
  (68, .putfield 28, 3, 1, 4, 0, 1079, []),
  (71, .iconst 1, 1, 0, 0, 0, 0, []),
  (72, .ireturn, 1, 0, 0, 0, 0, [])]
def m72 : MI := (⟨"LeavesObject$Cup", "hears", "(IILLeavesObject$Inn;)Z"⟩, prog_3_method_7_code, 4, (Option.some Jvm.ClassFile.FieldType.boolean), k72, 3, [3072, 1005, 3070, 3071])
/-- java/lang/Math.min(II)I -/
def k73 : List XE := [(0, .iload_n 0, 1, 0, 0, 0, 0, []),
  (1, .iload_n 1, 1, 1, 0, 0, 0, []),
  (2, .if_icmp .gt 7, 3, 9, 0, 0, 0, []),
  (5, .iload_n 0, 1, 0, 0, 0, 0, []),
  (6, .goto 4, 3, 10, 0, 0, 0, []),
  (9, .iload_n 1, 1, 1, 0, 0, 0, []),
  (10, .ireturn, 1, 0, 0, 0, 0, [])]
def m73 : MI := (⟨"java/lang/Math", "min", "(II)I"⟩, prog_14_method_69_code, 2, (Option.some Jvm.ClassFile.FieldType.int), k73, 2, [3076, 1004, 3075, 9999])
/-- LeavesObject.pass(I)I -/
def k74 : List XE := [(0, .iload_n 1, 1, 1, 0, 0, 0, []),
  (1, .ifCond .lt 9, 3, 10, 0, 0, 0, []),
  (4, .iload_n 1, 1, 1, 0, 0, 0, []),
  (5, .bipush 60, 2, 0, 0, 0, 0, []),
  (7, .if_icmp .le 6, 3, 13, 0, 0, 0, []),
  (10, .bipush (-2), 2, 0, 0, 0, 0, []),
  (12, .ireturn, 1, 0, 0, 0, 0, []),
  (13, .aload_n 0, 1, 0, 0, 0, 0, []),
  (14, .getfield 12, 3, 9, 0, 0, 1239, []),
  (17, .getfield 102, 3, 5, 2, 0, 1104, []),
  (20, .iload_n 1, 1, 1, 0, 0, 0, []),
  (21, .iadd, 1, 0, 0, 0, 0, []),
  (22, .sipush 9999, 3, 0, 0, 0, 0, []),
  (25, .if_icmp .le 6, 3, 31, 0, 0, 0, []),
  (28, .bipush (-3), 2, 0, 0, 0, 0, []),
  (30, .ireturn, 1, 0, 0, 0, 0, []),
  (31, .iconst 0, 1, 0, 0, 0, 0, []),
  (32, .istore_n 2, 1, 2, 0, 0, 0, []),
  (33, .iload_n 2, 1, 2, 0, 0, 0, []),
  (34, .iload_n 1, 1, 1, 0, 0, 0, []),
  (35, .if_icmp .ge 16, 3, 51, 0, 0, 0, []),
  (38, .aload_n 0, 1, 0, 0, 0, 0, []),
  (39, .getfield 12, 3, 9, 0, 0, 1239, []),
  (42, .invokevirtual 178, 3, 75, 0, 0, 3083, [(5, 0)]),
  (45, .iinc 2 1, 3, 2, 0, 0, 0, []),
  (48, .goto (-15), 3, 33, 0, 0, 0, []),
  (51, .aload_n 0, 1, 0, 0, 0, 0, []),
  (52, .getfield 12, 3, 9, 0, 0, 1239, []),
  (55, .getfield 102, 3, 5, 2, 0, 1104, []),
  (58, .ireturn, 1, 0, 0, 0, 0, [])]
def m74 : MI := (⟨"LeavesObject", "pass", "(I)I"⟩, prog_1_method_10_code, 3, (Option.some Jvm.ClassFile.FieldType.int), k74, 1, [3082, 1001, 3080, 3081])
/-- LeavesObject$Table.nightGoes()V -/
def k75 : List XE := [(0, .iconst 0, 1, 0, 0, 0, 0, []),
  (1, .istore_n 1, 1, 1, 0, 0, 0, []),
  (2, .iload_n 1, 1, 1, 0, 0, 0, []),
  (3, .aload_n 0, 1, 0, 0, 0, 0, []),
  (4, .getfield 37, 3, 5, 1, 0, 1103, []),
  (7, .if_icmp .ge 33, 3, 40, 0, 0, 0, []),
  (10, .aload_n 0, 1, 0, 0, 0, 0, []),
  (11, .iload_n 1, 1, 1, 0, 0, 0, []),
  (12, .invokevirtual 44, 3, 17, 1, 0, 3045, [(5, 0)]),
  (15, .astore_n 2, 1, 2, 0, 0, 0, []),
  (16, .aload_n 2, 1, 2, 0, 0, 0, []),
  (17, .ifnull 17, 3, 34, 0, 0, 0, []),
  (20, .aload_n 2, 1, 2, 0, 0, 0, []),
  (21, .aload_n 2, 1, 2, 0, 0, 0, []),
  (22, .getfield 60, 3, 1, 4, 0, 1082, []),
  (25, .iconst 1, 1, 0, 0, 0, 0, []),
  (26, .isub, 1, 0, 0, 0, 0, []),
  (27, .iconst 0, 1, 0, 0, 0, 0, []),
  (28, .invokestatic 63, 3, 3, 2, 5, 3087, []),
  (31, .putfield 60, 3, 1, 4, 0, 1082, []),
  (34, .iinc 1 1, 3, 1, 0, 0, 0, []),
  (37, .goto (-35), 3, 2, 0, 0, 0, []),
  (40, .aload_n 0, 1, 0, 0, 0, 0, []),
  (41, .dup, 1, 0, 0, 0, 0, []),
  (42, .getfield 54, 3, 5, 2, 0, 1105, []),
  (45, .iconst 1, 1, 0, 0, 0, 0, []),
  (46, .iadd, 1, 0, 0, 0, 0, []),
  (47, .putfield 54, 3, 5, 2, 0, 1105, []),
  (50, .return_, 1, 0, 0, 0, 0, [])]
def m75 : MI := (⟨"LeavesObject$Table", "nightGoes", "()V"⟩, prog_7_method_6_code, 3, none, k75, 0, [3086, 1002, 3084, 3085])
/-- LeavesObject.after(III)I -/
def k76 : List XE := [(0, .aload_n 0, 1, 0, 0, 0, 0, []),
  (1, .getfield 12, 3, 9, 0, 0, 1239, []),
  (4, .iload_n 1, 1, 1, 0, 0, 0, []),
  (5, .invokevirtual 92, 3, 17, 1, 0, 2061, [(5, 0)]),
  (8, .astore 4, 2, 4, 0, 0, 0, []),
  (10, .aload 4, 2, 4, 0, 0, 0, []),
  (12, .ifnull 19, 3, 31, 0, 0, 0, []),
  (15, .iload_n 2, 1, 2, 0, 0, 0, []),
  (16, .invokestatic 95, 3, 18, 1, 4, 2066, []),
  (19, .ifCond .eq 12, 3, 31, 0, 0, 0, []),
  (22, .iload_n 3, 1, 3, 0, 0, 0, []),
  (23, .ifCond .lt 8, 3, 31, 0, 0, 0, []),
  (26, .iload_n 3, 1, 3, 0, 0, 0, []),
  (27, .iconst 2, 1, 0, 0, 0, 0, []),
  (28, .if_icmp .le 5, 3, 33, 0, 0, 0, []),
  (31, .iconst (-1), 1, 0, 0, 0, 0, []),
  (32, .ireturn, 1, 0, 0, 0, 0, []),
  (33, .aload_n 0, 1, 0, 0, 0, 0, []),
  (34, .aload 4, 2, 4, 0, 0, 0, []),
  (36, .iload_n 2, 1, 2, 0, 0, 0, []),
  (37, .invokevirtual 181, 3, 77, 2, 0, 3092, [(9, 0)]),
  (40, .istore 5, 2, 5, 0, 0, 0, []),
  (42, .iload_n 3, 1, 3, 0, 0, 0, []),
  (43, .ifCond .ne 11, 3, 54, 0, 0, 0, []),
  (46, .aload_n 0, 1, 0, 0, 0, 0, []),
  (47, .getfield 45, 3, 9, 8, 0, 2007, []),
  (50, .getfield 119, 3, 1, 3, 0, 1076, []),
  (53, .ireturn, 1, 0, 0, 0, 0, []),
  (54, .iload_n 3, 1, 3, 0, 0, 0, []),
  (55, .iconst 1, 1, 0, 0, 0, 0, []),
  (56, .if_icmp .ne 11, 3, 67, 0, 0, 0, []),
  (59, .aload_n 0, 1, 0, 0, 0, 0, []),
  (60, .getfield 45, 3, 9, 8, 0, 2007, []),
  (63, .getfield 122, 3, 1, 4, 0, 1081, []),
  (66, .ireturn, 1, 0, 0, 0, 0, []),
  (67, .iload 5, 2, 5, 0, 0, 0, []),
  (69, .ifCond .eq 7, 3, 76, 0, 0, 0, []),
  (72, .iconst 0, 1, 0, 0, 0, 0, []),
  (73, .goto 4, 3, 77, 0, 0, 0, []),
  (76, .iconst 1, 1, 0, 0, 0, 0, []),
  (77, .ireturn, 1, 0, 0, 0, 0, [])]
def m76 : MI := (⟨"LeavesObject", "after", "(III)I"⟩, prog_1_method_11_code, 6, (Option.some Jvm.ClassFile.FieldType.int), k76, 3, [3091, 1001, 3089, 3090])
/-- LeavesObject.wouldHear(LLeavesObject$Cup;I)Z -/
def k77 : List XE := [(0, .aload_n 0, 1, 0, 0, 0, 0, []),
  (1, .getfield 45, 3, 9, 8, 0, 2007, []),
  (4, .aload_n 1, 1, 1, 0, 0, 0, []),
  (5, .invokevirtual 210, 3, 78, 1, 0, 3096, [(1, 0)]),
  (8, .aload_n 0, 1, 0, 0, 0, 0, []),
  (9, .getfield 45, 3, 9, 8, 0, 2007, []),
  (12, .iload_n 2, 1, 2, 0, 0, 0, []),
  (13, .aload_n 0, 1, 0, 0, 0, 0, []),
  (14, .getfield 12, 3, 9, 0, 0, 1239, []),
  (17, .getfield 102, 3, 5, 2, 0, 1104, []),
  (20, .aload_n 0, 1, 0, 0, 0, 0, []),
  (21, .invokevirtual 98, 3, 19, 0, 0, 2069, [(9, 0)]),
  (24, .invokevirtual 174, 3, 72, 3, 0, 3069, [(1, 0)]),
  (27, .ireturn, 1, 0, 0, 0, 0, [])]
def m77 : MI := (⟨"LeavesObject", "wouldHear", "(LLeavesObject$Cup;I)Z"⟩, prog_1_method_47_code, 3, (Option.some Jvm.ClassFile.FieldType.boolean), k77, 2, [3095, 1001, 3094, 13])
/-- LeavesObject$Cup.becomeLike(LLeavesObject$Cup;)V -/
def k78 : List XE := [(0, .aload_n 0, 1, 0, 0, 0, 0, []),
  (1, .aload_n 1, 1, 1, 0, 0, 0, []),
  (2, .getfield 15, 3, 1, 0, 0, 1062, []),
  (5, .putfield 15, 3, 1, 0, 0, 1062, []),
  (8, .aload_n 0, 1, 0, 0, 0, 0, []),
  (9, .aload_n 1, 1, 1, 0, 0, 0, []),
  (10, .getfield 19, 3, 1, 1, 0, 1066, []),
  (13, .putfield 19, 3, 1, 1, 0, 1066, []),
  (16, .aload_n 0, 1, 0, 0, 0, 0, []),
  (17, .aload_n 1, 1, 1, 0, 0, 0, []),
  (18, .getfield 22, 3, 1, 2, 0, 1070, []),
  (21, .putfield 22, 3, 1, 2, 0, 1070, []),
  (24, .aload_n 0, 1, 0, 0, 0, 0, []),
  (25, .aload_n 1, 1, 1, 0, 0, 0, []),
  (26, .getfield 25, 3, 1, 3, 0, 1075, []),
  (29, .putfield 25, 3, 1, 3, 0, 1075, []),
  (32, .aload_n 0, 1, 0, 0, 0, 0, []),
  (33, .aload_n 1, 1, 1, 0, 0, 0, []),
  (34, .getfield 28, 3, 1, 4, 0, 1079, []),
  (37, .putfield 28, 3, 1, 4, 0, 1079, []),
  (40, .aload_n 0, 1, 0, 0, 0, 0, []),
  (41, .aload_n 1, 1, 1, 0, 0, 0, []),
  (42, .getfield 31, 3, 1, 5, 0, 1083, []),
  (45, .putfield 31, 3, 1, 5, 0, 1083, []),
  (48, .aload_n 1, 1, 1, 0, 0, 0, []),
  (49, .getfield 9, 3, 1, 6, 0, 1085, []),
  (52, .iconst 0, 1, 0, 0, 0, 0, []),
  (53, .aload_n 0, 1, 0, 0, 0, 0, []),
  (54, .getfield 9, 3, 1, 6, 0, 1085, []),
  (57, .iconst 0, 1, 0, 0, 0, 0, []),
  (58, .iconst 4, 1, 0, 0, 0, 0, []),
  (59, .invokestatic 40, 3, 0, 5, 20, 3100, []),
  (62, .return_, 1, 0, 0, 0, 0, [])]
def m78 : MI := (⟨"LeavesObject$Cup", "becomeLike", "(LLeavesObject$Cup;)V"⟩, prog_3_method_3_code, 2, none, k78, 1, [3099, 1005, 3097, 3098])
/-- LeavesObject.comes(III)I -/
def k79 : List XE := [(0, .aload_n 0, 1, 0, 0, 0, 0, []),
  (1, .getfield 12, 3, 9, 0, 0, 1239, []),
  (4, .iload_n 1, 1, 1, 0, 0, 0, []),
  (5, .invokevirtual 92, 3, 17, 1, 0, 2061, [(5, 0)]),
  (8, .astore 4, 2, 4, 0, 0, 0, []),
  (10, .aload 4, 2, 4, 0, 0, 0, []),
  (12, .ifnull 13, 3, 25, 0, 0, 0, []),
  (15, .iload_n 3, 1, 3, 0, 0, 0, []),
  (16, .iconst (-1), 1, 0, 0, 0, 0, []),
  (17, .if_icmp .lt 8, 3, 25, 0, 0, 0, []),
  (20, .iload_n 3, 1, 3, 0, 0, 0, []),
  (21, .iconst 4, 1, 0, 0, 0, 0, []),
  (22, .if_icmp .lt 5, 3, 27, 0, 0, 0, []),
  (25, .iconst (-1), 1, 0, 0, 0, 0, []),
  (26, .ireturn, 1, 0, 0, 0, 0, []),
  (27, .iload_n 2, 1, 2, 0, 0, 0, []),
  (28, .invokestatic 74, 3, 12, 1, 4, 2043, []),
  (31, .ifCond .ne 6, 3, 37, 0, 0, 0, []),
  (34, .bipush (-2), 2, 0, 0, 0, 0, []),
  (36, .ireturn, 1, 0, 0, 0, 0, []),
  (37, .aload_n 0, 1, 0, 0, 0, 0, []),
  (38, .getfield 52, 3, 9, 9, 0, 2008, []),
  (41, .aload 4, 2, 4, 0, 0, 0, []),
  (43, .iconst 4, 1, 0, 0, 0, 0, []),
  (44, .aload_n 0, 1, 0, 0, 0, 0, []),
  (45, .getfield 12, 3, 9, 0, 0, 1239, []),
  (48, .getfield 102, 3, 5, 2, 0, 1104, []),
  (51, .aload_n 0, 1, 0, 0, 0, 0, []),
  (52, .invokevirtual 98, 3, 19, 0, 0, 2069, [(9, 0)]),
  (55, .invokevirtual 185, 3, 80, 4, 0, 3107, [(8, 0)]),
  (58, .aload_n 0, 1, 0, 0, 0, 0, []),
  (59, .getfield 52, 3, 9, 9, 0, 2008, []),
  (62, .iload_n 2, 1, 2, 0, 0, 0, []),
  (63, .invokevirtual 189, 3, 83, 1, 0, 3122, [(8, 0)]),
  (66, .istore 5, 2, 5, 0, 0, 0, []),
  (68, .iload 5, 2, 5, 0, 0, 0, []),
  (70, .ifCond .ge 6, 3, 76, 0, 0, 0, []),
  (73, .bipush (-5), 2, 0, 0, 0, 0, []),
  (75, .ireturn, 1, 0, 0, 0, 0, []),
  (76, .iload_n 3, 1, 3, 0, 0, 0, []),
  (77, .ifCond .ge 15, 3, 92, 0, 0, 0, []),
  (80, .aload_n 0, 1, 0, 0, 0, 0, []),
  (81, .getfield 52, 3, 9, 9, 0, 2008, []),
  (84, .iload 5, 2, 5, 0, 0, 0, []),
  (86, .invokevirtual 192, 3, 84, 1, 0, 3126, [(8, 0)]),
  (89, .goto 13, 3, 102, 0, 0, 0, []),
  (92, .aload_n 0, 1, 0, 0, 0, 0, []),
  (93, .getfield 52, 3, 9, 9, 0, 2008, []),
  (96, .iload 5, 2, 5, 0, 0, 0, []),
  (98, .iload_n 3, 1, 3, 0, 0, 0, []),
  (99, .invokevirtual 195, 3, 85, 2, 0, 3130, [(8, 0)]),
  (102, .ireturn, 1, 0, 0, 0, 0, [])]
def m79 : MI := (⟨"LeavesObject", "comes", "(III)I"⟩, prog_1_method_12_code, 6, (Option.some Jvm.ClassFile.FieldType.int), k79, 3, [3106, 1001, 3104, 3105])
/-- LeavesObject$Tries.grow(LLeavesObject$Cup;IILLeavesObject$Inn;)V -/
def k80 : List XE := [(0, .aload_n 0, 1, 0, 0, 0, 0, []),
  (1, .getfield 21, 3, 8, 2, 0, 1197, []),
  (4, .aload_n 1, 1, 1, 0, 0, 0, []),
  (5, .invokevirtual 25, 3, 78, 1, 0, 3111, [(1, 0)]),
  (8, .aload_n 0, 1, 0, 0, 0, 0, []),
  (9, .getfield 9, 3, 8, 0, 0, 1195, []),
  (12, .iconst 0, 1, 0, 0, 0, 0, []),
  (13, .aload_n 1, 1, 1, 0, 0, 0, []),
  (14, .getfield 29, 3, 1, 3, 0, 1074, []),
  (17, .iastore, 1, 0, 0, 0, 0, []),
  (18, .aload_n 0, 1, 0, 0, 0, 0, []),
  (19, .getfield 15, 3, 8, 1, 0, 1196, []),
  (22, .iconst 0, 1, 0, 0, 0, 0, []),
  (23, .aload_n 1, 1, 1, 0, 0, 0, []),
  (24, .getfield 32, 3, 1, 4, 0, 1080, []),
  (27, .iastore, 1, 0, 0, 0, 0, []),
  (28, .iload_n 2, 1, 2, 0, 0, 0, []),
  (29, .invokestatic 35, 3, 81, 1, 4, 3112, []),
  (32, .istore 5, 2, 5, 0, 0, 0, []),
  (34, .iconst 1, 1, 0, 0, 0, 0, []),
  (35, .istore 6, 2, 6, 0, 0, 0, []),
  (37, .iload 6, 2, 6, 0, 0, 0, []),
  (39, .iload 5, 2, 5, 0, 0, 0, []),
  (41, .if_icmp .ge 90, 3, 131, 0, 0, 0, []),
  (44, .iload 6, 2, 6, 0, 0, 0, []),
  (46, .iconst 1, 1, 0, 0, 0, 0, []),
  (47, .isub, 1, 0, 0, 0, 0, []),
  (48, .iconst 4, 1, 0, 0, 0, 0, []),
  (49, .idiv, 1, 0, 0, 0, 0, []),
  (50, .istore 7, 2, 7, 0, 0, 0, []),
  (52, .aload_n 0, 1, 0, 0, 0, 0, []),
  (53, .getfield 21, 3, 8, 2, 0, 1197, []),
  (56, .aload_n 0, 1, 0, 0, 0, 0, []),
  (57, .getfield 9, 3, 8, 0, 0, 1195, []),
  (60, .iload 7, 2, 7, 0, 0, 0, []),
  (62, .iaload, 1, 0, 0, 0, 0, []),
  (63, .putfield 29, 3, 1, 3, 0, 1074, []),
  (66, .aload_n 0, 1, 0, 0, 0, 0, []),
  (67, .getfield 21, 3, 8, 2, 0, 1197, []),
  (70, .aload_n 0, 1, 0, 0, 0, 0, []),
  (71, .getfield 15, 3, 8, 1, 0, 1196, []),
  (74, .iload 7, 2, 7, 0, 0, 0, []),
  (76, .iaload, 1, 0, 0, 0, 0, []),
  (77, .putfield 32, 3, 1, 4, 0, 1080, []),
  (80, .aload_n 0, 1, 0, 0, 0, 0, []),
  (81, .getfield 21, 3, 8, 2, 0, 1197, []),
  (84, .iload 6, 2, 6, 0, 0, 0, []),
  (86, .iconst 1, 1, 0, 0, 0, 0, []),
  (87, .isub, 1, 0, 0, 0, 0, []),
  (88, .iconst 4, 1, 0, 0, 0, 0, []),
  (89, .irem, 1, 0, 0, 0, 0, []),
  (90, .iload_n 3, 1, 3, 0, 0, 0, []),
  (91, .aload 4, 2, 4, 0, 0, 0, []),
  (93, .invokevirtual 39, 3, 72, 3, 0, 3121, [(1, 0)]),
  (96, .pop, 1, 0, 0, 0, 0, []),
  (97, .aload_n 0, 1, 0, 0, 0, 0, []),
  (98, .getfield 9, 3, 8, 0, 0, 1195, []),
  (101, .iload 6, 2, 6, 0, 0, 0, []),
  (103, .aload_n 0, 1, 0, 0, 0, 0, []),
  (104, .getfield 21, 3, 8, 2, 0, 1197, []),
  (107, .getfield 29, 3, 1, 3, 0, 1074, []),
  (110, .iastore, 1, 0, 0, 0, 0, []),
  (111, .aload_n 0, 1, 0, 0, 0, 0, []),
  (112, .getfield 15, 3, 8, 1, 0, 1196, []),
  (115, .iload 6, 2, 6, 0, 0, 0, []),
  (117, .aload_n 0, 1, 0, 0, 0, 0, []),
  (118, .getfield 21, 3, 8, 2, 0, 1197, []),
  (121, .getfield 32, 3, 1, 4, 0, 1080, []),
  (124, .iastore, 1, 0, 0, 0, 0, []),
  (125, .iinc 6 1, 3, 6, 0, 0, 0, []),
  (128, .goto (-91), 3, 37, 0, 0, 0, []),
  (131, .return_, 1, 0, 0, 0, 0, [])]
def m80 : MI := (⟨"LeavesObject$Tries", "grow", "(LLeavesObject$Cup;IILLeavesObject$Inn;)V"⟩, prog_10_method_2_code, 8, none, k80, 4, [3110, 1008, 3108, 3109])
/-- LeavesObject$Tries.endOf(I)I -/
def k81 : List XE := [(0, .iload_n 0, 1, 0, 0, 0, 0, []),
  (1, .iconst 1, 1, 0, 0, 0, 0, []),
  (2, .iadd, 1, 0, 0, 0, 0, []),
  (3, .invokestatic 46, 3, 82, 1, 4, 3115, []),
  (6, .sipush 341, 3, 0, 0, 0, 0, []),
  (9, .invokestatic 49, 3, 73, 2, 5, 3120, []),
  (12, .ireturn, 1, 0, 0, 0, 0, [])]
def m81 : MI := (⟨"LeavesObject$Tries", "endOf", "(I)I"⟩, prog_10_method_4_code, 1, (Option.some Jvm.ClassFile.FieldType.int), k81, 1, [3114, 1008, 3113, 9999])
/-- LeavesObject$Tries.beginOf(I)I -/
def k82 : List XE := [(0, .iload_n 0, 1, 0, 0, 0, 0, []),
  (1, .ifCond .lt 19, 3, 20, 0, 0, 0, []),
  (4, .iload_n 0, 1, 0, 0, 0, 0, []),
  (5, .getstatic 43, 3, 0, 2, 0, 3118, [(1, 0)]),
  (8, .arraylength, 1, 0, 0, 0, 0, []),
  (9, .if_icmp .ge 11, 3, 20, 0, 0, 0, []),
  (12, .getstatic 43, 3, 0, 2, 0, 3118, [(1, 0)]),
  (15, .iload_n 0, 1, 0, 0, 0, 0, []),
  (16, .iaload, 1, 0, 0, 0, 0, []),
  (17, .goto 6, 3, 23, 0, 0, 0, []),
  (20, .sipush 341, 3, 0, 0, 0, 0, []),
  (23, .ireturn, 1, 0, 0, 0, 0, [])]
def m82 : MI := (⟨"LeavesObject$Tries", "beginOf", "(I)I"⟩, prog_10_method_3_code, 1, (Option.some Jvm.ClassFile.FieldType.int), k82, 1, [3117, 1008, 3116, 9999])
/-- LeavesObject$Tries.firstWith(I)I -/
def k83 : List XE := [(0, .iconst 0, 1, 0, 0, 0, 0, []),
  (1, .istore_n 2, 1, 2, 0, 0, 0, []),
  (2, .iload_n 2, 1, 2, 0, 0, 0, []),
  (3, .aload_n 0, 1, 0, 0, 0, 0, []),
  (4, .getfield 9, 3, 8, 0, 0, 1195, []),
  (7, .arraylength, 1, 0, 0, 0, 0, []),
  (8, .if_icmp .ge 21, 3, 29, 0, 0, 0, []),
  (11, .aload_n 0, 1, 0, 0, 0, 0, []),
  (12, .getfield 9, 3, 8, 0, 0, 1195, []),
  (15, .iload_n 2, 1, 2, 0, 0, 0, []),
  (16, .iaload, 1, 0, 0, 0, 0, []),
  (17, .iload_n 1, 1, 1, 0, 0, 0, []),
  (18, .if_icmp .ne 5, 3, 23, 0, 0, 0, []),
  (21, .iload_n 2, 1, 2, 0, 0, 0, []),
  (22, .ireturn, 1, 0, 0, 0, 0, []),
  (23, .iinc 2 1, 3, 2, 0, 0, 0, []),
  (26, .goto (-24), 3, 2, 0, 0, 0, []),
  (29, .iconst (-1), 1, 0, 0, 0, 0, []),
  (30, .ireturn, 1, 0, 0, 0, 0, [])]
def m83 : MI := (⟨"LeavesObject$Tries", "firstWith", "(I)I"⟩, prog_10_method_6_code, 3, (Option.some Jvm.ClassFile.FieldType.int), k83, 1, [3125, 1008, 3123, 3124])
/-- LeavesObject$Tries.lengthOf(I)I -/
def k84 : List XE := [(0, .iconst 0, 1, 0, 0, 0, 0, []),
  (1, .istore_n 2, 1, 2, 0, 0, 0, []),
  (2, .iload_n 2, 1, 2, 0, 0, 0, []),
  (3, .iconst 4, 1, 0, 0, 0, 0, []),
  (4, .if_icmp .ge 19, 3, 23, 0, 0, 0, []),
  (7, .iload_n 1, 1, 1, 0, 0, 0, []),
  (8, .iload_n 2, 1, 2, 0, 0, 0, []),
  (9, .iconst 1, 1, 0, 0, 0, 0, []),
  (10, .iadd, 1, 0, 0, 0, 0, []),
  (11, .invokestatic 46, 3, 82, 1, 4, 3115, []),
  (14, .if_icmp .lt 9, 3, 23, 0, 0, 0, []),
  (17, .iinc 2 1, 3, 2, 0, 0, 0, []),
  (20, .goto (-18), 3, 2, 0, 0, 0, []),
  (23, .iload_n 2, 1, 2, 0, 0, 0, []),
  (24, .ireturn, 1, 0, 0, 0, 0, [])]
def m84 : MI := (⟨"LeavesObject$Tries", "lengthOf", "(I)I"⟩, prog_10_method_9_code, 3, (Option.some Jvm.ClassFile.FieldType.int), k84, 1, [3129, 1008, 3127, 3128])
/-- LeavesObject$Tries.sayingOf(II)I -/
def k85 : List XE := [(0, .aload_n 0, 1, 0, 0, 0, 0, []),
  (1, .iload_n 1, 1, 1, 0, 0, 0, []),
  (2, .invokevirtual 69, 3, 84, 1, 0, 3134, [(8, 0)]),
  (5, .istore_n 3, 1, 3, 0, 0, 0, []),
  (6, .iload_n 2, 1, 2, 0, 0, 0, []),
  (7, .ifCond .lt 8, 3, 15, 0, 0, 0, []),
  (10, .iload_n 2, 1, 2, 0, 0, 0, []),
  (11, .iload_n 3, 1, 3, 0, 0, 0, []),
  (12, .if_icmp .lt 6, 3, 18, 0, 0, 0, []),
  (15, .bipush (-5), 2, 0, 0, 0, 0, []),
  (17, .ireturn, 1, 0, 0, 0, 0, []),
  (18, .iload_n 1, 1, 1, 0, 0, 0, []),
  (19, .istore 4, 2, 4, 0, 0, 0, []),
  (21, .iload_n 3, 1, 3, 0, 0, 0, []),
  (22, .iconst 1, 1, 0, 0, 0, 0, []),
  (23, .isub, 1, 0, 0, 0, 0, []),
  (24, .istore 5, 2, 5, 0, 0, 0, []),
  (26, .iload 5, 2, 5, 0, 0, 0, []),
  (28, .iload_n 2, 1, 2, 0, 0, 0, []),
  (29, .if_icmp .le 17, 3, 46, 0, 0, 0, []),
  (32, .iload 4, 2, 4, 0, 0, 0, []),
  (34, .iconst 1, 1, 0, 0, 0, 0, []),
  (35, .isub, 1, 0, 0, 0, 0, []),
  (36, .iconst 4, 1, 0, 0, 0, 0, []),
  (37, .idiv, 1, 0, 0, 0, 0, []),
  (38, .istore 4, 2, 4, 0, 0, 0, []),
  (40, .iinc 5 (-1), 3, 5, 0, 0, 0, []),
  (43, .goto (-17), 3, 26, 0, 0, 0, []),
  (46, .iload 4, 2, 4, 0, 0, 0, []),
  (48, .iconst 1, 1, 0, 0, 0, 0, []),
  (49, .isub, 1, 0, 0, 0, 0, []),
  (50, .iconst 4, 1, 0, 0, 0, 0, []),
  (51, .irem, 1, 0, 0, 0, 0, []),
  (52, .ireturn, 1, 0, 0, 0, 0, [])]
def m85 : MI := (⟨"LeavesObject$Tries", "sayingOf", "(II)I"⟩, prog_10_method_10_code, 6, (Option.some Jvm.ClassFile.FieldType.int), k85, 2, [3133, 1008, 3131, 3132])
/-- LeavesObject.near(III)I -/
def k86 : List XE := [(0, .aload_n 0, 1, 0, 0, 0, 0, []),
  (1, .getfield 12, 3, 9, 0, 0, 1239, []),
  (4, .iload_n 1, 1, 1, 0, 0, 0, []),
  (5, .invokevirtual 92, 3, 17, 1, 0, 2061, [(5, 0)]),
  (8, .astore 4, 2, 4, 0, 0, 0, []),
  (10, .aload 4, 2, 4, 0, 0, 0, []),
  (12, .ifnull 13, 3, 25, 0, 0, 0, []),
  (15, .iload_n 3, 1, 3, 0, 0, 0, []),
  (16, .iconst (-1), 1, 0, 0, 0, 0, []),
  (17, .if_icmp .lt 8, 3, 25, 0, 0, 0, []),
  (20, .iload_n 3, 1, 3, 0, 0, 0, []),
  (21, .iconst 3, 1, 0, 0, 0, 0, []),
  (22, .if_icmp .lt 5, 3, 27, 0, 0, 0, []),
  (25, .iconst (-1), 1, 0, 0, 0, 0, []),
  (26, .ireturn, 1, 0, 0, 0, 0, []),
  (27, .iload_n 2, 1, 2, 0, 0, 0, []),
  (28, .invokestatic 74, 3, 12, 1, 4, 2043, []),
  (31, .ifCond .ne 6, 3, 37, 0, 0, 0, []),
  (34, .bipush (-2), 2, 0, 0, 0, 0, []),
  (36, .ireturn, 1, 0, 0, 0, 0, []),
  (37, .aload_n 0, 1, 0, 0, 0, 0, []),
  (38, .getfield 52, 3, 9, 9, 0, 2008, []),
  (41, .aload 4, 2, 4, 0, 0, 0, []),
  (43, .iconst 3, 1, 0, 0, 0, 0, []),
  (44, .aload_n 0, 1, 0, 0, 0, 0, []),
  (45, .getfield 12, 3, 9, 0, 0, 1239, []),
  (48, .getfield 102, 3, 5, 2, 0, 1104, []),
  (51, .aload_n 0, 1, 0, 0, 0, 0, []),
  (52, .invokevirtual 98, 3, 19, 0, 0, 2069, [(9, 0)]),
  (55, .invokevirtual 185, 3, 80, 4, 0, 3107, [(8, 0)]),
  (58, .aload_n 0, 1, 0, 0, 0, 0, []),
  (59, .getfield 52, 3, 9, 9, 0, 2008, []),
  (62, .iload_n 2, 1, 2, 0, 0, 0, []),
  (63, .iconst 3, 1, 0, 0, 0, 0, []),
  (64, .invokevirtual 198, 3, 87, 2, 0, 3139, [(8, 0)]),
  (67, .istore 5, 2, 5, 0, 0, 0, []),
  (69, .iload_n 3, 1, 3, 0, 0, 0, []),
  (70, .ifCond .ge 19, 3, 89, 0, 0, 0, []),
  (73, .aload_n 0, 1, 0, 0, 0, 0, []),
  (74, .getfield 52, 3, 9, 9, 0, 2008, []),
  (77, .iload 5, 2, 5, 0, 0, 0, []),
  (79, .invokevirtual 201, 3, 88, 1, 0, 3148, [(8, 0)]),
  (82, .iload_n 2, 1, 2, 0, 0, 0, []),
  (83, .invokestatic 204, 3, 70, 2, 4, 3149, []),
  (86, .goto 13, 3, 99, 0, 0, 0, []),
  (89, .aload_n 0, 1, 0, 0, 0, 0, []),
  (90, .getfield 52, 3, 9, 9, 0, 2008, []),
  (93, .iload 5, 2, 5, 0, 0, 0, []),
  (95, .iload_n 3, 1, 3, 0, 0, 0, []),
  (96, .invokevirtual 195, 3, 85, 2, 0, 3130, [(8, 0)]),
  (99, .ireturn, 1, 0, 0, 0, 0, [])]
def m86 : MI := (⟨"LeavesObject", "near", "(III)I"⟩, prog_1_method_13_code, 6, (Option.some Jvm.ClassFile.FieldType.int), k86, 3, [3138, 1001, 3136, 3137])
/-- LeavesObject$Tries.nearest(II)I -/
def k87 : List XE := [(0, .iload_n 2, 1, 2, 0, 0, 0, []),
  (1, .invokestatic 46, 3, 82, 1, 4, 3115, []),
  (4, .istore_n 3, 1, 3, 0, 0, 0, []),
  (5, .iload_n 3, 1, 3, 0, 0, 0, []),
  (6, .istore 4, 2, 4, 0, 0, 0, []),
  (8, .iload 4, 2, 4, 0, 0, 0, []),
  (10, .iload_n 2, 1, 2, 0, 0, 0, []),
  (11, .invokestatic 35, 3, 81, 1, 4, 3112, []),
  (14, .if_icmp .ge 34, 3, 48, 0, 0, 0, []),
  (17, .aload_n 0, 1, 0, 0, 0, 0, []),
  (18, .iload 4, 2, 4, 0, 0, 0, []),
  (20, .invokevirtual 55, 3, 88, 1, 0, 3143, [(8, 0)]),
  (23, .iload_n 1, 1, 1, 0, 0, 0, []),
  (24, .invokestatic 58, 3, 70, 2, 6, 3147, []),
  (27, .aload_n 0, 1, 0, 0, 0, 0, []),
  (28, .iload_n 3, 1, 3, 0, 0, 0, []),
  (29, .invokevirtual 55, 3, 88, 1, 0, 3143, [(8, 0)]),
  (32, .iload_n 1, 1, 1, 0, 0, 0, []),
  (33, .invokestatic 58, 3, 70, 2, 6, 3147, []),
  (36, .if_icmp .ge 6, 3, 42, 0, 0, 0, []),
  (39, .iload 4, 2, 4, 0, 0, 0, []),
  (41, .istore_n 3, 1, 3, 0, 0, 0, []),
  (42, .iinc 4 1, 3, 4, 0, 0, 0, []),
  (45, .goto (-37), 3, 8, 0, 0, 0, []),
  (48, .iload_n 3, 1, 3, 0, 0, 0, []),
  (49, .ireturn, 1, 0, 0, 0, 0, [])]
def m87 : MI := (⟨"LeavesObject$Tries", "nearest", "(II)I"⟩, prog_10_method_7_code, 5, (Option.some Jvm.ClassFile.FieldType.int), k87, 2, [3142, 1008, 3140, 3141])
/-- LeavesObject$Tries.leavesAfter(I)I -/
def k88 : List XE := [(0, .iload_n 1, 1, 1, 0, 0, 0, []),
  (1, .ifCond .lt 21, 3, 22, 0, 0, 0, []),
  (4, .iload_n 1, 1, 1, 0, 0, 0, []),
  (5, .aload_n 0, 1, 0, 0, 0, 0, []),
  (6, .getfield 9, 3, 8, 0, 0, 1195, []),
  (9, .arraylength, 1, 0, 0, 0, 0, []),
  (10, .if_icmp .ge 12, 3, 22, 0, 0, 0, []),
  (13, .aload_n 0, 1, 0, 0, 0, 0, []),
  (14, .getfield 9, 3, 8, 0, 0, 1195, []),
  (17, .iload_n 1, 1, 1, 0, 0, 0, []),
  (18, .iaload, 1, 0, 0, 0, 0, []),
  (19, .goto 4, 3, 23, 0, 0, 0, []),
  (22, .iconst 0, 1, 0, 0, 0, 0, []),
  (23, .ireturn, 1, 0, 0, 0, 0, [])]
def m88 : MI := (⟨"LeavesObject$Tries", "leavesAfter", "(I)I"⟩, prog_10_method_5_code, 2, (Option.some Jvm.ClassFile.FieldType.int), k88, 1, [3146, 1008, 3144, 3145])
/-- LeavesObject.fullest(I)I -/
def k89 : List XE := [(0, .aload_n 0, 1, 0, 0, 0, 0, []),
  (1, .getfield 12, 3, 9, 0, 0, 1239, []),
  (4, .iload_n 1, 1, 1, 0, 0, 0, []),
  (5, .invokevirtual 92, 3, 17, 1, 0, 2061, [(5, 0)]),
  (8, .astore_n 2, 1, 2, 0, 0, 0, []),
  (9, .aload_n 2, 1, 2, 0, 0, 0, []),
  (10, .ifnonnull 5, 3, 15, 0, 0, 0, []),
  (13, .iconst (-1), 1, 0, 0, 0, 0, []),
  (14, .ireturn, 1, 0, 0, 0, 0, []),
  (15, .aload_n 0, 1, 0, 0, 0, 0, []),
  (16, .getfield 52, 3, 9, 9, 0, 2008, []),
  (19, .aload_n 2, 1, 2, 0, 0, 0, []),
  (20, .iconst 4, 1, 0, 0, 0, 0, []),
  (21, .aload_n 0, 1, 0, 0, 0, 0, []),
  (22, .getfield 12, 3, 9, 0, 0, 1239, []),
  (25, .getfield 102, 3, 5, 2, 0, 1104, []),
  (28, .aload_n 0, 1, 0, 0, 0, 0, []),
  (29, .invokevirtual 98, 3, 19, 0, 0, 2069, [(9, 0)]),
  (32, .invokevirtual 185, 3, 80, 4, 0, 3107, [(8, 0)]),
  (35, .aload_n 0, 1, 0, 0, 0, 0, []),
  (36, .getfield 52, 3, 9, 9, 0, 2008, []),
  (39, .iconst 4, 1, 0, 0, 0, 0, []),
  (40, .invokevirtual 207, 3, 90, 1, 0, 3154, [(8, 0)]),
  (43, .ireturn, 1, 0, 0, 0, 0, [])]
def m89 : MI := (⟨"LeavesObject", "fullest", "(I)I"⟩, prog_1_method_14_code, 3, (Option.some Jvm.ClassFile.FieldType.int), k89, 1, [3153, 1001, 3151, 3152])
/-- LeavesObject$Tries.mostLeaves(I)I -/
def k90 : List XE := [(0, .iconst 0, 1, 0, 0, 0, 0, []),
  (1, .istore_n 2, 1, 2, 0, 0, 0, []),
  (2, .iload_n 1, 1, 1, 0, 0, 0, []),
  (3, .invokestatic 46, 3, 82, 1, 4, 3115, []),
  (6, .istore_n 3, 1, 3, 0, 0, 0, []),
  (7, .iload_n 3, 1, 3, 0, 0, 0, []),
  (8, .iload_n 1, 1, 1, 0, 0, 0, []),
  (9, .invokestatic 35, 3, 81, 1, 4, 3112, []),
  (12, .if_icmp .ge 22, 3, 34, 0, 0, 0, []),
  (15, .iload_n 2, 1, 2, 0, 0, 0, []),
  (16, .aload_n 0, 1, 0, 0, 0, 0, []),
  (17, .iload_n 3, 1, 3, 0, 0, 0, []),
  (18, .invokevirtual 55, 3, 88, 1, 0, 3143, [(8, 0)]),
  (21, .invokestatic 61, 3, 22, 1, 5, 3158, []),
  (24, .invokestatic 66, 3, 3, 2, 5, 3159, []),
  (27, .istore_n 2, 1, 2, 0, 0, 0, []),
  (28, .iinc 3 1, 3, 3, 0, 0, 0, []),
  (31, .goto (-24), 3, 7, 0, 0, 0, []),
  (34, .iload_n 2, 1, 2, 0, 0, 0, []),
  (35, .ireturn, 1, 0, 0, 0, 0, [])]
def m90 : MI := (⟨"LeavesObject$Tries", "mostLeaves", "(I)I"⟩, prog_10_method_8_code, 4, (Option.some Jvm.ClassFile.FieldType.int), k90, 1, [3157, 1008, 3155, 3156])
/-- LeavesObject.firstNo(II)I -/
def k91 : List XE := [(0, .aload_n 0, 1, 0, 0, 0, 0, []),
  (1, .getfield 12, 3, 9, 0, 0, 1239, []),
  (4, .iload_n 1, 1, 1, 0, 0, 0, []),
  (5, .invokevirtual 92, 3, 17, 1, 0, 2061, [(5, 0)]),
  (8, .astore_n 3, 1, 3, 0, 0, 0, []),
  (9, .aload_n 3, 1, 3, 0, 0, 0, []),
  (10, .ifnull 10, 3, 20, 0, 0, 0, []),
  (13, .iload_n 2, 1, 2, 0, 0, 0, []),
  (14, .invokestatic 95, 3, 18, 1, 4, 2066, []),
  (17, .ifCond .ne 5, 3, 22, 0, 0, 0, []),
  (20, .iconst (-1), 1, 0, 0, 0, 0, []),
  (21, .ireturn, 1, 0, 0, 0, 0, []),
  (22, .aload_n 0, 1, 0, 0, 0, 0, []),
  (23, .getfield 45, 3, 9, 8, 0, 2007, []),
  (26, .aload_n 3, 1, 3, 0, 0, 0, []),
  (27, .invokevirtual 210, 3, 78, 1, 0, 3096, [(1, 0)]),
  (30, .iconst 1, 1, 0, 0, 0, 0, []),
  (31, .istore 4, 2, 4, 0, 0, 0, []),
  (33, .iload 4, 2, 4, 0, 0, 0, []),
  (35, .bipush 60, 2, 0, 0, 0, 0, []),
  (37, .if_icmp .gt 34, 3, 71, 0, 0, 0, []),
  (40, .aload_n 0, 1, 0, 0, 0, 0, []),
  (41, .getfield 45, 3, 9, 8, 0, 2007, []),
  (44, .iload_n 2, 1, 2, 0, 0, 0, []),
  (45, .aload_n 0, 1, 0, 0, 0, 0, []),
  (46, .getfield 12, 3, 9, 0, 0, 1239, []),
  (49, .getfield 102, 3, 5, 2, 0, 1104, []),
  (52, .aload_n 0, 1, 0, 0, 0, 0, []),
  (53, .invokevirtual 98, 3, 19, 0, 0, 2069, [(9, 0)]),
  (56, .invokevirtual 174, 3, 72, 3, 0, 3069, [(1, 0)]),
  (59, .ifCond .ne 6, 3, 65, 0, 0, 0, []),
  (62, .iload 4, 2, 4, 0, 0, 0, []),
  (64, .ireturn, 1, 0, 0, 0, 0, []),
  (65, .iinc 4 1, 3, 4, 0, 0, 0, []),
  (68, .goto (-35), 3, 33, 0, 0, 0, []),
  (71, .bipush (-5), 2, 0, 0, 0, 0, []),
  (73, .ireturn, 1, 0, 0, 0, 0, [])]
def m91 : MI := (⟨"LeavesObject", "firstNo", "(II)I"⟩, prog_1_method_15_code, 5, (Option.some Jvm.ClassFile.FieldType.int), k91, 2, [3163, 1001, 3161, 3162])
/-- LeavesObject.show(I)I -/
def k92 : List XE := [(0, .iload_n 1, 1, 1, 0, 0, 0, []),
  (1, .invokestatic 74, 3, 12, 1, 4, 2043, []),
  (4, .ifCond .ne 6, 3, 10, 0, 0, 0, []),
  (7, .bipush (-2), 2, 0, 0, 0, 0, []),
  (9, .ireturn, 1, 0, 0, 0, 0, []),
  (10, .bipush (-5), 2, 0, 0, 0, 0, []),
  (12, .istore_n 2, 1, 2, 0, 0, 0, []),
  (13, .iconst 0, 1, 0, 0, 0, 0, []),
  (14, .istore_n 3, 1, 3, 0, 0, 0, []),
  (15, .iload_n 3, 1, 3, 0, 0, 0, []),
  (16, .iconst 1, 1, 0, 0, 0, 0, []),
  (17, .aload_n 0, 1, 0, 0, 0, 0, []),
  (18, .getfield 12, 3, 9, 0, 0, 1239, []),
  (21, .getfield 77, 3, 5, 1, 0, 1102, []),
  (24, .ishl, 1, 0, 0, 0, 0, []),
  (25, .if_icmp .ge 52, 3, 77, 0, 0, 0, []),
  (28, .aload_n 0, 1, 0, 0, 0, 0, []),
  (29, .getfield 12, 3, 9, 0, 0, 1239, []),
  (32, .iload_n 3, 1, 3, 0, 0, 0, []),
  (33, .invokevirtual 214, 3, 93, 1, 0, 3168, [(5, 0)]),
  (36, .iload_n 1, 1, 1, 0, 0, 0, []),
  (37, .iand, 1, 0, 0, 0, 0, []),
  (38, .iload_n 1, 1, 1, 0, 0, 0, []),
  (39, .if_icmp .ne 7, 3, 46, 0, 0, 0, []),
  (42, .iconst 1, 1, 0, 0, 0, 0, []),
  (43, .goto 4, 3, 47, 0, 0, 0, []),
  (46, .iconst 0, 1, 0, 0, 0, 0, []),
  (47, .istore 4, 2, 4, 0, 0, 0, []),
  (49, .iload 4, 2, 4, 0, 0, 0, []),
  (51, .ifCond .eq 20, 3, 71, 0, 0, 0, []),
  (54, .iload_n 2, 1, 2, 0, 0, 0, []),
  (55, .ifCond .lt 14, 3, 69, 0, 0, 0, []),
  (58, .iload_n 3, 1, 3, 0, 0, 0, []),
  (59, .invokestatic 217, 3, 22, 1, 5, 3064, []),
  (62, .iload_n 2, 1, 2, 0, 0, 0, []),
  (63, .invokestatic 217, 3, 22, 1, 5, 3064, []),
  (66, .if_icmp .ge 5, 3, 71, 0, 0, 0, []),
  (69, .iload_n 3, 1, 3, 0, 0, 0, []),
  (70, .istore_n 2, 1, 2, 0, 0, 0, []),
  (71, .iinc 3 1, 3, 3, 0, 0, 0, []),
  (74, .goto (-59), 3, 15, 0, 0, 0, []),
  (77, .iload_n 2, 1, 2, 0, 0, 0, []),
  (78, .ireturn, 1, 0, 0, 0, 0, [])]
def m92 : MI := (⟨"LeavesObject", "show", "(I)I"⟩, prog_1_method_16_code, 5, (Option.some Jvm.ClassFile.FieldType.int), k92, 1, [3167, 1001, 3165, 3166])
/-- LeavesObject$Table.joinedOf(I)I -/
def k93 : List XE := [(0, .iconst 0, 1, 0, 0, 0, 0, []),
  (1, .istore_n 2, 1, 2, 0, 0, 0, []),
  (2, .iconst 0, 1, 0, 0, 0, 0, []),
  (3, .istore_n 3, 1, 3, 0, 0, 0, []),
  (4, .iload_n 3, 1, 3, 0, 0, 0, []),
  (5, .aload_n 0, 1, 0, 0, 0, 0, []),
  (6, .getfield 37, 3, 5, 1, 0, 1103, []),
  (9, .if_icmp .ge 26, 3, 35, 0, 0, 0, []),
  (12, .iload_n 1, 1, 1, 0, 0, 0, []),
  (13, .iload_n 3, 1, 3, 0, 0, 0, []),
  (14, .ishr, 1, 0, 0, 0, 0, []),
  (15, .iconst 1, 1, 0, 0, 0, 0, []),
  (16, .iand, 1, 0, 0, 0, 0, []),
  (17, .iconst 1, 1, 0, 0, 0, 0, []),
  (18, .if_icmp .ne 11, 3, 29, 0, 0, 0, []),
  (21, .iload_n 2, 1, 2, 0, 0, 0, []),
  (22, .aload_n 0, 1, 0, 0, 0, 0, []),
  (23, .iload_n 3, 1, 3, 0, 0, 0, []),
  (24, .invokevirtual 69, 3, 65, 1, 0, 3041, [(5, 0)]),
  (27, .ior, 1, 0, 0, 0, 0, []),
  (28, .istore_n 2, 1, 2, 0, 0, 0, []),
  (29, .iinc 3 1, 3, 3, 0, 0, 0, []),
  (32, .goto (-28), 3, 4, 0, 0, 0, []),
  (35, .iload_n 2, 1, 2, 0, 0, 0, []),
  (36, .ireturn, 1, 0, 0, 0, 0, [])]
def m93 : MI := (⟨"LeavesObject$Table", "joinedOf", "(I)I"⟩, prog_7_method_8_code, 4, (Option.some Jvm.ClassFile.FieldType.int), k93, 1, [3171, 1002, 3169, 3170])
/-- LeavesObject.next(I)I -/
def k94 : List XE := [(0, .iload_n 1, 1, 1, 0, 0, 0, []),
  (1, .invokestatic 74, 3, 12, 1, 4, 2043, []),
  (4, .ifCond .ne 6, 3, 10, 0, 0, 0, []),
  (7, .bipush (-2), 2, 0, 0, 0, 0, []),
  (9, .ireturn, 1, 0, 0, 0, 0, []),
  (10, .bipush (-5), 2, 0, 0, 0, 0, []),
  (12, .istore_n 2, 1, 2, 0, 0, 0, []),
  (13, .bipush 13, 2, 0, 0, 0, 0, []),
  (15, .istore_n 3, 1, 3, 0, 0, 0, []),
  (16, .iconst 0, 1, 0, 0, 0, 0, []),
  (17, .istore 4, 2, 4, 0, 0, 0, []),
  (19, .iload 4, 2, 4, 0, 0, 0, []),
  (21, .aload_n 0, 1, 0, 0, 0, 0, []),
  (22, .getfield 12, 3, 9, 0, 0, 1239, []),
  (25, .getfield 77, 3, 5, 1, 0, 1102, []),
  (28, .if_icmp .ge 94, 3, 122, 0, 0, 0, []),
  (31, .aload_n 0, 1, 0, 0, 0, 0, []),
  (32, .getfield 12, 3, 9, 0, 0, 1239, []),
  (35, .iload 4, 2, 4, 0, 0, 0, []),
  (37, .invokevirtual 92, 3, 17, 1, 0, 2061, [(5, 0)]),
  (40, .astore 5, 2, 5, 0, 0, 0, []),
  (42, .aload_n 0, 1, 0, 0, 0, 0, []),
  (43, .getfield 12, 3, 9, 0, 0, 1239, []),
  (46, .iload 4, 2, 4, 0, 0, 0, []),
  (48, .invokevirtual 161, 3, 64, 1, 0, 3037, [(5, 0)]),
  (51, .istore 6, 2, 6, 0, 0, 0, []),
  (53, .iconst 0, 1, 0, 0, 0, 0, []),
  (54, .istore 7, 2, 7, 0, 0, 0, []),
  (56, .aload 5, 2, 5, 0, 0, 0, []),
  (58, .ifnull 58, 3, 116, 0, 0, 0, []),
  (61, .iload 7, 2, 7, 0, 0, 0, []),
  (63, .iconst 4, 1, 0, 0, 0, 0, []),
  (64, .if_icmp .ge 52, 3, 116, 0, 0, 0, []),
  (67, .aload_n 0, 1, 0, 0, 0, 0, []),
  (68, .aload 5, 2, 5, 0, 0, 0, []),
  (70, .iload 7, 2, 7, 0, 0, 0, []),
  (72, .invokevirtual 181, 3, 77, 2, 0, 3092, [(9, 0)]),
  (75, .pop, 1, 0, 0, 0, 0, []),
  (76, .iload 6, 2, 6, 0, 0, 0, []),
  (78, .aload_n 0, 1, 0, 0, 0, 0, []),
  (79, .getfield 45, 3, 9, 8, 0, 2007, []),
  (82, .getfield 119, 3, 1, 3, 0, 1076, []),
  (85, .ior, 1, 0, 0, 0, 0, []),
  (86, .iload_n 1, 1, 1, 0, 0, 0, []),
  (87, .invokestatic 204, 3, 70, 2, 4, 3149, []),
  (90, .istore 8, 2, 8, 0, 0, 0, []),
  (92, .iload 8, 2, 8, 0, 0, 0, []),
  (94, .iload_n 3, 1, 3, 0, 0, 0, []),
  (95, .if_icmp .ge 15, 3, 110, 0, 0, 0, []),
  (98, .iload 8, 2, 8, 0, 0, 0, []),
  (100, .istore_n 3, 1, 3, 0, 0, 0, []),
  (101, .bipush 10, 2, 0, 0, 0, 0, []),
  (103, .iload 4, 2, 4, 0, 0, 0, []),
  (105, .imul, 1, 0, 0, 0, 0, []),
  (106, .iload 7, 2, 7, 0, 0, 0, []),
  (108, .iadd, 1, 0, 0, 0, 0, []),
  (109, .istore_n 2, 1, 2, 0, 0, 0, []),
  (110, .iinc 7 1, 3, 7, 0, 0, 0, []),
  (113, .goto (-57), 3, 56, 0, 0, 0, []),
  (116, .iinc 4 1, 3, 4, 0, 0, 0, []),
  (119, .goto (-100), 3, 19, 0, 0, 0, []),
  (122, .iload_n 2, 1, 2, 0, 0, 0, []),
  (123, .ireturn, 1, 0, 0, 0, 0, [])]
def m94 : MI := (⟨"LeavesObject", "next", "(I)I"⟩, prog_1_method_17_code, 9, (Option.some Jvm.ClassFile.FieldType.int), k94, 1, [3175, 1001, 3173, 3174])
/-- LeavesObject.see(II)I -/
def k95 : List XE := [(0, .iload_n 1, 1, 1, 0, 0, 0, []),
  (1, .iconst (-1), 1, 0, 0, 0, 0, []),
  (2, .if_icmp .ne 16, 3, 18, 0, 0, 0, []),
  (5, .aload_n 0, 1, 0, 0, 0, 0, []),
  (6, .getfield 12, 3, 9, 0, 0, 1239, []),
  (9, .getfield 222, 3, 5, 4, 0, 1109, []),
  (12, .iconst 0, 1, 0, 0, 0, 0, []),
  (13, .putfield 226, 3, 4, 2, 0, 1048, []),
  (16, .iconst 0, 1, 0, 0, 0, 0, []),
  (17, .ireturn, 1, 0, 0, 0, 0, []),
  (18, .iload_n 1, 1, 1, 0, 0, 0, []),
  (19, .invokestatic 95, 3, 18, 1, 4, 2066, []),
  (22, .ifCond .ne 5, 3, 27, 0, 0, 0, []),
  (25, .iconst (-1), 1, 0, 0, 0, 0, []),
  (26, .ireturn, 1, 0, 0, 0, 0, []),
  (27, .iload_n 2, 1, 2, 0, 0, 0, []),
  (28, .invokestatic 74, 3, 12, 1, 4, 2043, []),
  (31, .ifCond .ne 6, 3, 37, 0, 0, 0, []),
  (34, .bipush (-2), 2, 0, 0, 0, 0, []),
  (36, .ireturn, 1, 0, 0, 0, 0, []),
  (37, .aload_n 0, 1, 0, 0, 0, 0, []),
  (38, .getfield 12, 3, 9, 0, 0, 1239, []),
  (41, .getfield 222, 3, 5, 4, 0, 1109, []),
  (44, .iload_n 1, 1, 1, 0, 0, 0, []),
  (45, .iload_n 2, 1, 2, 0, 0, 0, []),
  (46, .invokevirtual 229, 3, 96, 2, 0, 3180, [(4, 0)]),
  (49, .ifCond .eq 16, 3, 65, 0, 0, 0, []),
  (52, .aload_n 0, 1, 0, 0, 0, 0, []),
  (53, .getfield 12, 3, 9, 0, 0, 1239, []),
  (56, .getfield 222, 3, 5, 4, 0, 1109, []),
  (59, .getfield 226, 3, 4, 2, 0, 1048, []),
  (62, .goto 5, 3, 67, 0, 0, 0, []),
  (65, .bipush (-4), 2, 0, 0, 0, 0, []),
  (67, .ireturn, 1, 0, 0, 0, 0, [])]
def m95 : MI := (⟨"LeavesObject", "see", "(II)I"⟩, prog_1_method_18_code, 3, (Option.some Jvm.ClassFile.FieldType.int), k95, 2, [3179, 1001, 3177, 3178])
/-- LeavesObject$Rows.takes(II)Z -/
def k96 : List XE := [(0, .aload_n 0, 1, 0, 0, 0, 0, []),
  (1, .getfield 22, 3, 4, 2, 0, 1047, []),
  (4, .ifCond .lt 27, 3, 31, 0, 0, 0, []),
  (7, .aload_n 0, 1, 0, 0, 0, 0, []),
  (8, .getfield 22, 3, 4, 2, 0, 1047, []),
  (11, .aload_n 0, 1, 0, 0, 0, 0, []),
  (12, .getfield 13, 3, 4, 0, 0, 1045, []),
  (15, .arraylength, 1, 0, 0, 0, 0, []),
  (16, .if_icmp .ge 15, 3, 31, 0, 0, 0, []),
  (19, .aload_n 0, 1, 0, 0, 0, 0, []),
  (20, .getfield 22, 3, 4, 2, 0, 1047, []),
  (23, .aload_n 0, 1, 0, 0, 0, 0, []),
  (24, .getfield 19, 3, 4, 1, 0, 1046, []),
  (27, .arraylength, 1, 0, 0, 0, 0, []),
  (28, .if_icmp .lt 5, 3, 33, 0, 0, 0, []),
  (31, .iconst 0, 1, 0, 0, 0, 0, []),
  (32, .ireturn, 1, 0, 0, 0, 0, []),
  (33, .aload_n 0, 1, 0, 0, 0, 0, []),
  (34, .getfield 13, 3, 4, 0, 0, 1045, []),
  (37, .aload_n 0, 1, 0, 0, 0, 0, []),
  (38, .getfield 22, 3, 4, 2, 0, 1047, []),
  (41, .iload_n 1, 1, 1, 0, 0, 0, []),
  (42, .iastore, 1, 0, 0, 0, 0, []),
  (43, .aload_n 0, 1, 0, 0, 0, 0, []),
  (44, .getfield 19, 3, 4, 1, 0, 1046, []),
  (47, .aload_n 0, 1, 0, 0, 0, 0, []),
  (48, .getfield 22, 3, 4, 2, 0, 1047, []),
  (51, .iload_n 2, 1, 2, 0, 0, 0, []),
  (52, .iastore, 1, 0, 0, 0, 0, []),
  (53, .aload_n 0, 1, 0, 0, 0, 0, []),
  (54, .dup, 1, 0, 0, 0, 0, []),
  (55, .getfield 22, 3, 4, 2, 0, 1047, []),
  (58, .iconst 1, 1, 0, 0, 0, 0, []),
  (59, .iadd, 1, 0, 0, 0, 0, []),
  (60, .putfield 22, 3, 4, 2, 0, 1047, []),
  (63, .iconst 1, 1, 0, 0, 0, 0, []),
  (64, .ireturn, 1, 0, 0, 0, 0, [])]
def m96 : MI := (⟨"LeavesObject$Rows", "takes", "(II)Z"⟩, prog_6_method_2_code, 3, (Option.some Jvm.ClassFile.FieldType.boolean), k96, 2, [3183, 1003, 3181, 3182])
/-- LeavesObject.moods(II)I -/
def k97 : List XE := [(0, .aload_n 0, 1, 0, 0, 0, 0, []),
  (1, .aload_n 0, 1, 0, 0, 0, 0, []),
  (2, .getfield 12, 3, 9, 0, 0, 1239, []),
  (5, .iload_n 1, 1, 1, 0, 0, 0, []),
  (6, .invokevirtual 92, 3, 17, 1, 0, 2061, [(5, 0)]),
  (9, .iload_n 2, 1, 2, 0, 0, 0, []),
  (10, .iconst 1, 1, 0, 0, 0, 0, []),
  (11, .invokevirtual 232, 3, 98, 3, 0, 3188, [(9, 0)]),
  (14, .ireturn, 1, 0, 0, 0, 0, [])]
def m97 : MI := (⟨"LeavesObject", "moods", "(II)I"⟩, prog_1_method_19_code, 3, (Option.some Jvm.ClassFile.FieldType.int), k97, 2, [3187, 1001, 3185, 3186])
/-- LeavesObject.thatFit(LLeavesObject$Cup;IZ)I -/
def k98 : List XE := [(0, .aload_n 1, 1, 1, 0, 0, 0, []),
  (1, .ifnull 12, 3, 13, 0, 0, 0, []),
  (4, .iload_n 2, 1, 2, 0, 0, 0, []),
  (5, .ifCond .lt 8, 3, 13, 0, 0, 0, []),
  (8, .iload_n 2, 1, 2, 0, 0, 0, []),
  (9, .iconst 1, 1, 0, 0, 0, 0, []),
  (10, .if_icmp .le 5, 3, 15, 0, 0, 0, []),
  (13, .iconst (-1), 1, 0, 0, 0, 0, []),
  (14, .ireturn, 1, 0, 0, 0, 0, []),
  (15, .iconst 0, 1, 0, 0, 0, 0, []),
  (16, .istore 4, 2, 4, 0, 0, 0, []),
  (18, .bipush (-5), 2, 0, 0, 0, 0, []),
  (20, .istore 5, 2, 5, 0, 0, 0, []),
  (22, .bipush 9, 2, 0, 0, 0, 0, []),
  (24, .istore 6, 2, 6, 0, 0, 0, []),
  (26, .iload 6, 2, 6, 0, 0, 0, []),
  (28, .ifCond .lt 27, 3, 55, 0, 0, 0, []),
  (31, .aload_n 0, 1, 0, 0, 0, 0, []),
  (32, .aload_n 1, 1, 1, 0, 0, 0, []),
  (33, .iload 6, 2, 6, 0, 0, 0, []),
  (35, .iload_n 3, 1, 3, 0, 0, 0, []),
  (36, .invokevirtual 319, 3, 99, 3, 0, 3192, [(9, 0)]),
  (39, .ifCond .eq 10, 3, 49, 0, 0, 0, []),
  (42, .iinc 4 1, 3, 4, 0, 0, 0, []),
  (45, .iload 6, 2, 6, 0, 0, 0, []),
  (47, .istore 5, 2, 5, 0, 0, 0, []),
  (49, .iinc 6 (-1), 3, 6, 0, 0, 0, []),
  (52, .goto (-26), 3, 26, 0, 0, 0, []),
  (55, .iload_n 2, 1, 2, 0, 0, 0, []),
  (56, .ifCond .ne 8, 3, 64, 0, 0, 0, []),
  (59, .iload 4, 2, 4, 0, 0, 0, []),
  (61, .goto 5, 3, 66, 0, 0, 0, []),
  (64, .iload 5, 2, 5, 0, 0, 0, []),
  (66, .ireturn, 1, 0, 0, 0, 0, [])]
def m98 : MI := (⟨"LeavesObject", "thatFit", "(LLeavesObject$Cup;IZ)I"⟩, prog_1_method_48_code, 7, (Option.some Jvm.ClassFile.FieldType.int), k98, 3, [3191, 1001, 3190, 14])
/-- LeavesObject.fitsSeen(LLeavesObject$Cup;IZ)Z -/
def k99 : List XE := [(0, .iconst 0, 1, 0, 0, 0, 0, []),
  (1, .istore 4, 2, 4, 0, 0, 0, []),
  (3, .iload 4, 2, 4, 0, 0, 0, []),
  (5, .aload_n 0, 1, 0, 0, 0, 0, []),
  (6, .getfield 12, 3, 9, 0, 0, 1239, []),
  (9, .getfield 222, 3, 5, 4, 0, 1109, []),
  (12, .getfield 226, 3, 4, 2, 0, 1048, []),
  (15, .if_icmp .ge 95, 3, 110, 0, 0, 0, []),
  (18, .aload_n 0, 1, 0, 0, 0, 0, []),
  (19, .getfield 45, 3, 9, 8, 0, 2007, []),
  (22, .aload_n 1, 1, 1, 0, 0, 0, []),
  (23, .invokevirtual 210, 3, 78, 1, 0, 3096, [(1, 0)]),
  (26, .iload_n 3, 1, 3, 0, 0, 0, []),
  (27, .ifCond .eq 14, 3, 41, 0, 0, 0, []),
  (30, .aload_n 0, 1, 0, 0, 0, 0, []),
  (31, .getfield 45, 3, 9, 8, 0, 2007, []),
  (34, .iload_n 2, 1, 2, 0, 0, 0, []),
  (35, .putfield 122, 3, 1, 4, 0, 1081, []),
  (38, .goto 11, 3, 49, 0, 0, 0, []),
  (41, .aload_n 0, 1, 0, 0, 0, 0, []),
  (42, .getfield 45, 3, 9, 8, 0, 2007, []),
  (45, .iload_n 2, 1, 2, 0, 0, 0, []),
  (46, .putfield 116, 3, 1, 2, 0, 1071, []),
  (49, .aload_n 0, 1, 0, 0, 0, 0, []),
  (50, .getfield 45, 3, 9, 8, 0, 2007, []),
  (53, .aload_n 0, 1, 0, 0, 0, 0, []),
  (54, .getfield 12, 3, 9, 0, 0, 1239, []),
  (57, .getfield 222, 3, 5, 4, 0, 1109, []),
  (60, .iload 4, 2, 4, 0, 0, 0, []),
  (62, .invokevirtual 251, 3, 100, 1, 0, 3196, [(4, 0)]),
  (65, .aload_n 0, 1, 0, 0, 0, 0, []),
  (66, .getfield 12, 3, 9, 0, 0, 1239, []),
  (69, .getfield 102, 3, 5, 2, 0, 1104, []),
  (72, .aload_n 0, 1, 0, 0, 0, 0, []),
  (73, .invokevirtual 98, 3, 19, 0, 0, 2069, [(9, 0)]),
  (76, .invokevirtual 174, 3, 72, 3, 0, 3069, [(1, 0)]),
  (79, .pop, 1, 0, 0, 0, 0, []),
  (80, .aload_n 0, 1, 0, 0, 0, 0, []),
  (81, .getfield 45, 3, 9, 8, 0, 2007, []),
  (84, .getfield 119, 3, 1, 3, 0, 1076, []),
  (87, .aload_n 0, 1, 0, 0, 0, 0, []),
  (88, .getfield 12, 3, 9, 0, 0, 1239, []),
  (91, .getfield 222, 3, 5, 4, 0, 1109, []),
  (94, .iload 4, 2, 4, 0, 0, 0, []),
  (96, .invokevirtual 254, 3, 101, 1, 0, 3200, [(4, 0)]),
  (99, .if_icmp .eq 5, 3, 104, 0, 0, 0, []),
  (102, .iconst 0, 1, 0, 0, 0, 0, []),
  (103, .ireturn, 1, 0, 0, 0, 0, []),
  (104, .iinc 4 1, 3, 4, 0, 0, 0, []),
  (107, .goto (-104), 3, 3, 0, 0, 0, []),
  (110, .iconst 1, 1, 0, 0, 0, 0, []),
  (111, .ireturn, 1, 0, 0, 0, 0, [])]
def m99 : MI := (⟨"LeavesObject", "fitsSeen", "(LLeavesObject$Cup;IZ)Z"⟩, prog_1_method_49_code, 5, (Option.some Jvm.ClassFile.FieldType.boolean), k99, 3, [3195, 1001, 3194, 15])
/-- LeavesObject$Rows.firstAt(I)I -/
def k100 : List XE := [(0, .iload_n 1, 1, 1, 0, 0, 0, []),
  (1, .ifCond .lt 21, 3, 22, 0, 0, 0, []),
  (4, .iload_n 1, 1, 1, 0, 0, 0, []),
  (5, .aload_n 0, 1, 0, 0, 0, 0, []),
  (6, .getfield 13, 3, 4, 0, 0, 1045, []),
  (9, .arraylength, 1, 0, 0, 0, 0, []),
  (10, .if_icmp .ge 12, 3, 22, 0, 0, 0, []),
  (13, .aload_n 0, 1, 0, 0, 0, 0, []),
  (14, .getfield 13, 3, 4, 0, 0, 1045, []),
  (17, .iload_n 1, 1, 1, 0, 0, 0, []),
  (18, .iaload, 1, 0, 0, 0, 0, []),
  (19, .goto 4, 3, 23, 0, 0, 0, []),
  (22, .iconst 0, 1, 0, 0, 0, 0, []),
  (23, .ireturn, 1, 0, 0, 0, 0, [])]
def m100 : MI := (⟨"LeavesObject$Rows", "firstAt", "(I)I"⟩, prog_6_method_3_code, 2, (Option.some Jvm.ClassFile.FieldType.int), k100, 1, [3199, 1003, 3197, 3198])
/-- LeavesObject$Rows.secondAt(I)I -/
def k101 : List XE := [(0, .iload_n 1, 1, 1, 0, 0, 0, []),
  (1, .ifCond .lt 21, 3, 22, 0, 0, 0, []),
  (4, .iload_n 1, 1, 1, 0, 0, 0, []),
  (5, .aload_n 0, 1, 0, 0, 0, 0, []),
  (6, .getfield 19, 3, 4, 1, 0, 1046, []),
  (9, .arraylength, 1, 0, 0, 0, 0, []),
  (10, .if_icmp .ge 12, 3, 22, 0, 0, 0, []),
  (13, .aload_n 0, 1, 0, 0, 0, 0, []),
  (14, .getfield 19, 3, 4, 1, 0, 1046, []),
  (17, .iload_n 1, 1, 1, 0, 0, 0, []),
  (18, .iaload, 1, 0, 0, 0, 0, []),
  (19, .goto 4, 3, 23, 0, 0, 0, []),
  (22, .iconst 0, 1, 0, 0, 0, 0, []),
  (23, .ireturn, 1, 0, 0, 0, 0, [])]
def m101 : MI := (⟨"LeavesObject$Rows", "secondAt", "(I)I"⟩, prog_6_method_4_code, 2, (Option.some Jvm.ClassFile.FieldType.int), k101, 1, [3203, 1003, 3201, 3202])
/-- LeavesObject.can(II)I -/
def k102 : List XE := [(0, .aload_n 0, 1, 0, 0, 0, 0, []),
  (1, .aload_n 0, 1, 0, 0, 0, 0, []),
  (2, .getfield 12, 3, 9, 0, 0, 1239, []),
  (5, .iload_n 1, 1, 1, 0, 0, 0, []),
  (6, .invokevirtual 92, 3, 17, 1, 0, 2061, [(5, 0)]),
  (9, .iload_n 2, 1, 2, 0, 0, 0, []),
  (10, .iconst 0, 1, 0, 0, 0, 0, []),
  (11, .invokevirtual 232, 3, 98, 3, 0, 3188, [(9, 0)]),
  (14, .ireturn, 1, 0, 0, 0, 0, [])]
def m102 : MI := (⟨"LeavesObject", "can", "(II)I"⟩, prog_1_method_20_code, 3, (Option.some Jvm.ClassFile.FieldType.int), k102, 2, [3207, 1001, 3205, 3206])
/-- LeavesObject.odds(III)J -/
def k103 : List XE := [(0, .aload_n 0, 1, 0, 0, 0, 0, []),
  (1, .getfield 12, 3, 9, 0, 0, 1239, []),
  (4, .iload_n 1, 1, 1, 0, 0, 0, []),
  (5, .invokevirtual 92, 3, 17, 1, 0, 2061, [(5, 0)]),
  (8, .astore 4, 2, 4, 0, 0, 0, []),
  (10, .aload 4, 2, 4, 0, 0, 0, []),
  (12, .ifnull 20, 3, 32, 0, 0, 0, []),
  (15, .iload_n 2, 1, 2, 0, 0, 0, []),
  (16, .ifCond .lt 16, 3, 32, 0, 0, 0, []),
  (19, .iload_n 2, 1, 2, 0, 0, 0, []),
  (20, .bipush 12, 2, 0, 0, 0, 0, []),
  (22, .if_icmp .gt 10, 3, 32, 0, 0, 0, []),
  (25, .iload_n 3, 1, 3, 0, 0, 0, []),
  (26, .invokestatic 236, 3, 104, 1, 4, 3212, []),
  (29, .ifCond .ne 7, 3, 36, 0, 0, 0, []),
  (32, .ldc2_w 239, 3, 0, 0, 0, 3215, [((-9223372036854775808), 0)]),
  (35, .lreturn, 1, 0, 0, 0, 0, []),
  (36, .iconst 0, 1, 0, 0, 0, 0, []),
  (37, .istore 5, 2, 5, 0, 0, 0, []),
  (39, .iconst 0, 1, 0, 0, 0, 0, []),
  (40, .istore 6, 2, 6, 0, 0, 0, []),
  (42, .iload 6, 2, 6, 0, 0, 0, []),
  (44, .iconst 4, 1, 0, 0, 0, 0, []),
  (45, .if_icmp .ge 35, 3, 80, 0, 0, 0, []),
  (48, .aload_n 0, 1, 0, 0, 0, 0, []),
  (49, .aload 4, 2, 4, 0, 0, 0, []),
  (51, .iload 6, 2, 6, 0, 0, 0, []),
  (53, .invokevirtual 181, 3, 77, 2, 0, 3092, [(9, 0)]),
  (56, .pop, 1, 0, 0, 0, 0, []),
  (57, .aload_n 0, 1, 0, 0, 0, 0, []),
  (58, .getfield 45, 3, 9, 8, 0, 2007, []),
  (61, .getfield 119, 3, 1, 3, 0, 1076, []),
  (64, .invokestatic 217, 3, 22, 1, 5, 3064, []),
  (67, .iload_n 2, 1, 2, 0, 0, 0, []),
  (68, .if_icmp .lt 6, 3, 74, 0, 0, 0, []),
  (71, .iinc 5 1, 3, 5, 0, 0, 0, []),
  (74, .iinc 6 1, 3, 6, 0, 0, 0, []),
  (77, .goto (-35), 3, 42, 0, 0, 0, []),
  (80, .iload 5, 2, 5, 0, 0, 0, []),
  (82, .iconst 4, 1, 0, 0, 0, 0, []),
  (83, .iload_n 3, 1, 3, 0, 0, 0, []),
  (84, .invokestatic 241, 3, 105, 3, 4, 3216, []),
  (87, .lreturn, 1, 0, 0, 0, 0, [])]
def m103 : MI := (⟨"LeavesObject", "odds", "(III)J"⟩, prog_1_method_21_code, 7, (Option.some Jvm.ClassFile.FieldType.long), k103, 3, [3211, 1001, 3209, 3210])
/-- LeavesObject.isPart(I)Z -/
def k104 : List XE := [(0, .iload_n 0, 1, 0, 0, 0, 0, []),
  (1, .ifCond .eq 8, 3, 9, 0, 0, 0, []),
  (4, .iload_n 0, 1, 0, 0, 0, 0, []),
  (5, .iconst 1, 1, 0, 0, 0, 0, []),
  (6, .if_icmp .ne 7, 3, 13, 0, 0, 0, []),
  (9, .iconst 1, 1, 0, 0, 0, 0, []),
  (10, .goto 4, 3, 14, 0, 0, 0, []),
  (13, .iconst 0, 1, 0, 0, 0, 0, []),
  (14, .ireturn, 1, 0, 0, 0, 0, [])]
def m104 : MI := (⟨"LeavesObject", "isPart", "(I)Z"⟩, prog_1_method_41_code, 1, (Option.some Jvm.ClassFile.FieldType.boolean), k104, 1, [3214, 1001, 3213, 9999])
/-- LeavesObject.partOfFraction(III)J -/
def k105 : List XE := [(0, .iload_n 0, 1, 0, 0, 0, 0, []),
  (1, .iload_n 1, 1, 1, 0, 0, 0, []),
  (2, .invokestatic 311, 3, 106, 2, 4, 3219, []),
  (5, .iconst 1, 1, 0, 0, 0, 0, []),
  (6, .invokestatic 314, 3, 3, 2, 5, 3222, []),
  (9, .istore_n 3, 1, 3, 0, 0, 0, []),
  (10, .iload_n 2, 1, 2, 0, 0, 0, []),
  (11, .ifCond .ne 7, 3, 18, 0, 0, 0, []),
  (14, .iload_n 0, 1, 0, 0, 0, 0, []),
  (15, .goto 4, 3, 19, 0, 0, 0, []),
  (18, .iload_n 1, 1, 1, 0, 0, 0, []),
  (19, .iload_n 3, 1, 3, 0, 0, 0, []),
  (20, .idiv, 1, 0, 0, 0, 0, []),
  (21, .i2l, 1, 0, 0, 0, 0, []),
  (22, .lreturn, 1, 0, 0, 0, 0, [])]
def m105 : MI := (⟨"LeavesObject", "partOfFraction", "(III)J"⟩, prog_1_method_43_code, 4, (Option.some Jvm.ClassFile.FieldType.long), k105, 3, [3218, 1001, 3217, 9999])
/-- LeavesObject.greatestDivisor(II)I -/
def k106 : List XE := [(0, .iconst 1, 1, 0, 0, 0, 0, []),
  (1, .istore_n 2, 1, 2, 0, 0, 0, []),
  (2, .iconst 2, 1, 0, 0, 0, 0, []),
  (3, .istore_n 3, 1, 3, 0, 0, 0, []),
  (4, .iload_n 3, 1, 3, 0, 0, 0, []),
  (5, .iload_n 1, 1, 1, 0, 0, 0, []),
  (6, .if_icmp .gt 23, 3, 29, 0, 0, 0, []),
  (9, .iload_n 0, 1, 0, 0, 0, 0, []),
  (10, .iload_n 3, 1, 3, 0, 0, 0, []),
  (11, .irem, 1, 0, 0, 0, 0, []),
  (12, .ifCond .ne 11, 3, 23, 0, 0, 0, []),
  (15, .iload_n 1, 1, 1, 0, 0, 0, []),
  (16, .iload_n 3, 1, 3, 0, 0, 0, []),
  (17, .irem, 1, 0, 0, 0, 0, []),
  (18, .ifCond .ne 5, 3, 23, 0, 0, 0, []),
  (21, .iload_n 3, 1, 3, 0, 0, 0, []),
  (22, .istore_n 2, 1, 2, 0, 0, 0, []),
  (23, .iinc 3 1, 3, 3, 0, 0, 0, []),
  (26, .goto (-22), 3, 4, 0, 0, 0, []),
  (29, .iload_n 2, 1, 2, 0, 0, 0, []),
  (30, .ireturn, 1, 0, 0, 0, 0, [])]
def m106 : MI := (⟨"LeavesObject", "greatestDivisor", "(II)I"⟩, prog_1_method_44_code, 4, (Option.some Jvm.ClassFile.FieldType.int), k106, 2, [3221, 1001, 3220, 9999])
/-- LeavesObject.mean(I)J -/
def k107 : List XE := [(0, .iload_n 1, 1, 1, 0, 0, 0, []),
  (1, .invokestatic 236, 3, 104, 1, 4, 3212, []),
  (4, .ifCond .eq 13, 3, 17, 0, 0, 0, []),
  (7, .aload_n 0, 1, 0, 0, 0, 0, []),
  (8, .getfield 12, 3, 9, 0, 0, 1239, []),
  (11, .getfield 77, 3, 5, 1, 0, 1102, []),
  (14, .ifCond .gt 7, 3, 21, 0, 0, 0, []),
  (17, .ldc2_w 239, 3, 0, 0, 0, 3215, [((-9223372036854775808), 0)]),
  (20, .lreturn, 1, 0, 0, 0, 0, []),
  (21, .iconst 0, 1, 0, 0, 0, 0, []),
  (22, .istore_n 2, 1, 2, 0, 0, 0, []),
  (23, .iconst 0, 1, 0, 0, 0, 0, []),
  (24, .istore_n 3, 1, 3, 0, 0, 0, []),
  (25, .iload_n 3, 1, 3, 0, 0, 0, []),
  (26, .aload_n 0, 1, 0, 0, 0, 0, []),
  (27, .getfield 12, 3, 9, 0, 0, 1239, []),
  (30, .getfield 77, 3, 5, 1, 0, 1102, []),
  (33, .if_icmp .ge 35, 3, 68, 0, 0, 0, []),
  (36, .aload_n 0, 1, 0, 0, 0, 0, []),
  (37, .getfield 12, 3, 9, 0, 0, 1239, []),
  (40, .iload_n 3, 1, 3, 0, 0, 0, []),
  (41, .invokevirtual 92, 3, 17, 1, 0, 2061, [(5, 0)]),
  (44, .astore 4, 2, 4, 0, 0, 0, []),
  (46, .aload 4, 2, 4, 0, 0, 0, []),
  (48, .ifnull 14, 3, 62, 0, 0, 0, []),
  (51, .iload_n 2, 1, 2, 0, 0, 0, []),
  (52, .aload 4, 2, 4, 0, 0, 0, []),
  (54, .getfield 119, 3, 1, 3, 0, 1076, []),
  (57, .invokestatic 217, 3, 22, 1, 5, 3064, []),
  (60, .iadd, 1, 0, 0, 0, 0, []),
  (61, .istore_n 2, 1, 2, 0, 0, 0, []),
  (62, .iinc 3 1, 3, 3, 0, 0, 0, []),
  (65, .goto (-40), 3, 25, 0, 0, 0, []),
  (68, .iload_n 2, 1, 2, 0, 0, 0, []),
  (69, .aload_n 0, 1, 0, 0, 0, 0, []),
  (70, .getfield 12, 3, 9, 0, 0, 1239, []),
  (73, .getfield 77, 3, 5, 1, 0, 1102, []),
  (76, .iload_n 1, 1, 1, 0, 0, 0, []),
  (77, .invokestatic 241, 3, 105, 3, 4, 3216, []),
  (80, .lreturn, 1, 0, 0, 0, 0, [])]
def m107 : MI := (⟨"LeavesObject", "mean", "(I)J"⟩, prog_1_method_22_code, 5, (Option.some Jvm.ClassFile.FieldType.long), k107, 1, [3226, 1001, 3224, 3225])
/-- LeavesObject.evening(II)I -/
def k108 : List XE := [(0, .iload_n 1, 1, 1, 0, 0, 0, []),
  (1, .iconst (-1), 1, 0, 0, 0, 0, []),
  (2, .if_icmp .ne 16, 3, 18, 0, 0, 0, []),
  (5, .aload_n 0, 1, 0, 0, 0, 0, []),
  (6, .getfield 12, 3, 9, 0, 0, 1239, []),
  (9, .getfield 245, 3, 5, 5, 0, 1111, []),
  (12, .iconst 0, 1, 0, 0, 0, 0, []),
  (13, .putfield 226, 3, 4, 2, 0, 1048, []),
  (16, .iconst 0, 1, 0, 0, 0, 0, []),
  (17, .ireturn, 1, 0, 0, 0, 0, []),
  (18, .iload_n 1, 1, 1, 0, 0, 0, []),
  (19, .iconst 5, 1, 0, 0, 0, 0, []),
  (20, .if_icmp .eq 23, 3, 43, 0, 0, 0, []),
  (23, .aload_n 0, 1, 0, 0, 0, 0, []),
  (24, .getfield 12, 3, 9, 0, 0, 1239, []),
  (27, .iload_n 1, 1, 1, 0, 0, 0, []),
  (28, .invokevirtual 92, 3, 17, 1, 0, 2061, [(5, 0)]),
  (31, .ifnull 10, 3, 41, 0, 0, 0, []),
  (34, .iload_n 2, 1, 2, 0, 0, 0, []),
  (35, .invokestatic 95, 3, 18, 1, 4, 2066, []),
  (38, .ifCond .ne 5, 3, 43, 0, 0, 0, []),
  (41, .iconst (-1), 1, 0, 0, 0, 0, []),
  (42, .ireturn, 1, 0, 0, 0, 0, []),
  (43, .aload_n 0, 1, 0, 0, 0, 0, []),
  (44, .getfield 12, 3, 9, 0, 0, 1239, []),
  (47, .getfield 245, 3, 5, 5, 0, 1111, []),
  (50, .iload_n 1, 1, 1, 0, 0, 0, []),
  (51, .iload_n 2, 1, 2, 0, 0, 0, []),
  (52, .invokevirtual 229, 3, 96, 2, 0, 3180, [(4, 0)]),
  (55, .ifCond .eq 16, 3, 71, 0, 0, 0, []),
  (58, .aload_n 0, 1, 0, 0, 0, 0, []),
  (59, .getfield 12, 3, 9, 0, 0, 1239, []),
  (62, .getfield 245, 3, 5, 5, 0, 1111, []),
  (65, .getfield 226, 3, 4, 2, 0, 1048, []),
  (68, .goto 5, 3, 73, 0, 0, 0, []),
  (71, .bipush (-4), 2, 0, 0, 0, 0, []),
  (73, .ireturn, 1, 0, 0, 0, 0, [])]
def m108 : MI := (⟨"LeavesObject", "evening", "(II)I"⟩, prog_1_method_23_code, 3, (Option.some Jvm.ClassFile.FieldType.int), k108, 2, [3230, 1001, 3228, 3229])
/-- LeavesObject.ends(I)I -/
def k109 : List XE := [(0, .iload_n 1, 1, 1, 0, 0, 0, []),
  (1, .ifCond .lt 8, 3, 9, 0, 0, 0, []),
  (4, .iload_n 1, 1, 1, 0, 0, 0, []),
  (5, .iconst 1, 1, 0, 0, 0, 0, []),
  (6, .if_icmp .le 5, 3, 11, 0, 0, 0, []),
  (9, .iconst (-1), 1, 0, 0, 0, 0, []),
  (10, .ireturn, 1, 0, 0, 0, 0, []),
  (11, .aload_n 0, 1, 0, 0, 0, 0, []),
  (12, .getfield 21, 3, 9, 2, 0, 2001, []),
  (15, .aload_n 0, 1, 0, 0, 0, 0, []),
  (16, .getfield 12, 3, 9, 0, 0, 1239, []),
  (19, .invokevirtual 248, 3, 110, 1, 0, 3235, [(5, 0)]),
  (22, .iconst 0, 1, 0, 0, 0, 0, []),
  (23, .istore_n 2, 1, 2, 0, 0, 0, []),
  (24, .iconst 0, 1, 0, 0, 0, 0, []),
  (25, .istore_n 3, 1, 3, 0, 0, 0, []),
  (26, .iload_n 3, 1, 3, 0, 0, 0, []),
  (27, .aload_n 0, 1, 0, 0, 0, 0, []),
  (28, .getfield 12, 3, 9, 0, 0, 1239, []),
  (31, .getfield 245, 3, 5, 5, 0, 1111, []),
  (34, .getfield 226, 3, 4, 2, 0, 1048, []),
  (37, .if_icmp .ge 87, 3, 124, 0, 0, 0, []),
  (40, .aload_n 0, 1, 0, 0, 0, 0, []),
  (41, .getfield 12, 3, 9, 0, 0, 1239, []),
  (44, .getfield 245, 3, 5, 5, 0, 1111, []),
  (47, .iload_n 3, 1, 3, 0, 0, 0, []),
  (48, .invokevirtual 251, 3, 100, 1, 0, 3196, [(4, 0)]),
  (51, .istore 4, 2, 4, 0, 0, 0, []),
  (53, .aload_n 0, 1, 0, 0, 0, 0, []),
  (54, .getfield 21, 3, 9, 2, 0, 2001, []),
  (57, .iload 4, 2, 4, 0, 0, 0, []),
  (59, .invokevirtual 92, 3, 17, 1, 0, 2061, [(5, 0)]),
  (62, .astore 5, 2, 5, 0, 0, 0, []),
  (64, .iload 4, 2, 4, 0, 0, 0, []),
  (66, .iconst 5, 1, 0, 0, 0, 0, []),
  (67, .if_icmp .ne 13, 3, 80, 0, 0, 0, []),
  (70, .aload_n 0, 1, 0, 0, 0, 0, []),
  (71, .getfield 21, 3, 9, 2, 0, 2001, []),
  (74, .invokevirtual 178, 3, 75, 0, 0, 3083, [(5, 0)]),
  (77, .goto 41, 3, 118, 0, 0, 0, []),
  (80, .aload 5, 2, 5, 0, 0, 0, []),
  (82, .ifnull 36, 3, 118, 0, 0, 0, []),
  (85, .aload 5, 2, 5, 0, 0, 0, []),
  (87, .aload_n 0, 1, 0, 0, 0, 0, []),
  (88, .getfield 12, 3, 9, 0, 0, 1239, []),
  (91, .getfield 245, 3, 5, 5, 0, 1111, []),
  (94, .iload_n 3, 1, 3, 0, 0, 0, []),
  (95, .invokevirtual 254, 3, 101, 1, 0, 3200, [(4, 0)]),
  (98, .aload_n 0, 1, 0, 0, 0, 0, []),
  (99, .getfield 21, 3, 9, 2, 0, 2001, []),
  (102, .getfield 102, 3, 5, 2, 0, 1104, []),
  (105, .aload_n 0, 1, 0, 0, 0, 0, []),
  (106, .invokevirtual 98, 3, 19, 0, 0, 2069, [(9, 0)]),
  (109, .invokevirtual 174, 3, 72, 3, 0, 3069, [(1, 0)]),
  (112, .ifCond .ne 6, 3, 118, 0, 0, 0, []),
  (115, .iinc 2 1, 3, 2, 0, 0, 0, []),
  (118, .iinc 3 1, 3, 3, 0, 0, 0, []),
  (121, .goto (-95), 3, 26, 0, 0, 0, []),
  (124, .iload_n 1, 1, 1, 0, 0, 0, []),
  (125, .ifCond .ne 14, 3, 139, 0, 0, 0, []),
  (128, .aload_n 0, 1, 0, 0, 0, 0, []),
  (129, .getfield 21, 3, 9, 2, 0, 2001, []),
  (132, .iconst (-1), 1, 0, 0, 0, 0, []),
  (133, .invokevirtual 161, 3, 64, 1, 0, 3037, [(5, 0)]),
  (136, .goto 4, 3, 140, 0, 0, 0, []),
  (139, .iload_n 2, 1, 2, 0, 0, 0, []),
  (140, .ireturn, 1, 0, 0, 0, 0, [])]
def m109 : MI := (⟨"LeavesObject", "ends", "(I)I"⟩, prog_1_method_24_code, 6, (Option.some Jvm.ClassFile.FieldType.int), k109, 1, [3234, 1001, 3232, 3233])
/-- LeavesObject$Table.becomeLike(LLeavesObject$Table;)V -/
def k110 : List XE := [(0, .iconst 0, 1, 0, 0, 0, 0, []),
  (1, .istore_n 2, 1, 2, 0, 0, 0, []),
  (2, .iload_n 2, 1, 2, 0, 0, 0, []),
  (3, .iconst 5, 1, 0, 0, 0, 0, []),
  (4, .if_icmp .ge 37, 3, 41, 0, 0, 0, []),
  (7, .aload_n 0, 1, 0, 0, 0, 0, []),
  (8, .iload_n 2, 1, 2, 0, 0, 0, []),
  (9, .invokevirtual 40, 3, 13, 1, 0, 2065, [(5, 0)]),
  (12, .astore_n 3, 1, 3, 0, 0, 0, []),
  (13, .aload_n 1, 1, 1, 0, 0, 0, []),
  (14, .iload_n 2, 1, 2, 0, 0, 0, []),
  (15, .invokevirtual 40, 3, 13, 1, 0, 2065, [(5, 0)]),
  (18, .astore 4, 2, 4, 0, 0, 0, []),
  (20, .aload_n 3, 1, 3, 0, 0, 0, []),
  (21, .ifnull 14, 3, 35, 0, 0, 0, []),
  (24, .aload 4, 2, 4, 0, 0, 0, []),
  (26, .ifnull 9, 3, 35, 0, 0, 0, []),
  (29, .aload_n 3, 1, 3, 0, 0, 0, []),
  (30, .aload 4, 2, 4, 0, 0, 0, []),
  (32, .invokevirtual 50, 3, 78, 1, 0, 3239, [(1, 0)]),
  (35, .iinc 2 1, 3, 2, 0, 0, 0, []),
  (38, .goto (-36), 3, 2, 0, 0, 0, []),
  (41, .aload_n 0, 1, 0, 0, 0, 0, []),
  (42, .aload_n 1, 1, 1, 0, 0, 0, []),
  (43, .getfield 37, 3, 5, 1, 0, 1103, []),
  (46, .putfield 37, 3, 5, 1, 0, 1103, []),
  (49, .aload_n 0, 1, 0, 0, 0, 0, []),
  (50, .aload_n 1, 1, 1, 0, 0, 0, []),
  (51, .getfield 54, 3, 5, 2, 0, 1105, []),
  (54, .putfield 54, 3, 5, 2, 0, 1105, []),
  (57, .aload_n 0, 1, 0, 0, 0, 0, []),
  (58, .aload_n 1, 1, 1, 0, 0, 0, []),
  (59, .getfield 17, 3, 5, 3, 0, 1106, []),
  (62, .putfield 17, 3, 5, 3, 0, 1106, []),
  (65, .aload_n 0, 1, 0, 0, 0, 0, []),
  (66, .getfield 26, 3, 5, 4, 0, 1108, []),
  (69, .aload_n 1, 1, 1, 0, 0, 0, []),
  (70, .getfield 26, 3, 5, 4, 0, 1108, []),
  (73, .invokevirtual 57, 3, 111, 1, 0, 4000, [(4, 0)]),
  (76, .aload_n 0, 1, 0, 0, 0, 0, []),
  (77, .getfield 30, 3, 5, 5, 0, 1110, []),
  (80, .aload_n 1, 1, 1, 0, 0, 0, []),
  (81, .getfield 30, 3, 5, 5, 0, 1110, []),
  (84, .invokevirtual 57, 3, 111, 1, 0, 4000, [(4, 0)]),
  (87, .aload_n 0, 1, 0, 0, 0, 0, []),
  (88, .getfield 33, 3, 5, 6, 0, 1112, []),
  (91, .aload_n 1, 1, 1, 0, 0, 0, []),
  (92, .getfield 33, 3, 5, 6, 0, 1112, []),
  (95, .invokevirtual 57, 3, 111, 1, 0, 4000, [(4, 0)]),
  (98, .return_, 1, 0, 0, 0, 0, [])]
def m110 : MI := (⟨"LeavesObject$Table", "becomeLike", "(LLeavesObject$Table;)V"⟩, prog_7_method_5_code, 5, none, k110, 1, [3238, 1002, 3236, 3237])
/-- LeavesObject$Rows.becomeLike(LLeavesObject$Rows;)V -/
def k111 : List XE := [(0, .aload_n 0, 1, 0, 0, 0, 0, []),
  (1, .iconst 0, 1, 0, 0, 0, 0, []),
  (2, .putfield 22, 3, 4, 2, 0, 1047, []),
  (5, .iconst 0, 1, 0, 0, 0, 0, []),
  (6, .istore_n 2, 1, 2, 0, 0, 0, []),
  (7, .iload_n 2, 1, 2, 0, 0, 0, []),
  (8, .aload_n 1, 1, 1, 0, 0, 0, []),
  (9, .getfield 22, 3, 4, 2, 0, 1047, []),
  (12, .if_icmp .ge 24, 3, 36, 0, 0, 0, []),
  (15, .aload_n 0, 1, 0, 0, 0, 0, []),
  (16, .aload_n 1, 1, 1, 0, 0, 0, []),
  (17, .iload_n 2, 1, 2, 0, 0, 0, []),
  (18, .invokevirtual 26, 3, 100, 1, 0, 4004, [(4, 0)]),
  (21, .aload_n 1, 1, 1, 0, 0, 0, []),
  (22, .iload_n 2, 1, 2, 0, 0, 0, []),
  (23, .invokevirtual 30, 3, 101, 1, 0, 4005, [(4, 0)]),
  (26, .invokevirtual 33, 3, 96, 2, 0, 4006, [(4, 0)]),
  (29, .pop, 1, 0, 0, 0, 0, []),
  (30, .iinc 2 1, 3, 2, 0, 0, 0, []),
  (33, .goto (-26), 3, 7, 0, 0, 0, []),
  (36, .return_, 1, 0, 0, 0, 0, [])]
def m111 : MI := (⟨"LeavesObject$Rows", "becomeLike", "(LLeavesObject$Rows;)V"⟩, prog_6_method_5_code, 3, none, k111, 1, [4003, 1003, 4001, 4002])
/-- LeavesObject.book(II)I -/
def k112 : List XE := [(0, .iload_n 1, 1, 1, 0, 0, 0, []),
  (1, .iconst (-1), 1, 0, 0, 0, 0, []),
  (2, .if_icmp .ne 16, 3, 18, 0, 0, 0, []),
  (5, .aload_n 0, 1, 0, 0, 0, 0, []),
  (6, .getfield 12, 3, 9, 0, 0, 1239, []),
  (9, .getfield 257, 3, 5, 6, 0, 1113, []),
  (12, .iconst 0, 1, 0, 0, 0, 0, []),
  (13, .putfield 226, 3, 4, 2, 0, 1048, []),
  (16, .iconst 0, 1, 0, 0, 0, 0, []),
  (17, .ireturn, 1, 0, 0, 0, 0, []),
  (18, .aload_n 0, 1, 0, 0, 0, 0, []),
  (19, .getfield 12, 3, 9, 0, 0, 1239, []),
  (22, .iload_n 1, 1, 1, 0, 0, 0, []),
  (23, .invokevirtual 92, 3, 17, 1, 0, 2061, [(5, 0)]),
  (26, .ifnonnull 5, 3, 31, 0, 0, 0, []),
  (29, .iconst (-1), 1, 0, 0, 0, 0, []),
  (30, .ireturn, 1, 0, 0, 0, 0, []),
  (31, .iload_n 2, 1, 2, 0, 0, 0, []),
  (32, .invokestatic 74, 3, 12, 1, 4, 2043, []),
  (35, .ifCond .ne 6, 3, 41, 0, 0, 0, []),
  (38, .bipush (-2), 2, 0, 0, 0, 0, []),
  (40, .ireturn, 1, 0, 0, 0, 0, []),
  (41, .aload_n 0, 1, 0, 0, 0, 0, []),
  (42, .getfield 12, 3, 9, 0, 0, 1239, []),
  (45, .getfield 257, 3, 5, 6, 0, 1113, []),
  (48, .iload_n 1, 1, 1, 0, 0, 0, []),
  (49, .iload_n 2, 1, 2, 0, 0, 0, []),
  (50, .invokevirtual 229, 3, 96, 2, 0, 3180, [(4, 0)]),
  (53, .ifCond .eq 16, 3, 69, 0, 0, 0, []),
  (56, .aload_n 0, 1, 0, 0, 0, 0, []),
  (57, .getfield 12, 3, 9, 0, 0, 1239, []),
  (60, .getfield 257, 3, 5, 6, 0, 1113, []),
  (63, .getfield 226, 3, 4, 2, 0, 1048, []),
  (66, .goto 5, 3, 71, 0, 0, 0, []),
  (69, .bipush (-4), 2, 0, 0, 0, 0, []),
  (71, .ireturn, 1, 0, 0, 0, 0, [])]
def m112 : MI := (⟨"LeavesObject", "book", "(II)I"⟩, prog_1_method_25_code, 3, (Option.some Jvm.ClassFile.FieldType.int), k112, 2, [4010, 1001, 4008, 4009])
/-- LeavesObject.looked()I -/
def k113 : List XE := [(0, .iconst 0, 1, 0, 0, 0, 0, []),
  (1, .istore_n 1, 1, 1, 0, 0, 0, []),
  (2, .iload_n 1, 1, 1, 0, 0, 0, []),
  (3, .aload_n 0, 1, 0, 0, 0, 0, []),
  (4, .getfield 12, 3, 9, 0, 0, 1239, []),
  (7, .getfield 257, 3, 5, 6, 0, 1113, []),
  (10, .getfield 226, 3, 4, 2, 0, 1048, []),
  (13, .if_icmp .ge 52, 3, 65, 0, 0, 0, []),
  (16, .aload_n 0, 1, 0, 0, 0, 0, []),
  (17, .getfield 12, 3, 9, 0, 0, 1239, []),
  (20, .aload_n 0, 1, 0, 0, 0, 0, []),
  (21, .getfield 12, 3, 9, 0, 0, 1239, []),
  (24, .getfield 257, 3, 5, 6, 0, 1113, []),
  (27, .iload_n 1, 1, 1, 0, 0, 0, []),
  (28, .invokevirtual 251, 3, 100, 1, 0, 3196, [(4, 0)]),
  (31, .invokevirtual 92, 3, 17, 1, 0, 2061, [(5, 0)]),
  (34, .astore_n 2, 1, 2, 0, 0, 0, []),
  (35, .aload_n 2, 1, 2, 0, 0, 0, []),
  (36, .ifnull 23, 3, 59, 0, 0, 0, []),
  (39, .aload_n 2, 1, 2, 0, 0, 0, []),
  (40, .getfield 119, 3, 1, 3, 0, 1076, []),
  (43, .aload_n 0, 1, 0, 0, 0, 0, []),
  (44, .getfield 12, 3, 9, 0, 0, 1239, []),
  (47, .getfield 257, 3, 5, 6, 0, 1113, []),
  (50, .iload_n 1, 1, 1, 0, 0, 0, []),
  (51, .invokevirtual 254, 3, 101, 1, 0, 3200, [(4, 0)]),
  (54, .if_icmp .eq 5, 3, 59, 0, 0, 0, []),
  (57, .iload_n 1, 1, 1, 0, 0, 0, []),
  (58, .ireturn, 1, 0, 0, 0, 0, []),
  (59, .iinc 1 1, 3, 1, 0, 0, 0, []),
  (62, .goto (-60), 3, 2, 0, 0, 0, []),
  (65, .bipush (-5), 2, 0, 0, 0, 0, []),
  (67, .ireturn, 1, 0, 0, 0, 0, [])]
def m113 : MI := (⟨"LeavesObject", "looked", "()I"⟩, prog_1_method_26_code, 3, (Option.some Jvm.ClassFile.FieldType.int), k113, 0, [4014, 1001, 4012, 4013])
/-- LeavesObject.judge(II)I -/
def k114 : List XE := [(0, .aload_n 0, 1, 0, 0, 0, 0, []),
  (1, .iload_n 1, 1, 1, 0, 0, 0, []),
  (2, .invokevirtual 260, 3, 115, 1, 0, 4019, [(9, 0)]),
  (5, .astore_n 3, 1, 3, 0, 0, 0, []),
  (6, .aload_n 3, 1, 3, 0, 0, 0, []),
  (7, .ifnonnull 5, 3, 12, 0, 0, 0, []),
  (10, .iconst (-1), 1, 0, 0, 0, 0, []),
  (11, .ireturn, 1, 0, 0, 0, 0, []),
  (12, .aload_n 3, 1, 3, 0, 0, 0, []),
  (13, .invokevirtual 264, 3, 116, 0, 0, 4023, [(6, 0)]),
  (16, .ifCond .eq 14, 3, 30, 0, 0, 0, []),
  (19, .aload_n 3, 1, 3, 0, 0, 0, []),
  (20, .getfield 268, 3, 6, 0, 0, 1227, []),
  (23, .iconst 1, 1, 0, 0, 0, 0, []),
  (24, .if_icmp .eq 6, 3, 30, 0, 0, 0, []),
  (27, .bipush (-12), 2, 0, 0, 0, 0, []),
  (29, .ireturn, 1, 0, 0, 0, 0, []),
  (30, .iconst 0, 1, 0, 0, 0, 0, []),
  (31, .istore 4, 2, 4, 0, 0, 0, []),
  (33, .iload 4, 2, 4, 0, 0, 0, []),
  (35, .aload_n 0, 1, 0, 0, 0, 0, []),
  (36, .getfield 12, 3, 9, 0, 0, 1239, []),
  (39, .getfield 77, 3, 5, 1, 0, 1102, []),
  (42, .if_icmp .ge 64, 3, 106, 0, 0, 0, []),
  (45, .aload_n 0, 1, 0, 0, 0, 0, []),
  (46, .getfield 12, 3, 9, 0, 0, 1239, []),
  (49, .iload 4, 2, 4, 0, 0, 0, []),
  (51, .invokevirtual 92, 3, 17, 1, 0, 2061, [(5, 0)]),
  (54, .astore 5, 2, 5, 0, 0, 0, []),
  (56, .aload 5, 2, 5, 0, 0, 0, []),
  (58, .ifnull 15, 3, 73, 0, 0, 0, []),
  (61, .aload_n 3, 1, 3, 0, 0, 0, []),
  (62, .iload_n 2, 1, 2, 0, 0, 0, []),
  (63, .iload 4, 2, 4, 0, 0, 0, []),
  (65, .iconst 1, 1, 0, 0, 0, 0, []),
  (66, .iadd, 1, 0, 0, 0, 0, []),
  (67, .invokevirtual 271, 3, 117, 2, 0, 4027, [(6, 0)]),
  (70, .ifCond .ne 9, 3, 79, 0, 0, 0, []),
  (73, .bipush 100, 2, 0, 0, 0, 0, []),
  (75, .iload 4, 2, 4, 0, 0, 0, []),
  (77, .iadd, 1, 0, 0, 0, 0, []),
  (78, .ireturn, 1, 0, 0, 0, 0, []),
  (79, .aload_n 3, 1, 3, 0, 0, 0, []),
  (80, .iload_n 2, 1, 2, 0, 0, 0, []),
  (81, .iload 4, 2, 4, 0, 0, 0, []),
  (83, .iadd, 1, 0, 0, 0, 0, []),
  (84, .invokevirtual 274, 3, 118, 1, 0, 4032, [(6, 0)]),
  (87, .aload 5, 2, 5, 0, 0, 0, []),
  (89, .getfield 119, 3, 1, 3, 0, 1076, []),
  (92, .i2l, 1, 0, 0, 0, 0, []),
  (93, .lcmp, 1, 0, 0, 0, 0, []),
  (94, .ifCond .eq 6, 3, 100, 0, 0, 0, []),
  (97, .iload 4, 2, 4, 0, 0, 0, []),
  (99, .ireturn, 1, 0, 0, 0, 0, []),
  (100, .iinc 4 1, 3, 4, 0, 0, 0, []),
  (103, .goto (-70), 3, 33, 0, 0, 0, []),
  (106, .bipush (-5), 2, 0, 0, 0, 0, []),
  (108, .ireturn, 1, 0, 0, 0, 0, [])]
def m114 : MI := (⟨"LeavesObject", "judge", "(II)I"⟩, prog_1_method_27_code, 6, (Option.some Jvm.ClassFile.FieldType.int), k114, 2, [4018, 1001, 4016, 4017])
/-- LeavesObject.tapeAt(I)LLeavesObject$Tape; -/
def k115 : List XE := [(0, .iload_n 1, 1, 1, 0, 0, 0, []),
  (1, .ifCond .lt 21, 3, 22, 0, 0, 0, []),
  (4, .iload_n 1, 1, 1, 0, 0, 0, []),
  (5, .aload_n 0, 1, 0, 0, 0, 0, []),
  (6, .getfield 65, 3, 9, 11, 0, 2010, []),
  (9, .arraylength, 1, 0, 0, 0, 0, []),
  (10, .if_icmp .ge 12, 3, 22, 0, 0, 0, []),
  (13, .aload_n 0, 1, 0, 0, 0, 0, []),
  (14, .getfield 65, 3, 9, 11, 0, 2010, []),
  (17, .iload_n 1, 1, 1, 0, 0, 0, []),
  (18, .aaload, 1, 0, 0, 0, 0, []),
  (19, .goto 4, 3, 23, 0, 0, 0, []),
  (22, .aconst_null, 1, 0, 0, 0, 0, []),
  (23, .areturn, 1, 0, 0, 0, 0, [])]
def m115 : MI := (⟨"LeavesObject", "tapeAt", "(I)LLeavesObject$Tape;"⟩, prog_1_method_46_code, 2, (Option.some (Jvm.ClassFile.FieldType.object "LeavesObject$Tape")), k115, 1, [4022, 1001, 4021, 16])
/-- LeavesObject$Tape.holds()Z -/
def k116 : List XE := [(0, .aload_n 0, 1, 0, 0, 0, 0, []),
  (1, .getfield 9, 3, 6, 0, 0, 1226, []),
  (4, .ifCond .lt 7, 3, 11, 0, 0, 0, []),
  (7, .iconst 1, 1, 0, 0, 0, 0, []),
  (8, .goto 4, 3, 12, 0, 0, 0, []),
  (11, .iconst 0, 1, 0, 0, 0, 0, []),
  (12, .ireturn, 1, 0, 0, 0, 0, [])]
def m116 : MI := (⟨"LeavesObject$Tape", "holds", "()Z"⟩, prog_8_method_2_code, 1, (Option.some Jvm.ClassFile.FieldType.boolean), k116, 0, [4026, 1010, 4024, 4025])
/-- LeavesObject$Tape.reaches(II)Z -/
def k117 : List XE := [(0, .aload_n 0, 1, 0, 0, 0, 0, []),
  (1, .invokevirtual 28, 3, 116, 0, 0, 4031, [(6, 0)]),
  (4, .ifCond .eq 33, 3, 37, 0, 0, 0, []),
  (7, .iload_n 1, 1, 1, 0, 0, 0, []),
  (8, .ifCond .lt 29, 3, 37, 0, 0, 0, []),
  (11, .iload_n 2, 1, 2, 0, 0, 0, []),
  (12, .ifCond .lt 25, 3, 37, 0, 0, 0, []),
  (15, .iload_n 1, 1, 1, 0, 0, 0, []),
  (16, .aload_n 0, 1, 0, 0, 0, 0, []),
  (17, .getfield 19, 3, 6, 1, 0, 1228, []),
  (20, .if_icmp .gt 17, 3, 37, 0, 0, 0, []),
  (23, .iload_n 2, 1, 2, 0, 0, 0, []),
  (24, .aload_n 0, 1, 0, 0, 0, 0, []),
  (25, .getfield 19, 3, 6, 1, 0, 1228, []),
  (28, .iload_n 1, 1, 1, 0, 0, 0, []),
  (29, .isub, 1, 0, 0, 0, 0, []),
  (30, .if_icmp .gt 7, 3, 37, 0, 0, 0, []),
  (33, .iconst 1, 1, 0, 0, 0, 0, []),
  (34, .goto 4, 3, 38, 0, 0, 0, []),
  (37, .iconst 0, 1, 0, 0, 0, 0, []),
  (38, .ireturn, 1, 0, 0, 0, 0, [])]
def m117 : MI := (⟨"LeavesObject$Tape", "reaches", "(II)Z"⟩, prog_8_method_4_code, 3, (Option.some Jvm.ClassFile.FieldType.boolean), k117, 2, [4030, 1010, 4028, 4029])
/-- LeavesObject$Tape.itemAt(I)J -/
def k118 : List XE := [(0, .iload_n 1, 1, 1, 0, 0, 0, []),
  (1, .ifCond .lt 21, 3, 22, 0, 0, 0, []),
  (4, .iload_n 1, 1, 1, 0, 0, 0, []),
  (5, .aload_n 0, 1, 0, 0, 0, 0, []),
  (6, .getfield 15, 3, 6, 2, 0, 1229, []),
  (9, .arraylength, 1, 0, 0, 0, 0, []),
  (10, .if_icmp .ge 12, 3, 22, 0, 0, 0, []),
  (13, .aload_n 0, 1, 0, 0, 0, 0, []),
  (14, .getfield 15, 3, 6, 2, 0, 1229, []),
  (17, .iload_n 1, 1, 1, 0, 0, 0, []),
  (18, .laload, 1, 0, 0, 0, 0, []),
  (19, .goto 4, 3, 23, 0, 0, 0, []),
  (22, .lconst 0, 1, 0, 0, 0, 0, []),
  (23, .lreturn, 1, 0, 0, 0, 0, [])]
def m118 : MI := (⟨"LeavesObject$Tape", "itemAt", "(I)J"⟩, prog_8_method_5_code, 2, (Option.some Jvm.ClassFile.FieldType.long), k118, 1, [4035, 1010, 4033, 4034])
/-- LeavesObject.image()I -/
def k119 : List XE := [(0, .aload_n 0, 1, 0, 0, 0, 0, []),
  (1, .getfield 18, 3, 9, 1, 0, 2000, []),
  (4, .aload_n 0, 1, 0, 0, 0, 0, []),
  (5, .getfield 12, 3, 9, 0, 0, 1239, []),
  (8, .invokevirtual 248, 3, 110, 1, 0, 3235, [(5, 0)]),
  (11, .aload_n 0, 1, 0, 0, 0, 0, []),
  (12, .iconst 1, 1, 0, 0, 0, 0, []),
  (13, .putfield 278, 3, 9, 3, 0, 2002, []),
  (16, .aload_n 0, 1, 0, 0, 0, 0, []),
  (17, .getfield 12, 3, 9, 0, 0, 1239, []),
  (20, .getfield 77, 3, 5, 1, 0, 1102, []),
  (23, .ireturn, 1, 0, 0, 0, 0, [])]
def m119 : MI := (⟨"LeavesObject", "image", "()I"⟩, prog_1_method_28_code, 1, (Option.some Jvm.ClassFile.FieldType.int), k119, 0, [4039, 1001, 4037, 4038])
/-- LeavesObject.undo()I -/
def k120 : List XE := [(0, .aload_n 0, 1, 0, 0, 0, 0, []),
  (1, .getfield 278, 3, 9, 3, 0, 2002, []),
  (4, .ifCond .ne 6, 3, 10, 0, 0, 0, []),
  (7, .bipush (-3), 2, 0, 0, 0, 0, []),
  (9, .ireturn, 1, 0, 0, 0, 0, []),
  (10, .aload_n 0, 1, 0, 0, 0, 0, []),
  (11, .getfield 12, 3, 9, 0, 0, 1239, []),
  (14, .aload_n 0, 1, 0, 0, 0, 0, []),
  (15, .getfield 18, 3, 9, 1, 0, 2000, []),
  (18, .invokevirtual 248, 3, 110, 1, 0, 3235, [(5, 0)]),
  (21, .aload_n 0, 1, 0, 0, 0, 0, []),
  (22, .getfield 12, 3, 9, 0, 0, 1239, []),
  (25, .getfield 77, 3, 5, 1, 0, 1102, []),
  (28, .ireturn, 1, 0, 0, 0, 0, [])]
def m120 : MI := (⟨"LeavesObject", "undo", "()I"⟩, prog_1_method_29_code, 1, (Option.some Jvm.ClassFile.FieldType.int), k120, 0, [4043, 1001, 4041, 4042])
/-- LeavesObject.act(III)I -/
def k121 : List XE := [(0, .aload_n 0, 1, 0, 0, 0, 0, []),
  (1, .getfield 59, 3, 9, 10, 0, 2009, []),
  (4, .iconst 0, 1, 0, 0, 0, 0, []),
  (5, .putfield 282, 3, 0, 1, 0, 1213, []),
  (8, .aload_n 0, 1, 0, 0, 0, 0, []),
  (9, .getfield 12, 3, 9, 0, 0, 1239, []),
  (12, .iload_n 1, 1, 1, 0, 0, 0, []),
  (13, .invokevirtual 92, 3, 17, 1, 0, 2061, [(5, 0)]),
  (16, .astore 4, 2, 4, 0, 0, 0, []),
  (18, .aload 4, 2, 4, 0, 0, 0, []),
  (20, .ifnull 12, 3, 32, 0, 0, 0, []),
  (23, .iload_n 2, 1, 2, 0, 0, 0, []),
  (24, .ifCond .lt 8, 3, 32, 0, 0, 0, []),
  (27, .iload_n 2, 1, 2, 0, 0, 0, []),
  (28, .iconst 3, 1, 0, 0, 0, 0, []),
  (29, .if_icmp .lt 5, 3, 34, 0, 0, 0, []),
  (32, .iconst 0, 1, 0, 0, 0, 0, []),
  (33, .ireturn, 1, 0, 0, 0, 0, []),
  (34, .aload_n 0, 1, 0, 0, 0, 0, []),
  (35, .getfield 59, 3, 9, 10, 0, 2009, []),
  (38, .aload 4, 2, 4, 0, 0, 0, []),
  (40, .getfield 113, 3, 1, 1, 0, 1067, []),
  (43, .aload 4, 2, 4, 0, 0, 0, []),
  (45, .iload_n 2, 1, 2, 0, 0, 0, []),
  (46, .iload_n 3, 1, 3, 0, 0, 0, []),
  (47, .iconst 0, 1, 0, 0, 0, 0, []),
  (48, .invokevirtual 285, 3, 122, 5, 1, 4048, [(0, 0)]),
  (51, .ireturn, 1, 0, 0, 0, 0, [])]
def m121 : MI := (⟨"LeavesObject", "act", "(III)I"⟩, prog_1_method_30_code, 5, (Option.some Jvm.ClassFile.FieldType.int), k121, 3, [4047, 1001, 4045, 4046])
/-- LeavesObject$Acts.runFrom(ILLeavesObject$Cup;III)I -/
def k122 : List XE := [(0, .iload 5, 2, 5, 0, 0, 0, []),
  (2, .bipush 40, 2, 0, 0, 0, 0, []),
  (4, .if_icmp .lt 5, 3, 9, 0, 0, 0, []),
  (7, .iconst 0, 1, 0, 0, 0, 0, []),
  (8, .ireturn, 1, 0, 0, 0, 0, []),
  (9, .iload 5, 2, 5, 0, 0, 0, []),
  (11, .iconst 1, 1, 0, 0, 0, 0, []),
  (12, .iadd, 1, 0, 0, 0, 0, []),
  (13, .istore 6, 2, 6, 0, 0, 0, []),
  (15, .iload_n 1, 1, 1, 0, 0, 0, []),
  (16, .iload_n 3, 1, 3, 0, 0, 0, []),
  (17, .invokestatic 33, 3, 123, 2, 4, 4052, []),
  (20, .istore 7, 2, 7, 0, 0, 0, []),
  (22, .iload 7, 2, 7, 0, 0, 0, []),
  (24, .iload_n 3, 1, 3, 0, 0, 0, []),
  (25, .invokestatic 25, 3, 124, 2, 4, 4057, []),
  (28, .istore 8, 2, 8, 0, 0, 0, []),
  (30, .aload_n 0, 1, 0, 0, 0, 0, []),
  (31, .iload 8, 2, 8, 0, 0, 0, []),
  (33, .invokevirtual 36, 3, 125, 1, 0, 4062, [(0, 0)]),
  (36, .iload 8, 2, 8, 0, 0, 0, []),
  (38, .lookupswitch 291 #[(10, 98), (11, 106), (12, 126), (20, 143), (30, 159), (40, 174), (50, 201), (51, 215), (60, 230), (70, 248), (71, 273)], 98, 329, 0, 0, 0, [(10, 136), (11, 144), (12, 164), (20, 181), (30, 197), (40, 212), (50, 239), (51, 253), (60, 268), (70, 286), (71, 311)]),
  (136, .iload 4, 2, 4, 0, 0, 0, []),
  (138, .aload_n 2, 1, 2, 0, 0, 0, []),
  (139, .getfield 40, 3, 1, 0, 0, 1065, []),
  (142, .iadd, 1, 0, 0, 0, 0, []),
  (143, .ireturn, 1, 0, 0, 0, 0, []),
  (144, .aload_n 0, 1, 0, 0, 0, 0, []),
  (145, .aload_n 2, 1, 2, 0, 0, 0, []),
  (146, .getfield 45, 3, 1, 1, 0, 1069, []),
  (149, .aload_n 2, 1, 2, 0, 0, 0, []),
  (150, .iconst 0, 1, 0, 0, 0, 0, []),
  (151, .iload 4, 2, 4, 0, 0, 0, []),
  (153, .iload 6, 2, 6, 0, 0, 0, []),
  (155, .invokevirtual 29, 3, 122, 5, 0, 4066, [(0, 0)]),
  (158, .aload_n 2, 1, 2, 0, 0, 0, []),
  (159, .getfield 48, 3, 1, 2, 0, 1073, []),
  (162, .isub, 1, 0, 0, 0, 0, []),
  (163, .ireturn, 1, 0, 0, 0, 0, []),
  (164, .aload_n 0, 1, 0, 0, 0, 0, []),
  (165, .aload_n 2, 1, 2, 0, 0, 0, []),
  (166, .getfield 45, 3, 1, 1, 0, 1069, []),
  (169, .aload_n 2, 1, 2, 0, 0, 0, []),
  (170, .iconst 1, 1, 0, 0, 0, 0, []),
  (171, .iload 4, 2, 4, 0, 0, 0, []),
  (173, .iload 6, 2, 6, 0, 0, 0, []),
  (175, .invokevirtual 29, 3, 122, 5, 0, 4066, [(0, 0)]),
  (178, .iconst 2, 1, 0, 0, 0, 0, []),
  (179, .imul, 1, 0, 0, 0, 0, []),
  (180, .ireturn, 1, 0, 0, 0, 0, []),
  (181, .aload_n 0, 1, 0, 0, 0, 0, []),
  (182, .iload 7, 2, 7, 0, 0, 0, []),
  (184, .aload_n 2, 1, 2, 0, 0, 0, []),
  (185, .iconst 1, 1, 0, 0, 0, 0, []),
  (186, .iload 4, 2, 4, 0, 0, 0, []),
  (188, .iload 6, 2, 6, 0, 0, 0, []),
  (190, .invokevirtual 51, 3, 126, 5, 0, 4067, [(0, 0)]),
  (193, .bipush 6, 2, 0, 0, 0, 0, []),
  (195, .ixor, 1, 0, 0, 0, 0, []),
  (196, .ireturn, 1, 0, 0, 0, 0, []),
  (197, .aload_n 0, 1, 0, 0, 0, 0, []),
  (198, .iload 7, 2, 7, 0, 0, 0, []),
  (200, .aload_n 2, 1, 2, 0, 0, 0, []),
  (201, .iconst 0, 1, 0, 0, 0, 0, []),
  (202, .iload 4, 2, 4, 0, 0, 0, []),
  (204, .iconst 3, 1, 0, 0, 0, 0, []),
  (205, .imul, 1, 0, 0, 0, 0, []),
  (206, .iload 6, 2, 6, 0, 0, 0, []),
  (208, .invokevirtual 51, 3, 126, 5, 0, 4067, [(0, 0)]),
  (211, .ireturn, 1, 0, 0, 0, 0, []),
  (212, .aload_n 0, 1, 0, 0, 0, 0, []),
  (213, .iload 7, 2, 7, 0, 0, 0, []),
  (215, .aload_n 2, 1, 2, 0, 0, 0, []),
  (216, .iconst 2, 1, 0, 0, 0, 0, []),
  (217, .iload 4, 2, 4, 0, 0, 0, []),
  (219, .iload 6, 2, 6, 0, 0, 0, []),
  (221, .invokevirtual 51, 3, 126, 5, 0, 4067, [(0, 0)]),
  (224, .aload_n 0, 1, 0, 0, 0, 0, []),
  (225, .aload_n 2, 1, 2, 0, 0, 0, []),
  (226, .getfield 45, 3, 1, 1, 0, 1069, []),
  (229, .aload_n 2, 1, 2, 0, 0, 0, []),
  (230, .iconst 1, 1, 0, 0, 0, 0, []),
  (231, .iconst 1, 1, 0, 0, 0, 0, []),
  (232, .iload 6, 2, 6, 0, 0, 0, []),
  (234, .invokevirtual 29, 3, 122, 5, 0, 4066, [(0, 0)]),
  (237, .iadd, 1, 0, 0, 0, 0, []),
  (238, .ireturn, 1, 0, 0, 0, 0, []),
  (239, .aload_n 0, 1, 0, 0, 0, 0, []),
  (240, .iload 7, 2, 7, 0, 0, 0, []),
  (242, .aload_n 2, 1, 2, 0, 0, 0, []),
  (243, .iconst 0, 1, 0, 0, 0, 0, []),
  (244, .iload 4, 2, 4, 0, 0, 0, []),
  (246, .iload 6, 2, 6, 0, 0, 0, []),
  (248, .invokevirtual 51, 3, 126, 5, 0, 4067, [(0, 0)]),
  (251, .ineg, 1, 0, 0, 0, 0, []),
  (252, .ireturn, 1, 0, 0, 0, 0, []),
  (253, .aload_n 0, 1, 0, 0, 0, 0, []),
  (254, .iload 7, 2, 7, 0, 0, 0, []),
  (256, .aload_n 2, 1, 2, 0, 0, 0, []),
  (257, .iconst 1, 1, 0, 0, 0, 0, []),
  (258, .iload 4, 2, 4, 0, 0, 0, []),
  (260, .iconst 1, 1, 0, 0, 0, 0, []),
  (261, .iadd, 1, 0, 0, 0, 0, []),
  (262, .iload 6, 2, 6, 0, 0, 0, []),
  (264, .invokevirtual 51, 3, 126, 5, 0, 4067, [(0, 0)]),
  (267, .ireturn, 1, 0, 0, 0, 0, []),
  (268, .aload_n 0, 1, 0, 0, 0, 0, []),
  (269, .iload 7, 2, 7, 0, 0, 0, []),
  (271, .aload_n 2, 1, 2, 0, 0, 0, []),
  (272, .iconst 2, 1, 0, 0, 0, 0, []),
  (273, .iload 4, 2, 4, 0, 0, 0, []),
  (275, .aload_n 2, 1, 2, 0, 0, 0, []),
  (276, .getfield 40, 3, 1, 0, 0, 1065, []),
  (279, .isub, 1, 0, 0, 0, 0, []),
  (280, .iload 6, 2, 6, 0, 0, 0, []),
  (282, .invokevirtual 51, 3, 126, 5, 0, 4067, [(0, 0)]),
  (285, .ireturn, 1, 0, 0, 0, 0, []),
  (286, .aload_n 0, 1, 0, 0, 0, 0, []),
  (287, .iload 7, 2, 7, 0, 0, 0, []),
  (289, .aload_n 2, 1, 2, 0, 0, 0, []),
  (290, .iconst 1, 1, 0, 0, 0, 0, []),
  (291, .iload 4, 2, 4, 0, 0, 0, []),
  (293, .iload 6, 2, 6, 0, 0, 0, []),
  (295, .invokevirtual 51, 3, 126, 5, 0, 4067, [(0, 0)]),
  (298, .aload_n 0, 1, 0, 0, 0, 0, []),
  (299, .iload 7, 2, 7, 0, 0, 0, []),
  (301, .aload_n 2, 1, 2, 0, 0, 0, []),
  (302, .iconst 0, 1, 0, 0, 0, 0, []),
  (303, .iconst 2, 1, 0, 0, 0, 0, []),
  (304, .iload 6, 2, 6, 0, 0, 0, []),
  (306, .invokevirtual 51, 3, 126, 5, 0, 4067, [(0, 0)]),
  (309, .iadd, 1, 0, 0, 0, 0, []),
  (310, .ireturn, 1, 0, 0, 0, 0, []),
  (311, .aload_n 0, 1, 0, 0, 0, 0, []),
  (312, .iload 7, 2, 7, 0, 0, 0, []),
  (314, .aload_n 2, 1, 2, 0, 0, 0, []),
  (315, .iconst 0, 1, 0, 0, 0, 0, []),
  (316, .iload 4, 2, 4, 0, 0, 0, []),
  (318, .iload 6, 2, 6, 0, 0, 0, []),
  (320, .invokevirtual 51, 3, 126, 5, 0, 4067, [(0, 0)]),
  (323, .aload_n 2, 1, 2, 0, 0, 0, []),
  (324, .getfield 48, 3, 1, 2, 0, 1073, []),
  (327, .ixor, 1, 0, 0, 0, 0, []),
  (328, .ireturn, 1, 0, 0, 0, 0, []),
  (329, .iconst 0, 1, 0, 0, 0, 0, []),
  (330, .ireturn, 1, 0, 0, 0, 0, [])]
def m122 : MI := (⟨"LeavesObject$Acts", "runFrom", "(ILLeavesObject$Cup;III)I"⟩, prog_2_method_7_code, 9, (Option.some Jvm.ClassFile.FieldType.int), k122, 5, [4051, 1009, 4050, 17])
/-- LeavesObject$Acts.kindWithBody(II)I -/
def k123 : List XE := [(0, .iload_n 0, 1, 0, 0, 0, 0, []),
  (1, .istore_n 2, 1, 2, 0, 0, 0, []),
  (2, .iconst 0, 1, 0, 0, 0, 0, []),
  (3, .istore_n 3, 1, 3, 0, 0, 0, []),
  (4, .iload_n 3, 1, 3, 0, 0, 0, []),
  (5, .bipush 7, 2, 0, 0, 0, 0, []),
  (7, .if_icmp .ge 37, 3, 44, 0, 0, 0, []),
  (10, .iload_n 2, 1, 2, 0, 0, 0, []),
  (11, .ifCond .le 33, 3, 44, 0, 0, 0, []),
  (14, .iload_n 2, 1, 2, 0, 0, 0, []),
  (15, .getstatic 22, 3, 0, 0, 0, 4055, [(1, 0)]),
  (18, .arraylength, 1, 0, 0, 0, 0, []),
  (19, .if_icmp .ge 25, 3, 44, 0, 0, 0, []),
  (22, .iload_n 2, 1, 2, 0, 0, 0, []),
  (23, .iload_n 1, 1, 1, 0, 0, 0, []),
  (24, .invokestatic 25, 3, 124, 2, 4, 4057, []),
  (27, .ifCond .eq 5, 3, 32, 0, 0, 0, []),
  (30, .iload_n 2, 1, 2, 0, 0, 0, []),
  (31, .ireturn, 1, 0, 0, 0, 0, []),
  (32, .getstatic 22, 3, 0, 0, 0, 4055, [(1, 0)]),
  (35, .iload_n 2, 1, 2, 0, 0, 0, []),
  (36, .iaload, 1, 0, 0, 0, 0, []),
  (37, .istore_n 2, 1, 2, 0, 0, 0, []),
  (38, .iinc 3 1, 3, 3, 0, 0, 0, []),
  (41, .goto (-37), 3, 4, 0, 0, 0, []),
  (44, .iconst 0, 1, 0, 0, 0, 0, []),
  (45, .ireturn, 1, 0, 0, 0, 0, [])]
def m123 : MI := (⟨"LeavesObject$Acts", "kindWithBody", "(II)I"⟩, prog_2_method_5_code, 4, (Option.some Jvm.ClassFile.FieldType.int), k123, 2, [4054, 1009, 4053, 9999])
/-- LeavesObject$Acts.bodyOf(II)I -/
def k124 : List XE := [(0, .iload_n 0, 1, 0, 0, 0, 0, []),
  (1, .iconst 3, 1, 0, 0, 0, 0, []),
  (2, .imul, 1, 0, 0, 0, 0, []),
  (3, .iload_n 1, 1, 1, 0, 0, 0, []),
  (4, .iadd, 1, 0, 0, 0, 0, []),
  (5, .istore_n 2, 1, 2, 0, 0, 0, []),
  (6, .iload_n 2, 1, 2, 0, 0, 0, []),
  (7, .ifCond .lt 19, 3, 26, 0, 0, 0, []),
  (10, .iload_n 2, 1, 2, 0, 0, 0, []),
  (11, .getstatic 19, 3, 0, 1, 0, 4060, [(1, 0)]),
  (14, .arraylength, 1, 0, 0, 0, 0, []),
  (15, .if_icmp .ge 11, 3, 26, 0, 0, 0, []),
  (18, .getstatic 19, 3, 0, 1, 0, 4060, [(1, 0)]),
  (21, .iload_n 2, 1, 2, 0, 0, 0, []),
  (22, .iaload, 1, 0, 0, 0, 0, []),
  (23, .goto 4, 3, 27, 0, 0, 0, []),
  (26, .iconst 0, 1, 0, 0, 0, 0, []),
  (27, .ireturn, 1, 0, 0, 0, 0, [])]
def m124 : MI := (⟨"LeavesObject$Acts", "bodyOf", "(II)I"⟩, prog_2_method_4_code, 3, (Option.some Jvm.ClassFile.FieldType.int), k124, 2, [4059, 1009, 4058, 9999])
/-- LeavesObject$Acts.begin(I)V -/
def k125 : List XE := [(0, .aload_n 0, 1, 0, 0, 0, 0, []),
  (1, .getfield 15, 3, 0, 1, 0, 1212, []),
  (4, .ifCond .lt 25, 3, 29, 0, 0, 0, []),
  (7, .aload_n 0, 1, 0, 0, 0, 0, []),
  (8, .getfield 15, 3, 0, 1, 0, 1212, []),
  (11, .aload_n 0, 1, 0, 0, 0, 0, []),
  (12, .getfield 9, 3, 0, 0, 0, 1211, []),
  (15, .arraylength, 1, 0, 0, 0, 0, []),
  (16, .if_icmp .ge 13, 3, 29, 0, 0, 0, []),
  (19, .aload_n 0, 1, 0, 0, 0, 0, []),
  (20, .getfield 9, 3, 0, 0, 0, 1211, []),
  (23, .aload_n 0, 1, 0, 0, 0, 0, []),
  (24, .getfield 15, 3, 0, 1, 0, 1212, []),
  (27, .iload_n 1, 1, 1, 0, 0, 0, []),
  (28, .iastore, 1, 0, 0, 0, 0, []),
  (29, .aload_n 0, 1, 0, 0, 0, 0, []),
  (30, .dup, 1, 0, 0, 0, 0, []),
  (31, .getfield 15, 3, 0, 1, 0, 1212, []),
  (34, .iconst 1, 1, 0, 0, 0, 0, []),
  (35, .iadd, 1, 0, 0, 0, 0, []),
  (36, .putfield 15, 3, 0, 1, 0, 1212, []),
  (39, .return_, 1, 0, 0, 0, 0, [])]
def m125 : MI := (⟨"LeavesObject$Acts", "begin", "(I)V"⟩, prog_2_method_3_code, 2, none, k125, 1, [4065, 1009, 4064, 18])
/-- LeavesObject$Acts.runAbove(ILLeavesObject$Cup;III)I -/
def k126 : List XE := [(0, .iload_n 1, 1, 1, 0, 0, 0, []),
  (1, .ifCond .lt 19, 3, 20, 0, 0, 0, []),
  (4, .iload_n 1, 1, 1, 0, 0, 0, []),
  (5, .getstatic 22, 3, 0, 0, 0, 4055, [(1, 0)]),
  (8, .arraylength, 1, 0, 0, 0, 0, []),
  (9, .if_icmp .ge 11, 3, 20, 0, 0, 0, []),
  (12, .getstatic 22, 3, 0, 0, 0, 4055, [(1, 0)]),
  (15, .iload_n 1, 1, 1, 0, 0, 0, []),
  (16, .iaload, 1, 0, 0, 0, 0, []),
  (17, .goto 4, 3, 21, 0, 0, 0, []),
  (20, .iconst 0, 1, 0, 0, 0, 0, []),
  (21, .istore 6, 2, 6, 0, 0, 0, []),
  (23, .aload_n 0, 1, 0, 0, 0, 0, []),
  (24, .iload 6, 2, 6, 0, 0, 0, []),
  (26, .aload_n 2, 1, 2, 0, 0, 0, []),
  (27, .iload_n 3, 1, 3, 0, 0, 0, []),
  (28, .iload 4, 2, 4, 0, 0, 0, []),
  (30, .iload 5, 2, 5, 0, 0, 0, []),
  (32, .invokevirtual 29, 3, 122, 5, 0, 4066, [(0, 0)]),
  (35, .ireturn, 1, 0, 0, 0, 0, [])]
def m126 : MI := (⟨"LeavesObject$Acts", "runAbove", "(ILLeavesObject$Cup;III)I"⟩, prog_2_method_6_code, 7, (Option.some Jvm.ClassFile.FieldType.int), k126, 5, [4070, 1009, 4069, 19])
/-- LeavesObject.trace(I)I -/
def k127 : List XE := [(0, .aload_n 0, 1, 0, 0, 0, 0, []),
  (1, .getfield 59, 3, 9, 10, 0, 2009, []),
  (4, .iload_n 1, 1, 1, 0, 0, 0, []),
  (5, .invokevirtual 289, 3, 128, 1, 0, 4075, [(0, 0)]),
  (8, .ireturn, 1, 0, 0, 0, 0, [])]
def m127 : MI := (⟨"LeavesObject", "trace", "(I)I"⟩, prog_1_method_31_code, 2, (Option.some Jvm.ClassFile.FieldType.int), k127, 1, [4074, 1001, 4072, 4073])
/-- LeavesObject$Acts.keptAt(I)I -/
def k128 : List XE := [(0, .iload_n 1, 1, 1, 0, 0, 0, []),
  (1, .ifCond .lt 29, 3, 30, 0, 0, 0, []),
  (4, .iload_n 1, 1, 1, 0, 0, 0, []),
  (5, .aload_n 0, 1, 0, 0, 0, 0, []),
  (6, .getfield 15, 3, 0, 1, 0, 1212, []),
  (9, .if_icmp .ge 21, 3, 30, 0, 0, 0, []),
  (12, .iload_n 1, 1, 1, 0, 0, 0, []),
  (13, .aload_n 0, 1, 0, 0, 0, 0, []),
  (14, .getfield 9, 3, 0, 0, 0, 1211, []),
  (17, .arraylength, 1, 0, 0, 0, 0, []),
  (18, .if_icmp .ge 12, 3, 30, 0, 0, 0, []),
  (21, .aload_n 0, 1, 0, 0, 0, 0, []),
  (22, .getfield 9, 3, 0, 0, 0, 1211, []),
  (25, .iload_n 1, 1, 1, 0, 0, 0, []),
  (26, .iaload, 1, 0, 0, 0, 0, []),
  (27, .goto 4, 3, 31, 0, 0, 0, []),
  (30, .iconst (-1), 1, 0, 0, 0, 0, []),
  (31, .ireturn, 1, 0, 0, 0, 0, [])]
def m128 : MI := (⟨"LeavesObject$Acts", "keptAt", "(I)I"⟩, prog_2_method_2_code, 2, (Option.some Jvm.ClassFile.FieldType.int), k128, 1, [4078, 1009, 4076, 4077])
/-- LeavesObject.taken(II)I -/
def k129 : List XE := [(0, .iload_n 2, 1, 2, 0, 0, 0, []),
  (1, .ifCond .lt 9, 3, 10, 0, 0, 0, []),
  (4, .iload_n 2, 1, 2, 0, 0, 0, []),
  (5, .bipush 7, 2, 0, 0, 0, 0, []),
  (7, .if_icmp .lt 6, 3, 13, 0, 0, 0, []),
  (10, .bipush (-2), 2, 0, 0, 0, 0, []),
  (12, .ireturn, 1, 0, 0, 0, 0, []),
  (13, .aload_n 0, 1, 0, 0, 0, 0, []),
  (14, .getfield 12, 3, 9, 0, 0, 1239, []),
  (17, .iload_n 1, 1, 1, 0, 0, 0, []),
  (18, .invokevirtual 92, 3, 17, 1, 0, 2061, [(5, 0)]),
  (21, .astore_n 3, 1, 3, 0, 0, 0, []),
  (22, .aload_n 3, 1, 3, 0, 0, 0, []),
  (23, .ifnonnull 6, 3, 29, 0, 0, 0, []),
  (26, .bipush (-11), 2, 0, 0, 0, 0, []),
  (28, .ireturn, 1, 0, 0, 0, 0, []),
  (29, .aload_n 3, 1, 3, 0, 0, 0, []),
  (30, .iload_n 2, 1, 2, 0, 0, 0, []),
  (31, .invokevirtual 292, 3, 130, 1, 0, 4083, [(1, 0)]),
  (34, .ifCond .eq 10, 3, 44, 0, 0, 0, []),
  (37, .aload_n 3, 1, 3, 0, 0, 0, []),
  (38, .getfield 113, 3, 1, 1, 0, 1067, []),
  (41, .goto 5, 3, 46, 0, 0, 0, []),
  (44, .bipush (-12), 2, 0, 0, 0, 0, []),
  (46, .ireturn, 1, 0, 0, 0, 0, [])]
def m129 : MI := (⟨"LeavesObject", "taken", "(II)I"⟩, prog_1_method_32_code, 4, (Option.some Jvm.ClassFile.FieldType.int), k129, 2, [4082, 1001, 4080, 4081])
/-- LeavesObject$Cup.isUnder(I)Z -/
def k130 : List XE := [(0, .aload_n 0, 1, 0, 0, 0, 0, []),
  (1, .getfield 19, 3, 1, 1, 0, 1066, []),
  (4, .istore_n 2, 1, 2, 0, 0, 0, []),
  (5, .iconst 0, 1, 0, 0, 0, 0, []),
  (6, .istore_n 3, 1, 3, 0, 0, 0, []),
  (7, .iload_n 3, 1, 3, 0, 0, 0, []),
  (8, .bipush 7, 2, 0, 0, 0, 0, []),
  (10, .if_icmp .ge 34, 3, 44, 0, 0, 0, []),
  (13, .iload_n 2, 1, 2, 0, 0, 0, []),
  (14, .ifCond .lt 30, 3, 44, 0, 0, 0, []),
  (17, .iload_n 2, 1, 2, 0, 0, 0, []),
  (18, .getstatic 46, 3, 0, 0, 0, 4087, [(1, 0)]),
  (21, .arraylength, 1, 0, 0, 0, 0, []),
  (22, .if_icmp .ge 22, 3, 44, 0, 0, 0, []),
  (25, .iload_n 2, 1, 2, 0, 0, 0, []),
  (26, .iload_n 1, 1, 1, 0, 0, 0, []),
  (27, .if_icmp .ne 5, 3, 32, 0, 0, 0, []),
  (30, .iconst 1, 1, 0, 0, 0, 0, []),
  (31, .ireturn, 1, 0, 0, 0, 0, []),
  (32, .getstatic 46, 3, 0, 0, 0, 4087, [(1, 0)]),
  (35, .iload_n 2, 1, 2, 0, 0, 0, []),
  (36, .iaload, 1, 0, 0, 0, 0, []),
  (37, .istore_n 2, 1, 2, 0, 0, 0, []),
  (38, .iinc 3 1, 3, 3, 0, 0, 0, []),
  (41, .goto (-34), 3, 7, 0, 0, 0, []),
  (44, .iconst 0, 1, 0, 0, 0, 0, []),
  (45, .ireturn, 1, 0, 0, 0, 0, [])]
def m130 : MI := (⟨"LeavesObject$Cup", "isUnder", "(I)Z"⟩, prog_3_method_6_code, 4, (Option.some Jvm.ClassFile.FieldType.boolean), k130, 1, [4086, 1005, 4084, 4085])
/-- LeavesObject.count(I)I -/
def k131 : List XE := [(0, .iload_n 1, 1, 1, 0, 0, 0, []),
  (1, .tableswitch 105 0 6 #[43, 51, 56, 67, 78, 89, 97], 43, 106, 0, 0, 0, [(0, 44), (1, 52), (2, 57), (3, 68), (4, 79), (5, 90), (6, 98)]),
  (44, .aload_n 0, 1, 0, 0, 0, 0, []),
  (45, .getfield 12, 3, 9, 0, 0, 1239, []),
  (48, .getfield 77, 3, 5, 1, 0, 1102, []),
  (51, .ireturn, 1, 0, 0, 0, 0, []),
  (52, .aload_n 0, 1, 0, 0, 0, 0, []),
  (53, .getfield 142, 3, 9, 6, 0, 2005, []),
  (56, .ireturn, 1, 0, 0, 0, 0, []),
  (57, .aload_n 0, 1, 0, 0, 0, 0, []),
  (58, .getfield 12, 3, 9, 0, 0, 1239, []),
  (61, .getfield 222, 3, 5, 4, 0, 1109, []),
  (64, .getfield 226, 3, 4, 2, 0, 1048, []),
  (67, .ireturn, 1, 0, 0, 0, 0, []),
  (68, .aload_n 0, 1, 0, 0, 0, 0, []),
  (69, .getfield 12, 3, 9, 0, 0, 1239, []),
  (72, .getfield 245, 3, 5, 5, 0, 1111, []),
  (75, .getfield 226, 3, 4, 2, 0, 1048, []),
  (78, .ireturn, 1, 0, 0, 0, 0, []),
  (79, .aload_n 0, 1, 0, 0, 0, 0, []),
  (80, .getfield 12, 3, 9, 0, 0, 1239, []),
  (83, .getfield 257, 3, 5, 6, 0, 1113, []),
  (86, .getfield 226, 3, 4, 2, 0, 1048, []),
  (89, .ireturn, 1, 0, 0, 0, 0, []),
  (90, .aload_n 0, 1, 0, 0, 0, 0, []),
  (91, .getfield 27, 3, 9, 4, 0, 2003, []),
  (94, .getfield 139, 3, 7, 1, 0, 1137, []),
  (97, .ireturn, 1, 0, 0, 0, 0, []),
  (98, .aload_n 0, 1, 0, 0, 0, 0, []),
  (99, .getfield 59, 3, 9, 10, 0, 2009, []),
  (102, .getfield 282, 3, 0, 1, 0, 1213, []),
  (105, .ireturn, 1, 0, 0, 0, 0, []),
  (106, .bipush (-2), 2, 0, 0, 0, 0, []),
  (108, .ireturn, 1, 0, 0, 0, 0, [])]
def m131 : MI := (⟨"LeavesObject", "count", "(I)I"⟩, prog_1_method_33_code, 2, (Option.some Jvm.ClassFile.FieldType.int), k131, 1, [4091, 1001, 4089, 4090])
/-- LeavesObject.tape(III)I -/
def k132 : List XE := [(0, .aload_n 0, 1, 0, 0, 0, 0, []),
  (1, .iload_n 1, 1, 1, 0, 0, 0, []),
  (2, .invokevirtual 260, 3, 115, 1, 0, 4019, [(9, 0)]),
  (5, .astore 4, 2, 4, 0, 0, 0, []),
  (7, .aload 4, 2, 4, 0, 0, 0, []),
  (9, .ifnonnull 5, 3, 14, 0, 0, 0, []),
  (12, .iconst (-1), 1, 0, 0, 0, 0, []),
  (13, .ireturn, 1, 0, 0, 0, 0, []),
  (14, .iload_n 2, 1, 2, 0, 0, 0, []),
  (15, .iconst (-1), 1, 0, 0, 0, 0, []),
  (16, .if_icmp .ne 12, 3, 28, 0, 0, 0, []),
  (19, .aload 4, 2, 4, 0, 0, 0, []),
  (21, .iload_n 2, 1, 2, 0, 0, 0, []),
  (22, .iconst 0, 1, 0, 0, 0, 0, []),
  (23, .invokevirtual 295, 3, 133, 2, 0, 4096, [(6, 0)]),
  (26, .iconst 1, 1, 0, 0, 0, 0, []),
  (27, .ireturn, 1, 0, 0, 0, 0, []),
  (28, .iload_n 2, 1, 2, 0, 0, 0, []),
  (29, .ifCond .lt 14, 3, 43, 0, 0, 0, []),
  (32, .iload_n 2, 1, 2, 0, 0, 0, []),
  (33, .iconst 4, 1, 0, 0, 0, 0, []),
  (34, .if_icmp .gt 9, 3, 43, 0, 0, 0, []),
  (37, .iload_n 3, 1, 3, 0, 0, 0, []),
  (38, .bipush 60, 2, 0, 0, 0, 0, []),
  (40, .if_icmp .le 6, 3, 46, 0, 0, 0, []),
  (43, .bipush (-2), 2, 0, 0, 0, 0, []),
  (45, .ireturn, 1, 0, 0, 0, 0, []),
  (46, .iload_n 3, 1, 3, 0, 0, 0, []),
  (47, .ifCond .ge 6, 3, 53, 0, 0, 0, []),
  (50, .bipush (-14), 2, 0, 0, 0, 0, []),
  (52, .ireturn, 1, 0, 0, 0, 0, []),
  (53, .aload 4, 2, 4, 0, 0, 0, []),
  (55, .iload_n 2, 1, 2, 0, 0, 0, []),
  (56, .iload_n 3, 1, 3, 0, 0, 0, []),
  (57, .invokevirtual 295, 3, 133, 2, 0, 4096, [(6, 0)]),
  (60, .iconst 1, 1, 0, 0, 0, 0, []),
  (61, .ireturn, 1, 0, 0, 0, 0, [])]
def m132 : MI := (⟨"LeavesObject", "tape", "(III)I"⟩, prog_1_method_34_code, 5, (Option.some Jvm.ClassFile.FieldType.int), k132, 3, [4095, 1001, 4093, 4094])
/-- LeavesObject$Tape.become(II)V -/
def k133 : List XE := [(0, .aload_n 0, 1, 0, 0, 0, 0, []),
  (1, .iload_n 1, 1, 1, 0, 0, 0, []),
  (2, .putfield 9, 3, 6, 0, 0, 1226, []),
  (5, .aload_n 0, 1, 0, 0, 0, 0, []),
  (6, .iload_n 2, 1, 2, 0, 0, 0, []),
  (7, .putfield 19, 3, 6, 1, 0, 1228, []),
  (10, .aload_n 0, 1, 0, 0, 0, 0, []),
  (11, .getfield 15, 3, 6, 2, 0, 1229, []),
  (14, .lconst 0, 1, 0, 0, 0, 0, []),
  (15, .invokestatic 22, 3, 134, 2, 5, 4100, []),
  (18, .return_, 1, 0, 0, 0, 0, [])]
def m133 : MI := (⟨"LeavesObject$Tape", "become", "(II)V"⟩, prog_8_method_3_code, 3, none, k133, 2, [4099, 1010, 4097, 4098])
/-- java/util/Arrays.fill([JJ)V -/
def k134 : List XE := [(0, .iconst 0, 1, 0, 0, 0, 0, []),
  (1, .istore_n 3, 1, 3, 0, 0, 0, []),
  (2, .aload_n 0, 1, 0, 0, 0, 0, []),
  (3, .arraylength, 1, 0, 0, 0, 0, []),
  (4, .istore 4, 2, 4, 0, 0, 0, []),
  (6, .iload_n 3, 1, 3, 0, 0, 0, []),
  (7, .iload 4, 2, 4, 0, 0, 0, []),
  (9, .if_icmp .ge 13, 3, 22, 0, 0, 0, []),
  (12, .aload_n 0, 1, 0, 0, 0, 0, []),
  (13, .iload_n 3, 1, 3, 0, 0, 0, []),
  (14, .lload_n 1, 1, 1, 0, 0, 0, []),
  (15, .lastore, 1, 0, 0, 0, 0, []),
  (16, .iinc 3 1, 3, 3, 0, 0, 0, []),
  (19, .goto (-13), 3, 6, 0, 0, 0, []),
  (22, .return_, 1, 0, 0, 0, 0, [])]
def m134 : MI := (⟨"java/util/Arrays", "fill", "([JJ)V"⟩, prog_19_method_101_code, 5, none, k134, 2, [4102, 1012, 4101, 9999])
/-- LeavesObject.item(IIJ)I -/
def k135 : List XE := [(0, .aload_n 0, 1, 0, 0, 0, 0, []),
  (1, .iload_n 1, 1, 1, 0, 0, 0, []),
  (2, .invokevirtual 260, 3, 115, 1, 0, 4019, [(9, 0)]),
  (5, .astore 5, 2, 5, 0, 0, 0, []),
  (7, .aload 5, 2, 5, 0, 0, 0, []),
  (9, .ifnonnull 5, 3, 14, 0, 0, 0, []),
  (12, .iconst (-1), 1, 0, 0, 0, 0, []),
  (13, .ireturn, 1, 0, 0, 0, 0, []),
  (14, .aload 5, 2, 5, 0, 0, 0, []),
  (16, .invokevirtual 264, 3, 116, 0, 0, 4023, [(6, 0)]),
  (19, .ifCond .ne 6, 3, 25, 0, 0, 0, []),
  (22, .bipush (-11), 2, 0, 0, 0, 0, []),
  (24, .ireturn, 1, 0, 0, 0, 0, []),
  (25, .aload 5, 2, 5, 0, 0, 0, []),
  (27, .iload_n 2, 1, 2, 0, 0, 0, []),
  (28, .iconst 1, 1, 0, 0, 0, 0, []),
  (29, .invokevirtual 271, 3, 117, 2, 0, 4027, [(6, 0)]),
  (32, .ifCond .ne 6, 3, 38, 0, 0, 0, []),
  (35, .bipush (-13), 2, 0, 0, 0, 0, []),
  (37, .ireturn, 1, 0, 0, 0, 0, []),
  (38, .aload 5, 2, 5, 0, 0, 0, []),
  (40, .iload_n 2, 1, 2, 0, 0, 0, []),
  (41, .lload_n 3, 1, 3, 0, 0, 0, []),
  (42, .invokevirtual 297, 3, 136, 2, 0, 4107, [(6, 0)]),
  (45, .iconst 1, 1, 0, 0, 0, 0, []),
  (46, .ireturn, 1, 0, 0, 0, 0, [])]
def m135 : MI := (⟨"LeavesObject", "item", "(IIJ)I"⟩, prog_1_method_35_code, 6, (Option.some Jvm.ClassFile.FieldType.int), k135, 3, [4106, 1001, 4104, 4105])
/-- LeavesObject$Tape.setItem(IJ)V -/
def k136 : List XE := [(0, .iload_n 1, 1, 1, 0, 0, 0, []),
  (1, .ifCond .lt 23, 3, 24, 0, 0, 0, []),
  (4, .iload_n 1, 1, 1, 0, 0, 0, []),
  (5, .aload_n 0, 1, 0, 0, 0, 0, []),
  (6, .getfield 15, 3, 6, 2, 0, 1229, []),
  (9, .arraylength, 1, 0, 0, 0, 0, []),
  (10, .if_icmp .ge 14, 3, 24, 0, 0, 0, []),
  (13, .aload_n 0, 1, 0, 0, 0, 0, []),
  (14, .getfield 15, 3, 6, 2, 0, 1229, []),
  (17, .iload_n 1, 1, 1, 0, 0, 0, []),
  (18, .aload_n 0, 1, 0, 0, 0, 0, []),
  (19, .lload_n 2, 1, 2, 0, 0, 0, []),
  (20, .invokevirtual 32, 3, 137, 1, 0, 4111, [(6, 0)]),
  (23, .lastore, 1, 0, 0, 0, 0, []),
  (24, .return_, 1, 0, 0, 0, 0, [])]
def m136 : MI := (⟨"LeavesObject$Tape", "setItem", "(IJ)V"⟩, prog_8_method_6_code, 4, none, k136, 2, [4110, 1010, 4108, 4109])
/-- LeavesObject$Tape.cut(J)J -/
def k137 : List XE := [(0, .aload_n 0, 1, 0, 0, 0, 0, []),
  (1, .getfield 9, 3, 6, 0, 0, 1226, []),
  (4, .tableswitch 48 0 3 #[32, 37, 42, 46], 32, 52, 0, 0, 0, [(0, 36), (1, 41), (2, 46), (3, 50)]),
  (36, .lload_n 1, 1, 1, 0, 0, 0, []),
  (37, .l2i, 1, 0, 0, 0, 0, []),
  (38, .i2b, 1, 0, 0, 0, 0, []),
  (39, .i2l, 1, 0, 0, 0, 0, []),
  (40, .lreturn, 1, 0, 0, 0, 0, []),
  (41, .lload_n 1, 1, 1, 0, 0, 0, []),
  (42, .l2i, 1, 0, 0, 0, 0, []),
  (43, .i2s, 1, 0, 0, 0, 0, []),
  (44, .i2l, 1, 0, 0, 0, 0, []),
  (45, .lreturn, 1, 0, 0, 0, 0, []),
  (46, .lload_n 1, 1, 1, 0, 0, 0, []),
  (47, .l2i, 1, 0, 0, 0, 0, []),
  (48, .i2l, 1, 0, 0, 0, 0, []),
  (49, .lreturn, 1, 0, 0, 0, 0, []),
  (50, .lload_n 1, 1, 1, 0, 0, 0, []),
  (51, .lreturn, 1, 0, 0, 0, 0, []),
  (52, .lload_n 1, 1, 1, 0, 0, 0, []),
  (53, .lconst 0, 1, 0, 0, 0, 0, []),
  (54, .lcmp, 1, 0, 0, 0, 0, []),
  (55, .ifCond .eq 7, 3, 62, 0, 0, 0, []),
  (58, .lconst 1, 1, 0, 0, 0, 0, []),
  (59, .goto 4, 3, 63, 0, 0, 0, []),
  (62, .lconst 0, 1, 0, 0, 0, 0, []),
  (63, .lreturn, 1, 0, 0, 0, 0, [])]
def m137 : MI := (⟨"LeavesObject$Tape", "cut", "(J)J"⟩, prog_8_method_7_code, 3, (Option.some Jvm.ClassFile.FieldType.long), k137, 1, [4114, 1010, 4113, 20])
/-- LeavesObject.read(II)J -/
def k138 : List XE := [(0, .aload_n 0, 1, 0, 0, 0, 0, []),
  (1, .iload_n 1, 1, 1, 0, 0, 0, []),
  (2, .invokevirtual 260, 3, 115, 1, 0, 4019, [(9, 0)]),
  (5, .astore_n 3, 1, 3, 0, 0, 0, []),
  (6, .aload_n 3, 1, 3, 0, 0, 0, []),
  (7, .ifnull 12, 3, 19, 0, 0, 0, []),
  (10, .aload_n 3, 1, 3, 0, 0, 0, []),
  (11, .iload_n 2, 1, 2, 0, 0, 0, []),
  (12, .iconst 1, 1, 0, 0, 0, 0, []),
  (13, .invokevirtual 271, 3, 117, 2, 0, 4027, [(6, 0)]),
  (16, .ifCond .ne 7, 3, 23, 0, 0, 0, []),
  (19, .ldc2_w 239, 3, 0, 0, 0, 3215, [((-9223372036854775808), 0)]),
  (22, .lreturn, 1, 0, 0, 0, 0, []),
  (23, .aload_n 3, 1, 3, 0, 0, 0, []),
  (24, .iload_n 2, 1, 2, 0, 0, 0, []),
  (25, .invokevirtual 274, 3, 118, 1, 0, 4032, [(6, 0)]),
  (28, .lreturn, 1, 0, 0, 0, 0, [])]
def m138 : MI := (⟨"LeavesObject", "read", "(II)J"⟩, prog_1_method_36_code, 4, (Option.some Jvm.ClassFile.FieldType.long), k138, 2, [4118, 1001, 4116, 4117])
/-- LeavesObject.shift(IIIII)I -/
def k139 : List XE := [(0, .aload_n 0, 1, 0, 0, 0, 0, []),
  (1, .iload_n 1, 1, 1, 0, 0, 0, []),
  (2, .invokevirtual 260, 3, 115, 1, 0, 4019, [(9, 0)]),
  (5, .astore 6, 2, 6, 0, 0, 0, []),
  (7, .aload_n 0, 1, 0, 0, 0, 0, []),
  (8, .iload_n 3, 1, 3, 0, 0, 0, []),
  (9, .invokevirtual 260, 3, 115, 1, 0, 4019, [(9, 0)]),
  (12, .astore 7, 2, 7, 0, 0, 0, []),
  (14, .aload 6, 2, 6, 0, 0, 0, []),
  (16, .ifnull 8, 3, 24, 0, 0, 0, []),
  (19, .aload 7, 2, 7, 0, 0, 0, []),
  (21, .ifnonnull 5, 3, 26, 0, 0, 0, []),
  (24, .iconst (-1), 1, 0, 0, 0, 0, []),
  (25, .ireturn, 1, 0, 0, 0, 0, []),
  (26, .aload 6, 2, 6, 0, 0, 0, []),
  (28, .invokevirtual 264, 3, 116, 0, 0, 4023, [(6, 0)]),
  (31, .ifCond .eq 11, 3, 42, 0, 0, 0, []),
  (34, .aload 7, 2, 7, 0, 0, 0, []),
  (36, .invokevirtual 264, 3, 116, 0, 0, 4023, [(6, 0)]),
  (39, .ifCond .ne 6, 3, 45, 0, 0, 0, []),
  (42, .bipush (-11), 2, 0, 0, 0, 0, []),
  (44, .ireturn, 1, 0, 0, 0, 0, []),
  (45, .aload 6, 2, 6, 0, 0, 0, []),
  (47, .getfield 268, 3, 6, 0, 0, 1227, []),
  (50, .aload 7, 2, 7, 0, 0, 0, []),
  (52, .getfield 268, 3, 6, 0, 0, 1227, []),
  (55, .if_icmp .eq 6, 3, 61, 0, 0, 0, []),
  (58, .bipush (-12), 2, 0, 0, 0, 0, []),
  (60, .ireturn, 1, 0, 0, 0, 0, []),
  (61, .aload 6, 2, 6, 0, 0, 0, []),
  (63, .iload_n 2, 1, 2, 0, 0, 0, []),
  (64, .iload 5, 2, 5, 0, 0, 0, []),
  (66, .invokevirtual 271, 3, 117, 2, 0, 4027, [(6, 0)]),
  (69, .ifCond .eq 15, 3, 84, 0, 0, 0, []),
  (72, .aload 7, 2, 7, 0, 0, 0, []),
  (74, .iload 4, 2, 4, 0, 0, 0, []),
  (76, .iload 5, 2, 5, 0, 0, 0, []),
  (78, .invokevirtual 271, 3, 117, 2, 0, 4027, [(6, 0)]),
  (81, .ifCond .ne 6, 3, 87, 0, 0, 0, []),
  (84, .bipush (-13), 2, 0, 0, 0, 0, []),
  (86, .ireturn, 1, 0, 0, 0, 0, []),
  (87, .aload 6, 2, 6, 0, 0, 0, []),
  (89, .getfield 301, 3, 6, 2, 0, 1230, []),
  (92, .iload_n 2, 1, 2, 0, 0, 0, []),
  (93, .aload 7, 2, 7, 0, 0, 0, []),
  (95, .getfield 301, 3, 6, 2, 0, 1230, []),
  (98, .iload 4, 2, 4, 0, 0, 0, []),
  (100, .iload 5, 2, 5, 0, 0, 0, []),
  (102, .invokestatic 305, 3, 0, 5, 20, 4123, []),
  (105, .iload 5, 2, 5, 0, 0, 0, []),
  (107, .ireturn, 1, 0, 0, 0, 0, [])]
def m139 : MI := (⟨"LeavesObject", "shift", "(IIIII)I"⟩, prog_1_method_37_code, 8, (Option.some Jvm.ClassFile.FieldType.int), k139, 5, [4122, 1001, 4120, 4121])
/-- LeavesObjectModel.<init>()V -/
def k140 : List XE := [(0, .aload_n 0, 1, 0, 0, 0, 0, []),
  (1, .invokespecial 1, 3, 0, 0, 21, 4129, []),
  (4, .aload_n 0, 1, 0, 0, 0, 0, []),
  (5, .iconst 0, 1, 0, 0, 0, 0, []),
  (6, .putfield 7, 3, 10, 0, 0, 4130, []),
  (9, .aload_n 0, 1, 0, 0, 0, 0, []),
  (10, .iconst 0, 1, 0, 0, 0, 0, []),
  (11, .putfield 13, 3, 10, 1, 0, 4131, []),
  (14, .aload_n 0, 1, 0, 0, 0, 0, []),
  (15, .iconst 5, 1, 0, 0, 0, 0, []),
  (16, .newarray .int, 2, 0, 0, 0, 0, []),
  (18, .putfield 16, 3, 10, 2, 1, 4132, []),
  (21, .aload_n 0, 1, 0, 0, 0, 0, []),
  (22, .iconst 5, 1, 0, 0, 0, 0, []),
  (23, .newarray .int, 2, 0, 0, 0, 0, []),
  (25, .putfield 20, 3, 10, 3, 1, 4133, []),
  (28, .aload_n 0, 1, 0, 0, 0, 0, []),
  (29, .iconst 5, 1, 0, 0, 0, 0, []),
  (30, .newarray .int, 2, 0, 0, 0, 0, []),
  (32, .putfield 23, 3, 10, 4, 1, 4134, []),
  (35, .aload_n 0, 1, 0, 0, 0, 0, []),
  (36, .iconst 5, 1, 0, 0, 0, 0, []),
  (37, .newarray .int, 2, 0, 0, 0, 0, []),
  (39, .putfield 26, 3, 10, 5, 1, 4135, []),
  (42, .aload_n 0, 1, 0, 0, 0, 0, []),
  (43, .iconst 5, 1, 0, 0, 0, 0, []),
  (44, .newarray .int, 2, 0, 0, 0, 0, []),
  (46, .putfield 29, 3, 10, 6, 1, 4136, []),
  (49, .aload_n 0, 1, 0, 0, 0, 0, []),
  (50, .bipush 20, 2, 0, 0, 0, 0, []),
  (52, .newarray .int, 2, 0, 0, 0, 0, []),
  (54, .putfield 32, 3, 10, 7, 1, 4137, []),
  (57, .aload_n 0, 1, 0, 0, 0, 0, []),
  (58, .iconst 0, 1, 0, 0, 0, 0, []),
  (59, .putfield 35, 3, 10, 8, 0, 4138, []),
  (62, .aload_n 0, 1, 0, 0, 0, 0, []),
  (63, .iconst (-1), 1, 0, 0, 0, 0, []),
  (64, .putfield 38, 3, 10, 9, 0, 4139, []),
  (67, .aload_n 0, 1, 0, 0, 0, 0, []),
  (68, .iconst 0, 1, 0, 0, 0, 0, []),
  (69, .putfield 41, 3, 10, 10, 0, 4140, []),
  (72, .aload_n 0, 1, 0, 0, 0, 0, []),
  (73, .iconst 0, 1, 0, 0, 0, 0, []),
  (74, .putfield 44, 3, 10, 11, 0, 4141, []),
  (77, .aload_n 0, 1, 0, 0, 0, 0, []),
  (78, .iconst 0, 1, 0, 0, 0, 0, []),
  (79, .putfield 47, 3, 10, 12, 0, 4142, []),
  (82, .aload_n 0, 1, 0, 0, 0, 0, []),
  (83, .bipush 100, 2, 0, 0, 0, 0, []),
  (85, .newarray .int, 2, 0, 0, 0, 0, []),
  (87, .putfield 50, 3, 10, 13, 1, 4143, []),
  (90, .aload_n 0, 1, 0, 0, 0, 0, []),
  (91, .bipush 6, 2, 0, 0, 0, 0, []),
  (93, .newarray .int, 2, 0, 0, 0, 0, []),
  (95, .putfield 53, 3, 10, 14, 1, 4144, []),
  (98, .aload_n 0, 1, 0, 0, 0, 0, []),
  (99, .bipush 60, 2, 0, 0, 0, 0, []),
  (101, .newarray .int, 2, 0, 0, 0, 0, []),
  (103, .putfield 56, 3, 10, 15, 1, 4145, []),
  (106, .aload_n 0, 1, 0, 0, 0, 0, []),
  (107, .bipush 60, 2, 0, 0, 0, 0, []),
  (109, .newarray .int, 2, 0, 0, 0, 0, []),
  (111, .putfield 59, 3, 10, 16, 1, 4146, []),
  (114, .aload_n 0, 1, 0, 0, 0, 0, []),
  (115, .bipush 60, 2, 0, 0, 0, 0, []),
  (117, .newarray .int, 2, 0, 0, 0, 0, []),
  (119, .putfield 62, 3, 10, 17, 1, 4147, []),
  (122, .aload_n 0, 1, 0, 0, 0, 0, []),
  (123, .bipush 60, 2, 0, 0, 0, 0, []),
  (125, .newarray .int, 2, 0, 0, 0, 0, []),
  (127, .putfield 65, 3, 10, 18, 1, 4148, []),
  (130, .aload_n 0, 1, 0, 0, 0, 0, []),
  (131, .sipush 600, 3, 0, 0, 0, 0, []),
  (134, .newarray .int, 2, 0, 0, 0, 0, []),
  (136, .putfield 68, 3, 10, 19, 1, 4149, []),
  (139, .aload_n 0, 1, 0, 0, 0, 0, []),
  (140, .bipush 101, 2, 0, 0, 0, 0, []),
  (142, .newarray .int, 2, 0, 0, 0, 0, []),
  (144, .putfield 71, 3, 10, 20, 1, 4150, []),
  (147, .aload_n 0, 1, 0, 0, 0, 0, []),
  (148, .iconst 0, 1, 0, 0, 0, 0, []),
  (149, .putfield 74, 3, 10, 21, 0, 4151, []),
  (152, .aload_n 0, 1, 0, 0, 0, 0, []),
  (153, .iconst 0, 1, 0, 0, 0, 0, []),
  (154, .putfield 77, 3, 10, 22, 0, 4152, []),
  (157, .aload_n 0, 1, 0, 0, 0, 0, []),
  (158, .iconst 0, 1, 0, 0, 0, 0, []),
  (159, .putfield 80, 3, 10, 23, 0, 4153, []),
  (162, .aload_n 0, 1, 0, 0, 0, 0, []),
  (163, .bipush 16, 2, 0, 0, 0, 0, []),
  (165, .newarray .int, 2, 0, 0, 0, 0, []),
  (167, .dup, 1, 0, 0, 0, 0, []),
  (168, .iconst 0, 1, 0, 0, 0, 0, []),
  (169, .bipush 119, 2, 0, 0, 0, 0, []),
  (171, .iastore, 1, 0, 0, 0, 0, []),
  (172, .dup, 1, 0, 0, 0, 0, []),
  (173, .iconst 1, 1, 0, 0, 0, 0, []),
  (174, .bipush 105, 2, 0, 0, 0, 0, []),
  (176, .iastore, 1, 0, 0, 0, 0, []),
  (177, .dup, 1, 0, 0, 0, 0, []),
  (178, .iconst 2, 1, 0, 0, 0, 0, []),
  (179, .bipush 108, 2, 0, 0, 0, 0, []),
  (181, .iastore, 1, 0, 0, 0, 0, []),
  (182, .dup, 1, 0, 0, 0, 0, []),
  (183, .iconst 3, 1, 0, 0, 0, 0, []),
  (184, .bipush 108, 2, 0, 0, 0, 0, []),
  (186, .iastore, 1, 0, 0, 0, 0, []),
  (187, .dup, 1, 0, 0, 0, 0, []),
  (188, .iconst 4, 1, 0, 0, 0, 0, []),
  (189, .bipush 98, 2, 0, 0, 0, 0, []),
  (191, .iastore, 1, 0, 0, 0, 0, []),
  (192, .dup, 1, 0, 0, 0, 0, []),
  (193, .iconst 5, 1, 0, 0, 0, 0, []),
  (194, .bipush 97, 2, 0, 0, 0, 0, []),
  (196, .iastore, 1, 0, 0, 0, 0, []),
  (197, .dup, 1, 0, 0, 0, 0, []),
  (198, .bipush 6, 2, 0, 0, 0, 0, []),
  (200, .bipush 108, 2, 0, 0, 0, 0, []),
  (202, .iastore, 1, 0, 0, 0, 0, []),
  (203, .dup, 1, 0, 0, 0, 0, []),
  (204, .bipush 7, 2, 0, 0, 0, 0, []),
  (206, .bipush 107, 2, 0, 0, 0, 0, []),
  (208, .iastore, 1, 0, 0, 0, 0, []),
  (209, .dup, 1, 0, 0, 0, 0, []),
  (210, .bipush 8, 2, 0, 0, 0, 0, []),
  (212, .bipush 114, 2, 0, 0, 0, 0, []),
  (214, .iastore, 1, 0, 0, 0, 0, []),
  (215, .dup, 1, 0, 0, 0, 0, []),
  (216, .bipush 9, 2, 0, 0, 0, 0, []),
  (218, .bipush 105, 2, 0, 0, 0, 0, []),
  (220, .iastore, 1, 0, 0, 0, 0, []),
  (221, .dup, 1, 0, 0, 0, 0, []),
  (222, .bipush 10, 2, 0, 0, 0, 0, []),
  (224, .bipush 115, 2, 0, 0, 0, 0, []),
  (226, .iastore, 1, 0, 0, 0, 0, []),
  (227, .dup, 1, 0, 0, 0, 0, []),
  (228, .bipush 11, 2, 0, 0, 0, 0, []),
  (230, .bipush 101, 2, 0, 0, 0, 0, []),
  (232, .iastore, 1, 0, 0, 0, 0, []),
  (233, .dup, 1, 0, 0, 0, 0, []),
  (234, .bipush 12, 2, 0, 0, 0, 0, []),
  (236, .bipush 102, 2, 0, 0, 0, 0, []),
  (238, .iastore, 1, 0, 0, 0, 0, []),
  (239, .dup, 1, 0, 0, 0, 0, []),
  (240, .bipush 13, 2, 0, 0, 0, 0, []),
  (242, .bipush 97, 2, 0, 0, 0, 0, []),
  (244, .iastore, 1, 0, 0, 0, 0, []),
  (245, .dup, 1, 0, 0, 0, 0, []),
  (246, .bipush 14, 2, 0, 0, 0, 0, []),
  (248, .bipush 108, 2, 0, 0, 0, 0, []),
  (250, .iastore, 1, 0, 0, 0, 0, []),
  (251, .dup, 1, 0, 0, 0, 0, []),
  (252, .bipush 15, 2, 0, 0, 0, 0, []),
  (254, .bipush 108, 2, 0, 0, 0, 0, []),
  (256, .iastore, 1, 0, 0, 0, 0, []),
  (257, .putfield 83, 3, 10, 24, 1, 4154, []),
  (260, .aload_n 0, 1, 0, 0, 0, 0, []),
  (261, .bipush 100, 2, 0, 0, 0, 0, []),
  (263, .newarray .boolean, 2, 0, 0, 0, 0, []),
  (265, .putfield 86, 3, 10, 25, 1, 4155, []),
  (268, .aload_n 0, 1, 0, 0, 0, 0, []),
  (269, .sipush 9999, 3, 0, 0, 0, 0, []),
  (272, .putfield 90, 3, 10, 26, 0, 4156, []),
  (275, .aload_n 0, 1, 0, 0, 0, 0, []),
  (276, .iconst 0, 1, 0, 0, 0, 0, []),
  (277, .putfield 93, 3, 10, 27, 0, 4157, []),
  (280, .aload_n 0, 1, 0, 0, 0, 0, []),
  (281, .iconst 5, 1, 0, 0, 0, 0, []),
  (282, .newarray .int, 2, 0, 0, 0, 0, []),
  (284, .putfield 96, 3, 10, 28, 1, 4158, []),
  (287, .aload_n 0, 1, 0, 0, 0, 0, []),
  (288, .iconst 5, 1, 0, 0, 0, 0, []),
  (289, .newarray .int, 2, 0, 0, 0, 0, []),
  (291, .putfield 99, 3, 10, 29, 1, 4159, []),
  (294, .aload_n 0, 1, 0, 0, 0, 0, []),
  (295, .iconst 5, 1, 0, 0, 0, 0, []),
  (296, .newarray .int, 2, 0, 0, 0, 0, []),
  (298, .putfield 102, 3, 10, 30, 1, 4160, []),
  (301, .aload_n 0, 1, 0, 0, 0, 0, []),
  (302, .iconst 0, 1, 0, 0, 0, 0, []),
  (303, .putfield 105, 3, 10, 31, 0, 4161, []),
  (306, .aload_n 0, 1, 0, 0, 0, 0, []),
  (307, .iconst 5, 1, 0, 0, 0, 0, []),
  (308, .newarray .int, 2, 0, 0, 0, 0, []),
  (310, .putfield 108, 3, 10, 32, 1, 4162, []),
  (313, .aload_n 0, 1, 0, 0, 0, 0, []),
  (314, .iconst 5, 1, 0, 0, 0, 0, []),
  (315, .newarray .int, 2, 0, 0, 0, 0, []),
  (317, .putfield 111, 3, 10, 33, 1, 4163, []),
  (320, .aload_n 0, 1, 0, 0, 0, 0, []),
  (321, .iconst 0, 1, 0, 0, 0, 0, []),
  (322, .putfield 114, 3, 10, 34, 0, 4164, []),
  (325, .aload_n 0, 1, 0, 0, 0, 0, []),
  (326, .iconst 0, 1, 0, 0, 0, 0, []),
  (327, .putfield 117, 3, 10, 35, 0, 4165, []),
  (330, .aload_n 0, 1, 0, 0, 0, 0, []),
  (331, .bipush 10, 2, 0, 0, 0, 0, []),
  (333, .newarray .int, 2, 0, 0, 0, 0, []),
  (335, .putfield 120, 3, 10, 36, 1, 4166, []),
  (338, .aload_n 0, 1, 0, 0, 0, 0, []),
  (339, .bipush 10, 2, 0, 0, 0, 0, []),
  (341, .newarray .int, 2, 0, 0, 0, 0, []),
  (343, .putfield 123, 3, 10, 37, 1, 4167, []),
  (346, .aload_n 0, 1, 0, 0, 0, 0, []),
  (347, .bipush 8, 2, 0, 0, 0, 0, []),
  (349, .newarray .int, 2, 0, 0, 0, 0, []),
  (351, .putfield 126, 3, 10, 38, 1, 4168, []),
  (354, .aload_n 0, 1, 0, 0, 0, 0, []),
  (355, .bipush 8, 2, 0, 0, 0, 0, []),
  (357, .newarray .int, 2, 0, 0, 0, 0, []),
  (359, .putfield 129, 3, 10, 39, 1, 4169, []),
  (362, .aload_n 0, 1, 0, 0, 0, 0, []),
  (363, .iconst 0, 1, 0, 0, 0, 0, []),
  (364, .putfield 132, 3, 10, 40, 0, 4170, []),
  (367, .aload_n 0, 1, 0, 0, 0, 0, []),
  (368, .iconst (-1), 1, 0, 0, 0, 0, []),
  (369, .putfield 136, 3, 10, 41, 0, 4171, []),
  (372, .aload_n 0, 1, 0, 0, 0, 0, []),
  (373, .iconst 0, 1, 0, 0, 0, 0, []),
  (374, .putfield 139, 3, 10, 42, 0, 4172, []),
  (377, .aload_n 0, 1, 0, 0, 0, 0, []),
  (378, .iconst 0, 1, 0, 0, 0, 0, []),
  (379, .putfield 142, 3, 10, 43, 0, 4173, []),
  (382, .aload_n 0, 1, 0, 0, 0, 0, []),
  (383, .iconst 0, 1, 0, 0, 0, 0, []),
  (384, .putfield 145, 3, 10, 44, 0, 4174, []),
  (387, .aload_n 0, 1, 0, 0, 0, 0, []),
  (388, .iconst 0, 1, 0, 0, 0, 0, []),
  (389, .putfield 148, 3, 10, 45, 0, 4175, []),
  (392, .aload_n 0, 1, 0, 0, 0, 0, []),
  (393, .iconst 0, 1, 0, 0, 0, 0, []),
  (394, .putfield 151, 3, 10, 46, 0, 4176, []),
  (397, .aload_n 0, 1, 0, 0, 0, 0, []),
  (398, .iconst 5, 1, 0, 0, 0, 0, []),
  (399, .newarray .int, 2, 0, 0, 0, 0, []),
  (401, .putfield 154, 3, 10, 47, 1, 4177, []),
  (404, .aload_n 0, 1, 0, 0, 0, 0, []),
  (405, .iconst 5, 1, 0, 0, 0, 0, []),
  (406, .newarray .int, 2, 0, 0, 0, 0, []),
  (408, .putfield 157, 3, 10, 48, 1, 4178, []),
  (411, .aload_n 0, 1, 0, 0, 0, 0, []),
  (412, .iconst 5, 1, 0, 0, 0, 0, []),
  (413, .newarray .int, 2, 0, 0, 0, 0, []),
  (415, .putfield 160, 3, 10, 49, 1, 4179, []),
  (418, .aload_n 0, 1, 0, 0, 0, 0, []),
  (419, .iconst 5, 1, 0, 0, 0, 0, []),
  (420, .newarray .int, 2, 0, 0, 0, 0, []),
  (422, .putfield 163, 3, 10, 50, 1, 4180, []),
  (425, .aload_n 0, 1, 0, 0, 0, 0, []),
  (426, .iconst 5, 1, 0, 0, 0, 0, []),
  (427, .newarray .int, 2, 0, 0, 0, 0, []),
  (429, .putfield 166, 3, 10, 51, 1, 4181, []),
  (432, .aload_n 0, 1, 0, 0, 0, 0, []),
  (433, .bipush 20, 2, 0, 0, 0, 0, []),
  (435, .newarray .int, 2, 0, 0, 0, 0, []),
  (437, .putfield 169, 3, 10, 52, 1, 4182, []),
  (440, .aload_n 0, 1, 0, 0, 0, 0, []),
  (441, .iconst 5, 1, 0, 0, 0, 0, []),
  (442, .newarray .int, 2, 0, 0, 0, 0, []),
  (444, .putfield 172, 3, 10, 53, 1, 4183, []),
  (447, .aload_n 0, 1, 0, 0, 0, 0, []),
  (448, .iconst 5, 1, 0, 0, 0, 0, []),
  (449, .newarray .int, 2, 0, 0, 0, 0, []),
  (451, .putfield 175, 3, 10, 54, 1, 4184, []),
  (454, .aload_n 0, 1, 0, 0, 0, 0, []),
  (455, .bipush 10, 2, 0, 0, 0, 0, []),
  (457, .newarray .int, 2, 0, 0, 0, 0, []),
  (459, .putfield 178, 3, 10, 55, 1, 4185, []),
  (462, .aload_n 0, 1, 0, 0, 0, 0, []),
  (463, .bipush 10, 2, 0, 0, 0, 0, []),
  (465, .newarray .int, 2, 0, 0, 0, 0, []),
  (467, .putfield 181, 3, 10, 56, 1, 4186, []),
  (470, .aload_n 0, 1, 0, 0, 0, 0, []),
  (471, .bipush 8, 2, 0, 0, 0, 0, []),
  (473, .newarray .int, 2, 0, 0, 0, 0, []),
  (475, .putfield 184, 3, 10, 57, 1, 4187, []),
  (478, .aload_n 0, 1, 0, 0, 0, 0, []),
  (479, .bipush 8, 2, 0, 0, 0, 0, []),
  (481, .newarray .int, 2, 0, 0, 0, 0, []),
  (483, .putfield 187, 3, 10, 58, 1, 4188, []),
  (486, .aload_n 0, 1, 0, 0, 0, 0, []),
  (487, .iconst 0, 1, 0, 0, 0, 0, []),
  (488, .putfield 190, 3, 10, 59, 0, 4189, []),
  (491, .aload_n 0, 1, 0, 0, 0, 0, []),
  (492, .bipush 20, 2, 0, 0, 0, 0, []),
  (494, .newarray .int, 2, 0, 0, 0, 0, []),
  (496, .putfield 193, 3, 10, 60, 1, 4190, []),
  (499, .aload_n 0, 1, 0, 0, 0, 0, []),
  (500, .bipush 6, 2, 0, 0, 0, 0, []),
  (502, .newarray .int, 2, 0, 0, 0, 0, []),
  (504, .dup, 1, 0, 0, 0, 0, []),
  (505, .iconst 0, 1, 0, 0, 0, 0, []),
  (506, .iconst (-1), 1, 0, 0, 0, 0, []),
  (507, .iastore, 1, 0, 0, 0, 0, []),
  (508, .dup, 1, 0, 0, 0, 0, []),
  (509, .iconst 1, 1, 0, 0, 0, 0, []),
  (510, .iconst (-1), 1, 0, 0, 0, 0, []),
  (511, .iastore, 1, 0, 0, 0, 0, []),
  (512, .dup, 1, 0, 0, 0, 0, []),
  (513, .iconst 2, 1, 0, 0, 0, 0, []),
  (514, .iconst (-1), 1, 0, 0, 0, 0, []),
  (515, .iastore, 1, 0, 0, 0, 0, []),
  (516, .dup, 1, 0, 0, 0, 0, []),
  (517, .iconst 3, 1, 0, 0, 0, 0, []),
  (518, .iconst (-1), 1, 0, 0, 0, 0, []),
  (519, .iastore, 1, 0, 0, 0, 0, []),
  (520, .dup, 1, 0, 0, 0, 0, []),
  (521, .iconst 4, 1, 0, 0, 0, 0, []),
  (522, .iconst (-1), 1, 0, 0, 0, 0, []),
  (523, .iastore, 1, 0, 0, 0, 0, []),
  (524, .dup, 1, 0, 0, 0, 0, []),
  (525, .iconst 5, 1, 0, 0, 0, 0, []),
  (526, .iconst (-1), 1, 0, 0, 0, 0, []),
  (527, .iastore, 1, 0, 0, 0, 0, []),
  (528, .putfield 196, 3, 10, 61, 1, 4191, []),
  (531, .aload_n 0, 1, 0, 0, 0, 0, []),
  (532, .bipush 6, 2, 0, 0, 0, 0, []),
  (534, .newarray .int, 2, 0, 0, 0, 0, []),
  (536, .putfield 199, 3, 10, 62, 1, 4192, []),
  (539, .aload_n 0, 1, 0, 0, 0, 0, []),
  (540, .sipush 360, 3, 0, 0, 0, 0, []),
  (543, .newarray .long, 2, 0, 0, 0, 0, []),
  (545, .putfield 202, 3, 10, 63, 1, 4193, []),
  (548, .aload_n 0, 1, 0, 0, 0, 0, []),
  (549, .bipush 60, 2, 0, 0, 0, 0, []),
  (551, .newarray .long, 2, 0, 0, 0, 0, []),
  (553, .putfield 206, 3, 10, 64, 1, 4194, []),
  (556, .return_, 1, 0, 0, 0, 0, [])]
def m140 : MI := (⟨"LeavesObjectModel", "<init>", "()V"⟩, prog_12_method_1_code, 1, none, k140, 0, [4128, 1011, 4127, 9999])
/-- LeavesObjectModel.cup(III)I -/
def k141 : List XE := [(0, .aload_n 0, 1, 0, 0, 0, 0, []),
  (1, .iload_n 1, 1, 1, 0, 0, 0, []),
  (2, .iconst 0, 1, 0, 0, 0, 0, []),
  (3, .bipush 6, 2, 0, 0, 0, 0, []),
  (5, .invokevirtual 213, 3, 142, 3, 0, 5091, [(10, 0)]),
  (8, .ifCond .ne 5, 3, 13, 0, 0, 0, []),
  (11, .iconst (-1), 1, 0, 0, 0, 0, []),
  (12, .ireturn, 1, 0, 0, 0, 0, []),
  (13, .aload_n 0, 1, 0, 0, 0, 0, []),
  (14, .iload_n 2, 1, 2, 0, 0, 0, []),
  (15, .iconst 0, 1, 0, 0, 0, 0, []),
  (16, .bipush 9, 2, 0, 0, 0, 0, []),
  (18, .invokevirtual 213, 3, 142, 3, 0, 5091, [(10, 0)]),
  (21, .ifCond .eq 11, 3, 32, 0, 0, 0, []),
  (24, .aload_n 0, 1, 0, 0, 0, 0, []),
  (25, .iload_n 3, 1, 3, 0, 0, 0, []),
  (26, .invokevirtual 217, 3, 143, 1, 0, 5095, [(10, 0)]),
  (29, .ifCond .ne 6, 3, 35, 0, 0, 0, []),
  (32, .bipush (-2), 2, 0, 0, 0, 0, []),
  (34, .ireturn, 1, 0, 0, 0, 0, []),
  (35, .aload_n 0, 1, 0, 0, 0, 0, []),
  (36, .getfield 7, 3, 10, 0, 0, 4130, []),
  (39, .iconst 5, 1, 0, 0, 0, 0, []),
  (40, .if_icmp .ne 6, 3, 46, 0, 0, 0, []),
  (43, .bipush (-4), 2, 0, 0, 0, 0, []),
  (45, .ireturn, 1, 0, 0, 0, 0, []),
  (46, .aload_n 0, 1, 0, 0, 0, 0, []),
  (47, .getfield 16, 3, 10, 2, 0, 4132, []),
  (50, .aload_n 0, 1, 0, 0, 0, 0, []),
  (51, .getfield 7, 3, 10, 0, 0, 4130, []),
  (54, .iload_n 1, 1, 1, 0, 0, 0, []),
  (55, .iastore, 1, 0, 0, 0, 0, []),
  (56, .aload_n 0, 1, 0, 0, 0, 0, []),
  (57, .getfield 20, 3, 10, 3, 0, 4133, []),
  (60, .aload_n 0, 1, 0, 0, 0, 0, []),
  (61, .getfield 7, 3, 10, 0, 0, 4130, []),
  (64, .iload_n 2, 1, 2, 0, 0, 0, []),
  (65, .iastore, 1, 0, 0, 0, 0, []),
  (66, .aload_n 0, 1, 0, 0, 0, 0, []),
  (67, .getfield 23, 3, 10, 4, 0, 4134, []),
  (70, .aload_n 0, 1, 0, 0, 0, 0, []),
  (71, .getfield 7, 3, 10, 0, 0, 4130, []),
  (74, .iload_n 3, 1, 3, 0, 0, 0, []),
  (75, .iastore, 1, 0, 0, 0, 0, []),
  (76, .aload_n 0, 1, 0, 0, 0, 0, []),
  (77, .getfield 26, 3, 10, 5, 0, 4135, []),
  (80, .aload_n 0, 1, 0, 0, 0, 0, []),
  (81, .getfield 7, 3, 10, 0, 0, 4130, []),
  (84, .iconst 0, 1, 0, 0, 0, 0, []),
  (85, .iastore, 1, 0, 0, 0, 0, []),
  (86, .aload_n 0, 1, 0, 0, 0, 0, []),
  (87, .getfield 29, 3, 10, 6, 0, 4136, []),
  (90, .aload_n 0, 1, 0, 0, 0, 0, []),
  (91, .getfield 7, 3, 10, 0, 0, 4130, []),
  (94, .iconst 0, 1, 0, 0, 0, 0, []),
  (95, .iastore, 1, 0, 0, 0, 0, []),
  (96, .iconst 0, 1, 0, 0, 0, 0, []),
  (97, .istore 4, 2, 4, 0, 0, 0, []),
  (99, .iload 4, 2, 4, 0, 0, 0, []),
  (101, .iconst 4, 1, 0, 0, 0, 0, []),
  (102, .if_icmp .ge 24, 3, 126, 0, 0, 0, []),
  (105, .aload_n 0, 1, 0, 0, 0, 0, []),
  (106, .getfield 32, 3, 10, 7, 0, 4137, []),
  (109, .iconst 4, 1, 0, 0, 0, 0, []),
  (110, .aload_n 0, 1, 0, 0, 0, 0, []),
  (111, .getfield 7, 3, 10, 0, 0, 4130, []),
  (114, .imul, 1, 0, 0, 0, 0, []),
  (115, .iload 4, 2, 4, 0, 0, 0, []),
  (117, .iadd, 1, 0, 0, 0, 0, []),
  (118, .iconst 0, 1, 0, 0, 0, 0, []),
  (119, .iastore, 1, 0, 0, 0, 0, []),
  (120, .iinc 4 1, 3, 4, 0, 0, 0, []),
  (123, .goto (-24), 3, 99, 0, 0, 0, []),
  (126, .aload_n 0, 1, 0, 0, 0, 0, []),
  (127, .dup, 1, 0, 0, 0, 0, []),
  (128, .getfield 7, 3, 10, 0, 0, 4130, []),
  (131, .iconst 1, 1, 0, 0, 0, 0, []),
  (132, .iadd, 1, 0, 0, 0, 0, []),
  (133, .putfield 7, 3, 10, 0, 0, 4130, []),
  (136, .aload_n 0, 1, 0, 0, 0, 0, []),
  (137, .getfield 7, 3, 10, 0, 0, 4130, []),
  (140, .iconst 1, 1, 0, 0, 0, 0, []),
  (141, .isub, 1, 0, 0, 0, 0, []),
  (142, .ireturn, 1, 0, 0, 0, 0, [])]
def m141 : MI := (⟨"LeavesObjectModel", "cup", "(III)I"⟩, prog_12_method_9_code, 5, (Option.some Jvm.ClassFile.FieldType.int), k141, 3, [5090, 1011, 5088, 5089])
/-- LeavesObjectModel.in(III)Z -/
def k142 : List XE := [(0, .iload_n 1, 1, 1, 0, 0, 0, []),
  (1, .iload_n 2, 1, 2, 0, 0, 0, []),
  (2, .if_icmp .lt 12, 3, 14, 0, 0, 0, []),
  (5, .iload_n 1, 1, 1, 0, 0, 0, []),
  (6, .iload_n 3, 1, 3, 0, 0, 0, []),
  (7, .if_icmp .gt 7, 3, 14, 0, 0, 0, []),
  (10, .iconst 1, 1, 0, 0, 0, 0, []),
  (11, .goto 4, 3, 15, 0, 0, 0, []),
  (14, .iconst 0, 1, 0, 0, 0, 0, []),
  (15, .ireturn, 1, 0, 0, 0, 0, [])]
def m142 : MI := (⟨"LeavesObjectModel", "in", "(III)Z"⟩, prog_12_method_2_code, 4, (Option.some Jvm.ClassFile.FieldType.boolean), k142, 3, [5094, 1011, 5093, 21])
/-- LeavesObjectModel.isShape(I)Z -/
def k143 : List XE := [(0, .aload_n 0, 1, 0, 0, 0, 0, []),
  (1, .iload_n 1, 1, 1, 0, 0, 0, []),
  (2, .iconst 0, 1, 0, 0, 0, 0, []),
  (3, .sipush 4095, 3, 0, 0, 0, 0, []),
  (6, .invokevirtual 213, 3, 142, 3, 0, 5091, [(10, 0)]),
  (9, .ireturn, 1, 0, 0, 0, 0, [])]
def m143 : MI := (⟨"LeavesObjectModel", "isShape", "(I)Z"⟩, prog_12_method_8_code, 2, (Option.some Jvm.ClassFile.FieldType.boolean), k143, 1, [5098, 1011, 5097, 22])
/-- LeavesObjectModel.set(III)I -/
def k144 : List XE := [(0, .aload_n 0, 1, 0, 0, 0, 0, []),
  (1, .iload_n 1, 1, 1, 0, 0, 0, []),
  (2, .invokevirtual 221, 3, 145, 1, 0, 5103, [(10, 0)]),
  (5, .ifCond .eq 13, 3, 18, 0, 0, 0, []),
  (8, .aload_n 0, 1, 0, 0, 0, 0, []),
  (9, .iload_n 2, 1, 2, 0, 0, 0, []),
  (10, .iconst 0, 1, 0, 0, 0, 0, []),
  (11, .iconst 1, 1, 0, 0, 0, 0, []),
  (12, .invokevirtual 213, 3, 142, 3, 0, 5091, [(10, 0)]),
  (15, .ifCond .ne 5, 3, 20, 0, 0, 0, []),
  (18, .iconst (-1), 1, 0, 0, 0, 0, []),
  (19, .ireturn, 1, 0, 0, 0, 0, []),
  (20, .iload_n 2, 1, 2, 0, 0, 0, []),
  (21, .ifCond .ne 14, 3, 35, 0, 0, 0, []),
  (24, .aload_n 0, 1, 0, 0, 0, 0, []),
  (25, .iload_n 3, 1, 3, 0, 0, 0, []),
  (26, .invokevirtual 217, 3, 143, 1, 0, 5095, [(10, 0)]),
  (29, .ifCond .ne 20, 3, 49, 0, 0, 0, []),
  (32, .goto 14, 3, 46, 0, 0, 0, []),
  (35, .aload_n 0, 1, 0, 0, 0, 0, []),
  (36, .iload_n 3, 1, 3, 0, 0, 0, []),
  (37, .iconst 0, 1, 0, 0, 0, 0, []),
  (38, .bipush 9, 2, 0, 0, 0, 0, []),
  (40, .invokevirtual 213, 3, 142, 3, 0, 5091, [(10, 0)]),
  (43, .ifCond .ne 6, 3, 49, 0, 0, 0, []),
  (46, .bipush (-2), 2, 0, 0, 0, 0, []),
  (48, .ireturn, 1, 0, 0, 0, 0, []),
  (49, .iload_n 2, 1, 2, 0, 0, 0, []),
  (50, .ifCond .ne 12, 3, 62, 0, 0, 0, []),
  (53, .aload_n 0, 1, 0, 0, 0, 0, []),
  (54, .getfield 23, 3, 10, 4, 0, 4134, []),
  (57, .iload_n 1, 1, 1, 0, 0, 0, []),
  (58, .iaload, 1, 0, 0, 0, 0, []),
  (59, .goto 9, 3, 68, 0, 0, 0, []),
  (62, .aload_n 0, 1, 0, 0, 0, 0, []),
  (63, .getfield 26, 3, 10, 5, 0, 4135, []),
  (66, .iload_n 1, 1, 1, 0, 0, 0, []),
  (67, .iaload, 1, 0, 0, 0, 0, []),
  (68, .istore 4, 2, 4, 0, 0, 0, []),
  (70, .iload_n 2, 1, 2, 0, 0, 0, []),
  (71, .ifCond .ne 13, 3, 84, 0, 0, 0, []),
  (74, .aload_n 0, 1, 0, 0, 0, 0, []),
  (75, .getfield 23, 3, 10, 4, 0, 4134, []),
  (78, .iload_n 1, 1, 1, 0, 0, 0, []),
  (79, .iload_n 3, 1, 3, 0, 0, 0, []),
  (80, .iastore, 1, 0, 0, 0, 0, []),
  (81, .goto 10, 3, 91, 0, 0, 0, []),
  (84, .aload_n 0, 1, 0, 0, 0, 0, []),
  (85, .getfield 26, 3, 10, 5, 0, 4135, []),
  (88, .iload_n 1, 1, 1, 0, 0, 0, []),
  (89, .iload_n 3, 1, 3, 0, 0, 0, []),
  (90, .iastore, 1, 0, 0, 0, 0, []),
  (91, .iload 4, 2, 4, 0, 0, 0, []),
  (93, .ireturn, 1, 0, 0, 0, 0, [])]
def m144 : MI := (⟨"LeavesObjectModel", "set", "(III)I"⟩, prog_12_method_10_code, 5, (Option.some Jvm.ClassFile.FieldType.int), k144, 3, [5102, 1011, 5100, 5101])
/-- LeavesObjectModel.isCup(I)Z -/
def k145 : List XE := [(0, .aload_n 0, 1, 0, 0, 0, 0, []),
  (1, .iload_n 1, 1, 1, 0, 0, 0, []),
  (2, .iconst 0, 1, 0, 0, 0, 0, []),
  (3, .aload_n 0, 1, 0, 0, 0, 0, []),
  (4, .getfield 7, 3, 10, 0, 0, 4130, []),
  (7, .iconst 1, 1, 0, 0, 0, 0, []),
  (8, .isub, 1, 0, 0, 0, 0, []),
  (9, .invokevirtual 213, 3, 142, 3, 0, 5091, [(10, 0)]),
  (12, .ireturn, 1, 0, 0, 0, 0, [])]
def m145 : MI := (⟨"LeavesObjectModel", "isCup", "(I)Z"⟩, prog_12_method_6_code, 2, (Option.some Jvm.ClassFile.FieldType.boolean), k145, 1, [5106, 1011, 5105, 23])
/-- LeavesObjectModel.line(III)I -/
def k146 : List XE := [(0, .aload_n 0, 1, 0, 0, 0, 0, []),
  (1, .iload_n 1, 1, 1, 0, 0, 0, []),
  (2, .invokevirtual 221, 3, 145, 1, 0, 5103, [(10, 0)]),
  (5, .ifCond .eq 13, 3, 18, 0, 0, 0, []),
  (8, .aload_n 0, 1, 0, 0, 0, 0, []),
  (9, .iload_n 2, 1, 2, 0, 0, 0, []),
  (10, .iconst 0, 1, 0, 0, 0, 0, []),
  (11, .iconst 3, 1, 0, 0, 0, 0, []),
  (12, .invokevirtual 213, 3, 142, 3, 0, 5091, [(10, 0)]),
  (15, .ifCond .ne 5, 3, 20, 0, 0, 0, []),
  (18, .iconst (-1), 1, 0, 0, 0, 0, []),
  (19, .ireturn, 1, 0, 0, 0, 0, []),
  (20, .aload_n 0, 1, 0, 0, 0, 0, []),
  (21, .iload_n 3, 1, 3, 0, 0, 0, []),
  (22, .iconst 0, 1, 0, 0, 0, 0, []),
  (23, .bipush 9, 2, 0, 0, 0, 0, []),
  (25, .invokevirtual 213, 3, 142, 3, 0, 5091, [(10, 0)]),
  (28, .ifCond .ne 6, 3, 34, 0, 0, 0, []),
  (31, .bipush (-2), 2, 0, 0, 0, 0, []),
  (33, .ireturn, 1, 0, 0, 0, 0, []),
  (34, .aload_n 0, 1, 0, 0, 0, 0, []),
  (35, .getfield 16, 3, 10, 2, 0, 4132, []),
  (38, .iload_n 1, 1, 1, 0, 0, 0, []),
  (39, .iaload, 1, 0, 0, 0, 0, []),
  (40, .bipush 6, 2, 0, 0, 0, 0, []),
  (42, .if_icmp .eq 6, 3, 48, 0, 0, 0, []),
  (45, .bipush (-3), 2, 0, 0, 0, 0, []),
  (47, .ireturn, 1, 0, 0, 0, 0, []),
  (48, .aload_n 0, 1, 0, 0, 0, 0, []),
  (49, .getfield 32, 3, 10, 7, 0, 4137, []),
  (52, .iconst 4, 1, 0, 0, 0, 0, []),
  (53, .iload_n 1, 1, 1, 0, 0, 0, []),
  (54, .imul, 1, 0, 0, 0, 0, []),
  (55, .iload_n 2, 1, 2, 0, 0, 0, []),
  (56, .iadd, 1, 0, 0, 0, 0, []),
  (57, .iaload, 1, 0, 0, 0, 0, []),
  (58, .istore 4, 2, 4, 0, 0, 0, []),
  (60, .aload_n 0, 1, 0, 0, 0, 0, []),
  (61, .getfield 32, 3, 10, 7, 0, 4137, []),
  (64, .iconst 4, 1, 0, 0, 0, 0, []),
  (65, .iload_n 1, 1, 1, 0, 0, 0, []),
  (66, .imul, 1, 0, 0, 0, 0, []),
  (67, .iload_n 2, 1, 2, 0, 0, 0, []),
  (68, .iadd, 1, 0, 0, 0, 0, []),
  (69, .iload_n 3, 1, 3, 0, 0, 0, []),
  (70, .iastore, 1, 0, 0, 0, 0, []),
  (71, .iload 4, 2, 4, 0, 0, 0, []),
  (73, .ireturn, 1, 0, 0, 0, 0, [])]
def m146 : MI := (⟨"LeavesObjectModel", "line", "(III)I"⟩, prog_12_method_11_code, 5, (Option.some Jvm.ClassFile.FieldType.int), k146, 3, [5110, 1011, 5108, 5109])
/-- LeavesObjectModel.feed(I)I -/
def k147 : List XE := [(0, .aload_n 0, 1, 0, 0, 0, 0, []),
  (1, .iload_n 1, 1, 1, 0, 0, 0, []),
  (2, .iconst 0, 1, 0, 0, 0, 0, []),
  (3, .bipush 127, 2, 0, 0, 0, 0, []),
  (5, .invokevirtual 213, 3, 142, 3, 0, 5091, [(10, 0)]),
  (8, .ifCond .ne 6, 3, 14, 0, 0, 0, []),
  (11, .bipush (-2), 2, 0, 0, 0, 0, []),
  (13, .ireturn, 1, 0, 0, 0, 0, []),
  (14, .aload_n 0, 1, 0, 0, 0, 0, []),
  (15, .getfield 41, 3, 10, 10, 0, 4140, []),
  (18, .bipush 100, 2, 0, 0, 0, 0, []),
  (20, .if_icmp .ne 6, 3, 26, 0, 0, 0, []),
  (23, .bipush (-4), 2, 0, 0, 0, 0, []),
  (25, .ireturn, 1, 0, 0, 0, 0, []),
  (26, .aload_n 0, 1, 0, 0, 0, 0, []),
  (27, .getfield 50, 3, 10, 13, 0, 4143, []),
  (30, .aload_n 0, 1, 0, 0, 0, 0, []),
  (31, .getfield 41, 3, 10, 10, 0, 4140, []),
  (34, .iload_n 1, 1, 1, 0, 0, 0, []),
  (35, .iastore, 1, 0, 0, 0, 0, []),
  (36, .aload_n 0, 1, 0, 0, 0, 0, []),
  (37, .dup, 1, 0, 0, 0, 0, []),
  (38, .getfield 41, 3, 10, 10, 0, 4140, []),
  (41, .iconst 1, 1, 0, 0, 0, 0, []),
  (42, .iadd, 1, 0, 0, 0, 0, []),
  (43, .putfield 41, 3, 10, 10, 0, 4140, []),
  (46, .aload_n 0, 1, 0, 0, 0, 0, []),
  (47, .getfield 41, 3, 10, 10, 0, 4140, []),
  (50, .ireturn, 1, 0, 0, 0, 0, [])]
def m147 : MI := (⟨"LeavesObjectModel", "feed", "(I)I"⟩, prog_12_method_12_code, 2, (Option.some Jvm.ClassFile.FieldType.int), k147, 1, [5114, 1011, 5112, 5113])
/-- LeavesObjectModel.inn()I -/
def k148 : List XE := [(0, .aload_n 0, 1, 0, 0, 0, 0, []),
  (1, .getfield 35, 3, 10, 8, 0, 4138, []),
  (4, .bipush 6, 2, 0, 0, 0, 0, []),
  (6, .if_icmp .ne 6, 3, 12, 0, 0, 0, []),
  (9, .bipush (-4), 2, 0, 0, 0, 0, []),
  (11, .ireturn, 1, 0, 0, 0, 0, []),
  (12, .aload_n 0, 1, 0, 0, 0, 0, []),
  (13, .aload_n 0, 1, 0, 0, 0, 0, []),
  (14, .getfield 35, 3, 10, 8, 0, 4138, []),
  (17, .invokevirtual 267, 3, 149, 1, 0, 5119, [(10, 0)]),
  (20, .istore_n 1, 1, 1, 0, 0, 0, []),
  (21, .aload_n 0, 1, 0, 0, 0, 0, []),
  (22, .iconst 0, 1, 0, 0, 0, 0, []),
  (23, .putfield 41, 3, 10, 10, 0, 4140, []),
  (26, .iload_n 1, 1, 1, 0, 0, 0, []),
  (27, .ifCond .ne 11, 3, 38, 0, 0, 0, []),
  (30, .bipush (-10), 2, 0, 0, 0, 0, []),
  (32, .aload_n 0, 1, 0, 0, 0, 0, []),
  (33, .getfield 44, 3, 10, 11, 0, 4141, []),
  (36, .isub, 1, 0, 0, 0, 0, []),
  (37, .ireturn, 1, 0, 0, 0, 0, []),
  (38, .aload_n 0, 1, 0, 0, 0, 0, []),
  (39, .aload_n 0, 1, 0, 0, 0, 0, []),
  (40, .getfield 35, 3, 10, 8, 0, 4138, []),
  (43, .putfield 38, 3, 10, 9, 0, 4139, []),
  (46, .aload_n 0, 1, 0, 0, 0, 0, []),
  (47, .dup, 1, 0, 0, 0, 0, []),
  (48, .getfield 35, 3, 10, 8, 0, 4138, []),
  (51, .iconst 1, 1, 0, 0, 0, 0, []),
  (52, .iadd, 1, 0, 0, 0, 0, []),
  (53, .putfield 35, 3, 10, 8, 0, 4138, []),
  (56, .aload_n 0, 1, 0, 0, 0, 0, []),
  (57, .getfield 38, 3, 10, 9, 0, 4139, []),
  (60, .ireturn, 1, 0, 0, 0, 0, [])]
def m148 : MI := (⟨"LeavesObjectModel", "inn", "()I"⟩, prog_12_method_27_code, 2, (Option.some Jvm.ClassFile.FieldType.int), k148, 0, [5118, 1011, 5116, 5117])
/-- LeavesObjectModel.goesText(I)Z -/
def k149 : List XE := [(0, .aload_n 0, 1, 0, 0, 0, 0, []),
  (1, .iconst 0, 1, 0, 0, 0, 0, []),
  (2, .putfield 44, 3, 10, 11, 0, 4141, []),
  (5, .aload_n 0, 1, 0, 0, 0, 0, []),
  (6, .bipush 100, 2, 0, 0, 0, 0, []),
  (8, .iload_n 1, 1, 1, 0, 0, 0, []),
  (9, .imul, 1, 0, 0, 0, 0, []),
  (10, .putfield 74, 3, 10, 21, 0, 4151, []),
  (13, .iconst 0, 1, 0, 0, 0, 0, []),
  (14, .istore_n 2, 1, 2, 0, 0, 0, []),
  (15, .aload_n 0, 1, 0, 0, 0, 0, []),
  (16, .bipush 10, 2, 0, 0, 0, 0, []),
  (18, .iload_n 1, 1, 1, 0, 0, 0, []),
  (19, .imul, 1, 0, 0, 0, 0, []),
  (20, .iload_n 2, 1, 2, 0, 0, 0, []),
  (21, .iadd, 1, 0, 0, 0, 0, []),
  (22, .invokevirtual 264, 3, 150, 1, 0, 5123, [(10, 0)]),
  (25, .ifCond .ne 5, 3, 30, 0, 0, 0, []),
  (28, .iconst 0, 1, 0, 0, 0, 0, []),
  (29, .ireturn, 1, 0, 0, 0, 0, []),
  (30, .iinc 2 1, 3, 2, 0, 0, 0, []),
  (33, .aload_n 0, 1, 0, 0, 0, 0, []),
  (34, .getfield 53, 3, 10, 14, 0, 4144, []),
  (37, .iload_n 1, 1, 1, 0, 0, 0, []),
  (38, .iload_n 2, 1, 2, 0, 0, 0, []),
  (39, .iastore, 1, 0, 0, 0, 0, []),
  (40, .aload_n 0, 1, 0, 0, 0, 0, []),
  (41, .getfield 44, 3, 10, 11, 0, 4141, []),
  (44, .aload_n 0, 1, 0, 0, 0, 0, []),
  (45, .getfield 41, 3, 10, 10, 0, 4140, []),
  (48, .if_icmp .ne 5, 3, 53, 0, 0, 0, []),
  (51, .iconst 1, 1, 0, 0, 0, 0, []),
  (52, .ireturn, 1, 0, 0, 0, 0, []),
  (53, .iload_n 2, 1, 2, 0, 0, 0, []),
  (54, .bipush 10, 2, 0, 0, 0, 0, []),
  (56, .if_icmp .eq 12, 3, 68, 0, 0, 0, []),
  (59, .aload_n 0, 1, 0, 0, 0, 0, []),
  (60, .bipush 59, 2, 0, 0, 0, 0, []),
  (62, .invokevirtual 228, 3, 154, 1, 0, 5139, [(10, 0)]),
  (65, .ifCond .ne (-50), 3, 15, 0, 0, 0, []),
  (68, .iconst 0, 1, 0, 0, 0, 0, []),
  (69, .ireturn, 1, 0, 0, 0, 0, [])]
def m149 : MI := (⟨"LeavesObjectModel", "goesText", "(I)Z"⟩, prog_12_method_26_code, 3, (Option.some Jvm.ClassFile.FieldType.boolean), k149, 1, [5122, 1011, 5121, 24])
/-- LeavesObjectModel.takesClause(I)Z -/
def k150 : List XE := [(0, .aload_n 0, 1, 0, 0, 0, 0, []),
  (1, .iload_n 1, 1, 1, 0, 0, 0, []),
  (2, .invokevirtual 258, 3, 151, 1, 0, 5127, [(10, 0)]),
  (5, .ifCond .eq 10, 3, 15, 0, 0, 0, []),
  (8, .aload_n 0, 1, 0, 0, 0, 0, []),
  (9, .invokevirtual 243, 3, 155, 0, 0, 5143, [(10, 0)]),
  (12, .ifCond .ne 5, 3, 17, 0, 0, 0, []),
  (15, .iconst 0, 1, 0, 0, 0, 0, []),
  (16, .ireturn, 1, 0, 0, 0, 0, []),
  (17, .aload_n 0, 1, 0, 0, 0, 0, []),
  (18, .getfield 59, 3, 10, 16, 0, 4146, []),
  (21, .iload_n 1, 1, 1, 0, 0, 0, []),
  (22, .aload_n 0, 1, 0, 0, 0, 0, []),
  (23, .getfield 47, 3, 10, 12, 0, 4142, []),
  (26, .iastore, 1, 0, 0, 0, 0, []),
  (27, .aload_n 0, 1, 0, 0, 0, 0, []),
  (28, .getfield 56, 3, 10, 15, 0, 4145, []),
  (31, .iload_n 1, 1, 1, 0, 0, 0, []),
  (32, .iaload, 1, 0, 0, 0, 0, []),
  (33, .iconst 2, 1, 0, 0, 0, 0, []),
  (34, .if_icmp .ge 20, 3, 54, 0, 0, 0, []),
  (37, .aload_n 0, 1, 0, 0, 0, 0, []),
  (38, .bipush 32, 2, 0, 0, 0, 0, []),
  (40, .invokevirtual 228, 3, 154, 1, 0, 5139, [(10, 0)]),
  (43, .ifCond .eq 15, 3, 58, 0, 0, 0, []),
  (46, .aload_n 0, 1, 0, 0, 0, 0, []),
  (47, .iload_n 1, 1, 1, 0, 0, 0, []),
  (48, .invokevirtual 261, 3, 157, 1, 0, 5151, [(10, 0)]),
  (51, .ifCond .eq 7, 3, 58, 0, 0, 0, []),
  (54, .iconst 1, 1, 0, 0, 0, 0, []),
  (55, .goto 4, 3, 59, 0, 0, 0, []),
  (58, .iconst 0, 1, 0, 0, 0, 0, []),
  (59, .ireturn, 1, 0, 0, 0, 0, [])]
def m150 : MI := (⟨"LeavesObjectModel", "takesClause", "(I)Z"⟩, prog_12_method_25_code, 2, (Option.some Jvm.ClassFile.FieldType.boolean), k150, 1, [5126, 1011, 5125, 25])
/-- LeavesObjectModel.takesHead(I)Z -/
def k151 : List XE := [(0, .aload_n 0, 1, 0, 0, 0, 0, []),
  (1, .invokevirtual 224, 3, 152, 0, 0, 5131, [(10, 0)]),
  (4, .lookupswitch 79 #[(98, 50), (114, 64), (119, 36)], 36, 83, 0, 0, 0, [(98, 54), (114, 68), (119, 40)]),
  (40, .aload_n 0, 1, 0, 0, 0, 0, []),
  (41, .getfield 56, 3, 10, 15, 0, 4145, []),
  (44, .iload_n 1, 1, 1, 0, 0, 0, []),
  (45, .iconst 0, 1, 0, 0, 0, 0, []),
  (46, .iastore, 1, 0, 0, 0, 0, []),
  (47, .aload_n 0, 1, 0, 0, 0, 0, []),
  (48, .iconst 0, 1, 0, 0, 0, 0, []),
  (49, .iconst 4, 1, 0, 0, 0, 0, []),
  (50, .invokevirtual 255, 3, 153, 2, 0, 5135, [(10, 0)]),
  (53, .ireturn, 1, 0, 0, 0, 0, []),
  (54, .aload_n 0, 1, 0, 0, 0, 0, []),
  (55, .getfield 56, 3, 10, 15, 0, 4145, []),
  (58, .iload_n 1, 1, 1, 0, 0, 0, []),
  (59, .iconst 1, 1, 0, 0, 0, 0, []),
  (60, .iastore, 1, 0, 0, 0, 0, []),
  (61, .aload_n 0, 1, 0, 0, 0, 0, []),
  (62, .iconst 4, 1, 0, 0, 0, 0, []),
  (63, .iconst 4, 1, 0, 0, 0, 0, []),
  (64, .invokevirtual 255, 3, 153, 2, 0, 5135, [(10, 0)]),
  (67, .ireturn, 1, 0, 0, 0, 0, []),
  (68, .aload_n 0, 1, 0, 0, 0, 0, []),
  (69, .getfield 56, 3, 10, 15, 0, 4145, []),
  (72, .iload_n 1, 1, 1, 0, 0, 0, []),
  (73, .iconst 2, 1, 0, 0, 0, 0, []),
  (74, .iastore, 1, 0, 0, 0, 0, []),
  (75, .aload_n 0, 1, 0, 0, 0, 0, []),
  (76, .bipush 8, 2, 0, 0, 0, 0, []),
  (78, .iconst 4, 1, 0, 0, 0, 0, []),
  (79, .invokevirtual 255, 3, 153, 2, 0, 5135, [(10, 0)]),
  (82, .ireturn, 1, 0, 0, 0, 0, []),
  (83, .aload_n 0, 1, 0, 0, 0, 0, []),
  (84, .getfield 56, 3, 10, 15, 0, 4145, []),
  (87, .iload_n 1, 1, 1, 0, 0, 0, []),
  (88, .iconst 3, 1, 0, 0, 0, 0, []),
  (89, .iastore, 1, 0, 0, 0, 0, []),
  (90, .aload_n 0, 1, 0, 0, 0, 0, []),
  (91, .bipush 12, 2, 0, 0, 0, 0, []),
  (93, .iconst 4, 1, 0, 0, 0, 0, []),
  (94, .invokevirtual 255, 3, 153, 2, 0, 5135, [(10, 0)]),
  (97, .ireturn, 1, 0, 0, 0, 0, [])]
def m151 : MI := (⟨"LeavesObjectModel", "takesHead", "(I)Z"⟩, prog_12_method_24_code, 2, (Option.some Jvm.ClassFile.FieldType.boolean), k151, 1, [5130, 1011, 5129, 26])
/-- LeavesObjectModel.peek()I -/
def k152 : List XE := [(0, .aload_n 0, 1, 0, 0, 0, 0, []),
  (1, .getfield 44, 3, 10, 11, 0, 4141, []),
  (4, .aload_n 0, 1, 0, 0, 0, 0, []),
  (5, .getfield 41, 3, 10, 10, 0, 4140, []),
  (8, .if_icmp .ge 15, 3, 23, 0, 0, 0, []),
  (11, .aload_n 0, 1, 0, 0, 0, 0, []),
  (12, .getfield 50, 3, 10, 13, 0, 4143, []),
  (15, .aload_n 0, 1, 0, 0, 0, 0, []),
  (16, .getfield 44, 3, 10, 11, 0, 4141, []),
  (19, .iaload, 1, 0, 0, 0, 0, []),
  (20, .goto 4, 3, 24, 0, 0, 0, []),
  (23, .iconst (-1), 1, 0, 0, 0, 0, []),
  (24, .ireturn, 1, 0, 0, 0, 0, [])]
def m152 : MI := (⟨"LeavesObjectModel", "peek", "()I"⟩, prog_12_method_13_code, 1, (Option.some Jvm.ClassFile.FieldType.int), k152, 0, [5134, 1011, 5133, 27])
/-- LeavesObjectModel.takesWord(II)Z -/
def k153 : List XE := [(0, .iconst 0, 1, 0, 0, 0, 0, []),
  (1, .istore_n 3, 1, 3, 0, 0, 0, []),
  (2, .iload_n 3, 1, 3, 0, 0, 0, []),
  (3, .iload_n 2, 1, 2, 0, 0, 0, []),
  (4, .if_icmp .ge 26, 3, 30, 0, 0, 0, []),
  (7, .aload_n 0, 1, 0, 0, 0, 0, []),
  (8, .aload_n 0, 1, 0, 0, 0, 0, []),
  (9, .getfield 83, 3, 10, 24, 0, 4154, []),
  (12, .iload_n 1, 1, 1, 0, 0, 0, []),
  (13, .iload_n 3, 1, 3, 0, 0, 0, []),
  (14, .iadd, 1, 0, 0, 0, 0, []),
  (15, .iaload, 1, 0, 0, 0, 0, []),
  (16, .invokevirtual 228, 3, 154, 1, 0, 5139, [(10, 0)]),
  (19, .ifCond .ne 5, 3, 24, 0, 0, 0, []),
  (22, .iconst 0, 1, 0, 0, 0, 0, []),
  (23, .ireturn, 1, 0, 0, 0, 0, []),
  (24, .iinc 3 1, 3, 3, 0, 0, 0, []),
  (27, .goto (-25), 3, 2, 0, 0, 0, []),
  (30, .aload_n 0, 1, 0, 0, 0, 0, []),
  (31, .bipush 32, 2, 0, 0, 0, 0, []),
  (33, .invokevirtual 228, 3, 154, 1, 0, 5139, [(10, 0)]),
  (36, .ireturn, 1, 0, 0, 0, 0, [])]
def m153 : MI := (⟨"LeavesObjectModel", "takesWord", "(II)Z"⟩, prog_12_method_15_code, 4, (Option.some Jvm.ClassFile.FieldType.boolean), k153, 2, [5138, 1011, 5137, 28])
/-- LeavesObjectModel.takes(I)Z -/
def k154 : List XE := [(0, .aload_n 0, 1, 0, 0, 0, 0, []),
  (1, .invokevirtual 224, 3, 152, 0, 0, 5131, [(10, 0)]),
  (4, .iload_n 1, 1, 1, 0, 0, 0, []),
  (5, .if_icmp .eq 5, 3, 10, 0, 0, 0, []),
  (8, .iconst 0, 1, 0, 0, 0, 0, []),
  (9, .ireturn, 1, 0, 0, 0, 0, []),
  (10, .aload_n 0, 1, 0, 0, 0, 0, []),
  (11, .dup, 1, 0, 0, 0, 0, []),
  (12, .getfield 44, 3, 10, 11, 0, 4141, []),
  (15, .iconst 1, 1, 0, 0, 0, 0, []),
  (16, .iadd, 1, 0, 0, 0, 0, []),
  (17, .putfield 44, 3, 10, 11, 0, 4141, []),
  (20, .iconst 1, 1, 0, 0, 0, 0, []),
  (21, .ireturn, 1, 0, 0, 0, 0, [])]
def m154 : MI := (⟨"LeavesObjectModel", "takes", "(I)Z"⟩, prog_12_method_14_code, 2, (Option.some Jvm.ClassFile.FieldType.boolean), k154, 1, [5142, 1011, 5141, 29])
/-- LeavesObjectModel.takesNumber()Z -/
def k155 : List XE := [(0, .aload_n 0, 1, 0, 0, 0, 0, []),
  (1, .invokevirtual 231, 3, 156, 0, 0, 5147, [(10, 0)]),
  (4, .ifCond .ne 5, 3, 9, 0, 0, 0, []),
  (7, .iconst 0, 1, 0, 0, 0, 0, []),
  (8, .ireturn, 1, 0, 0, 0, 0, []),
  (9, .aload_n 0, 1, 0, 0, 0, 0, []),
  (10, .iconst 0, 1, 0, 0, 0, 0, []),
  (11, .putfield 47, 3, 10, 12, 0, 4142, []),
  (14, .iconst 0, 1, 0, 0, 0, 0, []),
  (15, .istore_n 1, 1, 1, 0, 0, 0, []),
  (16, .iload_n 1, 1, 1, 0, 0, 0, []),
  (17, .iconst 2, 1, 0, 0, 0, 0, []),
  (18, .if_icmp .ge 45, 3, 63, 0, 0, 0, []),
  (21, .aload_n 0, 1, 0, 0, 0, 0, []),
  (22, .invokevirtual 231, 3, 156, 0, 0, 5147, [(10, 0)]),
  (25, .ifCond .eq 38, 3, 63, 0, 0, 0, []),
  (28, .aload_n 0, 1, 0, 0, 0, 0, []),
  (29, .bipush 10, 2, 0, 0, 0, 0, []),
  (31, .aload_n 0, 1, 0, 0, 0, 0, []),
  (32, .getfield 47, 3, 10, 12, 0, 4142, []),
  (35, .imul, 1, 0, 0, 0, 0, []),
  (36, .aload_n 0, 1, 0, 0, 0, 0, []),
  (37, .invokevirtual 224, 3, 152, 0, 0, 5131, [(10, 0)]),
  (40, .iadd, 1, 0, 0, 0, 0, []),
  (41, .bipush 48, 2, 0, 0, 0, 0, []),
  (43, .isub, 1, 0, 0, 0, 0, []),
  (44, .putfield 47, 3, 10, 12, 0, 4142, []),
  (47, .aload_n 0, 1, 0, 0, 0, 0, []),
  (48, .dup, 1, 0, 0, 0, 0, []),
  (49, .getfield 44, 3, 10, 11, 0, 4141, []),
  (52, .iconst 1, 1, 0, 0, 0, 0, []),
  (53, .iadd, 1, 0, 0, 0, 0, []),
  (54, .putfield 44, 3, 10, 11, 0, 4141, []),
  (57, .iinc 1 1, 3, 1, 0, 0, 0, []),
  (60, .goto (-44), 3, 16, 0, 0, 0, []),
  (63, .iconst 1, 1, 0, 0, 0, 0, []),
  (64, .ireturn, 1, 0, 0, 0, 0, [])]
def m155 : MI := (⟨"LeavesObjectModel", "takesNumber", "()Z"⟩, prog_12_method_17_code, 2, (Option.some Jvm.ClassFile.FieldType.boolean), k155, 0, [5146, 1011, 5145, 30])
/-- LeavesObjectModel.isDigit()Z -/
def k156 : List XE := [(0, .aload_n 0, 1, 0, 0, 0, 0, []),
  (1, .aload_n 0, 1, 0, 0, 0, 0, []),
  (2, .invokevirtual 224, 3, 152, 0, 0, 5131, [(10, 0)]),
  (5, .bipush 48, 2, 0, 0, 0, 0, []),
  (7, .bipush 57, 2, 0, 0, 0, 0, []),
  (9, .invokevirtual 213, 3, 142, 3, 0, 5091, [(10, 0)]),
  (12, .ireturn, 1, 0, 0, 0, 0, [])]
def m156 : MI := (⟨"LeavesObjectModel", "isDigit", "()Z"⟩, prog_12_method_16_code, 1, (Option.some Jvm.ClassFile.FieldType.boolean), k156, 0, [5150, 1011, 5149, 31])
/-- LeavesObjectModel.takesE(I)Z -/
def k157 : List XE := [(0, .aload_n 0, 1, 0, 0, 0, 0, []),
  (1, .iconst 0, 1, 0, 0, 0, 0, []),
  (2, .putfield 77, 3, 10, 22, 0, 4152, []),
  (5, .aload_n 0, 1, 0, 0, 0, 0, []),
  (6, .iconst 0, 1, 0, 0, 0, 0, []),
  (7, .putfield 80, 3, 10, 23, 0, 4153, []),
  (10, .aload_n 0, 1, 0, 0, 0, 0, []),
  (11, .getfield 62, 3, 10, 17, 0, 4147, []),
  (14, .iload_n 1, 1, 1, 0, 0, 0, []),
  (15, .aload_n 0, 1, 0, 0, 0, 0, []),
  (16, .getfield 74, 3, 10, 21, 0, 4151, []),
  (19, .iastore, 1, 0, 0, 0, 0, []),
  (20, .iconst 1, 1, 0, 0, 0, 0, []),
  (21, .istore_n 2, 1, 2, 0, 0, 0, []),
  (22, .aload_n 0, 1, 0, 0, 0, 0, []),
  (23, .invokevirtual 224, 3, 152, 0, 0, 5131, [(10, 0)]),
  (26, .istore_n 3, 1, 3, 0, 0, 0, []),
  (27, .iload_n 2, 1, 2, 0, 0, 0, []),
  (28, .ifCond .eq 82, 3, 110, 0, 0, 0, []),
  (31, .iload_n 3, 1, 3, 0, 0, 0, []),
  (32, .bipush 33, 2, 0, 0, 0, 0, []),
  (34, .if_icmp .eq 9, 3, 43, 0, 0, 0, []),
  (37, .iload_n 3, 1, 3, 0, 0, 0, []),
  (38, .bipush 40, 2, 0, 0, 0, 0, []),
  (40, .if_icmp .ne 56, 3, 96, 0, 0, 0, []),
  (43, .aload_n 0, 1, 0, 0, 0, 0, []),
  (44, .getfield 80, 3, 10, 23, 0, 4153, []),
  (47, .iconst 4, 1, 0, 0, 0, 0, []),
  (48, .if_icmp .ne 5, 3, 53, 0, 0, 0, []),
  (51, .iconst 0, 1, 0, 0, 0, 0, []),
  (52, .ireturn, 1, 0, 0, 0, 0, []),
  (53, .aload_n 0, 1, 0, 0, 0, 0, []),
  (54, .dup, 1, 0, 0, 0, 0, []),
  (55, .getfield 80, 3, 10, 23, 0, 4153, []),
  (58, .iconst 1, 1, 0, 0, 0, 0, []),
  (59, .iadd, 1, 0, 0, 0, 0, []),
  (60, .putfield 80, 3, 10, 23, 0, 4153, []),
  (63, .aload_n 0, 1, 0, 0, 0, 0, []),
  (64, .getfield 71, 3, 10, 20, 0, 4150, []),
  (67, .aload_n 0, 1, 0, 0, 0, 0, []),
  (68, .getfield 77, 3, 10, 22, 0, 4152, []),
  (71, .iload_n 3, 1, 3, 0, 0, 0, []),
  (72, .iastore, 1, 0, 0, 0, 0, []),
  (73, .aload_n 0, 1, 0, 0, 0, 0, []),
  (74, .dup, 1, 0, 0, 0, 0, []),
  (75, .getfield 77, 3, 10, 22, 0, 4152, []),
  (78, .iconst 1, 1, 0, 0, 0, 0, []),
  (79, .iadd, 1, 0, 0, 0, 0, []),
  (80, .putfield 77, 3, 10, 22, 0, 4152, []),
  (83, .aload_n 0, 1, 0, 0, 0, 0, []),
  (84, .dup, 1, 0, 0, 0, 0, []),
  (85, .getfield 44, 3, 10, 11, 0, 4141, []),
  (88, .iconst 1, 1, 0, 0, 0, 0, []),
  (89, .iadd, 1, 0, 0, 0, 0, []),
  (90, .putfield 44, 3, 10, 11, 0, 4141, []),
  (93, .goto (-71), 3, 22, 0, 0, 0, []),
  (96, .aload_n 0, 1, 0, 0, 0, 0, []),
  (97, .invokevirtual 249, 3, 158, 0, 0, 5155, [(10, 0)]),
  (100, .ifCond .eq 8, 3, 108, 0, 0, 0, []),
  (103, .iconst 0, 1, 0, 0, 0, 0, []),
  (104, .istore_n 2, 1, 2, 0, 0, 0, []),
  (105, .goto (-83), 3, 22, 0, 0, 0, []),
  (108, .iconst 0, 1, 0, 0, 0, 0, []),
  (109, .ireturn, 1, 0, 0, 0, 0, []),
  (110, .iload_n 3, 1, 3, 0, 0, 0, []),
  (111, .bipush 38, 2, 0, 0, 0, 0, []),
  (113, .if_icmp .eq 9, 3, 122, 0, 0, 0, []),
  (116, .iload_n 3, 1, 3, 0, 0, 0, []),
  (117, .bipush 124, 2, 0, 0, 0, 0, []),
  (119, .if_icmp .ne 43, 3, 162, 0, 0, 0, []),
  (122, .aload_n 0, 1, 0, 0, 0, 0, []),
  (123, .iload_n 3, 1, 3, 0, 0, 0, []),
  (124, .invokevirtual 252, 3, 162, 1, 0, 5171, [(10, 0)]),
  (127, .aload_n 0, 1, 0, 0, 0, 0, []),
  (128, .getfield 71, 3, 10, 20, 0, 4150, []),
  (131, .aload_n 0, 1, 0, 0, 0, 0, []),
  (132, .getfield 77, 3, 10, 22, 0, 4152, []),
  (135, .iload_n 3, 1, 3, 0, 0, 0, []),
  (136, .iastore, 1, 0, 0, 0, 0, []),
  (137, .aload_n 0, 1, 0, 0, 0, 0, []),
  (138, .dup, 1, 0, 0, 0, 0, []),
  (139, .getfield 77, 3, 10, 22, 0, 4152, []),
  (142, .iconst 1, 1, 0, 0, 0, 0, []),
  (143, .iadd, 1, 0, 0, 0, 0, []),
  (144, .putfield 77, 3, 10, 22, 0, 4152, []),
  (147, .iconst 1, 1, 0, 0, 0, 0, []),
  (148, .istore_n 2, 1, 2, 0, 0, 0, []),
  (149, .aload_n 0, 1, 0, 0, 0, 0, []),
  (150, .dup, 1, 0, 0, 0, 0, []),
  (151, .getfield 44, 3, 10, 11, 0, 4141, []),
  (154, .iconst 1, 1, 0, 0, 0, 0, []),
  (155, .iadd, 1, 0, 0, 0, 0, []),
  (156, .putfield 44, 3, 10, 11, 0, 4141, []),
  (159, .goto (-137), 3, 22, 0, 0, 0, []),
  (162, .aload_n 0, 1, 0, 0, 0, 0, []),
  (163, .bipush 124, 2, 0, 0, 0, 0, []),
  (165, .invokevirtual 252, 3, 162, 1, 0, 5171, [(10, 0)]),
  (168, .aload_n 0, 1, 0, 0, 0, 0, []),
  (169, .getfield 65, 3, 10, 18, 0, 4148, []),
  (172, .iload_n 1, 1, 1, 0, 0, 0, []),
  (173, .aload_n 0, 1, 0, 0, 0, 0, []),
  (174, .getfield 74, 3, 10, 21, 0, 4151, []),
  (177, .iastore, 1, 0, 0, 0, 0, []),
  (178, .aload_n 0, 1, 0, 0, 0, 0, []),
  (179, .getfield 77, 3, 10, 22, 0, 4152, []),
  (182, .ifCond .ne 5, 3, 187, 0, 0, 0, []),
  (185, .iconst 1, 1, 0, 0, 0, 0, []),
  (186, .ireturn, 1, 0, 0, 0, 0, []),
  (187, .iload_n 3, 1, 3, 0, 0, 0, []),
  (188, .bipush 41, 2, 0, 0, 0, 0, []),
  (190, .if_icmp .eq 5, 3, 195, 0, 0, 0, []),
  (193, .iconst 0, 1, 0, 0, 0, 0, []),
  (194, .ireturn, 1, 0, 0, 0, 0, []),
  (195, .aload_n 0, 1, 0, 0, 0, 0, []),
  (196, .dup, 1, 0, 0, 0, 0, []),
  (197, .getfield 77, 3, 10, 22, 0, 4152, []),
  (200, .iconst 1, 1, 0, 0, 0, 0, []),
  (201, .isub, 1, 0, 0, 0, 0, []),
  (202, .putfield 77, 3, 10, 22, 0, 4152, []),
  (205, .aload_n 0, 1, 0, 0, 0, 0, []),
  (206, .dup, 1, 0, 0, 0, 0, []),
  (207, .getfield 80, 3, 10, 23, 0, 4153, []),
  (210, .iconst 1, 1, 0, 0, 0, 0, []),
  (211, .isub, 1, 0, 0, 0, 0, []),
  (212, .putfield 80, 3, 10, 23, 0, 4153, []),
  (215, .aload_n 0, 1, 0, 0, 0, 0, []),
  (216, .dup, 1, 0, 0, 0, 0, []),
  (217, .getfield 44, 3, 10, 11, 0, 4141, []),
  (220, .iconst 1, 1, 0, 0, 0, 0, []),
  (221, .iadd, 1, 0, 0, 0, 0, []),
  (222, .putfield 44, 3, 10, 11, 0, 4141, []),
  (225, .aload_n 0, 1, 0, 0, 0, 0, []),
  (226, .invokevirtual 246, 3, 161, 0, 0, 5167, [(10, 0)]),
  (229, .goto (-207), 3, 22, 0, 0, 0, [])]
def m157 : MI := (⟨"LeavesObjectModel", "takesE", "(I)Z"⟩, prog_12_method_23_code, 4, (Option.some Jvm.ClassFile.FieldType.boolean), k157, 1, [5154, 1011, 5153, 32])
/-- LeavesObjectModel.takesTest()Z -/
def k158 : List XE := [(0, .aload_n 0, 1, 0, 0, 0, 0, []),
  (1, .aload_n 0, 1, 0, 0, 0, 0, []),
  (2, .invokevirtual 224, 3, 152, 0, 0, 5131, [(10, 0)]),
  (5, .invokevirtual 239, 3, 159, 1, 0, 5159, [(10, 0)]),
  (8, .istore_n 1, 1, 1, 0, 0, 0, []),
  (9, .iload_n 1, 1, 1, 0, 0, 0, []),
  (10, .ifCond .ge 5, 3, 15, 0, 0, 0, []),
  (13, .iconst 0, 1, 0, 0, 0, 0, []),
  (14, .ireturn, 1, 0, 0, 0, 0, []),
  (15, .aload_n 0, 1, 0, 0, 0, 0, []),
  (16, .dup, 1, 0, 0, 0, 0, []),
  (17, .getfield 44, 3, 10, 11, 0, 4141, []),
  (20, .iconst 1, 1, 0, 0, 0, 0, []),
  (21, .iadd, 1, 0, 0, 0, 0, []),
  (22, .putfield 44, 3, 10, 11, 0, 4141, []),
  (25, .aload_n 0, 1, 0, 0, 0, 0, []),
  (26, .invokevirtual 224, 3, 152, 0, 0, 5131, [(10, 0)]),
  (29, .istore_n 2, 1, 2, 0, 0, 0, []),
  (30, .aload_n 0, 1, 0, 0, 0, 0, []),
  (31, .iload_n 2, 1, 2, 0, 0, 0, []),
  (32, .bipush 60, 2, 0, 0, 0, 0, []),
  (34, .bipush 62, 2, 0, 0, 0, 0, []),
  (36, .invokevirtual 213, 3, 142, 3, 0, 5091, [(10, 0)]),
  (39, .ifCond .ne 5, 3, 44, 0, 0, 0, []),
  (42, .iconst 0, 1, 0, 0, 0, 0, []),
  (43, .ireturn, 1, 0, 0, 0, 0, []),
  (44, .aload_n 0, 1, 0, 0, 0, 0, []),
  (45, .dup, 1, 0, 0, 0, 0, []),
  (46, .getfield 44, 3, 10, 11, 0, 4141, []),
  (49, .iconst 1, 1, 0, 0, 0, 0, []),
  (50, .iadd, 1, 0, 0, 0, 0, []),
  (51, .putfield 44, 3, 10, 11, 0, 4141, []),
  (54, .aload_n 0, 1, 0, 0, 0, 0, []),
  (55, .invokevirtual 243, 3, 155, 0, 0, 5143, [(10, 0)]),
  (58, .ifCond .ne 5, 3, 63, 0, 0, 0, []),
  (61, .iconst 0, 1, 0, 0, 0, 0, []),
  (62, .ireturn, 1, 0, 0, 0, 0, []),
  (63, .aload_n 0, 1, 0, 0, 0, 0, []),
  (64, .sipush 1000, 3, 0, 0, 0, 0, []),
  (67, .iload_n 1, 1, 1, 0, 0, 0, []),
  (68, .imul, 1, 0, 0, 0, 0, []),
  (69, .bipush 100, 2, 0, 0, 0, 0, []),
  (71, .iload_n 2, 1, 2, 0, 0, 0, []),
  (72, .bipush 60, 2, 0, 0, 0, 0, []),
  (74, .isub, 1, 0, 0, 0, 0, []),
  (75, .imul, 1, 0, 0, 0, 0, []),
  (76, .iadd, 1, 0, 0, 0, 0, []),
  (77, .aload_n 0, 1, 0, 0, 0, 0, []),
  (78, .getfield 47, 3, 10, 12, 0, 4142, []),
  (81, .iadd, 1, 0, 0, 0, 0, []),
  (82, .invokevirtual 235, 3, 160, 1, 0, 5163, [(10, 0)]),
  (85, .aload_n 0, 1, 0, 0, 0, 0, []),
  (86, .invokevirtual 246, 3, 161, 0, 0, 5167, [(10, 0)]),
  (89, .iconst 1, 1, 0, 0, 0, 0, []),
  (90, .ireturn, 1, 0, 0, 0, 0, [])]
def m158 : MI := (⟨"LeavesObjectModel", "takesTest", "()Z"⟩, prog_12_method_22_code, 3, (Option.some Jvm.ClassFile.FieldType.boolean), k158, 0, [5158, 1011, 5157, 33])
/-- LeavesObjectModel.place(I)I -/
def k159 : List XE := [(0, .iload_n 1, 1, 1, 0, 0, 0, []),
  (1, .lookupswitch 71 #[(99, 59), (107, 63), (108, 67), (110, 69), (118, 65), (119, 61)], 59, 72, 0, 0, 0, [(99, 60), (107, 64), (108, 68), (110, 70), (118, 66), (119, 62)]),
  (60, .iconst 0, 1, 0, 0, 0, 0, []),
  (61, .ireturn, 1, 0, 0, 0, 0, []),
  (62, .iconst 1, 1, 0, 0, 0, 0, []),
  (63, .ireturn, 1, 0, 0, 0, 0, []),
  (64, .iconst 2, 1, 0, 0, 0, 0, []),
  (65, .ireturn, 1, 0, 0, 0, 0, []),
  (66, .iconst 3, 1, 0, 0, 0, 0, []),
  (67, .ireturn, 1, 0, 0, 0, 0, []),
  (68, .iconst 4, 1, 0, 0, 0, 0, []),
  (69, .ireturn, 1, 0, 0, 0, 0, []),
  (70, .iconst 5, 1, 0, 0, 0, 0, []),
  (71, .ireturn, 1, 0, 0, 0, 0, []),
  (72, .iconst (-1), 1, 0, 0, 0, 0, []),
  (73, .ireturn, 1, 0, 0, 0, 0, [])]
def m159 : MI := (⟨"LeavesObjectModel", "place", "(I)I"⟩, prog_12_method_21_code, 2, (Option.some Jvm.ClassFile.FieldType.int), k159, 1, [5162, 1011, 5161, 34])
/-- LeavesObjectModel.emits(I)V -/
def k160 : List XE := [(0, .aload_n 0, 1, 0, 0, 0, 0, []),
  (1, .getfield 68, 3, 10, 19, 0, 4149, []),
  (4, .aload_n 0, 1, 0, 0, 0, 0, []),
  (5, .getfield 74, 3, 10, 21, 0, 4151, []),
  (8, .iload_n 1, 1, 1, 0, 0, 0, []),
  (9, .iastore, 1, 0, 0, 0, 0, []),
  (10, .aload_n 0, 1, 0, 0, 0, 0, []),
  (11, .dup, 1, 0, 0, 0, 0, []),
  (12, .getfield 74, 3, 10, 21, 0, 4151, []),
  (15, .iconst 1, 1, 0, 0, 0, 0, []),
  (16, .iadd, 1, 0, 0, 0, 0, []),
  (17, .putfield 74, 3, 10, 21, 0, 4151, []),
  (20, .return_, 1, 0, 0, 0, 0, [])]
def m160 : MI := (⟨"LeavesObjectModel", "emits", "(I)V"⟩, prog_12_method_18_code, 2, none, k160, 1, [5166, 1011, 5165, 35])
/-- LeavesObjectModel.whole()V -/
def k161 : List XE := [(0, .aload_n 0, 1, 0, 0, 0, 0, []),
  (1, .getfield 77, 3, 10, 22, 0, 4152, []),
  (4, .ifCond .le 48, 3, 52, 0, 0, 0, []),
  (7, .aload_n 0, 1, 0, 0, 0, 0, []),
  (8, .getfield 71, 3, 10, 20, 0, 4150, []),
  (11, .aload_n 0, 1, 0, 0, 0, 0, []),
  (12, .getfield 77, 3, 10, 22, 0, 4152, []),
  (15, .iconst 1, 1, 0, 0, 0, 0, []),
  (16, .isub, 1, 0, 0, 0, 0, []),
  (17, .iaload, 1, 0, 0, 0, 0, []),
  (18, .bipush 33, 2, 0, 0, 0, 0, []),
  (20, .if_icmp .ne 32, 3, 52, 0, 0, 0, []),
  (23, .aload_n 0, 1, 0, 0, 0, 0, []),
  (24, .bipush (-33), 2, 0, 0, 0, 0, []),
  (26, .invokevirtual 235, 3, 160, 1, 0, 5163, [(10, 0)]),
  (29, .aload_n 0, 1, 0, 0, 0, 0, []),
  (30, .dup, 1, 0, 0, 0, 0, []),
  (31, .getfield 77, 3, 10, 22, 0, 4152, []),
  (34, .iconst 1, 1, 0, 0, 0, 0, []),
  (35, .isub, 1, 0, 0, 0, 0, []),
  (36, .putfield 77, 3, 10, 22, 0, 4152, []),
  (39, .aload_n 0, 1, 0, 0, 0, 0, []),
  (40, .dup, 1, 0, 0, 0, 0, []),
  (41, .getfield 80, 3, 10, 23, 0, 4153, []),
  (44, .iconst 1, 1, 0, 0, 0, 0, []),
  (45, .isub, 1, 0, 0, 0, 0, []),
  (46, .putfield 80, 3, 10, 23, 0, 4153, []),
  (49, .goto (-49), 3, 0, 0, 0, 0, []),
  (52, .return_, 1, 0, 0, 0, 0, [])]
def m161 : MI := (⟨"LeavesObjectModel", "whole", "()V"⟩, prog_12_method_19_code, 1, none, k161, 0, [5170, 1011, 5169, 36])
/-- LeavesObjectModel.settle(I)V -/
def k162 : List XE := [(0, .aload_n 0, 1, 0, 0, 0, 0, []),
  (1, .getfield 77, 3, 10, 22, 0, 4152, []),
  (4, .ifCond .le 68, 3, 72, 0, 0, 0, []),
  (7, .aload_n 0, 1, 0, 0, 0, 0, []),
  (8, .getfield 71, 3, 10, 20, 0, 4150, []),
  (11, .aload_n 0, 1, 0, 0, 0, 0, []),
  (12, .getfield 77, 3, 10, 22, 0, 4152, []),
  (15, .iconst 1, 1, 0, 0, 0, 0, []),
  (16, .isub, 1, 0, 0, 0, 0, []),
  (17, .iaload, 1, 0, 0, 0, 0, []),
  (18, .bipush 38, 2, 0, 0, 0, 0, []),
  (20, .if_icmp .eq 25, 3, 45, 0, 0, 0, []),
  (23, .aload_n 0, 1, 0, 0, 0, 0, []),
  (24, .getfield 71, 3, 10, 20, 0, 4150, []),
  (27, .aload_n 0, 1, 0, 0, 0, 0, []),
  (28, .getfield 77, 3, 10, 22, 0, 4152, []),
  (31, .iconst 1, 1, 0, 0, 0, 0, []),
  (32, .isub, 1, 0, 0, 0, 0, []),
  (33, .iaload, 1, 0, 0, 0, 0, []),
  (34, .bipush 124, 2, 0, 0, 0, 0, []),
  (36, .if_icmp .ne 36, 3, 72, 0, 0, 0, []),
  (39, .iload_n 1, 1, 1, 0, 0, 0, []),
  (40, .bipush 38, 2, 0, 0, 0, 0, []),
  (42, .if_icmp .eq 30, 3, 72, 0, 0, 0, []),
  (45, .aload_n 0, 1, 0, 0, 0, 0, []),
  (46, .dup, 1, 0, 0, 0, 0, []),
  (47, .getfield 77, 3, 10, 22, 0, 4152, []),
  (50, .iconst 1, 1, 0, 0, 0, 0, []),
  (51, .isub, 1, 0, 0, 0, 0, []),
  (52, .putfield 77, 3, 10, 22, 0, 4152, []),
  (55, .aload_n 0, 1, 0, 0, 0, 0, []),
  (56, .aload_n 0, 1, 0, 0, 0, 0, []),
  (57, .getfield 71, 3, 10, 20, 0, 4150, []),
  (60, .aload_n 0, 1, 0, 0, 0, 0, []),
  (61, .getfield 77, 3, 10, 22, 0, 4152, []),
  (64, .iaload, 1, 0, 0, 0, 0, []),
  (65, .ineg, 1, 0, 0, 0, 0, []),
  (66, .invokevirtual 235, 3, 160, 1, 0, 5163, [(10, 0)]),
  (69, .goto (-69), 3, 0, 0, 0, 0, []),
  (72, .return_, 1, 0, 0, 0, 0, [])]
def m162 : MI := (⟨"LeavesObjectModel", "settle", "(I)V"⟩, prog_12_method_20_code, 2, none, k162, 1, [5174, 1011, 5173, 37])
/-- LeavesObjectModel.of(II)I -/
def k163 : List XE := [(0, .aload_n 0, 1, 0, 0, 0, 0, []),
  (1, .iload_n 1, 1, 1, 0, 0, 0, []),
  (2, .invokevirtual 221, 3, 145, 1, 0, 5103, [(10, 0)]),
  (5, .ifCond .ne 5, 3, 10, 0, 0, 0, []),
  (8, .iconst (-1), 1, 0, 0, 0, 0, []),
  (9, .ireturn, 1, 0, 0, 0, 0, []),
  (10, .aload_n 0, 1, 0, 0, 0, 0, []),
  (11, .iload_n 2, 1, 2, 0, 0, 0, []),
  (12, .bipush 10, 2, 0, 0, 0, 0, []),
  (14, .bipush 13, 2, 0, 0, 0, 0, []),
  (16, .invokevirtual 213, 3, 142, 3, 0, 5091, [(10, 0)]),
  (19, .ifCond .eq 13, 3, 32, 0, 0, 0, []),
  (22, .aload_n 0, 1, 0, 0, 0, 0, []),
  (23, .iload_n 1, 1, 1, 0, 0, 0, []),
  (24, .iload_n 2, 1, 2, 0, 0, 0, []),
  (25, .bipush 10, 2, 0, 0, 0, 0, []),
  (27, .isub, 1, 0, 0, 0, 0, []),
  (28, .invokevirtual 307, 3, 164, 2, 0, 5179, [(10, 0)]),
  (31, .ireturn, 1, 0, 0, 0, 0, []),
  (32, .aload_n 0, 1, 0, 0, 0, 0, []),
  (33, .iload_n 2, 1, 2, 0, 0, 0, []),
  (34, .bipush 20, 2, 0, 0, 0, 0, []),
  (36, .bipush 23, 2, 0, 0, 0, 0, []),
  (38, .invokevirtual 213, 3, 142, 3, 0, 5091, [(10, 0)]),
  (41, .ifCond .eq 13, 3, 54, 0, 0, 0, []),
  (44, .aload_n 0, 1, 0, 0, 0, 0, []),
  (45, .iload_n 1, 1, 1, 0, 0, 0, []),
  (46, .iload_n 2, 1, 2, 0, 0, 0, []),
  (47, .bipush 20, 2, 0, 0, 0, 0, []),
  (49, .isub, 1, 0, 0, 0, 0, []),
  (50, .invokevirtual 310, 3, 171, 2, 0, 5207, [(10, 0)]),
  (53, .ireturn, 1, 0, 0, 0, 0, []),
  (54, .iload_n 2, 1, 2, 0, 0, 0, []),
  (55, .tableswitch 68 0 4 #[33, 40, 47, 54, 61], 33, 123, 0, 0, 0, [(0, 88), (1, 95), (2, 102), (3, 109), (4, 116)]),
  (88, .aload_n 0, 1, 0, 0, 0, 0, []),
  (89, .getfield 16, 3, 10, 2, 0, 4132, []),
  (92, .iload_n 1, 1, 1, 0, 0, 0, []),
  (93, .iaload, 1, 0, 0, 0, 0, []),
  (94, .ireturn, 1, 0, 0, 0, 0, []),
  (95, .aload_n 0, 1, 0, 0, 0, 0, []),
  (96, .getfield 20, 3, 10, 3, 0, 4133, []),
  (99, .iload_n 1, 1, 1, 0, 0, 0, []),
  (100, .iaload, 1, 0, 0, 0, 0, []),
  (101, .ireturn, 1, 0, 0, 0, 0, []),
  (102, .aload_n 0, 1, 0, 0, 0, 0, []),
  (103, .getfield 23, 3, 10, 4, 0, 4134, []),
  (106, .iload_n 1, 1, 1, 0, 0, 0, []),
  (107, .iaload, 1, 0, 0, 0, 0, []),
  (108, .ireturn, 1, 0, 0, 0, 0, []),
  (109, .aload_n 0, 1, 0, 0, 0, 0, []),
  (110, .getfield 26, 3, 10, 5, 0, 4135, []),
  (113, .iload_n 1, 1, 1, 0, 0, 0, []),
  (114, .iaload, 1, 0, 0, 0, 0, []),
  (115, .ireturn, 1, 0, 0, 0, 0, []),
  (116, .aload_n 0, 1, 0, 0, 0, 0, []),
  (117, .getfield 29, 3, 10, 6, 0, 4136, []),
  (120, .iload_n 1, 1, 1, 0, 0, 0, []),
  (121, .iaload, 1, 0, 0, 0, 0, []),
  (122, .ireturn, 1, 0, 0, 0, 0, []),
  (123, .iconst (-1), 1, 0, 0, 0, 0, []),
  (124, .ireturn, 1, 0, 0, 0, 0, [])]
def m163 : MI := (⟨"LeavesObjectModel", "of", "(II)I"⟩, prog_12_method_41_code, 3, (Option.some Jvm.ClassFile.FieldType.int), k163, 2, [5178, 1011, 5176, 5177])
/-- LeavesObjectModel.will(II)I -/
def k164 : List XE := [(0, .iconst 5, 1, 0, 0, 0, 0, []),
  (1, .istore_n 3, 1, 3, 0, 0, 0, []),
  (2, .aload_n 0, 1, 0, 0, 0, 0, []),
  (3, .invokevirtual 270, 3, 165, 0, 0, 5183, [(10, 0)]),
  (6, .istore 4, 2, 4, 0, 0, 0, []),
  (8, .iload 4, 2, 4, 0, 0, 0, []),
  (10, .aload_n 0, 1, 0, 0, 0, 0, []),
  (11, .invokevirtual 273, 3, 166, 0, 0, 5187, [(10, 0)]),
  (14, .if_icmp .ge 65, 3, 79, 0, 0, 0, []),
  (17, .aload_n 0, 1, 0, 0, 0, 0, []),
  (18, .getfield 56, 3, 10, 15, 0, 4145, []),
  (21, .iload 4, 2, 4, 0, 0, 0, []),
  (23, .iaload, 1, 0, 0, 0, 0, []),
  (24, .iconst 1, 1, 0, 0, 0, 0, []),
  (25, .if_icmp .gt 48, 3, 73, 0, 0, 0, []),
  (28, .aload_n 0, 1, 0, 0, 0, 0, []),
  (29, .iload 4, 2, 4, 0, 0, 0, []),
  (31, .iload_n 1, 1, 1, 0, 0, 0, []),
  (32, .iload_n 2, 1, 2, 0, 0, 0, []),
  (33, .invokevirtual 283, 3, 167, 3, 0, 5191, [(10, 0)]),
  (36, .ifCond .ne 6, 3, 42, 0, 0, 0, []),
  (39, .goto 34, 3, 73, 0, 0, 0, []),
  (42, .iload_n 3, 1, 3, 0, 0, 0, []),
  (43, .aload_n 0, 1, 0, 0, 0, 0, []),
  (44, .getfield 56, 3, 10, 15, 0, 4145, []),
  (47, .iload 4, 2, 4, 0, 0, 0, []),
  (49, .iaload, 1, 0, 0, 0, 0, []),
  (50, .ifCond .ne 13, 3, 63, 0, 0, 0, []),
  (53, .aload_n 0, 1, 0, 0, 0, 0, []),
  (54, .getfield 59, 3, 10, 16, 0, 4146, []),
  (57, .iload 4, 2, 4, 0, 0, 0, []),
  (59, .iaload, 1, 0, 0, 0, 0, []),
  (60, .goto 11, 3, 71, 0, 0, 0, []),
  (63, .aload_n 0, 1, 0, 0, 0, 0, []),
  (64, .getfield 59, 3, 10, 16, 0, 4146, []),
  (67, .iload 4, 2, 4, 0, 0, 0, []),
  (69, .iaload, 1, 0, 0, 0, 0, []),
  (70, .ineg, 1, 0, 0, 0, 0, []),
  (71, .iadd, 1, 0, 0, 0, 0, []),
  (72, .istore_n 3, 1, 3, 0, 0, 0, []),
  (73, .iinc 4 1, 3, 4, 0, 0, 0, []),
  (76, .goto (-68), 3, 8, 0, 0, 0, []),
  (79, .iload_n 3, 1, 3, 0, 0, 0, []),
  (80, .ifCond .ge 7, 3, 87, 0, 0, 0, []),
  (83, .iconst 0, 1, 0, 0, 0, 0, []),
  (84, .goto 4, 3, 88, 0, 0, 0, []),
  (87, .iload_n 3, 1, 3, 0, 0, 0, []),
  (88, .ireturn, 1, 0, 0, 0, 0, [])]
def m164 : MI := (⟨"LeavesObjectModel", "will", "(II)I"⟩, prog_12_method_33_code, 5, (Option.some Jvm.ClassFile.FieldType.int), k164, 2, [5182, 1011, 5181, 38])
/-- LeavesObjectModel.begin()I -/
def k165 : List XE := [(0, .aload_n 0, 1, 0, 0, 0, 0, []),
  (1, .getfield 38, 3, 10, 9, 0, 4139, []),
  (4, .ifCond .ge 7, 3, 11, 0, 0, 0, []),
  (7, .iconst 0, 1, 0, 0, 0, 0, []),
  (8, .goto 10, 3, 18, 0, 0, 0, []),
  (11, .bipush 10, 2, 0, 0, 0, 0, []),
  (13, .aload_n 0, 1, 0, 0, 0, 0, []),
  (14, .getfield 38, 3, 10, 9, 0, 4139, []),
  (17, .imul, 1, 0, 0, 0, 0, []),
  (18, .ireturn, 1, 0, 0, 0, 0, [])]
def m165 : MI := (⟨"LeavesObjectModel", "begin", "()I"⟩, prog_12_method_28_code, 1, (Option.some Jvm.ClassFile.FieldType.int), k165, 0, [5186, 1011, 5185, 39])
/-- LeavesObjectModel.behind()I -/
def k166 : List XE := [(0, .aload_n 0, 1, 0, 0, 0, 0, []),
  (1, .getfield 38, 3, 10, 9, 0, 4139, []),
  (4, .ifCond .ge 7, 3, 11, 0, 0, 0, []),
  (7, .iconst 0, 1, 0, 0, 0, 0, []),
  (8, .goto 20, 3, 28, 0, 0, 0, []),
  (11, .bipush 10, 2, 0, 0, 0, 0, []),
  (13, .aload_n 0, 1, 0, 0, 0, 0, []),
  (14, .getfield 38, 3, 10, 9, 0, 4139, []),
  (17, .imul, 1, 0, 0, 0, 0, []),
  (18, .aload_n 0, 1, 0, 0, 0, 0, []),
  (19, .getfield 53, 3, 10, 14, 0, 4144, []),
  (22, .aload_n 0, 1, 0, 0, 0, 0, []),
  (23, .getfield 38, 3, 10, 9, 0, 4139, []),
  (26, .iaload, 1, 0, 0, 0, 0, []),
  (27, .iadd, 1, 0, 0, 0, 0, []),
  (28, .ireturn, 1, 0, 0, 0, 0, [])]
def m166 : MI := (⟨"LeavesObjectModel", "behind", "()I"⟩, prog_12_method_29_code, 1, (Option.some Jvm.ClassFile.FieldType.int), k166, 0, [5190, 1011, 5189, 40])
/-- LeavesObjectModel.holds(III)Z -/
def k167 : List XE := [(0, .iconst 0, 1, 0, 0, 0, 0, []),
  (1, .istore 4, 2, 4, 0, 0, 0, []),
  (3, .aload_n 0, 1, 0, 0, 0, 0, []),
  (4, .getfield 62, 3, 10, 17, 0, 4147, []),
  (7, .iload_n 1, 1, 1, 0, 0, 0, []),
  (8, .iaload, 1, 0, 0, 0, 0, []),
  (9, .istore 5, 2, 5, 0, 0, 0, []),
  (11, .iload 5, 2, 5, 0, 0, 0, []),
  (13, .aload_n 0, 1, 0, 0, 0, 0, []),
  (14, .getfield 65, 3, 10, 18, 0, 4148, []),
  (17, .iload_n 1, 1, 1, 0, 0, 0, []),
  (18, .iaload, 1, 0, 0, 0, 0, []),
  (19, .if_icmp .ge 234, 3, 253, 0, 0, 0, []),
  (22, .aload_n 0, 1, 0, 0, 0, 0, []),
  (23, .getfield 68, 3, 10, 19, 0, 4149, []),
  (26, .iload 5, 2, 5, 0, 0, 0, []),
  (28, .iaload, 1, 0, 0, 0, 0, []),
  (29, .istore 6, 2, 6, 0, 0, 0, []),
  (31, .iload 6, 2, 6, 0, 0, 0, []),
  (33, .bipush (-33), 2, 0, 0, 0, 0, []),
  (35, .if_icmp .ne 32, 3, 67, 0, 0, 0, []),
  (38, .aload_n 0, 1, 0, 0, 0, 0, []),
  (39, .getfield 86, 3, 10, 25, 0, 4155, []),
  (42, .iload 4, 2, 4, 0, 0, 0, []),
  (44, .iconst 1, 1, 0, 0, 0, 0, []),
  (45, .isub, 1, 0, 0, 0, 0, []),
  (46, .aload_n 0, 1, 0, 0, 0, 0, []),
  (47, .getfield 86, 3, 10, 25, 0, 4155, []),
  (50, .iload 4, 2, 4, 0, 0, 0, []),
  (52, .iconst 1, 1, 0, 0, 0, 0, []),
  (53, .isub, 1, 0, 0, 0, 0, []),
  (54, .baload, 1, 0, 0, 0, 0, []),
  (55, .ifCond .ne 7, 3, 62, 0, 0, 0, []),
  (58, .iconst 1, 1, 0, 0, 0, 0, []),
  (59, .goto 4, 3, 63, 0, 0, 0, []),
  (62, .iconst 0, 1, 0, 0, 0, 0, []),
  (63, .bastore, 1, 0, 0, 0, 0, []),
  (64, .goto 183, 3, 247, 0, 0, 0, []),
  (67, .iload 6, 2, 6, 0, 0, 0, []),
  (69, .ifCond .ge 82, 3, 151, 0, 0, 0, []),
  (72, .iinc 4 (-1), 3, 4, 0, 0, 0, []),
  (75, .aload_n 0, 1, 0, 0, 0, 0, []),
  (76, .getfield 86, 3, 10, 25, 0, 4155, []),
  (79, .iload 4, 2, 4, 0, 0, 0, []),
  (81, .iconst 1, 1, 0, 0, 0, 0, []),
  (82, .isub, 1, 0, 0, 0, 0, []),
  (83, .iload 6, 2, 6, 0, 0, 0, []),
  (85, .bipush (-38), 2, 0, 0, 0, 0, []),
  (87, .if_icmp .ne 33, 3, 120, 0, 0, 0, []),
  (90, .aload_n 0, 1, 0, 0, 0, 0, []),
  (91, .getfield 86, 3, 10, 25, 0, 4155, []),
  (94, .iload 4, 2, 4, 0, 0, 0, []),
  (96, .iconst 1, 1, 0, 0, 0, 0, []),
  (97, .isub, 1, 0, 0, 0, 0, []),
  (98, .baload, 1, 0, 0, 0, 0, []),
  (99, .ifCond .eq 17, 3, 116, 0, 0, 0, []),
  (102, .aload_n 0, 1, 0, 0, 0, 0, []),
  (103, .getfield 86, 3, 10, 25, 0, 4155, []),
  (106, .iload 4, 2, 4, 0, 0, 0, []),
  (108, .baload, 1, 0, 0, 0, 0, []),
  (109, .ifCond .eq 7, 3, 116, 0, 0, 0, []),
  (112, .iconst 1, 1, 0, 0, 0, 0, []),
  (113, .goto 34, 3, 147, 0, 0, 0, []),
  (116, .iconst 0, 1, 0, 0, 0, 0, []),
  (117, .goto 30, 3, 147, 0, 0, 0, []),
  (120, .aload_n 0, 1, 0, 0, 0, 0, []),
  (121, .getfield 86, 3, 10, 25, 0, 4155, []),
  (124, .iload 4, 2, 4, 0, 0, 0, []),
  (126, .iconst 1, 1, 0, 0, 0, 0, []),
  (127, .isub, 1, 0, 0, 0, 0, []),
  (128, .baload, 1, 0, 0, 0, 0, []),
  (129, .ifCond .ne 13, 3, 142, 0, 0, 0, []),
  (132, .aload_n 0, 1, 0, 0, 0, 0, []),
  (133, .getfield 86, 3, 10, 25, 0, 4155, []),
  (136, .iload 4, 2, 4, 0, 0, 0, []),
  (138, .baload, 1, 0, 0, 0, 0, []),
  (139, .ifCond .eq 7, 3, 146, 0, 0, 0, []),
  (142, .iconst 1, 1, 0, 0, 0, 0, []),
  (143, .goto 4, 3, 147, 0, 0, 0, []),
  (146, .iconst 0, 1, 0, 0, 0, 0, []),
  (147, .bastore, 1, 0, 0, 0, 0, []),
  (148, .goto 99, 3, 247, 0, 0, 0, []),
  (151, .aload_n 0, 1, 0, 0, 0, 0, []),
  (152, .iload 6, 2, 6, 0, 0, 0, []),
  (154, .sipush 1000, 3, 0, 0, 0, 0, []),
  (157, .idiv, 1, 0, 0, 0, 0, []),
  (158, .iload_n 2, 1, 2, 0, 0, 0, []),
  (159, .iload_n 3, 1, 3, 0, 0, 0, []),
  (160, .invokevirtual 279, 3, 168, 3, 0, 5195, [(10, 0)]),
  (163, .istore 7, 2, 7, 0, 0, 0, []),
  (165, .iload 6, 2, 6, 0, 0, 0, []),
  (167, .bipush 100, 2, 0, 0, 0, 0, []),
  (169, .idiv, 1, 0, 0, 0, 0, []),
  (170, .bipush 10, 2, 0, 0, 0, 0, []),
  (172, .irem, 1, 0, 0, 0, 0, []),
  (173, .istore 8, 2, 8, 0, 0, 0, []),
  (175, .aload_n 0, 1, 0, 0, 0, 0, []),
  (176, .getfield 86, 3, 10, 25, 0, 4155, []),
  (179, .iload 4, 2, 4, 0, 0, 0, []),
  (181, .iload 8, 2, 8, 0, 0, 0, []),
  (183, .ifCond .ne 21, 3, 204, 0, 0, 0, []),
  (186, .iload 7, 2, 7, 0, 0, 0, []),
  (188, .iload 6, 2, 6, 0, 0, 0, []),
  (190, .bipush 100, 2, 0, 0, 0, 0, []),
  (192, .irem, 1, 0, 0, 0, 0, []),
  (193, .if_icmp .ge 7, 3, 200, 0, 0, 0, []),
  (196, .iconst 1, 1, 0, 0, 0, 0, []),
  (197, .goto 46, 3, 243, 0, 0, 0, []),
  (200, .iconst 0, 1, 0, 0, 0, 0, []),
  (201, .goto 42, 3, 243, 0, 0, 0, []),
  (204, .iload 8, 2, 8, 0, 0, 0, []),
  (206, .iconst 1, 1, 0, 0, 0, 0, []),
  (207, .if_icmp .ne 21, 3, 228, 0, 0, 0, []),
  (210, .iload 7, 2, 7, 0, 0, 0, []),
  (212, .iload 6, 2, 6, 0, 0, 0, []),
  (214, .bipush 100, 2, 0, 0, 0, 0, []),
  (216, .irem, 1, 0, 0, 0, 0, []),
  (217, .if_icmp .ne 7, 3, 224, 0, 0, 0, []),
  (220, .iconst 1, 1, 0, 0, 0, 0, []),
  (221, .goto 22, 3, 243, 0, 0, 0, []),
  (224, .iconst 0, 1, 0, 0, 0, 0, []),
  (225, .goto 18, 3, 243, 0, 0, 0, []),
  (228, .iload 7, 2, 7, 0, 0, 0, []),
  (230, .iload 6, 2, 6, 0, 0, 0, []),
  (232, .bipush 100, 2, 0, 0, 0, 0, []),
  (234, .irem, 1, 0, 0, 0, 0, []),
  (235, .if_icmp .le 7, 3, 242, 0, 0, 0, []),
  (238, .iconst 1, 1, 0, 0, 0, 0, []),
  (239, .goto 4, 3, 243, 0, 0, 0, []),
  (242, .iconst 0, 1, 0, 0, 0, 0, []),
  (243, .bastore, 1, 0, 0, 0, 0, []),
  (244, .iinc 4 1, 3, 4, 0, 0, 0, []),
  (247, .iinc 5 1, 3, 5, 0, 0, 0, []),
  (250, .goto (-239), 3, 11, 0, 0, 0, []),
  (253, .aload_n 0, 1, 0, 0, 0, 0, []),
  (254, .getfield 86, 3, 10, 25, 0, 4155, []),
  (257, .iconst 0, 1, 0, 0, 0, 0, []),
  (258, .baload, 1, 0, 0, 0, 0, []),
  (259, .ireturn, 1, 0, 0, 0, 0, [])]
def m167 : MI := (⟨"LeavesObjectModel", "holds", "(III)Z"⟩, prog_12_method_32_code, 9, (Option.some Jvm.ClassFile.FieldType.boolean), k167, 3, [5194, 1011, 5193, 41])
/-- LeavesObjectModel.factOf(III)I -/
def k168 : List XE := [(0, .iload_n 1, 1, 1, 0, 0, 0, []),
  (1, .tableswitch 64 0 4 #[35, 37, 39, 46, 53], 35, 65, 0, 0, 0, [(0, 36), (1, 38), (2, 40), (3, 47), (4, 54)]),
  (36, .iload_n 2, 1, 2, 0, 0, 0, []),
  (37, .ireturn, 1, 0, 0, 0, 0, []),
  (38, .iload_n 3, 1, 3, 0, 0, 0, []),
  (39, .ireturn, 1, 0, 0, 0, 0, []),
  (40, .aload_n 0, 1, 0, 0, 0, 0, []),
  (41, .getfield 16, 3, 10, 2, 0, 4132, []),
  (44, .iload_n 2, 1, 2, 0, 0, 0, []),
  (45, .iaload, 1, 0, 0, 0, 0, []),
  (46, .ireturn, 1, 0, 0, 0, 0, []),
  (47, .aload_n 0, 1, 0, 0, 0, 0, []),
  (48, .getfield 20, 3, 10, 3, 0, 4133, []),
  (51, .iload_n 2, 1, 2, 0, 0, 0, []),
  (52, .iaload, 1, 0, 0, 0, 0, []),
  (53, .ireturn, 1, 0, 0, 0, 0, []),
  (54, .aload_n 0, 1, 0, 0, 0, 0, []),
  (55, .aload_n 0, 1, 0, 0, 0, 0, []),
  (56, .getfield 23, 3, 10, 4, 0, 4134, []),
  (59, .iload_n 2, 1, 2, 0, 0, 0, []),
  (60, .iaload, 1, 0, 0, 0, 0, []),
  (61, .invokevirtual 276, 3, 169, 1, 0, 5199, [(10, 0)]),
  (64, .ireturn, 1, 0, 0, 0, 0, []),
  (65, .aload_n 0, 1, 0, 0, 0, 0, []),
  (66, .getfield 13, 3, 10, 1, 0, 4131, []),
  (69, .bipush 10, 2, 0, 0, 0, 0, []),
  (71, .irem, 1, 0, 0, 0, 0, []),
  (72, .ireturn, 1, 0, 0, 0, 0, [])]
def m168 : MI := (⟨"LeavesObjectModel", "factOf", "(III)I"⟩, prog_12_method_31_code, 4, (Option.some Jvm.ClassFile.FieldType.int), k168, 3, [5198, 1011, 5197, 42])
/-- LeavesObjectModel.bits(I)I -/
def k169 : List XE := [(0, .iconst 0, 1, 0, 0, 0, 0, []),
  (1, .istore_n 2, 1, 2, 0, 0, 0, []),
  (2, .iconst 0, 1, 0, 0, 0, 0, []),
  (3, .istore_n 3, 1, 3, 0, 0, 0, []),
  (4, .iload_n 3, 1, 3, 0, 0, 0, []),
  (5, .bipush 12, 2, 0, 0, 0, 0, []),
  (7, .if_icmp .ge 26, 3, 33, 0, 0, 0, []),
  (10, .iload_n 2, 1, 2, 0, 0, 0, []),
  (11, .aload_n 0, 1, 0, 0, 0, 0, []),
  (12, .iload_n 1, 1, 1, 0, 0, 0, []),
  (13, .iload_n 3, 1, 3, 0, 0, 0, []),
  (14, .invokevirtual 209, 3, 170, 2, 0, 5203, [(10, 0)]),
  (17, .ifCond .eq 7, 3, 24, 0, 0, 0, []),
  (20, .iconst 1, 1, 0, 0, 0, 0, []),
  (21, .goto 4, 3, 25, 0, 0, 0, []),
  (24, .iconst 0, 1, 0, 0, 0, 0, []),
  (25, .iadd, 1, 0, 0, 0, 0, []),
  (26, .istore_n 2, 1, 2, 0, 0, 0, []),
  (27, .iinc 3 1, 3, 3, 0, 0, 0, []),
  (30, .goto (-26), 3, 4, 0, 0, 0, []),
  (33, .iload_n 2, 1, 2, 0, 0, 0, []),
  (34, .ireturn, 1, 0, 0, 0, 0, [])]
def m169 : MI := (⟨"LeavesObjectModel", "bits", "(I)I"⟩, prog_12_method_5_code, 4, (Option.some Jvm.ClassFile.FieldType.int), k169, 1, [5202, 1011, 5201, 43])
/-- LeavesObjectModel.has(II)Z -/
def k170 : List XE := [(0, .iload_n 1, 1, 1, 0, 0, 0, []),
  (1, .iload_n 2, 1, 2, 0, 0, 0, []),
  (2, .ishr, 1, 0, 0, 0, 0, []),
  (3, .iconst 1, 1, 0, 0, 0, 0, []),
  (4, .iand, 1, 0, 0, 0, 0, []),
  (5, .iconst 1, 1, 0, 0, 0, 0, []),
  (6, .if_icmp .ne 7, 3, 13, 0, 0, 0, []),
  (9, .iconst 1, 1, 0, 0, 0, 0, []),
  (10, .goto 4, 3, 14, 0, 0, 0, []),
  (13, .iconst 0, 1, 0, 0, 0, 0, []),
  (14, .ireturn, 1, 0, 0, 0, 0, [])]
def m170 : MI := (⟨"LeavesObjectModel", "has", "(II)Z"⟩, prog_12_method_3_code, 3, (Option.some Jvm.ClassFile.FieldType.boolean), k170, 2, [5206, 1011, 5205, 44])
/-- LeavesObjectModel.does(II)I -/
def k171 : List XE := [(0, .aload_n 0, 1, 0, 0, 0, 0, []),
  (1, .getfield 23, 3, 10, 4, 0, 4134, []),
  (4, .iload_n 1, 1, 1, 0, 0, 0, []),
  (5, .iaload, 1, 0, 0, 0, 0, []),
  (6, .istore_n 3, 1, 3, 0, 0, 0, []),
  (7, .aload_n 0, 1, 0, 0, 0, 0, []),
  (8, .getfield 16, 3, 10, 2, 0, 4132, []),
  (11, .iload_n 1, 1, 1, 0, 0, 0, []),
  (12, .iaload, 1, 0, 0, 0, 0, []),
  (13, .tableswitch 131 1 6 #[39, 46, 54, 68, 79, 101], 39, 144, 0, 0, 0, [(1, 52), (2, 59), (3, 67), (4, 81), (5, 92), (6, 114)]),
  (52, .aload_n 0, 1, 0, 0, 0, 0, []),
  (53, .iload_n 3, 1, 3, 0, 0, 0, []),
  (54, .iload_n 2, 1, 2, 0, 0, 0, []),
  (55, .invokevirtual 304, 3, 172, 2, 0, 5211, [(10, 0)]),
  (58, .ireturn, 1, 0, 0, 0, 0, []),
  (59, .aload_n 0, 1, 0, 0, 0, 0, []),
  (60, .iload_n 3, 1, 3, 0, 0, 0, []),
  (61, .iload_n 2, 1, 2, 0, 0, 0, []),
  (62, .iconst 1, 1, 0, 0, 0, 0, []),
  (63, .invokevirtual 300, 3, 173, 3, 0, 5215, [(10, 0)]),
  (66, .ireturn, 1, 0, 0, 0, 0, []),
  (67, .aload_n 0, 1, 0, 0, 0, 0, []),
  (68, .aload_n 0, 1, 0, 0, 0, 0, []),
  (69, .iload_n 3, 1, 3, 0, 0, 0, []),
  (70, .iload_n 2, 1, 2, 0, 0, 0, []),
  (71, .iconst 0, 1, 0, 0, 0, 0, []),
  (72, .invokevirtual 300, 3, 173, 3, 0, 5215, [(10, 0)]),
  (75, .iload_n 2, 1, 2, 0, 0, 0, []),
  (76, .iconst 0, 1, 0, 0, 0, 0, []),
  (77, .invokevirtual 300, 3, 173, 3, 0, 5215, [(10, 0)]),
  (80, .ireturn, 1, 0, 0, 0, 0, []),
  (81, .aload_n 0, 1, 0, 0, 0, 0, []),
  (82, .iload_n 3, 1, 3, 0, 0, 0, []),
  (83, .iload_n 2, 1, 2, 0, 0, 0, []),
  (84, .invokevirtual 304, 3, 172, 2, 0, 5211, [(10, 0)]),
  (87, .sipush 255, 3, 0, 0, 0, 0, []),
  (90, .iand, 1, 0, 0, 0, 0, []),
  (91, .ireturn, 1, 0, 0, 0, 0, []),
  (92, .aload_n 0, 1, 0, 0, 0, 0, []),
  (93, .iload_n 3, 1, 3, 0, 0, 0, []),
  (94, .iload_n 2, 1, 2, 0, 0, 0, []),
  (95, .aload_n 0, 1, 0, 0, 0, 0, []),
  (96, .getfield 13, 3, 10, 1, 0, 4131, []),
  (99, .iconst 2, 1, 0, 0, 0, 0, []),
  (100, .irem, 1, 0, 0, 0, 0, []),
  (101, .iconst 1, 1, 0, 0, 0, 0, []),
  (102, .if_icmp .ne 7, 3, 109, 0, 0, 0, []),
  (105, .iconst 1, 1, 0, 0, 0, 0, []),
  (106, .goto 4, 3, 110, 0, 0, 0, []),
  (109, .iconst 0, 1, 0, 0, 0, 0, []),
  (110, .invokevirtual 300, 3, 173, 3, 0, 5215, [(10, 0)]),
  (113, .ireturn, 1, 0, 0, 0, 0, []),
  (114, .aload_n 0, 1, 0, 0, 0, 0, []),
  (115, .aload_n 0, 1, 0, 0, 0, 0, []),
  (116, .iload_n 3, 1, 3, 0, 0, 0, []),
  (117, .iload_n 2, 1, 2, 0, 0, 0, []),
  (118, .iconst 0, 1, 0, 0, 0, 0, []),
  (119, .invokevirtual 300, 3, 173, 3, 0, 5215, [(10, 0)]),
  (122, .iload_n 2, 1, 2, 0, 0, 0, []),
  (123, .iconst 0, 1, 0, 0, 0, 0, []),
  (124, .invokevirtual 300, 3, 173, 3, 0, 5215, [(10, 0)]),
  (127, .aload_n 0, 1, 0, 0, 0, 0, []),
  (128, .getfield 32, 3, 10, 7, 0, 4137, []),
  (131, .iconst 4, 1, 0, 0, 0, 0, []),
  (132, .iload_n 1, 1, 1, 0, 0, 0, []),
  (133, .imul, 1, 0, 0, 0, 0, []),
  (134, .aload_n 0, 1, 0, 0, 0, 0, []),
  (135, .getfield 13, 3, 10, 1, 0, 4131, []),
  (138, .iconst 4, 1, 0, 0, 0, 0, []),
  (139, .irem, 1, 0, 0, 0, 0, []),
  (140, .iadd, 1, 0, 0, 0, 0, []),
  (141, .iaload, 1, 0, 0, 0, 0, []),
  (142, .ior, 1, 0, 0, 0, 0, []),
  (143, .ireturn, 1, 0, 0, 0, 0, []),
  (144, .aload_n 0, 1, 0, 0, 0, 0, []),
  (145, .iload_n 3, 1, 3, 0, 0, 0, []),
  (146, .iload_n 2, 1, 2, 0, 0, 0, []),
  (147, .iconst 0, 1, 0, 0, 0, 0, []),
  (148, .invokevirtual 300, 3, 173, 3, 0, 5215, [(10, 0)]),
  (151, .ireturn, 1, 0, 0, 0, 0, [])]
def m171 : MI := (⟨"LeavesObjectModel", "does", "(II)I"⟩, prog_12_method_40_code, 4, (Option.some Jvm.ClassFile.FieldType.int), k171, 2, [5210, 1011, 5209, 45])
/-- LeavesObjectModel.shyly(II)I -/
def k172 : List XE := [(0, .aload_n 0, 1, 0, 0, 0, 0, []),
  (1, .iload_n 1, 1, 1, 0, 0, 0, []),
  (2, .invokevirtual 276, 3, 169, 1, 0, 5199, [(10, 0)]),
  (5, .bipush 6, 2, 0, 0, 0, 0, []),
  (7, .if_icmp .le 7, 3, 14, 0, 0, 0, []),
  (10, .iload_n 1, 1, 1, 0, 0, 0, []),
  (11, .goto 10, 3, 21, 0, 0, 0, []),
  (14, .aload_n 0, 1, 0, 0, 0, 0, []),
  (15, .iload_n 1, 1, 1, 0, 0, 0, []),
  (16, .iload_n 2, 1, 2, 0, 0, 0, []),
  (17, .iconst 0, 1, 0, 0, 0, 0, []),
  (18, .invokevirtual 300, 3, 173, 3, 0, 5215, [(10, 0)]),
  (21, .ireturn, 1, 0, 0, 0, 0, [])]
def m172 : MI := (⟨"LeavesObjectModel", "shyly", "(II)I"⟩, prog_12_method_39_code, 3, (Option.some Jvm.ClassFile.FieldType.int), k172, 2, [5214, 1011, 5213, 46])
/-- LeavesObjectModel.plainly(IIZ)I -/
def k173 : List XE := [(0, .iload_n 2, 1, 2, 0, 0, 0, []),
  (1, .tableswitch 57 0 2 #[27, 34, 41], 27, 58, 0, 0, 0, [(0, 28), (1, 35), (2, 42)]),
  (28, .aload_n 0, 1, 0, 0, 0, 0, []),
  (29, .iload_n 1, 1, 1, 0, 0, 0, []),
  (30, .iload_n 3, 1, 3, 0, 0, 0, []),
  (31, .invokevirtual 290, 3, 174, 2, 0, 5219, [(10, 0)]),
  (34, .ireturn, 1, 0, 0, 0, 0, []),
  (35, .aload_n 0, 1, 0, 0, 0, 0, []),
  (36, .iload_n 1, 1, 1, 0, 0, 0, []),
  (37, .iload_n 3, 1, 3, 0, 0, 0, []),
  (38, .invokevirtual 294, 3, 175, 2, 0, 5223, [(10, 0)]),
  (41, .ireturn, 1, 0, 0, 0, 0, []),
  (42, .aload_n 0, 1, 0, 0, 0, 0, []),
  (43, .iload_n 1, 1, 1, 0, 0, 0, []),
  (44, .iconst 0, 1, 0, 0, 0, 0, []),
  (45, .iload_n 3, 1, 3, 0, 0, 0, []),
  (46, .ifCond .eq 7, 3, 53, 0, 0, 0, []),
  (49, .iconst 3, 1, 0, 0, 0, 0, []),
  (50, .goto 4, 3, 54, 0, 0, 0, []),
  (53, .iconst 1, 1, 0, 0, 0, 0, []),
  (54, .invokevirtual 297, 3, 177, 3, 0, 5231, [(10, 0)]),
  (57, .ireturn, 1, 0, 0, 0, 0, []),
  (58, .aload_n 0, 1, 0, 0, 0, 0, []),
  (59, .iload_n 1, 1, 1, 0, 0, 0, []),
  (60, .iload_n 3, 1, 3, 0, 0, 0, []),
  (61, .ifCond .eq 7, 3, 68, 0, 0, 0, []),
  (64, .iconst 2, 1, 0, 0, 0, 0, []),
  (65, .goto 4, 3, 69, 0, 0, 0, []),
  (68, .iconst 1, 1, 0, 0, 0, 0, []),
  (69, .iconst 0, 1, 0, 0, 0, 0, []),
  (70, .invokevirtual 297, 3, 177, 3, 0, 5231, [(10, 0)]),
  (73, .ireturn, 1, 0, 0, 0, 0, [])]
def m173 : MI := (⟨"LeavesObjectModel", "plainly", "(IIZ)I"⟩, prog_12_method_38_code, 4, (Option.some Jvm.ClassFile.FieldType.int), k173, 3, [5218, 1011, 5217, 47])
/-- LeavesObjectModel.spread(IZ)I -/
def k174 : List XE := [(0, .iload_n 1, 1, 1, 0, 0, 0, []),
  (1, .istore_n 3, 1, 3, 0, 0, 0, []),
  (2, .iconst 0, 1, 0, 0, 0, 0, []),
  (3, .istore 4, 2, 4, 0, 0, 0, []),
  (5, .iload 4, 2, 4, 0, 0, 0, []),
  (7, .bipush 12, 2, 0, 0, 0, 0, []),
  (9, .if_icmp .ge 63, 3, 72, 0, 0, 0, []),
  (12, .aload_n 0, 1, 0, 0, 0, 0, []),
  (13, .iload_n 1, 1, 1, 0, 0, 0, []),
  (14, .iload 4, 2, 4, 0, 0, 0, []),
  (16, .invokevirtual 209, 3, 170, 2, 0, 5203, [(10, 0)]),
  (19, .ifCond .ne 6, 3, 25, 0, 0, 0, []),
  (22, .goto 44, 3, 66, 0, 0, 0, []),
  (25, .iload_n 2, 1, 2, 0, 0, 0, []),
  (26, .ifCond .ne 20, 3, 46, 0, 0, 0, []),
  (29, .iload 4, 2, 4, 0, 0, 0, []),
  (31, .iconst 4, 1, 0, 0, 0, 0, []),
  (32, .irem, 1, 0, 0, 0, 0, []),
  (33, .iconst 3, 1, 0, 0, 0, 0, []),
  (34, .if_icmp .ge 12, 3, 46, 0, 0, 0, []),
  (37, .iload_n 3, 1, 3, 0, 0, 0, []),
  (38, .iconst 1, 1, 0, 0, 0, 0, []),
  (39, .iload 4, 2, 4, 0, 0, 0, []),
  (41, .iconst 1, 1, 0, 0, 0, 0, []),
  (42, .iadd, 1, 0, 0, 0, 0, []),
  (43, .ishl, 1, 0, 0, 0, 0, []),
  (44, .ior, 1, 0, 0, 0, 0, []),
  (45, .istore_n 3, 1, 3, 0, 0, 0, []),
  (46, .iload_n 2, 1, 2, 0, 0, 0, []),
  (47, .ifCond .eq 19, 3, 66, 0, 0, 0, []),
  (50, .iload 4, 2, 4, 0, 0, 0, []),
  (52, .iconst 4, 1, 0, 0, 0, 0, []),
  (53, .irem, 1, 0, 0, 0, 0, []),
  (54, .ifCond .le 12, 3, 66, 0, 0, 0, []),
  (57, .iload_n 3, 1, 3, 0, 0, 0, []),
  (58, .iconst 1, 1, 0, 0, 0, 0, []),
  (59, .iload 4, 2, 4, 0, 0, 0, []),
  (61, .iconst 1, 1, 0, 0, 0, 0, []),
  (62, .isub, 1, 0, 0, 0, 0, []),
  (63, .ishl, 1, 0, 0, 0, 0, []),
  (64, .ior, 1, 0, 0, 0, 0, []),
  (65, .istore_n 3, 1, 3, 0, 0, 0, []),
  (66, .iinc 4 1, 3, 4, 0, 0, 0, []),
  (69, .goto (-64), 3, 5, 0, 0, 0, []),
  (72, .iload_n 3, 1, 3, 0, 0, 0, []),
  (73, .ireturn, 1, 0, 0, 0, 0, [])]
def m174 : MI := (⟨"LeavesObjectModel", "spread", "(IZ)I"⟩, prog_12_method_37_code, 5, (Option.some Jvm.ClassFile.FieldType.int), k174, 2, [5222, 1011, 5221, 48])
/-- LeavesObjectModel.thinned(IZ)I -/
def k175 : List XE := [(0, .iconst 0, 1, 0, 0, 0, 0, []),
  (1, .istore_n 3, 1, 3, 0, 0, 0, []),
  (2, .iconst 0, 1, 0, 0, 0, 0, []),
  (3, .istore 4, 2, 4, 0, 0, 0, []),
  (5, .iload 4, 2, 4, 0, 0, 0, []),
  (7, .bipush 12, 2, 0, 0, 0, 0, []),
  (9, .if_icmp .ge 84, 3, 93, 0, 0, 0, []),
  (12, .aload_n 0, 1, 0, 0, 0, 0, []),
  (13, .iload_n 1, 1, 1, 0, 0, 0, []),
  (14, .iload 4, 2, 4, 0, 0, 0, []),
  (16, .invokevirtual 286, 3, 176, 2, 0, 5227, [(10, 0)]),
  (19, .istore 5, 2, 5, 0, 0, 0, []),
  (21, .iload_n 2, 1, 2, 0, 0, 0, []),
  (22, .ifCond .eq 27, 3, 49, 0, 0, 0, []),
  (25, .aload_n 0, 1, 0, 0, 0, 0, []),
  (26, .iload_n 1, 1, 1, 0, 0, 0, []),
  (27, .iload 4, 2, 4, 0, 0, 0, []),
  (29, .invokevirtual 209, 3, 170, 2, 0, 5203, [(10, 0)]),
  (32, .ifCond .ne 9, 3, 41, 0, 0, 0, []),
  (35, .iload 5, 2, 5, 0, 0, 0, []),
  (37, .iconst 1, 1, 0, 0, 0, 0, []),
  (38, .if_icmp .le 7, 3, 45, 0, 0, 0, []),
  (41, .iconst 1, 1, 0, 0, 0, 0, []),
  (42, .goto 27, 3, 69, 0, 0, 0, []),
  (45, .iconst 0, 1, 0, 0, 0, 0, []),
  (46, .goto 23, 3, 69, 0, 0, 0, []),
  (49, .aload_n 0, 1, 0, 0, 0, 0, []),
  (50, .iload_n 1, 1, 1, 0, 0, 0, []),
  (51, .iload 4, 2, 4, 0, 0, 0, []),
  (53, .invokevirtual 209, 3, 170, 2, 0, 5203, [(10, 0)]),
  (56, .ifCond .eq 12, 3, 68, 0, 0, 0, []),
  (59, .iload 5, 2, 5, 0, 0, 0, []),
  (61, .ifCond .le 7, 3, 68, 0, 0, 0, []),
  (64, .iconst 1, 1, 0, 0, 0, 0, []),
  (65, .goto 4, 3, 69, 0, 0, 0, []),
  (68, .iconst 0, 1, 0, 0, 0, 0, []),
  (69, .istore 6, 2, 6, 0, 0, 0, []),
  (71, .iload_n 3, 1, 3, 0, 0, 0, []),
  (72, .iload 6, 2, 6, 0, 0, 0, []),
  (74, .ifCond .eq 10, 3, 84, 0, 0, 0, []),
  (77, .iconst 1, 1, 0, 0, 0, 0, []),
  (78, .iload 4, 2, 4, 0, 0, 0, []),
  (80, .ishl, 1, 0, 0, 0, 0, []),
  (81, .goto 4, 3, 85, 0, 0, 0, []),
  (84, .iconst 0, 1, 0, 0, 0, 0, []),
  (85, .ior, 1, 0, 0, 0, 0, []),
  (86, .istore_n 3, 1, 3, 0, 0, 0, []),
  (87, .iinc 4 1, 3, 4, 0, 0, 0, []),
  (90, .goto (-85), 3, 5, 0, 0, 0, []),
  (93, .iload_n 3, 1, 3, 0, 0, 0, []),
  (94, .ireturn, 1, 0, 0, 0, 0, [])]
def m175 : MI := (⟨"LeavesObjectModel", "thinned", "(IZ)I"⟩, prog_12_method_36_code, 7, (Option.some Jvm.ClassFile.FieldType.int), k175, 2, [5226, 1011, 5225, 49])
/-- LeavesObjectModel.beside(II)I -/
def k176 : List XE := [(0, .iconst 0, 1, 0, 0, 0, 0, []),
  (1, .istore_n 3, 1, 3, 0, 0, 0, []),
  (2, .iload_n 3, 1, 3, 0, 0, 0, []),
  (3, .iload_n 2, 1, 2, 0, 0, 0, []),
  (4, .iconst 4, 1, 0, 0, 0, 0, []),
  (5, .irem, 1, 0, 0, 0, 0, []),
  (6, .ifCond .le 18, 3, 24, 0, 0, 0, []),
  (9, .aload_n 0, 1, 0, 0, 0, 0, []),
  (10, .iload_n 1, 1, 1, 0, 0, 0, []),
  (11, .iload_n 2, 1, 2, 0, 0, 0, []),
  (12, .iconst 1, 1, 0, 0, 0, 0, []),
  (13, .isub, 1, 0, 0, 0, 0, []),
  (14, .invokevirtual 209, 3, 170, 2, 0, 5203, [(10, 0)]),
  (17, .ifCond .eq 7, 3, 24, 0, 0, 0, []),
  (20, .iconst 1, 1, 0, 0, 0, 0, []),
  (21, .goto 4, 3, 25, 0, 0, 0, []),
  (24, .iconst 0, 1, 0, 0, 0, 0, []),
  (25, .iadd, 1, 0, 0, 0, 0, []),
  (26, .istore_n 3, 1, 3, 0, 0, 0, []),
  (27, .iload_n 3, 1, 3, 0, 0, 0, []),
  (28, .iload_n 2, 1, 2, 0, 0, 0, []),
  (29, .iconst 4, 1, 0, 0, 0, 0, []),
  (30, .irem, 1, 0, 0, 0, 0, []),
  (31, .iconst 3, 1, 0, 0, 0, 0, []),
  (32, .if_icmp .ge 18, 3, 50, 0, 0, 0, []),
  (35, .aload_n 0, 1, 0, 0, 0, 0, []),
  (36, .iload_n 1, 1, 1, 0, 0, 0, []),
  (37, .iload_n 2, 1, 2, 0, 0, 0, []),
  (38, .iconst 1, 1, 0, 0, 0, 0, []),
  (39, .iadd, 1, 0, 0, 0, 0, []),
  (40, .invokevirtual 209, 3, 170, 2, 0, 5203, [(10, 0)]),
  (43, .ifCond .eq 7, 3, 50, 0, 0, 0, []),
  (46, .iconst 1, 1, 0, 0, 0, 0, []),
  (47, .goto 4, 3, 51, 0, 0, 0, []),
  (50, .iconst 0, 1, 0, 0, 0, 0, []),
  (51, .iadd, 1, 0, 0, 0, 0, []),
  (52, .istore_n 3, 1, 3, 0, 0, 0, []),
  (53, .iload_n 3, 1, 3, 0, 0, 0, []),
  (54, .iload_n 2, 1, 2, 0, 0, 0, []),
  (55, .iconst 3, 1, 0, 0, 0, 0, []),
  (56, .if_icmp .le 18, 3, 74, 0, 0, 0, []),
  (59, .aload_n 0, 1, 0, 0, 0, 0, []),
  (60, .iload_n 1, 1, 1, 0, 0, 0, []),
  (61, .iload_n 2, 1, 2, 0, 0, 0, []),
  (62, .iconst 4, 1, 0, 0, 0, 0, []),
  (63, .isub, 1, 0, 0, 0, 0, []),
  (64, .invokevirtual 209, 3, 170, 2, 0, 5203, [(10, 0)]),
  (67, .ifCond .eq 7, 3, 74, 0, 0, 0, []),
  (70, .iconst 1, 1, 0, 0, 0, 0, []),
  (71, .goto 4, 3, 75, 0, 0, 0, []),
  (74, .iconst 0, 1, 0, 0, 0, 0, []),
  (75, .iadd, 1, 0, 0, 0, 0, []),
  (76, .istore_n 3, 1, 3, 0, 0, 0, []),
  (77, .iload_n 3, 1, 3, 0, 0, 0, []),
  (78, .iload_n 2, 1, 2, 0, 0, 0, []),
  (79, .bipush 8, 2, 0, 0, 0, 0, []),
  (81, .if_icmp .ge 18, 3, 99, 0, 0, 0, []),
  (84, .aload_n 0, 1, 0, 0, 0, 0, []),
  (85, .iload_n 1, 1, 1, 0, 0, 0, []),
  (86, .iload_n 2, 1, 2, 0, 0, 0, []),
  (87, .iconst 4, 1, 0, 0, 0, 0, []),
  (88, .iadd, 1, 0, 0, 0, 0, []),
  (89, .invokevirtual 209, 3, 170, 2, 0, 5203, [(10, 0)]),
  (92, .ifCond .eq 7, 3, 99, 0, 0, 0, []),
  (95, .iconst 1, 1, 0, 0, 0, 0, []),
  (96, .goto 4, 3, 100, 0, 0, 0, []),
  (99, .iconst 0, 1, 0, 0, 0, 0, []),
  (100, .iadd, 1, 0, 0, 0, 0, []),
  (101, .istore_n 3, 1, 3, 0, 0, 0, []),
  (102, .iload_n 3, 1, 3, 0, 0, 0, []),
  (103, .ireturn, 1, 0, 0, 0, 0, [])]
def m176 : MI := (⟨"LeavesObjectModel", "beside", "(II)I"⟩, prog_12_method_35_code, 4, (Option.some Jvm.ClassFile.FieldType.int), k176, 2, [5230, 1011, 5229, 50])
/-- LeavesObjectModel.moved(III)I -/
def k177 : List XE := [(0, .iconst 0, 1, 0, 0, 0, 0, []),
  (1, .istore 4, 2, 4, 0, 0, 0, []),
  (3, .iconst 0, 1, 0, 0, 0, 0, []),
  (4, .istore 5, 2, 5, 0, 0, 0, []),
  (6, .iload 5, 2, 5, 0, 0, 0, []),
  (8, .bipush 12, 2, 0, 0, 0, 0, []),
  (10, .if_icmp .ge 49, 3, 59, 0, 0, 0, []),
  (13, .iload 4, 2, 4, 0, 0, 0, []),
  (15, .aload_n 0, 1, 0, 0, 0, 0, []),
  (16, .iload_n 1, 1, 1, 0, 0, 0, []),
  (17, .iload 5, 2, 5, 0, 0, 0, []),
  (19, .invokevirtual 209, 3, 170, 2, 0, 5203, [(10, 0)]),
  (22, .ifCond .eq 27, 3, 49, 0, 0, 0, []),
  (25, .iconst 1, 1, 0, 0, 0, 0, []),
  (26, .iload 5, 2, 5, 0, 0, 0, []),
  (28, .iconst 4, 1, 0, 0, 0, 0, []),
  (29, .idiv, 1, 0, 0, 0, 0, []),
  (30, .iload_n 2, 1, 2, 0, 0, 0, []),
  (31, .iadd, 1, 0, 0, 0, 0, []),
  (32, .iconst 3, 1, 0, 0, 0, 0, []),
  (33, .irem, 1, 0, 0, 0, 0, []),
  (34, .iconst 4, 1, 0, 0, 0, 0, []),
  (35, .imul, 1, 0, 0, 0, 0, []),
  (36, .iload 5, 2, 5, 0, 0, 0, []),
  (38, .iconst 4, 1, 0, 0, 0, 0, []),
  (39, .irem, 1, 0, 0, 0, 0, []),
  (40, .iload_n 3, 1, 3, 0, 0, 0, []),
  (41, .iadd, 1, 0, 0, 0, 0, []),
  (42, .iconst 4, 1, 0, 0, 0, 0, []),
  (43, .irem, 1, 0, 0, 0, 0, []),
  (44, .iadd, 1, 0, 0, 0, 0, []),
  (45, .ishl, 1, 0, 0, 0, 0, []),
  (46, .goto 4, 3, 50, 0, 0, 0, []),
  (49, .iconst 0, 1, 0, 0, 0, 0, []),
  (50, .ior, 1, 0, 0, 0, 0, []),
  (51, .istore 4, 2, 4, 0, 0, 0, []),
  (53, .iinc 5 1, 3, 5, 0, 0, 0, []),
  (56, .goto (-50), 3, 6, 0, 0, 0, []),
  (59, .iload 4, 2, 4, 0, 0, 0, []),
  (61, .ireturn, 1, 0, 0, 0, 0, [])]
def m177 : MI := (⟨"LeavesObjectModel", "moved", "(III)I"⟩, prog_12_method_34_code, 6, (Option.some Jvm.ClassFile.FieldType.int), k177, 3, [5234, 1011, 5233, 51])
/-- LeavesObjectModel.say(II)I -/
def k178 : List XE := [(0, .aload_n 0, 1, 0, 0, 0, 0, []),
  (1, .iload_n 1, 1, 1, 0, 0, 0, []),
  (2, .invokevirtual 221, 3, 145, 1, 0, 5103, [(10, 0)]),
  (5, .ifCond .eq 11, 3, 16, 0, 0, 0, []),
  (8, .aload_n 0, 1, 0, 0, 0, 0, []),
  (9, .iload_n 2, 1, 2, 0, 0, 0, []),
  (10, .invokevirtual 322, 3, 179, 1, 0, 5239, [(10, 0)]),
  (13, .ifCond .ne 5, 3, 18, 0, 0, 0, []),
  (16, .iconst (-1), 1, 0, 0, 0, 0, []),
  (17, .ireturn, 1, 0, 0, 0, 0, []),
  (18, .aload_n 0, 1, 0, 0, 0, 0, []),
  (19, .getfield 29, 3, 10, 6, 0, 4136, []),
  (22, .iload_n 1, 1, 1, 0, 0, 0, []),
  (23, .iaload, 1, 0, 0, 0, 0, []),
  (24, .sipush 9999, 3, 0, 0, 0, 0, []),
  (27, .if_icmp .ne 6, 3, 33, 0, 0, 0, []),
  (30, .bipush (-3), 2, 0, 0, 0, 0, []),
  (32, .ireturn, 1, 0, 0, 0, 0, []),
  (33, .aload_n 0, 1, 0, 0, 0, 0, []),
  (34, .iload_n 1, 1, 1, 0, 0, 0, []),
  (35, .iload_n 2, 1, 2, 0, 0, 0, []),
  (36, .invokevirtual 313, 3, 180, 2, 0, 6003, [(10, 0)]),
  (39, .ifCond .eq 7, 3, 46, 0, 0, 0, []),
  (42, .iconst 0, 1, 0, 0, 0, 0, []),
  (43, .goto 4, 3, 47, 0, 0, 0, []),
  (46, .iconst 1, 1, 0, 0, 0, 0, []),
  (47, .istore_n 3, 1, 3, 0, 0, 0, []),
  (48, .aload_n 0, 1, 0, 0, 0, 0, []),
  (49, .iload_n 1, 1, 1, 0, 0, 0, []),
  (50, .iload_n 2, 1, 2, 0, 0, 0, []),
  (51, .invokevirtual 325, 3, 181, 2, 0, 6007, [(10, 0)]),
  (54, .iload_n 3, 1, 3, 0, 0, 0, []),
  (55, .ireturn, 1, 0, 0, 0, 0, [])]
def m178 : MI := (⟨"LeavesObjectModel", "say", "(II)I"⟩, prog_12_method_45_code, 4, (Option.some Jvm.ClassFile.FieldType.int), k178, 2, [5238, 1011, 5236, 5237])
/-- LeavesObjectModel.isSaying(I)Z -/
def k179 : List XE := [(0, .aload_n 0, 1, 0, 0, 0, 0, []),
  (1, .iload_n 1, 1, 1, 0, 0, 0, []),
  (2, .iconst 0, 1, 0, 0, 0, 0, []),
  (3, .iconst 3, 1, 0, 0, 0, 0, []),
  (4, .invokevirtual 213, 3, 142, 3, 0, 5091, [(10, 0)]),
  (7, .ireturn, 1, 0, 0, 0, 0, [])]
def m179 : MI := (⟨"LeavesObjectModel", "isSaying", "(I)Z"⟩, prog_12_method_7_code, 2, (Option.some Jvm.ClassFile.FieldType.boolean), k179, 1, [6002, 1011, 6001, 52])
/-- LeavesObjectModel.isRefused(II)Z -/
def k180 : List XE := [(0, .aload_n 0, 1, 0, 0, 0, 0, []),
  (1, .iload_n 1, 1, 1, 0, 0, 0, []),
  (2, .iload_n 2, 1, 2, 0, 0, 0, []),
  (3, .invokevirtual 307, 3, 164, 2, 0, 5179, [(10, 0)]),
  (6, .aload_n 0, 1, 0, 0, 0, 0, []),
  (7, .getfield 26, 3, 10, 5, 0, 4135, []),
  (10, .iload_n 1, 1, 1, 0, 0, 0, []),
  (11, .iaload, 1, 0, 0, 0, 0, []),
  (12, .if_icmp .ge 7, 3, 19, 0, 0, 0, []),
  (15, .iconst 1, 1, 0, 0, 0, 0, []),
  (16, .goto 4, 3, 20, 0, 0, 0, []),
  (19, .iconst 0, 1, 0, 0, 0, 0, []),
  (20, .ireturn, 1, 0, 0, 0, 0, [])]
def m180 : MI := (⟨"LeavesObjectModel", "isRefused", "(II)Z"⟩, prog_12_method_42_code, 3, (Option.some Jvm.ClassFile.FieldType.boolean), k180, 2, [6006, 1011, 6005, 53])
/-- LeavesObjectModel.goSaying(II)V -/
def k181 : List XE := [(0, .aload_n 0, 1, 0, 0, 0, 0, []),
  (1, .iload_n 1, 1, 1, 0, 0, 0, []),
  (2, .iload_n 2, 1, 2, 0, 0, 0, []),
  (3, .invokevirtual 313, 3, 180, 2, 0, 6003, [(10, 0)]),
  (6, .ifCond .eq 51, 3, 57, 0, 0, 0, []),
  (9, .aload_n 0, 1, 0, 0, 0, 0, []),
  (10, .getfield 29, 3, 10, 6, 0, 4136, []),
  (13, .iload_n 1, 1, 1, 0, 0, 0, []),
  (14, .aload_n 0, 1, 0, 0, 0, 0, []),
  (15, .aload_n 0, 1, 0, 0, 0, 0, []),
  (16, .getfield 29, 3, 10, 6, 0, 4136, []),
  (19, .iload_n 1, 1, 1, 0, 0, 0, []),
  (20, .iaload, 1, 0, 0, 0, 0, []),
  (21, .iconst 1, 1, 0, 0, 0, 0, []),
  (22, .iadd, 1, 0, 0, 0, 0, []),
  (23, .aload_n 0, 1, 0, 0, 0, 0, []),
  (24, .getfield 90, 3, 10, 26, 0, 4156, []),
  (27, .invokevirtual 316, 3, 182, 2, 0, 6011, [(10, 0)]),
  (30, .iastore, 1, 0, 0, 0, 0, []),
  (31, .aload_n 0, 1, 0, 0, 0, 0, []),
  (32, .getfield 26, 3, 10, 5, 0, 4135, []),
  (35, .iload_n 1, 1, 1, 0, 0, 0, []),
  (36, .aload_n 0, 1, 0, 0, 0, 0, []),
  (37, .aload_n 0, 1, 0, 0, 0, 0, []),
  (38, .getfield 26, 3, 10, 5, 0, 4135, []),
  (41, .iload_n 1, 1, 1, 0, 0, 0, []),
  (42, .iaload, 1, 0, 0, 0, 0, []),
  (43, .aload_n 0, 1, 0, 0, 0, 0, []),
  (44, .iconst 2, 1, 0, 0, 0, 0, []),
  (45, .iconst 2, 1, 0, 0, 0, 0, []),
  (46, .invokevirtual 319, 3, 183, 2, 0, 6015, [(10, 0)]),
  (49, .iadd, 1, 0, 0, 0, 0, []),
  (50, .bipush 9, 2, 0, 0, 0, 0, []),
  (52, .invokevirtual 316, 3, 182, 2, 0, 6011, [(10, 0)]),
  (55, .iastore, 1, 0, 0, 0, 0, []),
  (56, .return_, 1, 0, 0, 0, 0, []),
  (57, .aload_n 0, 1, 0, 0, 0, 0, []),
  (58, .getfield 23, 3, 10, 4, 0, 4134, []),
  (61, .iload_n 1, 1, 1, 0, 0, 0, []),
  (62, .aload_n 0, 1, 0, 0, 0, 0, []),
  (63, .iload_n 1, 1, 1, 0, 0, 0, []),
  (64, .iload_n 2, 1, 2, 0, 0, 0, []),
  (65, .invokevirtual 310, 3, 171, 2, 0, 5207, [(10, 0)]),
  (68, .iastore, 1, 0, 0, 0, 0, []),
  (69, .aload_n 0, 1, 0, 0, 0, 0, []),
  (70, .getfield 26, 3, 10, 5, 0, 4135, []),
  (73, .iload_n 1, 1, 1, 0, 0, 0, []),
  (74, .iaload, 1, 0, 0, 0, 0, []),
  (75, .aload_n 0, 1, 0, 0, 0, 0, []),
  (76, .iconst 3, 1, 0, 0, 0, 0, []),
  (77, .iconst 1, 1, 0, 0, 0, 0, []),
  (78, .invokevirtual 319, 3, 183, 2, 0, 6015, [(10, 0)]),
  (81, .isub, 1, 0, 0, 0, 0, []),
  (82, .istore_n 3, 1, 3, 0, 0, 0, []),
  (83, .aload_n 0, 1, 0, 0, 0, 0, []),
  (84, .getfield 26, 3, 10, 5, 0, 4135, []),
  (87, .iload_n 1, 1, 1, 0, 0, 0, []),
  (88, .iload_n 3, 1, 3, 0, 0, 0, []),
  (89, .ifCond .ge 7, 3, 96, 0, 0, 0, []),
  (92, .iconst 0, 1, 0, 0, 0, 0, []),
  (93, .goto 4, 3, 97, 0, 0, 0, []),
  (96, .iload_n 3, 1, 3, 0, 0, 0, []),
  (97, .iastore, 1, 0, 0, 0, 0, []),
  (98, .return_, 1, 0, 0, 0, 0, [])]
def m181 : MI := (⟨"LeavesObjectModel", "goSaying", "(II)V"⟩, prog_12_method_43_code, 4, none, k181, 2, [6010, 1011, 6009, 54])
/-- LeavesObjectModel.least(II)I -/
def k182 : List XE := [(0, .iload_n 1, 1, 1, 0, 0, 0, []),
  (1, .iload_n 2, 1, 2, 0, 0, 0, []),
  (2, .if_icmp .ge 7, 3, 9, 0, 0, 0, []),
  (5, .iload_n 1, 1, 1, 0, 0, 0, []),
  (6, .goto 4, 3, 10, 0, 0, 0, []),
  (9, .iload_n 2, 1, 2, 0, 0, 0, []),
  (10, .ireturn, 1, 0, 0, 0, 0, [])]
def m182 : MI := (⟨"LeavesObjectModel", "least", "(II)I"⟩, prog_12_method_4_code, 3, (Option.some Jvm.ClassFile.FieldType.int), k182, 2, [6014, 1011, 6013, 55])
/-- LeavesObjectModel.lastOf(II)I -/
def k183 : List XE := [(0, .iload_n 2, 1, 2, 0, 0, 0, []),
  (1, .istore_n 3, 1, 3, 0, 0, 0, []),
  (2, .aload_n 0, 1, 0, 0, 0, 0, []),
  (3, .invokevirtual 270, 3, 165, 0, 0, 5183, [(10, 0)]),
  (6, .istore 4, 2, 4, 0, 0, 0, []),
  (8, .iload 4, 2, 4, 0, 0, 0, []),
  (10, .aload_n 0, 1, 0, 0, 0, 0, []),
  (11, .invokevirtual 273, 3, 166, 0, 0, 5187, [(10, 0)]),
  (14, .if_icmp .ge 32, 3, 46, 0, 0, 0, []),
  (17, .aload_n 0, 1, 0, 0, 0, 0, []),
  (18, .getfield 56, 3, 10, 15, 0, 4145, []),
  (21, .iload 4, 2, 4, 0, 0, 0, []),
  (23, .iaload, 1, 0, 0, 0, 0, []),
  (24, .iload_n 1, 1, 1, 0, 0, 0, []),
  (25, .if_icmp .ne 13, 3, 38, 0, 0, 0, []),
  (28, .aload_n 0, 1, 0, 0, 0, 0, []),
  (29, .getfield 59, 3, 10, 16, 0, 4146, []),
  (32, .iload 4, 2, 4, 0, 0, 0, []),
  (34, .iaload, 1, 0, 0, 0, 0, []),
  (35, .goto 4, 3, 39, 0, 0, 0, []),
  (38, .iload_n 3, 1, 3, 0, 0, 0, []),
  (39, .istore_n 3, 1, 3, 0, 0, 0, []),
  (40, .iinc 4 1, 3, 4, 0, 0, 0, []),
  (43, .goto (-35), 3, 8, 0, 0, 0, []),
  (46, .iload_n 3, 1, 3, 0, 0, 0, []),
  (47, .ireturn, 1, 0, 0, 0, 0, [])]
def m183 : MI := (⟨"LeavesObjectModel", "lastOf", "(II)I"⟩, prog_12_method_30_code, 5, (Option.some Jvm.ClassFile.FieldType.int), k183, 2, [6018, 1011, 6017, 56])
/-- LeavesObjectModel.pass(I)I -/
def k184 : List XE := [(0, .aload_n 0, 1, 0, 0, 0, 0, []),
  (1, .iload_n 1, 1, 1, 0, 0, 0, []),
  (2, .iconst 0, 1, 0, 0, 0, 0, []),
  (3, .bipush 60, 2, 0, 0, 0, 0, []),
  (5, .invokevirtual 213, 3, 142, 3, 0, 5091, [(10, 0)]),
  (8, .ifCond .ne 6, 3, 14, 0, 0, 0, []),
  (11, .bipush (-2), 2, 0, 0, 0, 0, []),
  (13, .ireturn, 1, 0, 0, 0, 0, []),
  (14, .aload_n 0, 1, 0, 0, 0, 0, []),
  (15, .getfield 13, 3, 10, 1, 0, 4131, []),
  (18, .iload_n 1, 1, 1, 0, 0, 0, []),
  (19, .iadd, 1, 0, 0, 0, 0, []),
  (20, .sipush 9999, 3, 0, 0, 0, 0, []),
  (23, .if_icmp .le 6, 3, 29, 0, 0, 0, []),
  (26, .bipush (-3), 2, 0, 0, 0, 0, []),
  (28, .ireturn, 1, 0, 0, 0, 0, []),
  (29, .iconst 0, 1, 0, 0, 0, 0, []),
  (30, .istore_n 2, 1, 2, 0, 0, 0, []),
  (31, .iload_n 2, 1, 2, 0, 0, 0, []),
  (32, .iload_n 1, 1, 1, 0, 0, 0, []),
  (33, .if_icmp .ge 13, 3, 46, 0, 0, 0, []),
  (36, .aload_n 0, 1, 0, 0, 0, 0, []),
  (37, .invokevirtual 329, 3, 185, 0, 0, 6023, [(10, 0)]),
  (40, .iinc 2 1, 3, 2, 0, 0, 0, []),
  (43, .goto (-12), 3, 31, 0, 0, 0, []),
  (46, .aload_n 0, 1, 0, 0, 0, 0, []),
  (47, .getfield 13, 3, 10, 1, 0, 4131, []),
  (50, .ireturn, 1, 0, 0, 0, 0, [])]
def m184 : MI := (⟨"LeavesObjectModel", "pass", "(I)I"⟩, prog_12_method_46_code, 3, (Option.some Jvm.ClassFile.FieldType.int), k184, 1, [6022, 1011, 6020, 6021])
/-- LeavesObjectModel.goNight()V -/
def k185 : List XE := [(0, .iconst 0, 1, 0, 0, 0, 0, []),
  (1, .istore_n 1, 1, 1, 0, 0, 0, []),
  (2, .iload_n 1, 1, 1, 0, 0, 0, []),
  (3, .aload_n 0, 1, 0, 0, 0, 0, []),
  (4, .getfield 7, 3, 10, 0, 0, 4130, []),
  (7, .if_icmp .ge 36, 3, 43, 0, 0, 0, []),
  (10, .aload_n 0, 1, 0, 0, 0, 0, []),
  (11, .getfield 26, 3, 10, 5, 0, 4135, []),
  (14, .iload_n 1, 1, 1, 0, 0, 0, []),
  (15, .aload_n 0, 1, 0, 0, 0, 0, []),
  (16, .getfield 26, 3, 10, 5, 0, 4135, []),
  (19, .iload_n 1, 1, 1, 0, 0, 0, []),
  (20, .iaload, 1, 0, 0, 0, 0, []),
  (21, .ifCond .le 14, 3, 35, 0, 0, 0, []),
  (24, .aload_n 0, 1, 0, 0, 0, 0, []),
  (25, .getfield 26, 3, 10, 5, 0, 4135, []),
  (28, .iload_n 1, 1, 1, 0, 0, 0, []),
  (29, .iaload, 1, 0, 0, 0, 0, []),
  (30, .iconst 1, 1, 0, 0, 0, 0, []),
  (31, .isub, 1, 0, 0, 0, 0, []),
  (32, .goto 4, 3, 36, 0, 0, 0, []),
  (35, .iconst 0, 1, 0, 0, 0, 0, []),
  (36, .iastore, 1, 0, 0, 0, 0, []),
  (37, .iinc 1 1, 3, 1, 0, 0, 0, []),
  (40, .goto (-38), 3, 2, 0, 0, 0, []),
  (43, .aload_n 0, 1, 0, 0, 0, 0, []),
  (44, .dup, 1, 0, 0, 0, 0, []),
  (45, .getfield 13, 3, 10, 1, 0, 4131, []),
  (48, .iconst 1, 1, 0, 0, 0, 0, []),
  (49, .iadd, 1, 0, 0, 0, 0, []),
  (50, .putfield 13, 3, 10, 1, 0, 4131, []),
  (53, .return_, 1, 0, 0, 0, 0, [])]
def m185 : MI := (⟨"LeavesObjectModel", "goNight", "()V"⟩, prog_12_method_44_code, 2, none, k185, 0, [6026, 1011, 6025, 57])
/-- LeavesObjectModel.after(III)I -/
def k186 : List XE := [(0, .aload_n 0, 1, 0, 0, 0, 0, []),
  (1, .iload_n 1, 1, 1, 0, 0, 0, []),
  (2, .invokevirtual 221, 3, 145, 1, 0, 5103, [(10, 0)]),
  (5, .ifCond .eq 21, 3, 26, 0, 0, 0, []),
  (8, .aload_n 0, 1, 0, 0, 0, 0, []),
  (9, .iload_n 2, 1, 2, 0, 0, 0, []),
  (10, .invokevirtual 322, 3, 179, 1, 0, 5239, [(10, 0)]),
  (13, .ifCond .eq 13, 3, 26, 0, 0, 0, []),
  (16, .aload_n 0, 1, 0, 0, 0, 0, []),
  (17, .iload_n 3, 1, 3, 0, 0, 0, []),
  (18, .iconst 0, 1, 0, 0, 0, 0, []),
  (19, .iconst 2, 1, 0, 0, 0, 0, []),
  (20, .invokevirtual 213, 3, 142, 3, 0, 5091, [(10, 0)]),
  (23, .ifCond .ne 5, 3, 28, 0, 0, 0, []),
  (26, .iconst (-1), 1, 0, 0, 0, 0, []),
  (27, .ireturn, 1, 0, 0, 0, 0, []),
  (28, .iload_n 3, 1, 3, 0, 0, 0, []),
  (29, .ifCond .ne 10, 3, 39, 0, 0, 0, []),
  (32, .aload_n 0, 1, 0, 0, 0, 0, []),
  (33, .iload_n 1, 1, 1, 0, 0, 0, []),
  (34, .iload_n 2, 1, 2, 0, 0, 0, []),
  (35, .invokevirtual 339, 3, 187, 2, 0, 6031, [(10, 0)]),
  (38, .ireturn, 1, 0, 0, 0, 0, []),
  (39, .iload_n 3, 1, 3, 0, 0, 0, []),
  (40, .iconst 2, 1, 0, 0, 0, 0, []),
  (41, .if_icmp .ne 18, 3, 59, 0, 0, 0, []),
  (44, .aload_n 0, 1, 0, 0, 0, 0, []),
  (45, .iload_n 1, 1, 1, 0, 0, 0, []),
  (46, .iload_n 2, 1, 2, 0, 0, 0, []),
  (47, .invokevirtual 313, 3, 180, 2, 0, 6003, [(10, 0)]),
  (50, .ifCond .eq 7, 3, 57, 0, 0, 0, []),
  (53, .iconst 1, 1, 0, 0, 0, 0, []),
  (54, .goto 4, 3, 58, 0, 0, 0, []),
  (57, .iconst 0, 1, 0, 0, 0, 0, []),
  (58, .ireturn, 1, 0, 0, 0, 0, []),
  (59, .aload_n 0, 1, 0, 0, 0, 0, []),
  (60, .invokevirtual 333, 3, 188, 0, 0, 6035, [(10, 0)]),
  (63, .aload_n 0, 1, 0, 0, 0, 0, []),
  (64, .iload_n 1, 1, 1, 0, 0, 0, []),
  (65, .iload_n 2, 1, 2, 0, 0, 0, []),
  (66, .invokevirtual 325, 3, 181, 2, 0, 6007, [(10, 0)]),
  (69, .aload_n 0, 1, 0, 0, 0, 0, []),
  (70, .getfield 26, 3, 10, 5, 0, 4135, []),
  (73, .iload_n 1, 1, 1, 0, 0, 0, []),
  (74, .iaload, 1, 0, 0, 0, 0, []),
  (75, .istore 4, 2, 4, 0, 0, 0, []),
  (77, .aload_n 0, 1, 0, 0, 0, 0, []),
  (78, .invokevirtual 336, 3, 189, 0, 0, 6040, [(10, 0)]),
  (81, .iload 4, 2, 4, 0, 0, 0, []),
  (83, .ireturn, 1, 0, 0, 0, 0, [])]
def m186 : MI := (⟨"LeavesObjectModel", "after", "(III)I"⟩, prog_12_method_50_code, 5, (Option.some Jvm.ClassFile.FieldType.int), k186, 3, [6030, 1011, 6028, 6029])
/-- LeavesObjectModel.liesAfter(II)I -/
def k187 : List XE := [(0, .aload_n 0, 1, 0, 0, 0, 0, []),
  (1, .invokevirtual 333, 3, 188, 0, 0, 6035, [(10, 0)]),
  (4, .aload_n 0, 1, 0, 0, 0, 0, []),
  (5, .iload_n 1, 1, 1, 0, 0, 0, []),
  (6, .iload_n 2, 1, 2, 0, 0, 0, []),
  (7, .invokevirtual 325, 3, 181, 2, 0, 6007, [(10, 0)]),
  (10, .aload_n 0, 1, 0, 0, 0, 0, []),
  (11, .getfield 23, 3, 10, 4, 0, 4134, []),
  (14, .iload_n 1, 1, 1, 0, 0, 0, []),
  (15, .iaload, 1, 0, 0, 0, 0, []),
  (16, .istore_n 3, 1, 3, 0, 0, 0, []),
  (17, .aload_n 0, 1, 0, 0, 0, 0, []),
  (18, .invokevirtual 336, 3, 189, 0, 0, 6040, [(10, 0)]),
  (21, .iload_n 3, 1, 3, 0, 0, 0, []),
  (22, .ireturn, 1, 0, 0, 0, 0, [])]
def m187 : MI := (⟨"LeavesObjectModel", "liesAfter", "(II)I"⟩, prog_12_method_49_code, 4, (Option.some Jvm.ClassFile.FieldType.int), k187, 2, [6034, 1011, 6033, 58])
/-- LeavesObjectModel.save()V -/
def k188 : List XE := [(0, .aload_n 0, 1, 0, 0, 0, 0, []),
  (1, .ldc_w 332, 3, 0, 0, 0, 6039, [(2000000000, 0)]),
  (4, .putfield 90, 3, 10, 26, 0, 4156, []),
  (7, .aload_n 0, 1, 0, 0, 0, 0, []),
  (8, .aload_n 0, 1, 0, 0, 0, 0, []),
  (9, .getfield 13, 3, 10, 1, 0, 4131, []),
  (12, .putfield 93, 3, 10, 27, 0, 4157, []),
  (15, .iconst 0, 1, 0, 0, 0, 0, []),
  (16, .istore_n 1, 1, 1, 0, 0, 0, []),
  (17, .iload_n 1, 1, 1, 0, 0, 0, []),
  (18, .iconst 5, 1, 0, 0, 0, 0, []),
  (19, .if_icmp .ge 45, 3, 64, 0, 0, 0, []),
  (22, .aload_n 0, 1, 0, 0, 0, 0, []),
  (23, .getfield 96, 3, 10, 28, 0, 4158, []),
  (26, .iload_n 1, 1, 1, 0, 0, 0, []),
  (27, .aload_n 0, 1, 0, 0, 0, 0, []),
  (28, .getfield 23, 3, 10, 4, 0, 4134, []),
  (31, .iload_n 1, 1, 1, 0, 0, 0, []),
  (32, .iaload, 1, 0, 0, 0, 0, []),
  (33, .iastore, 1, 0, 0, 0, 0, []),
  (34, .aload_n 0, 1, 0, 0, 0, 0, []),
  (35, .getfield 99, 3, 10, 29, 0, 4159, []),
  (38, .iload_n 1, 1, 1, 0, 0, 0, []),
  (39, .aload_n 0, 1, 0, 0, 0, 0, []),
  (40, .getfield 26, 3, 10, 5, 0, 4135, []),
  (43, .iload_n 1, 1, 1, 0, 0, 0, []),
  (44, .iaload, 1, 0, 0, 0, 0, []),
  (45, .iastore, 1, 0, 0, 0, 0, []),
  (46, .aload_n 0, 1, 0, 0, 0, 0, []),
  (47, .getfield 102, 3, 10, 30, 0, 4160, []),
  (50, .iload_n 1, 1, 1, 0, 0, 0, []),
  (51, .aload_n 0, 1, 0, 0, 0, 0, []),
  (52, .getfield 29, 3, 10, 6, 0, 4136, []),
  (55, .iload_n 1, 1, 1, 0, 0, 0, []),
  (56, .iaload, 1, 0, 0, 0, 0, []),
  (57, .iastore, 1, 0, 0, 0, 0, []),
  (58, .iinc 1 1, 3, 1, 0, 0, 0, []),
  (61, .goto (-44), 3, 17, 0, 0, 0, []),
  (64, .return_, 1, 0, 0, 0, 0, [])]
def m188 : MI := (⟨"LeavesObjectModel", "save", "()V"⟩, prog_12_method_47_code, 2, none, k188, 0, [6038, 1011, 6037, 59])
/-- LeavesObjectModel.putBack()V -/
def k189 : List XE := [(0, .aload_n 0, 1, 0, 0, 0, 0, []),
  (1, .sipush 9999, 3, 0, 0, 0, 0, []),
  (4, .putfield 90, 3, 10, 26, 0, 4156, []),
  (7, .aload_n 0, 1, 0, 0, 0, 0, []),
  (8, .aload_n 0, 1, 0, 0, 0, 0, []),
  (9, .getfield 93, 3, 10, 27, 0, 4157, []),
  (12, .putfield 13, 3, 10, 1, 0, 4131, []),
  (15, .iconst 0, 1, 0, 0, 0, 0, []),
  (16, .istore_n 1, 1, 1, 0, 0, 0, []),
  (17, .iload_n 1, 1, 1, 0, 0, 0, []),
  (18, .iconst 5, 1, 0, 0, 0, 0, []),
  (19, .if_icmp .ge 45, 3, 64, 0, 0, 0, []),
  (22, .aload_n 0, 1, 0, 0, 0, 0, []),
  (23, .getfield 23, 3, 10, 4, 0, 4134, []),
  (26, .iload_n 1, 1, 1, 0, 0, 0, []),
  (27, .aload_n 0, 1, 0, 0, 0, 0, []),
  (28, .getfield 96, 3, 10, 28, 0, 4158, []),
  (31, .iload_n 1, 1, 1, 0, 0, 0, []),
  (32, .iaload, 1, 0, 0, 0, 0, []),
  (33, .iastore, 1, 0, 0, 0, 0, []),
  (34, .aload_n 0, 1, 0, 0, 0, 0, []),
  (35, .getfield 26, 3, 10, 5, 0, 4135, []),
  (38, .iload_n 1, 1, 1, 0, 0, 0, []),
  (39, .aload_n 0, 1, 0, 0, 0, 0, []),
  (40, .getfield 99, 3, 10, 29, 0, 4159, []),
  (43, .iload_n 1, 1, 1, 0, 0, 0, []),
  (44, .iaload, 1, 0, 0, 0, 0, []),
  (45, .iastore, 1, 0, 0, 0, 0, []),
  (46, .aload_n 0, 1, 0, 0, 0, 0, []),
  (47, .getfield 29, 3, 10, 6, 0, 4136, []),
  (50, .iload_n 1, 1, 1, 0, 0, 0, []),
  (51, .aload_n 0, 1, 0, 0, 0, 0, []),
  (52, .getfield 102, 3, 10, 30, 0, 4160, []),
  (55, .iload_n 1, 1, 1, 0, 0, 0, []),
  (56, .iaload, 1, 0, 0, 0, 0, []),
  (57, .iastore, 1, 0, 0, 0, 0, []),
  (58, .iinc 1 1, 3, 1, 0, 0, 0, []),
  (61, .goto (-44), 3, 17, 0, 0, 0, []),
  (64, .return_, 1, 0, 0, 0, 0, [])]
def m189 : MI := (⟨"LeavesObjectModel", "putBack", "()V"⟩, prog_12_method_48_code, 2, none, k189, 0, [6043, 1011, 6042, 60])
/-- LeavesObjectModel.comes(III)I -/
def k190 : List XE := [(0, .aload_n 0, 1, 0, 0, 0, 0, []),
  (1, .iload_n 1, 1, 1, 0, 0, 0, []),
  (2, .invokevirtual 221, 3, 145, 1, 0, 5103, [(10, 0)]),
  (5, .ifCond .eq 13, 3, 18, 0, 0, 0, []),
  (8, .aload_n 0, 1, 0, 0, 0, 0, []),
  (9, .iload_n 3, 1, 3, 0, 0, 0, []),
  (10, .iconst (-1), 1, 0, 0, 0, 0, []),
  (11, .iconst 3, 1, 0, 0, 0, 0, []),
  (12, .invokevirtual 213, 3, 142, 3, 0, 5091, [(10, 0)]),
  (15, .ifCond .ne 5, 3, 20, 0, 0, 0, []),
  (18, .iconst (-1), 1, 0, 0, 0, 0, []),
  (19, .ireturn, 1, 0, 0, 0, 0, []),
  (20, .aload_n 0, 1, 0, 0, 0, 0, []),
  (21, .iload_n 2, 1, 2, 0, 0, 0, []),
  (22, .invokevirtual 217, 3, 143, 1, 0, 5095, [(10, 0)]),
  (25, .ifCond .ne 6, 3, 31, 0, 0, 0, []),
  (28, .bipush (-2), 2, 0, 0, 0, 0, []),
  (30, .ireturn, 1, 0, 0, 0, 0, []),
  (31, .iconst 1, 1, 0, 0, 0, 0, []),
  (32, .istore 4, 2, 4, 0, 0, 0, []),
  (34, .iconst 0, 1, 0, 0, 0, 0, []),
  (35, .istore 5, 2, 5, 0, 0, 0, []),
  (37, .iload 5, 2, 5, 0, 0, 0, []),
  (39, .iconst 5, 1, 0, 0, 0, 0, []),
  (40, .if_icmp .ge 77, 3, 117, 0, 0, 0, []),
  (43, .iconst 0, 1, 0, 0, 0, 0, []),
  (44, .istore 6, 2, 6, 0, 0, 0, []),
  (46, .iload 6, 2, 6, 0, 0, 0, []),
  (48, .iload 4, 2, 4, 0, 0, 0, []),
  (50, .if_icmp .ge 55, 3, 105, 0, 0, 0, []),
  (53, .aload_n 0, 1, 0, 0, 0, 0, []),
  (54, .iload_n 1, 1, 1, 0, 0, 0, []),
  (55, .iload 6, 2, 6, 0, 0, 0, []),
  (57, .iload 5, 2, 5, 0, 0, 0, []),
  (59, .invokevirtual 345, 3, 191, 3, 0, 6048, [(10, 0)]),
  (62, .iload_n 2, 1, 2, 0, 0, 0, []),
  (63, .if_icmp .eq 6, 3, 69, 0, 0, 0, []),
  (66, .goto 33, 3, 99, 0, 0, 0, []),
  (69, .iload_n 3, 1, 3, 0, 0, 0, []),
  (70, .ifCond .ge 8, 3, 78, 0, 0, 0, []),
  (73, .iload 5, 2, 5, 0, 0, 0, []),
  (75, .goto 23, 3, 98, 0, 0, 0, []),
  (78, .iload_n 3, 1, 3, 0, 0, 0, []),
  (79, .iload 5, 2, 5, 0, 0, 0, []),
  (81, .if_icmp .ge 15, 3, 96, 0, 0, 0, []),
  (84, .aload_n 0, 1, 0, 0, 0, 0, []),
  (85, .iload 6, 2, 6, 0, 0, 0, []),
  (87, .iload 5, 2, 5, 0, 0, 0, []),
  (89, .iload_n 3, 1, 3, 0, 0, 0, []),
  (90, .invokevirtual 342, 3, 192, 3, 0, 6052, [(10, 0)]),
  (93, .goto 5, 3, 98, 0, 0, 0, []),
  (96, .bipush (-5), 2, 0, 0, 0, 0, []),
  (98, .ireturn, 1, 0, 0, 0, 0, []),
  (99, .iinc 6 1, 3, 6, 0, 0, 0, []),
  (102, .goto (-56), 3, 46, 0, 0, 0, []),
  (105, .iload 4, 2, 4, 0, 0, 0, []),
  (107, .iconst 4, 1, 0, 0, 0, 0, []),
  (108, .imul, 1, 0, 0, 0, 0, []),
  (109, .istore 4, 2, 4, 0, 0, 0, []),
  (111, .iinc 5 1, 3, 5, 0, 0, 0, []),
  (114, .goto (-77), 3, 37, 0, 0, 0, []),
  (117, .bipush (-5), 2, 0, 0, 0, 0, []),
  (119, .ireturn, 1, 0, 0, 0, 0, [])]
def m190 : MI := (⟨"LeavesObjectModel", "comes", "(III)I"⟩, prog_12_method_53_code, 7, (Option.some Jvm.ClassFile.FieldType.int), k190, 3, [6047, 1011, 6045, 6046])
/-- LeavesObjectModel.liesBy(III)I -/
def k191 : List XE := [(0, .aload_n 0, 1, 0, 0, 0, 0, []),
  (1, .invokevirtual 333, 3, 188, 0, 0, 6035, [(10, 0)]),
  (4, .iconst 0, 1, 0, 0, 0, 0, []),
  (5, .istore 4, 2, 4, 0, 0, 0, []),
  (7, .iload 4, 2, 4, 0, 0, 0, []),
  (9, .iload_n 3, 1, 3, 0, 0, 0, []),
  (10, .if_icmp .ge 22, 3, 32, 0, 0, 0, []),
  (13, .aload_n 0, 1, 0, 0, 0, 0, []),
  (14, .iload_n 1, 1, 1, 0, 0, 0, []),
  (15, .aload_n 0, 1, 0, 0, 0, 0, []),
  (16, .iload_n 2, 1, 2, 0, 0, 0, []),
  (17, .iload_n 3, 1, 3, 0, 0, 0, []),
  (18, .iload 4, 2, 4, 0, 0, 0, []),
  (20, .invokevirtual 342, 3, 192, 3, 0, 6052, [(10, 0)]),
  (23, .invokevirtual 325, 3, 181, 2, 0, 6007, [(10, 0)]),
  (26, .iinc 4 1, 3, 4, 0, 0, 0, []),
  (29, .goto (-22), 3, 7, 0, 0, 0, []),
  (32, .aload_n 0, 1, 0, 0, 0, 0, []),
  (33, .getfield 23, 3, 10, 4, 0, 4134, []),
  (36, .iload_n 1, 1, 1, 0, 0, 0, []),
  (37, .iaload, 1, 0, 0, 0, 0, []),
  (38, .istore 4, 2, 4, 0, 0, 0, []),
  (40, .aload_n 0, 1, 0, 0, 0, 0, []),
  (41, .invokevirtual 336, 3, 189, 0, 0, 6040, [(10, 0)]),
  (44, .iload 4, 2, 4, 0, 0, 0, []),
  (46, .ireturn, 1, 0, 0, 0, 0, [])]
def m191 : MI := (⟨"LeavesObjectModel", "liesBy", "(III)I"⟩, prog_12_method_52_code, 5, (Option.some Jvm.ClassFile.FieldType.int), k191, 3, [6051, 1011, 6050, 61])
/-- LeavesObjectModel.digitOf(III)I -/
def k192 : List XE := [(0, .iconst 1, 1, 0, 0, 0, 0, []),
  (1, .istore 4, 2, 4, 0, 0, 0, []),
  (3, .iload_n 3, 1, 3, 0, 0, 0, []),
  (4, .iconst 1, 1, 0, 0, 0, 0, []),
  (5, .iadd, 1, 0, 0, 0, 0, []),
  (6, .istore 5, 2, 5, 0, 0, 0, []),
  (8, .iload 5, 2, 5, 0, 0, 0, []),
  (10, .iload_n 2, 1, 2, 0, 0, 0, []),
  (11, .if_icmp .ge 15, 3, 26, 0, 0, 0, []),
  (14, .iload 4, 2, 4, 0, 0, 0, []),
  (16, .iconst 4, 1, 0, 0, 0, 0, []),
  (17, .imul, 1, 0, 0, 0, 0, []),
  (18, .istore 4, 2, 4, 0, 0, 0, []),
  (20, .iinc 5 1, 3, 5, 0, 0, 0, []),
  (23, .goto (-15), 3, 8, 0, 0, 0, []),
  (26, .iload_n 1, 1, 1, 0, 0, 0, []),
  (27, .iload 4, 2, 4, 0, 0, 0, []),
  (29, .idiv, 1, 0, 0, 0, 0, []),
  (30, .iconst 4, 1, 0, 0, 0, 0, []),
  (31, .irem, 1, 0, 0, 0, 0, []),
  (32, .ireturn, 1, 0, 0, 0, 0, [])]
def m192 : MI := (⟨"LeavesObjectModel", "digitOf", "(III)I"⟩, prog_12_method_51_code, 6, (Option.some Jvm.ClassFile.FieldType.int), k192, 3, [6055, 1011, 6054, 62])
/-- LeavesObjectModel.near(III)I -/
def k193 : List XE := [(0, .aload_n 0, 1, 0, 0, 0, 0, []),
  (1, .iload_n 1, 1, 1, 0, 0, 0, []),
  (2, .invokevirtual 221, 3, 145, 1, 0, 5103, [(10, 0)]),
  (5, .ifCond .eq 13, 3, 18, 0, 0, 0, []),
  (8, .aload_n 0, 1, 0, 0, 0, 0, []),
  (9, .iload_n 3, 1, 3, 0, 0, 0, []),
  (10, .iconst (-1), 1, 0, 0, 0, 0, []),
  (11, .iconst 2, 1, 0, 0, 0, 0, []),
  (12, .invokevirtual 213, 3, 142, 3, 0, 5091, [(10, 0)]),
  (15, .ifCond .ne 5, 3, 20, 0, 0, 0, []),
  (18, .iconst (-1), 1, 0, 0, 0, 0, []),
  (19, .ireturn, 1, 0, 0, 0, 0, []),
  (20, .aload_n 0, 1, 0, 0, 0, 0, []),
  (21, .iload_n 2, 1, 2, 0, 0, 0, []),
  (22, .invokevirtual 217, 3, 143, 1, 0, 5095, [(10, 0)]),
  (25, .ifCond .ne 6, 3, 31, 0, 0, 0, []),
  (28, .bipush (-2), 2, 0, 0, 0, 0, []),
  (30, .ireturn, 1, 0, 0, 0, 0, []),
  (31, .iconst 0, 1, 0, 0, 0, 0, []),
  (32, .istore 4, 2, 4, 0, 0, 0, []),
  (34, .bipush 99, 2, 0, 0, 0, 0, []),
  (36, .istore 5, 2, 5, 0, 0, 0, []),
  (38, .iconst 0, 1, 0, 0, 0, 0, []),
  (39, .istore 6, 2, 6, 0, 0, 0, []),
  (41, .iload 6, 2, 6, 0, 0, 0, []),
  (43, .bipush 64, 2, 0, 0, 0, 0, []),
  (45, .if_icmp .ge 43, 3, 88, 0, 0, 0, []),
  (48, .aload_n 0, 1, 0, 0, 0, 0, []),
  (49, .aload_n 0, 1, 0, 0, 0, 0, []),
  (50, .iload_n 1, 1, 1, 0, 0, 0, []),
  (51, .iload 6, 2, 6, 0, 0, 0, []),
  (53, .iconst 3, 1, 0, 0, 0, 0, []),
  (54, .invokevirtual 345, 3, 191, 3, 0, 6048, [(10, 0)]),
  (57, .iload_n 2, 1, 2, 0, 0, 0, []),
  (58, .ixor, 1, 0, 0, 0, 0, []),
  (59, .invokevirtual 276, 3, 169, 1, 0, 5199, [(10, 0)]),
  (62, .istore 7, 2, 7, 0, 0, 0, []),
  (64, .iload 7, 2, 7, 0, 0, 0, []),
  (66, .iload 5, 2, 5, 0, 0, 0, []),
  (68, .if_icmp .lt 6, 3, 74, 0, 0, 0, []),
  (71, .goto 11, 3, 82, 0, 0, 0, []),
  (74, .iload 6, 2, 6, 0, 0, 0, []),
  (76, .istore 4, 2, 4, 0, 0, 0, []),
  (78, .iload 7, 2, 7, 0, 0, 0, []),
  (80, .istore 5, 2, 5, 0, 0, 0, []),
  (82, .iinc 6 1, 3, 6, 0, 0, 0, []),
  (85, .goto (-44), 3, 41, 0, 0, 0, []),
  (88, .iload_n 3, 1, 3, 0, 0, 0, []),
  (89, .ifCond .ge 8, 3, 97, 0, 0, 0, []),
  (92, .iload 5, 2, 5, 0, 0, 0, []),
  (94, .goto 11, 3, 105, 0, 0, 0, []),
  (97, .aload_n 0, 1, 0, 0, 0, 0, []),
  (98, .iload 4, 2, 4, 0, 0, 0, []),
  (100, .iconst 3, 1, 0, 0, 0, 0, []),
  (101, .iload_n 3, 1, 3, 0, 0, 0, []),
  (102, .invokevirtual 342, 3, 192, 3, 0, 6052, [(10, 0)]),
  (105, .ireturn, 1, 0, 0, 0, 0, [])]
def m193 : MI := (⟨"LeavesObjectModel", "near", "(III)I"⟩, prog_12_method_54_code, 8, (Option.some Jvm.ClassFile.FieldType.int), k193, 3, [6059, 1011, 6057, 6058])
/-- LeavesObjectModel.fullest(I)I -/
def k194 : List XE := [(0, .aload_n 0, 1, 0, 0, 0, 0, []),
  (1, .iload_n 1, 1, 1, 0, 0, 0, []),
  (2, .invokevirtual 221, 3, 145, 1, 0, 5103, [(10, 0)]),
  (5, .ifCond .ne 5, 3, 10, 0, 0, 0, []),
  (8, .iconst (-1), 1, 0, 0, 0, 0, []),
  (9, .ireturn, 1, 0, 0, 0, 0, []),
  (10, .iconst 0, 1, 0, 0, 0, 0, []),
  (11, .istore_n 2, 1, 2, 0, 0, 0, []),
  (12, .iconst 0, 1, 0, 0, 0, 0, []),
  (13, .istore_n 3, 1, 3, 0, 0, 0, []),
  (14, .iload_n 3, 1, 3, 0, 0, 0, []),
  (15, .sipush 256, 3, 0, 0, 0, 0, []),
  (18, .if_icmp .ge 35, 3, 53, 0, 0, 0, []),
  (21, .aload_n 0, 1, 0, 0, 0, 0, []),
  (22, .aload_n 0, 1, 0, 0, 0, 0, []),
  (23, .iload_n 1, 1, 1, 0, 0, 0, []),
  (24, .iload_n 3, 1, 3, 0, 0, 0, []),
  (25, .iconst 4, 1, 0, 0, 0, 0, []),
  (26, .invokevirtual 345, 3, 191, 3, 0, 6048, [(10, 0)]),
  (29, .invokevirtual 276, 3, 169, 1, 0, 5199, [(10, 0)]),
  (32, .istore 4, 2, 4, 0, 0, 0, []),
  (34, .iload 4, 2, 4, 0, 0, 0, []),
  (36, .iload_n 2, 1, 2, 0, 0, 0, []),
  (37, .if_icmp .le 8, 3, 45, 0, 0, 0, []),
  (40, .iload 4, 2, 4, 0, 0, 0, []),
  (42, .goto 4, 3, 46, 0, 0, 0, []),
  (45, .iload_n 2, 1, 2, 0, 0, 0, []),
  (46, .istore_n 2, 1, 2, 0, 0, 0, []),
  (47, .iinc 3 1, 3, 3, 0, 0, 0, []),
  (50, .goto (-36), 3, 14, 0, 0, 0, []),
  (53, .iload_n 2, 1, 2, 0, 0, 0, []),
  (54, .ireturn, 1, 0, 0, 0, 0, [])]
def m194 : MI := (⟨"LeavesObjectModel", "fullest", "(I)I"⟩, prog_12_method_55_code, 5, (Option.some Jvm.ClassFile.FieldType.int), k194, 1, [6063, 1011, 6061, 6062])
/-- LeavesObjectModel.firstNo(II)I -/
def k195 : List XE := [(0, .aload_n 0, 1, 0, 0, 0, 0, []),
  (1, .iload_n 1, 1, 1, 0, 0, 0, []),
  (2, .invokevirtual 221, 3, 145, 1, 0, 5103, [(10, 0)]),
  (5, .ifCond .eq 11, 3, 16, 0, 0, 0, []),
  (8, .aload_n 0, 1, 0, 0, 0, 0, []),
  (9, .iload_n 2, 1, 2, 0, 0, 0, []),
  (10, .invokevirtual 322, 3, 179, 1, 0, 5239, [(10, 0)]),
  (13, .ifCond .ne 5, 3, 18, 0, 0, 0, []),
  (16, .iconst (-1), 1, 0, 0, 0, 0, []),
  (17, .ireturn, 1, 0, 0, 0, 0, []),
  (18, .aload_n 0, 1, 0, 0, 0, 0, []),
  (19, .invokevirtual 333, 3, 188, 0, 0, 6035, [(10, 0)]),
  (22, .bipush (-5), 2, 0, 0, 0, 0, []),
  (24, .istore_n 3, 1, 3, 0, 0, 0, []),
  (25, .iconst 1, 1, 0, 0, 0, 0, []),
  (26, .istore 4, 2, 4, 0, 0, 0, []),
  (28, .iload 4, 2, 4, 0, 0, 0, []),
  (30, .bipush 61, 2, 0, 0, 0, 0, []),
  (32, .if_icmp .ge 36, 3, 68, 0, 0, 0, []),
  (35, .iload_n 3, 1, 3, 0, 0, 0, []),
  (36, .ifCond .ge 32, 3, 68, 0, 0, 0, []),
  (39, .aload_n 0, 1, 0, 0, 0, 0, []),
  (40, .iload_n 1, 1, 1, 0, 0, 0, []),
  (41, .iload_n 2, 1, 2, 0, 0, 0, []),
  (42, .invokevirtual 313, 3, 180, 2, 0, 6003, [(10, 0)]),
  (45, .ifCond .eq 8, 3, 53, 0, 0, 0, []),
  (48, .iload 4, 2, 4, 0, 0, 0, []),
  (50, .goto 5, 3, 55, 0, 0, 0, []),
  (53, .bipush (-5), 2, 0, 0, 0, 0, []),
  (55, .istore_n 3, 1, 3, 0, 0, 0, []),
  (56, .aload_n 0, 1, 0, 0, 0, 0, []),
  (57, .iload_n 1, 1, 1, 0, 0, 0, []),
  (58, .iload_n 2, 1, 2, 0, 0, 0, []),
  (59, .invokevirtual 325, 3, 181, 2, 0, 6007, [(10, 0)]),
  (62, .iinc 4 1, 3, 4, 0, 0, 0, []),
  (65, .goto (-37), 3, 28, 0, 0, 0, []),
  (68, .aload_n 0, 1, 0, 0, 0, 0, []),
  (69, .invokevirtual 336, 3, 189, 0, 0, 6040, [(10, 0)]),
  (72, .iload_n 3, 1, 3, 0, 0, 0, []),
  (73, .ireturn, 1, 0, 0, 0, 0, [])]
def m195 : MI := (⟨"LeavesObjectModel", "firstNo", "(II)I"⟩, prog_12_method_56_code, 5, (Option.some Jvm.ClassFile.FieldType.int), k195, 2, [6067, 1011, 6065, 6066])
/-- LeavesObjectModel.told(I)I -/
def k196 : List XE := [(0, .iload_n 1, 1, 1, 0, 0, 0, []),
  (1, .tableswitch 82 0 6 #[43, 48, 55, 62, 67, 72, 77], 43, 83, 0, 0, 0, [(0, 44), (1, 49), (2, 56), (3, 63), (4, 68), (5, 73), (6, 78)]),
  (44, .aload_n 0, 1, 0, 0, 0, 0, []),
  (45, .getfield 13, 3, 10, 1, 0, 4131, []),
  (48, .ireturn, 1, 0, 0, 0, 0, []),
  (49, .aload_n 0, 1, 0, 0, 0, 0, []),
  (50, .iconst 2, 1, 0, 0, 0, 0, []),
  (51, .iconst 2, 1, 0, 0, 0, 0, []),
  (52, .invokevirtual 319, 3, 183, 2, 0, 6015, [(10, 0)]),
  (55, .ireturn, 1, 0, 0, 0, 0, []),
  (56, .aload_n 0, 1, 0, 0, 0, 0, []),
  (57, .iconst 3, 1, 0, 0, 0, 0, []),
  (58, .iconst 1, 1, 0, 0, 0, 0, []),
  (59, .invokevirtual 319, 3, 183, 2, 0, 6015, [(10, 0)]),
  (62, .ireturn, 1, 0, 0, 0, 0, []),
  (63, .aload_n 0, 1, 0, 0, 0, 0, []),
  (64, .invokevirtual 351, 3, 197, 0, 0, 6072, [(10, 0)]),
  (67, .ireturn, 1, 0, 0, 0, 0, []),
  (68, .aload_n 0, 1, 0, 0, 0, 0, []),
  (69, .invokevirtual 354, 3, 199, 0, 0, 6080, [(10, 0)]),
  (72, .ireturn, 1, 0, 0, 0, 0, []),
  (73, .aload_n 0, 1, 0, 0, 0, 0, []),
  (74, .invokevirtual 357, 3, 200, 0, 0, 6084, [(10, 0)]),
  (77, .ireturn, 1, 0, 0, 0, 0, []),
  (78, .aload_n 0, 1, 0, 0, 0, 0, []),
  (79, .invokevirtual 360, 3, 201, 0, 0, 6088, [(10, 0)]),
  (82, .ireturn, 1, 0, 0, 0, 0, []),
  (83, .iconst (-1), 1, 0, 0, 0, 0, []),
  (84, .ireturn, 1, 0, 0, 0, 0, [])]
def m196 : MI := (⟨"LeavesObjectModel", "told", "(I)I"⟩, prog_12_method_62_code, 2, (Option.some Jvm.ClassFile.FieldType.int), k196, 1, [6071, 1011, 6069, 6070])
/-- LeavesObjectModel.joined()I -/
def k197 : List XE := [(0, .aload_n 0, 1, 0, 0, 0, 0, []),
  (1, .bipush 31, 2, 0, 0, 0, 0, []),
  (3, .invokevirtual 348, 3, 198, 1, 0, 6076, [(10, 0)]),
  (6, .ireturn, 1, 0, 0, 0, 0, [])]
def m197 : MI := (⟨"LeavesObjectModel", "joined", "()I"⟩, prog_12_method_58_code, 1, (Option.some Jvm.ClassFile.FieldType.int), k197, 0, [6075, 1011, 6074, 63])
/-- LeavesObjectModel.joinedOf(I)I -/
def k198 : List XE := [(0, .iconst 0, 1, 0, 0, 0, 0, []),
  (1, .istore_n 2, 1, 2, 0, 0, 0, []),
  (2, .iconst 0, 1, 0, 0, 0, 0, []),
  (3, .istore_n 3, 1, 3, 0, 0, 0, []),
  (4, .iload_n 3, 1, 3, 0, 0, 0, []),
  (5, .aload_n 0, 1, 0, 0, 0, 0, []),
  (6, .getfield 7, 3, 10, 0, 0, 4130, []),
  (9, .if_icmp .ge 31, 3, 40, 0, 0, 0, []),
  (12, .iload_n 2, 1, 2, 0, 0, 0, []),
  (13, .aload_n 0, 1, 0, 0, 0, 0, []),
  (14, .iload_n 1, 1, 1, 0, 0, 0, []),
  (15, .iload_n 3, 1, 3, 0, 0, 0, []),
  (16, .invokevirtual 209, 3, 170, 2, 0, 5203, [(10, 0)]),
  (19, .ifCond .eq 12, 3, 31, 0, 0, 0, []),
  (22, .aload_n 0, 1, 0, 0, 0, 0, []),
  (23, .getfield 23, 3, 10, 4, 0, 4134, []),
  (26, .iload_n 3, 1, 3, 0, 0, 0, []),
  (27, .iaload, 1, 0, 0, 0, 0, []),
  (28, .goto 4, 3, 32, 0, 0, 0, []),
  (31, .iconst 0, 1, 0, 0, 0, 0, []),
  (32, .ior, 1, 0, 0, 0, 0, []),
  (33, .istore_n 2, 1, 2, 0, 0, 0, []),
  (34, .iinc 3 1, 3, 3, 0, 0, 0, []),
  (37, .goto (-33), 3, 4, 0, 0, 0, []),
  (40, .iload_n 2, 1, 2, 0, 0, 0, []),
  (41, .ireturn, 1, 0, 0, 0, 0, [])]
def m198 : MI := (⟨"LeavesObjectModel", "joinedOf", "(I)I"⟩, prog_12_method_57_code, 4, (Option.some Jvm.ClassFile.FieldType.int), k198, 1, [6079, 1011, 6078, 64])
/-- LeavesObjectModel.twice()I -/
def k199 : List XE := [(0, .iconst 0, 1, 0, 0, 0, 0, []),
  (1, .istore_n 1, 1, 1, 0, 0, 0, []),
  (2, .iconst 0, 1, 0, 0, 0, 0, []),
  (3, .istore_n 2, 1, 2, 0, 0, 0, []),
  (4, .iload_n 2, 1, 2, 0, 0, 0, []),
  (5, .bipush 12, 2, 0, 0, 0, 0, []),
  (7, .if_icmp .ge 67, 3, 74, 0, 0, 0, []),
  (10, .iconst 0, 1, 0, 0, 0, 0, []),
  (11, .istore_n 3, 1, 3, 0, 0, 0, []),
  (12, .iconst 0, 1, 0, 0, 0, 0, []),
  (13, .istore 4, 2, 4, 0, 0, 0, []),
  (15, .iload 4, 2, 4, 0, 0, 0, []),
  (17, .aload_n 0, 1, 0, 0, 0, 0, []),
  (18, .getfield 7, 3, 10, 0, 0, 4130, []),
  (21, .if_icmp .ge 32, 3, 53, 0, 0, 0, []),
  (24, .iload_n 3, 1, 3, 0, 0, 0, []),
  (25, .aload_n 0, 1, 0, 0, 0, 0, []),
  (26, .aload_n 0, 1, 0, 0, 0, 0, []),
  (27, .getfield 23, 3, 10, 4, 0, 4134, []),
  (30, .iload 4, 2, 4, 0, 0, 0, []),
  (32, .iaload, 1, 0, 0, 0, 0, []),
  (33, .iload_n 2, 1, 2, 0, 0, 0, []),
  (34, .invokevirtual 209, 3, 170, 2, 0, 5203, [(10, 0)]),
  (37, .ifCond .eq 7, 3, 44, 0, 0, 0, []),
  (40, .iconst 1, 1, 0, 0, 0, 0, []),
  (41, .goto 4, 3, 45, 0, 0, 0, []),
  (44, .iconst 0, 1, 0, 0, 0, 0, []),
  (45, .iadd, 1, 0, 0, 0, 0, []),
  (46, .istore_n 3, 1, 3, 0, 0, 0, []),
  (47, .iinc 4 1, 3, 4, 0, 0, 0, []),
  (50, .goto (-35), 3, 15, 0, 0, 0, []),
  (53, .iload_n 1, 1, 1, 0, 0, 0, []),
  (54, .iload_n 3, 1, 3, 0, 0, 0, []),
  (55, .iconst 1, 1, 0, 0, 0, 0, []),
  (56, .if_icmp .le 9, 3, 65, 0, 0, 0, []),
  (59, .iconst 1, 1, 0, 0, 0, 0, []),
  (60, .iload_n 2, 1, 2, 0, 0, 0, []),
  (61, .ishl, 1, 0, 0, 0, 0, []),
  (62, .goto 4, 3, 66, 0, 0, 0, []),
  (65, .iconst 0, 1, 0, 0, 0, 0, []),
  (66, .ior, 1, 0, 0, 0, 0, []),
  (67, .istore_n 1, 1, 1, 0, 0, 0, []),
  (68, .iinc 2 1, 3, 2, 0, 0, 0, []),
  (71, .goto (-67), 3, 4, 0, 0, 0, []),
  (74, .iload_n 1, 1, 1, 0, 0, 0, []),
  (75, .ireturn, 1, 0, 0, 0, 0, [])]
def m199 : MI := (⟨"LeavesObjectModel", "twice", "()I"⟩, prog_12_method_59_code, 5, (Option.some Jvm.ClassFile.FieldType.int), k199, 0, [6083, 1011, 6082, 65])
/-- LeavesObjectModel.mirrored()I -/
def k200 : List XE := [(0, .iconst 0, 1, 0, 0, 0, 0, []),
  (1, .istore_n 1, 1, 1, 0, 0, 0, []),
  (2, .iconst 0, 1, 0, 0, 0, 0, []),
  (3, .istore_n 2, 1, 2, 0, 0, 0, []),
  (4, .iload_n 2, 1, 2, 0, 0, 0, []),
  (5, .aload_n 0, 1, 0, 0, 0, 0, []),
  (6, .getfield 7, 3, 10, 0, 0, 4130, []),
  (9, .if_icmp .ge 84, 3, 93, 0, 0, 0, []),
  (12, .iconst 0, 1, 0, 0, 0, 0, []),
  (13, .istore_n 3, 1, 3, 0, 0, 0, []),
  (14, .iconst 0, 1, 0, 0, 0, 0, []),
  (15, .istore 4, 2, 4, 0, 0, 0, []),
  (17, .iload 4, 2, 4, 0, 0, 0, []),
  (19, .bipush 12, 2, 0, 0, 0, 0, []),
  (21, .if_icmp .ge 46, 3, 67, 0, 0, 0, []),
  (24, .iload_n 3, 1, 3, 0, 0, 0, []),
  (25, .aload_n 0, 1, 0, 0, 0, 0, []),
  (26, .aload_n 0, 1, 0, 0, 0, 0, []),
  (27, .getfield 23, 3, 10, 4, 0, 4134, []),
  (30, .iload_n 2, 1, 2, 0, 0, 0, []),
  (31, .iaload, 1, 0, 0, 0, 0, []),
  (32, .iload 4, 2, 4, 0, 0, 0, []),
  (34, .invokevirtual 209, 3, 170, 2, 0, 5203, [(10, 0)]),
  (37, .ifCond .eq 21, 3, 58, 0, 0, 0, []),
  (40, .iconst 1, 1, 0, 0, 0, 0, []),
  (41, .iload 4, 2, 4, 0, 0, 0, []),
  (43, .iconst 4, 1, 0, 0, 0, 0, []),
  (44, .idiv, 1, 0, 0, 0, 0, []),
  (45, .iconst 4, 1, 0, 0, 0, 0, []),
  (46, .imul, 1, 0, 0, 0, 0, []),
  (47, .iconst 3, 1, 0, 0, 0, 0, []),
  (48, .iadd, 1, 0, 0, 0, 0, []),
  (49, .iload 4, 2, 4, 0, 0, 0, []),
  (51, .iconst 4, 1, 0, 0, 0, 0, []),
  (52, .irem, 1, 0, 0, 0, 0, []),
  (53, .isub, 1, 0, 0, 0, 0, []),
  (54, .ishl, 1, 0, 0, 0, 0, []),
  (55, .goto 4, 3, 59, 0, 0, 0, []),
  (58, .iconst 0, 1, 0, 0, 0, 0, []),
  (59, .ior, 1, 0, 0, 0, 0, []),
  (60, .istore_n 3, 1, 3, 0, 0, 0, []),
  (61, .iinc 4 1, 3, 4, 0, 0, 0, []),
  (64, .goto (-47), 3, 17, 0, 0, 0, []),
  (67, .iload_n 1, 1, 1, 0, 0, 0, []),
  (68, .iload_n 3, 1, 3, 0, 0, 0, []),
  (69, .aload_n 0, 1, 0, 0, 0, 0, []),
  (70, .getfield 23, 3, 10, 4, 0, 4134, []),
  (73, .iload_n 2, 1, 2, 0, 0, 0, []),
  (74, .iaload, 1, 0, 0, 0, 0, []),
  (75, .if_icmp .ne 9, 3, 84, 0, 0, 0, []),
  (78, .iconst 1, 1, 0, 0, 0, 0, []),
  (79, .iload_n 2, 1, 2, 0, 0, 0, []),
  (80, .ishl, 1, 0, 0, 0, 0, []),
  (81, .goto 4, 3, 85, 0, 0, 0, []),
  (84, .iconst 0, 1, 0, 0, 0, 0, []),
  (85, .ior, 1, 0, 0, 0, 0, []),
  (86, .istore_n 1, 1, 1, 0, 0, 0, []),
  (87, .iinc 2 1, 3, 2, 0, 0, 0, []),
  (90, .goto (-86), 3, 4, 0, 0, 0, []),
  (93, .iload_n 1, 1, 1, 0, 0, 0, []),
  (94, .ireturn, 1, 0, 0, 0, 0, [])]
def m200 : MI := (⟨"LeavesObjectModel", "mirrored", "()I"⟩, prog_12_method_60_code, 5, (Option.some Jvm.ClassFile.FieldType.int), k200, 0, [6087, 1011, 6086, 66])
/-- LeavesObjectModel.alike()I -/
def k201 : List XE := [(0, .bipush (-5), 2, 0, 0, 0, 0, []),
  (2, .istore_n 1, 1, 1, 0, 0, 0, []),
  (3, .iconst 0, 1, 0, 0, 0, 0, []),
  (4, .istore_n 2, 1, 2, 0, 0, 0, []),
  (5, .iconst 0, 1, 0, 0, 0, 0, []),
  (6, .istore_n 3, 1, 3, 0, 0, 0, []),
  (7, .iload_n 3, 1, 3, 0, 0, 0, []),
  (8, .aload_n 0, 1, 0, 0, 0, 0, []),
  (9, .getfield 7, 3, 10, 0, 0, 4130, []),
  (12, .if_icmp .ge 73, 3, 85, 0, 0, 0, []),
  (15, .iload_n 3, 1, 3, 0, 0, 0, []),
  (16, .iconst 1, 1, 0, 0, 0, 0, []),
  (17, .iadd, 1, 0, 0, 0, 0, []),
  (18, .istore 4, 2, 4, 0, 0, 0, []),
  (20, .iload 4, 2, 4, 0, 0, 0, []),
  (22, .aload_n 0, 1, 0, 0, 0, 0, []),
  (23, .getfield 7, 3, 10, 0, 0, 4130, []),
  (26, .if_icmp .ge 53, 3, 79, 0, 0, 0, []),
  (29, .aload_n 0, 1, 0, 0, 0, 0, []),
  (30, .aload_n 0, 1, 0, 0, 0, 0, []),
  (31, .getfield 23, 3, 10, 4, 0, 4134, []),
  (34, .iload_n 3, 1, 3, 0, 0, 0, []),
  (35, .iaload, 1, 0, 0, 0, 0, []),
  (36, .aload_n 0, 1, 0, 0, 0, 0, []),
  (37, .getfield 23, 3, 10, 4, 0, 4134, []),
  (40, .iload 4, 2, 4, 0, 0, 0, []),
  (42, .iaload, 1, 0, 0, 0, 0, []),
  (43, .ixor, 1, 0, 0, 0, 0, []),
  (44, .invokevirtual 276, 3, 169, 1, 0, 5199, [(10, 0)]),
  (47, .istore 5, 2, 5, 0, 0, 0, []),
  (49, .iload_n 1, 1, 1, 0, 0, 0, []),
  (50, .ifCond .lt 12, 3, 62, 0, 0, 0, []),
  (53, .iload 5, 2, 5, 0, 0, 0, []),
  (55, .iload_n 2, 1, 2, 0, 0, 0, []),
  (56, .if_icmp .lt 6, 3, 62, 0, 0, 0, []),
  (59, .goto 14, 3, 73, 0, 0, 0, []),
  (62, .bipush 10, 2, 0, 0, 0, 0, []),
  (64, .iload_n 3, 1, 3, 0, 0, 0, []),
  (65, .imul, 1, 0, 0, 0, 0, []),
  (66, .iload 4, 2, 4, 0, 0, 0, []),
  (68, .iadd, 1, 0, 0, 0, 0, []),
  (69, .istore_n 1, 1, 1, 0, 0, 0, []),
  (70, .iload 5, 2, 5, 0, 0, 0, []),
  (72, .istore_n 2, 1, 2, 0, 0, 0, []),
  (73, .iinc 4 1, 3, 4, 0, 0, 0, []),
  (76, .goto (-56), 3, 20, 0, 0, 0, []),
  (79, .iinc 3 1, 3, 3, 0, 0, 0, []),
  (82, .goto (-75), 3, 7, 0, 0, 0, []),
  (85, .iload_n 1, 1, 1, 0, 0, 0, []),
  (86, .ireturn, 1, 0, 0, 0, 0, [])]
def m201 : MI := (⟨"LeavesObjectModel", "alike", "()I"⟩, prog_12_method_61_code, 6, (Option.some Jvm.ClassFile.FieldType.int), k201, 0, [6091, 1011, 6090, 67])
/-- LeavesObjectModel.show(I)I -/
def k202 : List XE := [(0, .aload_n 0, 1, 0, 0, 0, 0, []),
  (1, .iload_n 1, 1, 1, 0, 0, 0, []),
  (2, .invokevirtual 217, 3, 143, 1, 0, 5095, [(10, 0)]),
  (5, .ifCond .ne 6, 3, 11, 0, 0, 0, []),
  (8, .bipush (-2), 2, 0, 0, 0, 0, []),
  (10, .ireturn, 1, 0, 0, 0, 0, []),
  (11, .bipush (-5), 2, 0, 0, 0, 0, []),
  (13, .istore_n 2, 1, 2, 0, 0, 0, []),
  (14, .iconst 0, 1, 0, 0, 0, 0, []),
  (15, .istore_n 3, 1, 3, 0, 0, 0, []),
  (16, .iload_n 3, 1, 3, 0, 0, 0, []),
  (17, .iconst 1, 1, 0, 0, 0, 0, []),
  (18, .aload_n 0, 1, 0, 0, 0, 0, []),
  (19, .getfield 7, 3, 10, 0, 0, 4130, []),
  (22, .ishl, 1, 0, 0, 0, 0, []),
  (23, .if_icmp .ge 43, 3, 66, 0, 0, 0, []),
  (26, .iload_n 1, 1, 1, 0, 0, 0, []),
  (27, .aload_n 0, 1, 0, 0, 0, 0, []),
  (28, .iload_n 3, 1, 3, 0, 0, 0, []),
  (29, .invokevirtual 348, 3, 198, 1, 0, 6076, [(10, 0)]),
  (32, .iconst (-1), 1, 0, 0, 0, 0, []),
  (33, .ixor, 1, 0, 0, 0, 0, []),
  (34, .iand, 1, 0, 0, 0, 0, []),
  (35, .ifCond .ne 25, 3, 60, 0, 0, 0, []),
  (38, .iload_n 2, 1, 2, 0, 0, 0, []),
  (39, .ifCond .lt 19, 3, 58, 0, 0, 0, []),
  (42, .aload_n 0, 1, 0, 0, 0, 0, []),
  (43, .iload_n 3, 1, 3, 0, 0, 0, []),
  (44, .invokevirtual 276, 3, 169, 1, 0, 5199, [(10, 0)]),
  (47, .aload_n 0, 1, 0, 0, 0, 0, []),
  (48, .iload_n 2, 1, 2, 0, 0, 0, []),
  (49, .invokevirtual 276, 3, 169, 1, 0, 5199, [(10, 0)]),
  (52, .if_icmp .lt 6, 3, 58, 0, 0, 0, []),
  (55, .goto 5, 3, 60, 0, 0, 0, []),
  (58, .iload_n 3, 1, 3, 0, 0, 0, []),
  (59, .istore_n 2, 1, 2, 0, 0, 0, []),
  (60, .iinc 3 1, 3, 3, 0, 0, 0, []),
  (63, .goto (-47), 3, 16, 0, 0, 0, []),
  (66, .iload_n 2, 1, 2, 0, 0, 0, []),
  (67, .ireturn, 1, 0, 0, 0, 0, [])]
def m202 : MI := (⟨"LeavesObjectModel", "show", "(I)I"⟩, prog_12_method_63_code, 4, (Option.some Jvm.ClassFile.FieldType.int), k202, 1, [6095, 1011, 6093, 6094])
/-- LeavesObjectModel.next(I)I -/
def k203 : List XE := [(0, .aload_n 0, 1, 0, 0, 0, 0, []),
  (1, .iload_n 1, 1, 1, 0, 0, 0, []),
  (2, .invokevirtual 217, 3, 143, 1, 0, 5095, [(10, 0)]),
  (5, .ifCond .ne 6, 3, 11, 0, 0, 0, []),
  (8, .bipush (-2), 2, 0, 0, 0, 0, []),
  (10, .ireturn, 1, 0, 0, 0, 0, []),
  (11, .bipush (-5), 2, 0, 0, 0, 0, []),
  (13, .istore_n 2, 1, 2, 0, 0, 0, []),
  (14, .iconst 0, 1, 0, 0, 0, 0, []),
  (15, .istore_n 3, 1, 3, 0, 0, 0, []),
  (16, .iconst 0, 1, 0, 0, 0, 0, []),
  (17, .istore 4, 2, 4, 0, 0, 0, []),
  (19, .iload 4, 2, 4, 0, 0, 0, []),
  (21, .aload_n 0, 1, 0, 0, 0, 0, []),
  (22, .getfield 7, 3, 10, 0, 0, 4130, []),
  (25, .if_icmp .ge 79, 3, 104, 0, 0, 0, []),
  (28, .iconst 0, 1, 0, 0, 0, 0, []),
  (29, .istore 5, 2, 5, 0, 0, 0, []),
  (31, .iload 5, 2, 5, 0, 0, 0, []),
  (33, .iconst 4, 1, 0, 0, 0, 0, []),
  (34, .if_icmp .ge 64, 3, 98, 0, 0, 0, []),
  (37, .aload_n 0, 1, 0, 0, 0, 0, []),
  (38, .aload_n 0, 1, 0, 0, 0, 0, []),
  (39, .bipush 31, 2, 0, 0, 0, 0, []),
  (41, .iconst 1, 1, 0, 0, 0, 0, []),
  (42, .iload 4, 2, 4, 0, 0, 0, []),
  (44, .ishl, 1, 0, 0, 0, 0, []),
  (45, .iconst (-1), 1, 0, 0, 0, 0, []),
  (46, .ixor, 1, 0, 0, 0, 0, []),
  (47, .iand, 1, 0, 0, 0, 0, []),
  (48, .invokevirtual 348, 3, 198, 1, 0, 6076, [(10, 0)]),
  (51, .aload_n 0, 1, 0, 0, 0, 0, []),
  (52, .iload 4, 2, 4, 0, 0, 0, []),
  (54, .iload 5, 2, 5, 0, 0, 0, []),
  (56, .invokevirtual 339, 3, 187, 2, 0, 6031, [(10, 0)]),
  (59, .ior, 1, 0, 0, 0, 0, []),
  (60, .iload_n 1, 1, 1, 0, 0, 0, []),
  (61, .ixor, 1, 0, 0, 0, 0, []),
  (62, .invokevirtual 276, 3, 169, 1, 0, 5199, [(10, 0)]),
  (65, .istore 6, 2, 6, 0, 0, 0, []),
  (67, .iload_n 2, 1, 2, 0, 0, 0, []),
  (68, .ifCond .lt 12, 3, 80, 0, 0, 0, []),
  (71, .iload 6, 2, 6, 0, 0, 0, []),
  (73, .iload_n 3, 1, 3, 0, 0, 0, []),
  (74, .if_icmp .lt 6, 3, 80, 0, 0, 0, []),
  (77, .goto 15, 3, 92, 0, 0, 0, []),
  (80, .bipush 10, 2, 0, 0, 0, 0, []),
  (82, .iload 4, 2, 4, 0, 0, 0, []),
  (84, .imul, 1, 0, 0, 0, 0, []),
  (85, .iload 5, 2, 5, 0, 0, 0, []),
  (87, .iadd, 1, 0, 0, 0, 0, []),
  (88, .istore_n 2, 1, 2, 0, 0, 0, []),
  (89, .iload 6, 2, 6, 0, 0, 0, []),
  (91, .istore_n 3, 1, 3, 0, 0, 0, []),
  (92, .iinc 5 1, 3, 5, 0, 0, 0, []),
  (95, .goto (-64), 3, 31, 0, 0, 0, []),
  (98, .iinc 4 1, 3, 4, 0, 0, 0, []),
  (101, .goto (-82), 3, 19, 0, 0, 0, []),
  (104, .iload_n 2, 1, 2, 0, 0, 0, []),
  (105, .ireturn, 1, 0, 0, 0, 0, [])]
def m203 : MI := (⟨"LeavesObjectModel", "next", "(I)I"⟩, prog_12_method_64_code, 7, (Option.some Jvm.ClassFile.FieldType.int), k203, 1, [6099, 1011, 6097, 6098])
/-- LeavesObjectModel.see(II)I -/
def k204 : List XE := [(0, .iload_n 1, 1, 1, 0, 0, 0, []),
  (1, .iconst (-1), 1, 0, 0, 0, 0, []),
  (2, .if_icmp .ne 10, 3, 12, 0, 0, 0, []),
  (5, .aload_n 0, 1, 0, 0, 0, 0, []),
  (6, .iconst 0, 1, 0, 0, 0, 0, []),
  (7, .putfield 105, 3, 10, 31, 0, 4161, []),
  (10, .iconst 0, 1, 0, 0, 0, 0, []),
  (11, .ireturn, 1, 0, 0, 0, 0, []),
  (12, .aload_n 0, 1, 0, 0, 0, 0, []),
  (13, .iload_n 1, 1, 1, 0, 0, 0, []),
  (14, .invokevirtual 322, 3, 179, 1, 0, 5239, [(10, 0)]),
  (17, .ifCond .ne 5, 3, 22, 0, 0, 0, []),
  (20, .iconst (-1), 1, 0, 0, 0, 0, []),
  (21, .ireturn, 1, 0, 0, 0, 0, []),
  (22, .aload_n 0, 1, 0, 0, 0, 0, []),
  (23, .iload_n 2, 1, 2, 0, 0, 0, []),
  (24, .invokevirtual 217, 3, 143, 1, 0, 5095, [(10, 0)]),
  (27, .ifCond .ne 6, 3, 33, 0, 0, 0, []),
  (30, .bipush (-2), 2, 0, 0, 0, 0, []),
  (32, .ireturn, 1, 0, 0, 0, 0, []),
  (33, .aload_n 0, 1, 0, 0, 0, 0, []),
  (34, .getfield 105, 3, 10, 31, 0, 4161, []),
  (37, .iconst 5, 1, 0, 0, 0, 0, []),
  (38, .if_icmp .ne 6, 3, 44, 0, 0, 0, []),
  (41, .bipush (-4), 2, 0, 0, 0, 0, []),
  (43, .ireturn, 1, 0, 0, 0, 0, []),
  (44, .aload_n 0, 1, 0, 0, 0, 0, []),
  (45, .getfield 108, 3, 10, 32, 0, 4162, []),
  (48, .aload_n 0, 1, 0, 0, 0, 0, []),
  (49, .getfield 105, 3, 10, 31, 0, 4161, []),
  (52, .iload_n 1, 1, 1, 0, 0, 0, []),
  (53, .iastore, 1, 0, 0, 0, 0, []),
  (54, .aload_n 0, 1, 0, 0, 0, 0, []),
  (55, .getfield 111, 3, 10, 33, 0, 4163, []),
  (58, .aload_n 0, 1, 0, 0, 0, 0, []),
  (59, .getfield 105, 3, 10, 31, 0, 4161, []),
  (62, .iload_n 2, 1, 2, 0, 0, 0, []),
  (63, .iastore, 1, 0, 0, 0, 0, []),
  (64, .aload_n 0, 1, 0, 0, 0, 0, []),
  (65, .dup, 1, 0, 0, 0, 0, []),
  (66, .getfield 105, 3, 10, 31, 0, 4161, []),
  (69, .iconst 1, 1, 0, 0, 0, 0, []),
  (70, .iadd, 1, 0, 0, 0, 0, []),
  (71, .putfield 105, 3, 10, 31, 0, 4161, []),
  (74, .aload_n 0, 1, 0, 0, 0, 0, []),
  (75, .getfield 105, 3, 10, 31, 0, 4161, []),
  (78, .ireturn, 1, 0, 0, 0, 0, [])]
def m204 : MI := (⟨"LeavesObjectModel", "see", "(II)I"⟩, prog_12_method_65_code, 3, (Option.some Jvm.ClassFile.FieldType.int), k204, 2, [6103, 1011, 6101, 6102])
/-- LeavesObjectModel.moods(II)I -/
def k205 : List XE := [(0, .aload_n 0, 1, 0, 0, 0, 0, []),
  (1, .iload_n 1, 1, 1, 0, 0, 0, []),
  (2, .invokevirtual 221, 3, 145, 1, 0, 5103, [(10, 0)]),
  (5, .ifCond .eq 13, 3, 18, 0, 0, 0, []),
  (8, .aload_n 0, 1, 0, 0, 0, 0, []),
  (9, .iload_n 2, 1, 2, 0, 0, 0, []),
  (10, .iconst 0, 1, 0, 0, 0, 0, []),
  (11, .iconst 1, 1, 0, 0, 0, 0, []),
  (12, .invokevirtual 213, 3, 142, 3, 0, 5091, [(10, 0)]),
  (15, .ifCond .ne 5, 3, 20, 0, 0, 0, []),
  (18, .iconst (-1), 1, 0, 0, 0, 0, []),
  (19, .ireturn, 1, 0, 0, 0, 0, []),
  (20, .aload_n 0, 1, 0, 0, 0, 0, []),
  (21, .getfield 26, 3, 10, 5, 0, 4135, []),
  (24, .iload_n 1, 1, 1, 0, 0, 0, []),
  (25, .iaload, 1, 0, 0, 0, 0, []),
  (26, .istore_n 3, 1, 3, 0, 0, 0, []),
  (27, .iconst 0, 1, 0, 0, 0, 0, []),
  (28, .istore 4, 2, 4, 0, 0, 0, []),
  (30, .bipush (-5), 2, 0, 0, 0, 0, []),
  (32, .istore 5, 2, 5, 0, 0, 0, []),
  (34, .bipush 9, 2, 0, 0, 0, 0, []),
  (36, .istore 6, 2, 6, 0, 0, 0, []),
  (38, .iload 6, 2, 6, 0, 0, 0, []),
  (40, .ifCond .lt 35, 3, 75, 0, 0, 0, []),
  (43, .aload_n 0, 1, 0, 0, 0, 0, []),
  (44, .getfield 26, 3, 10, 5, 0, 4135, []),
  (47, .iload_n 1, 1, 1, 0, 0, 0, []),
  (48, .iload 6, 2, 6, 0, 0, 0, []),
  (50, .iastore, 1, 0, 0, 0, 0, []),
  (51, .aload_n 0, 1, 0, 0, 0, 0, []),
  (52, .iload_n 1, 1, 1, 0, 0, 0, []),
  (53, .invokevirtual 363, 3, 206, 1, 0, 6108, [(10, 0)]),
  (56, .ifCond .ne 6, 3, 62, 0, 0, 0, []),
  (59, .goto 10, 3, 69, 0, 0, 0, []),
  (62, .iinc 4 1, 3, 4, 0, 0, 0, []),
  (65, .iload 6, 2, 6, 0, 0, 0, []),
  (67, .istore 5, 2, 5, 0, 0, 0, []),
  (69, .iinc 6 (-1), 3, 6, 0, 0, 0, []),
  (72, .goto (-34), 3, 38, 0, 0, 0, []),
  (75, .aload_n 0, 1, 0, 0, 0, 0, []),
  (76, .getfield 26, 3, 10, 5, 0, 4135, []),
  (79, .iload_n 1, 1, 1, 0, 0, 0, []),
  (80, .iload_n 3, 1, 3, 0, 0, 0, []),
  (81, .iastore, 1, 0, 0, 0, 0, []),
  (82, .iload_n 2, 1, 2, 0, 0, 0, []),
  (83, .ifCond .ne 8, 3, 91, 0, 0, 0, []),
  (86, .iload 4, 2, 4, 0, 0, 0, []),
  (88, .goto 5, 3, 93, 0, 0, 0, []),
  (91, .iload 5, 2, 5, 0, 0, 0, []),
  (93, .ireturn, 1, 0, 0, 0, 0, [])]
def m205 : MI := (⟨"LeavesObjectModel", "moods", "(II)I"⟩, prog_12_method_67_code, 7, (Option.some Jvm.ClassFile.FieldType.int), k205, 2, [6107, 1011, 6105, 6106])
/-- LeavesObjectModel.isSeen(I)Z -/
def k206 : List XE := [(0, .iconst 0, 1, 0, 0, 0, 0, []),
  (1, .istore_n 2, 1, 2, 0, 0, 0, []),
  (2, .iload_n 2, 1, 2, 0, 0, 0, []),
  (3, .aload_n 0, 1, 0, 0, 0, 0, []),
  (4, .getfield 105, 3, 10, 31, 0, 4161, []),
  (7, .if_icmp .ge 31, 3, 38, 0, 0, 0, []),
  (10, .aload_n 0, 1, 0, 0, 0, 0, []),
  (11, .iload_n 1, 1, 1, 0, 0, 0, []),
  (12, .aload_n 0, 1, 0, 0, 0, 0, []),
  (13, .getfield 108, 3, 10, 32, 0, 4162, []),
  (16, .iload_n 2, 1, 2, 0, 0, 0, []),
  (17, .iaload, 1, 0, 0, 0, 0, []),
  (18, .invokevirtual 339, 3, 187, 2, 0, 6031, [(10, 0)]),
  (21, .aload_n 0, 1, 0, 0, 0, 0, []),
  (22, .getfield 111, 3, 10, 33, 0, 4163, []),
  (25, .iload_n 2, 1, 2, 0, 0, 0, []),
  (26, .iaload, 1, 0, 0, 0, 0, []),
  (27, .if_icmp .eq 5, 3, 32, 0, 0, 0, []),
  (30, .iconst 0, 1, 0, 0, 0, 0, []),
  (31, .ireturn, 1, 0, 0, 0, 0, []),
  (32, .iinc 2 1, 3, 2, 0, 0, 0, []),
  (35, .goto (-33), 3, 2, 0, 0, 0, []),
  (38, .iconst 1, 1, 0, 0, 0, 0, []),
  (39, .ireturn, 1, 0, 0, 0, 0, [])]
def m206 : MI := (⟨"LeavesObjectModel", "isSeen", "(I)Z"⟩, prog_12_method_66_code, 3, (Option.some Jvm.ClassFile.FieldType.boolean), k206, 1, [6111, 1011, 6110, 68])
/-- LeavesObjectModel.can(II)I -/
def k207 : List XE := [(0, .aload_n 0, 1, 0, 0, 0, 0, []),
  (1, .iload_n 1, 1, 1, 0, 0, 0, []),
  (2, .invokevirtual 221, 3, 145, 1, 0, 5103, [(10, 0)]),
  (5, .ifCond .eq 13, 3, 18, 0, 0, 0, []),
  (8, .aload_n 0, 1, 0, 0, 0, 0, []),
  (9, .iload_n 2, 1, 2, 0, 0, 0, []),
  (10, .iconst 0, 1, 0, 0, 0, 0, []),
  (11, .iconst 1, 1, 0, 0, 0, 0, []),
  (12, .invokevirtual 213, 3, 142, 3, 0, 5091, [(10, 0)]),
  (15, .ifCond .ne 5, 3, 20, 0, 0, 0, []),
  (18, .iconst (-1), 1, 0, 0, 0, 0, []),
  (19, .ireturn, 1, 0, 0, 0, 0, []),
  (20, .aload_n 0, 1, 0, 0, 0, 0, []),
  (21, .getfield 20, 3, 10, 3, 0, 4133, []),
  (24, .iload_n 1, 1, 1, 0, 0, 0, []),
  (25, .iaload, 1, 0, 0, 0, 0, []),
  (26, .istore_n 3, 1, 3, 0, 0, 0, []),
  (27, .iconst 0, 1, 0, 0, 0, 0, []),
  (28, .istore 4, 2, 4, 0, 0, 0, []),
  (30, .bipush (-5), 2, 0, 0, 0, 0, []),
  (32, .istore 5, 2, 5, 0, 0, 0, []),
  (34, .bipush 9, 2, 0, 0, 0, 0, []),
  (36, .istore 6, 2, 6, 0, 0, 0, []),
  (38, .iload 6, 2, 6, 0, 0, 0, []),
  (40, .ifCond .lt 35, 3, 75, 0, 0, 0, []),
  (43, .aload_n 0, 1, 0, 0, 0, 0, []),
  (44, .getfield 20, 3, 10, 3, 0, 4133, []),
  (47, .iload_n 1, 1, 1, 0, 0, 0, []),
  (48, .iload 6, 2, 6, 0, 0, 0, []),
  (50, .iastore, 1, 0, 0, 0, 0, []),
  (51, .aload_n 0, 1, 0, 0, 0, 0, []),
  (52, .iload_n 1, 1, 1, 0, 0, 0, []),
  (53, .invokevirtual 363, 3, 206, 1, 0, 6108, [(10, 0)]),
  (56, .ifCond .ne 6, 3, 62, 0, 0, 0, []),
  (59, .goto 10, 3, 69, 0, 0, 0, []),
  (62, .iinc 4 1, 3, 4, 0, 0, 0, []),
  (65, .iload 6, 2, 6, 0, 0, 0, []),
  (67, .istore 5, 2, 5, 0, 0, 0, []),
  (69, .iinc 6 (-1), 3, 6, 0, 0, 0, []),
  (72, .goto (-34), 3, 38, 0, 0, 0, []),
  (75, .aload_n 0, 1, 0, 0, 0, 0, []),
  (76, .getfield 20, 3, 10, 3, 0, 4133, []),
  (79, .iload_n 1, 1, 1, 0, 0, 0, []),
  (80, .iload_n 3, 1, 3, 0, 0, 0, []),
  (81, .iastore, 1, 0, 0, 0, 0, []),
  (82, .iload_n 2, 1, 2, 0, 0, 0, []),
  (83, .ifCond .ne 8, 3, 91, 0, 0, 0, []),
  (86, .iload 4, 2, 4, 0, 0, 0, []),
  (88, .goto 5, 3, 93, 0, 0, 0, []),
  (91, .iload 5, 2, 5, 0, 0, 0, []),
  (93, .ireturn, 1, 0, 0, 0, 0, [])]
def m207 : MI := (⟨"LeavesObjectModel", "can", "(II)I"⟩, prog_12_method_68_code, 7, (Option.some Jvm.ClassFile.FieldType.int), k207, 2, [6115, 1011, 6113, 6114])
/-- LeavesObjectModel.odds(III)J -/
def k208 : List XE := [(0, .aload_n 0, 1, 0, 0, 0, 0, []),
  (1, .iload_n 1, 1, 1, 0, 0, 0, []),
  (2, .invokevirtual 221, 3, 145, 1, 0, 5103, [(10, 0)]),
  (5, .ifCond .eq 24, 3, 29, 0, 0, 0, []),
  (8, .aload_n 0, 1, 0, 0, 0, 0, []),
  (9, .iload_n 2, 1, 2, 0, 0, 0, []),
  (10, .iconst 0, 1, 0, 0, 0, 0, []),
  (11, .bipush 12, 2, 0, 0, 0, 0, []),
  (13, .invokevirtual 213, 3, 142, 3, 0, 5091, [(10, 0)]),
  (16, .ifCond .eq 13, 3, 29, 0, 0, 0, []),
  (19, .aload_n 0, 1, 0, 0, 0, 0, []),
  (20, .iload_n 3, 1, 3, 0, 0, 0, []),
  (21, .iconst 0, 1, 0, 0, 0, 0, []),
  (22, .iconst 1, 1, 0, 0, 0, 0, []),
  (23, .invokevirtual 213, 3, 142, 3, 0, 5091, [(10, 0)]),
  (26, .ifCond .ne 7, 3, 33, 0, 0, 0, []),
  (29, .ldc2_w 369, 3, 0, 0, 0, 6120, [((-9223372036854775808), 0)]),
  (32, .lreturn, 1, 0, 0, 0, 0, []),
  (33, .iconst 0, 1, 0, 0, 0, 0, []),
  (34, .istore 4, 2, 4, 0, 0, 0, []),
  (36, .iconst 0, 1, 0, 0, 0, 0, []),
  (37, .istore 5, 2, 5, 0, 0, 0, []),
  (39, .iload 5, 2, 5, 0, 0, 0, []),
  (41, .iconst 4, 1, 0, 0, 0, 0, []),
  (42, .if_icmp .ge 34, 3, 76, 0, 0, 0, []),
  (45, .iload 4, 2, 4, 0, 0, 0, []),
  (47, .aload_n 0, 1, 0, 0, 0, 0, []),
  (48, .aload_n 0, 1, 0, 0, 0, 0, []),
  (49, .iload_n 1, 1, 1, 0, 0, 0, []),
  (50, .iload 5, 2, 5, 0, 0, 0, []),
  (52, .invokevirtual 339, 3, 187, 2, 0, 6031, [(10, 0)]),
  (55, .invokevirtual 276, 3, 169, 1, 0, 5199, [(10, 0)]),
  (58, .iload_n 2, 1, 2, 0, 0, 0, []),
  (59, .if_icmp .lt 7, 3, 66, 0, 0, 0, []),
  (62, .iconst 1, 1, 0, 0, 0, 0, []),
  (63, .goto 4, 3, 67, 0, 0, 0, []),
  (66, .iconst 0, 1, 0, 0, 0, 0, []),
  (67, .iadd, 1, 0, 0, 0, 0, []),
  (68, .istore 4, 2, 4, 0, 0, 0, []),
  (70, .iinc 5 1, 3, 5, 0, 0, 0, []),
  (73, .goto (-34), 3, 39, 0, 0, 0, []),
  (76, .aload_n 0, 1, 0, 0, 0, 0, []),
  (77, .iload 4, 2, 4, 0, 0, 0, []),
  (79, .iconst 4, 1, 0, 0, 0, 0, []),
  (80, .iload_n 3, 1, 3, 0, 0, 0, []),
  (81, .invokevirtual 371, 3, 209, 3, 0, 6121, [(10, 0)]),
  (84, .lreturn, 1, 0, 0, 0, 0, [])]
def m208 : MI := (⟨"LeavesObjectModel", "odds", "(III)J"⟩, prog_12_method_71_code, 6, (Option.some Jvm.ClassFile.FieldType.long), k208, 3, [6119, 1011, 6117, 6118])
/-- LeavesObjectModel.lowest(III)J -/
def k209 : List XE := [(0, .aload_n 0, 1, 0, 0, 0, 0, []),
  (1, .iload_n 1, 1, 1, 0, 0, 0, []),
  (2, .iload_n 2, 1, 2, 0, 0, 0, []),
  (3, .invokevirtual 366, 3, 210, 2, 0, 6125, [(10, 0)]),
  (6, .istore 4, 2, 4, 0, 0, 0, []),
  (8, .iload_n 3, 1, 3, 0, 0, 0, []),
  (9, .ifCond .ne 11, 3, 20, 0, 0, 0, []),
  (12, .iload_n 1, 1, 1, 0, 0, 0, []),
  (13, .iload 4, 2, 4, 0, 0, 0, []),
  (15, .idiv, 1, 0, 0, 0, 0, []),
  (16, .i2l, 1, 0, 0, 0, 0, []),
  (17, .goto 8, 3, 25, 0, 0, 0, []),
  (20, .iload_n 2, 1, 2, 0, 0, 0, []),
  (21, .iload 4, 2, 4, 0, 0, 0, []),
  (23, .idiv, 1, 0, 0, 0, 0, []),
  (24, .i2l, 1, 0, 0, 0, 0, []),
  (25, .lreturn, 1, 0, 0, 0, 0, [])]
def m209 : MI := (⟨"LeavesObjectModel", "lowest", "(III)J"⟩, prog_12_method_70_code, 5, (Option.some Jvm.ClassFile.FieldType.long), k209, 3, [6124, 1011, 6123, 69])
/-- LeavesObjectModel.divisor(II)I -/
def k210 : List XE := [(0, .iload_n 1, 1, 1, 0, 0, 0, []),
  (1, .istore_n 3, 1, 3, 0, 0, 0, []),
  (2, .iload_n 2, 1, 2, 0, 0, 0, []),
  (3, .istore 4, 2, 4, 0, 0, 0, []),
  (5, .iload 4, 2, 4, 0, 0, 0, []),
  (7, .ifCond .eq 19, 3, 26, 0, 0, 0, []),
  (10, .iload_n 3, 1, 3, 0, 0, 0, []),
  (11, .iload 4, 2, 4, 0, 0, 0, []),
  (13, .irem, 1, 0, 0, 0, 0, []),
  (14, .istore 5, 2, 5, 0, 0, 0, []),
  (16, .iload 4, 2, 4, 0, 0, 0, []),
  (18, .istore_n 3, 1, 3, 0, 0, 0, []),
  (19, .iload 5, 2, 5, 0, 0, 0, []),
  (21, .istore 4, 2, 4, 0, 0, 0, []),
  (23, .goto (-18), 3, 5, 0, 0, 0, []),
  (26, .iload_n 3, 1, 3, 0, 0, 0, []),
  (27, .ireturn, 1, 0, 0, 0, 0, [])]
def m210 : MI := (⟨"LeavesObjectModel", "divisor", "(II)I"⟩, prog_12_method_69_code, 6, (Option.some Jvm.ClassFile.FieldType.int), k210, 2, [6128, 1011, 6127, 70])
/-- LeavesObjectModel.mean(I)J -/
def k211 : List XE := [(0, .aload_n 0, 1, 0, 0, 0, 0, []),
  (1, .iload_n 1, 1, 1, 0, 0, 0, []),
  (2, .iconst 0, 1, 0, 0, 0, 0, []),
  (3, .iconst 1, 1, 0, 0, 0, 0, []),
  (4, .invokevirtual 213, 3, 142, 3, 0, 5091, [(10, 0)]),
  (7, .ifCond .eq 10, 3, 17, 0, 0, 0, []),
  (10, .aload_n 0, 1, 0, 0, 0, 0, []),
  (11, .getfield 7, 3, 10, 0, 0, 4130, []),
  (14, .ifCond .ne 7, 3, 21, 0, 0, 0, []),
  (17, .ldc2_w 369, 3, 0, 0, 0, 6120, [((-9223372036854775808), 0)]),
  (20, .lreturn, 1, 0, 0, 0, 0, []),
  (21, .iconst 0, 1, 0, 0, 0, 0, []),
  (22, .istore_n 2, 1, 2, 0, 0, 0, []),
  (23, .iconst 0, 1, 0, 0, 0, 0, []),
  (24, .istore_n 3, 1, 3, 0, 0, 0, []),
  (25, .iload_n 3, 1, 3, 0, 0, 0, []),
  (26, .aload_n 0, 1, 0, 0, 0, 0, []),
  (27, .getfield 7, 3, 10, 0, 0, 4130, []),
  (30, .if_icmp .ge 22, 3, 52, 0, 0, 0, []),
  (33, .iload_n 2, 1, 2, 0, 0, 0, []),
  (34, .aload_n 0, 1, 0, 0, 0, 0, []),
  (35, .aload_n 0, 1, 0, 0, 0, 0, []),
  (36, .getfield 23, 3, 10, 4, 0, 4134, []),
  (39, .iload_n 3, 1, 3, 0, 0, 0, []),
  (40, .iaload, 1, 0, 0, 0, 0, []),
  (41, .invokevirtual 276, 3, 169, 1, 0, 5199, [(10, 0)]),
  (44, .iadd, 1, 0, 0, 0, 0, []),
  (45, .istore_n 2, 1, 2, 0, 0, 0, []),
  (46, .iinc 3 1, 3, 3, 0, 0, 0, []),
  (49, .goto (-24), 3, 25, 0, 0, 0, []),
  (52, .aload_n 0, 1, 0, 0, 0, 0, []),
  (53, .iload_n 2, 1, 2, 0, 0, 0, []),
  (54, .aload_n 0, 1, 0, 0, 0, 0, []),
  (55, .getfield 7, 3, 10, 0, 0, 4130, []),
  (58, .iload_n 1, 1, 1, 0, 0, 0, []),
  (59, .invokevirtual 371, 3, 209, 3, 0, 6121, [(10, 0)]),
  (62, .lreturn, 1, 0, 0, 0, 0, [])]
def m211 : MI := (⟨"LeavesObjectModel", "mean", "(I)J"⟩, prog_12_method_72_code, 4, (Option.some Jvm.ClassFile.FieldType.long), k211, 1, [6132, 1011, 6130, 6131])
/-- LeavesObjectModel.evening(II)I -/
def k212 : List XE := [(0, .iload_n 1, 1, 1, 0, 0, 0, []),
  (1, .iconst (-1), 1, 0, 0, 0, 0, []),
  (2, .if_icmp .ne 10, 3, 12, 0, 0, 0, []),
  (5, .aload_n 0, 1, 0, 0, 0, 0, []),
  (6, .iconst 0, 1, 0, 0, 0, 0, []),
  (7, .putfield 114, 3, 10, 34, 0, 4164, []),
  (10, .iconst 0, 1, 0, 0, 0, 0, []),
  (11, .ireturn, 1, 0, 0, 0, 0, []),
  (12, .iload_n 1, 1, 1, 0, 0, 0, []),
  (13, .iconst 5, 1, 0, 0, 0, 0, []),
  (14, .if_icmp .eq 21, 3, 35, 0, 0, 0, []),
  (17, .aload_n 0, 1, 0, 0, 0, 0, []),
  (18, .iload_n 1, 1, 1, 0, 0, 0, []),
  (19, .invokevirtual 221, 3, 145, 1, 0, 5103, [(10, 0)]),
  (22, .ifCond .eq 11, 3, 33, 0, 0, 0, []),
  (25, .aload_n 0, 1, 0, 0, 0, 0, []),
  (26, .iload_n 2, 1, 2, 0, 0, 0, []),
  (27, .invokevirtual 322, 3, 179, 1, 0, 5239, [(10, 0)]),
  (30, .ifCond .ne 5, 3, 35, 0, 0, 0, []),
  (33, .iconst (-1), 1, 0, 0, 0, 0, []),
  (34, .ireturn, 1, 0, 0, 0, 0, []),
  (35, .aload_n 0, 1, 0, 0, 0, 0, []),
  (36, .getfield 114, 3, 10, 34, 0, 4164, []),
  (39, .bipush 10, 2, 0, 0, 0, 0, []),
  (41, .if_icmp .ne 6, 3, 47, 0, 0, 0, []),
  (44, .bipush (-4), 2, 0, 0, 0, 0, []),
  (46, .ireturn, 1, 0, 0, 0, 0, []),
  (47, .aload_n 0, 1, 0, 0, 0, 0, []),
  (48, .getfield 120, 3, 10, 36, 0, 4166, []),
  (51, .aload_n 0, 1, 0, 0, 0, 0, []),
  (52, .getfield 114, 3, 10, 34, 0, 4164, []),
  (55, .iload_n 1, 1, 1, 0, 0, 0, []),
  (56, .iastore, 1, 0, 0, 0, 0, []),
  (57, .aload_n 0, 1, 0, 0, 0, 0, []),
  (58, .getfield 123, 3, 10, 37, 0, 4167, []),
  (61, .aload_n 0, 1, 0, 0, 0, 0, []),
  (62, .getfield 114, 3, 10, 34, 0, 4164, []),
  (65, .iload_n 1, 1, 1, 0, 0, 0, []),
  (66, .iconst 5, 1, 0, 0, 0, 0, []),
  (67, .if_icmp .ne 7, 3, 74, 0, 0, 0, []),
  (70, .iconst 0, 1, 0, 0, 0, 0, []),
  (71, .goto 4, 3, 75, 0, 0, 0, []),
  (74, .iload_n 2, 1, 2, 0, 0, 0, []),
  (75, .iastore, 1, 0, 0, 0, 0, []),
  (76, .aload_n 0, 1, 0, 0, 0, 0, []),
  (77, .dup, 1, 0, 0, 0, 0, []),
  (78, .getfield 114, 3, 10, 34, 0, 4164, []),
  (81, .iconst 1, 1, 0, 0, 0, 0, []),
  (82, .iadd, 1, 0, 0, 0, 0, []),
  (83, .putfield 114, 3, 10, 34, 0, 4164, []),
  (86, .aload_n 0, 1, 0, 0, 0, 0, []),
  (87, .getfield 114, 3, 10, 34, 0, 4164, []),
  (90, .ireturn, 1, 0, 0, 0, 0, [])]
def m212 : MI := (⟨"LeavesObjectModel", "evening", "(II)I"⟩, prog_12_method_73_code, 3, (Option.some Jvm.ClassFile.FieldType.int), k212, 2, [6136, 1011, 6134, 6135])
/-- LeavesObjectModel.ends(I)I -/
def k213 : List XE := [(0, .aload_n 0, 1, 0, 0, 0, 0, []),
  (1, .iload_n 1, 1, 1, 0, 0, 0, []),
  (2, .iconst 0, 1, 0, 0, 0, 0, []),
  (3, .iconst 1, 1, 0, 0, 0, 0, []),
  (4, .invokevirtual 213, 3, 142, 3, 0, 5091, [(10, 0)]),
  (7, .ifCond .ne 5, 3, 12, 0, 0, 0, []),
  (10, .iconst (-1), 1, 0, 0, 0, 0, []),
  (11, .ireturn, 1, 0, 0, 0, 0, []),
  (12, .aload_n 0, 1, 0, 0, 0, 0, []),
  (13, .invokevirtual 333, 3, 188, 0, 0, 6035, [(10, 0)]),
  (16, .iconst 0, 1, 0, 0, 0, 0, []),
  (17, .istore_n 2, 1, 2, 0, 0, 0, []),
  (18, .iload_n 2, 1, 2, 0, 0, 0, []),
  (19, .aload_n 0, 1, 0, 0, 0, 0, []),
  (20, .getfield 114, 3, 10, 34, 0, 4164, []),
  (23, .if_icmp .ge 42, 3, 65, 0, 0, 0, []),
  (26, .aload_n 0, 1, 0, 0, 0, 0, []),
  (27, .getfield 120, 3, 10, 36, 0, 4166, []),
  (30, .iload_n 2, 1, 2, 0, 0, 0, []),
  (31, .iaload, 1, 0, 0, 0, 0, []),
  (32, .iconst 5, 1, 0, 0, 0, 0, []),
  (33, .if_icmp .ne 10, 3, 43, 0, 0, 0, []),
  (36, .aload_n 0, 1, 0, 0, 0, 0, []),
  (37, .invokevirtual 329, 3, 185, 0, 0, 6023, [(10, 0)]),
  (40, .goto 19, 3, 59, 0, 0, 0, []),
  (43, .aload_n 0, 1, 0, 0, 0, 0, []),
  (44, .aload_n 0, 1, 0, 0, 0, 0, []),
  (45, .getfield 120, 3, 10, 36, 0, 4166, []),
  (48, .iload_n 2, 1, 2, 0, 0, 0, []),
  (49, .iaload, 1, 0, 0, 0, 0, []),
  (50, .aload_n 0, 1, 0, 0, 0, 0, []),
  (51, .getfield 123, 3, 10, 37, 0, 4167, []),
  (54, .iload_n 2, 1, 2, 0, 0, 0, []),
  (55, .iaload, 1, 0, 0, 0, 0, []),
  (56, .invokevirtual 325, 3, 181, 2, 0, 6007, [(10, 0)]),
  (59, .iinc 2 1, 3, 2, 0, 0, 0, []),
  (62, .goto (-44), 3, 18, 0, 0, 0, []),
  (65, .iconst 0, 1, 0, 0, 0, 0, []),
  (66, .istore_n 2, 1, 2, 0, 0, 0, []),
  (67, .iconst 0, 1, 0, 0, 0, 0, []),
  (68, .istore_n 3, 1, 3, 0, 0, 0, []),
  (69, .iload_n 3, 1, 3, 0, 0, 0, []),
  (70, .aload_n 0, 1, 0, 0, 0, 0, []),
  (71, .getfield 7, 3, 10, 0, 0, 4130, []),
  (74, .if_icmp .ge 25, 3, 99, 0, 0, 0, []),
  (77, .iload_n 2, 1, 2, 0, 0, 0, []),
  (78, .aload_n 0, 1, 0, 0, 0, 0, []),
  (79, .getfield 29, 3, 10, 6, 0, 4136, []),
  (82, .iload_n 3, 1, 3, 0, 0, 0, []),
  (83, .iaload, 1, 0, 0, 0, 0, []),
  (84, .aload_n 0, 1, 0, 0, 0, 0, []),
  (85, .getfield 102, 3, 10, 30, 0, 4160, []),
  (88, .iload_n 3, 1, 3, 0, 0, 0, []),
  (89, .iaload, 1, 0, 0, 0, 0, []),
  (90, .isub, 1, 0, 0, 0, 0, []),
  (91, .iadd, 1, 0, 0, 0, 0, []),
  (92, .istore_n 2, 1, 2, 0, 0, 0, []),
  (93, .iinc 3 1, 3, 3, 0, 0, 0, []),
  (96, .goto (-27), 3, 69, 0, 0, 0, []),
  (99, .iload_n 1, 1, 1, 0, 0, 0, []),
  (100, .ifCond .ne 10, 3, 110, 0, 0, 0, []),
  (103, .aload_n 0, 1, 0, 0, 0, 0, []),
  (104, .invokevirtual 351, 3, 197, 0, 0, 6072, [(10, 0)]),
  (107, .goto 4, 3, 111, 0, 0, 0, []),
  (110, .iload_n 2, 1, 2, 0, 0, 0, []),
  (111, .istore_n 3, 1, 3, 0, 0, 0, []),
  (112, .aload_n 0, 1, 0, 0, 0, 0, []),
  (113, .invokevirtual 336, 3, 189, 0, 0, 6040, [(10, 0)]),
  (116, .iload_n 3, 1, 3, 0, 0, 0, []),
  (117, .ireturn, 1, 0, 0, 0, 0, [])]
def m213 : MI := (⟨"LeavesObjectModel", "ends", "(I)I"⟩, prog_12_method_74_code, 4, (Option.some Jvm.ClassFile.FieldType.int), k213, 1, [6140, 1011, 6138, 6139])
/-- LeavesObjectModel.book(II)I -/
def k214 : List XE := [(0, .iload_n 1, 1, 1, 0, 0, 0, []),
  (1, .iconst (-1), 1, 0, 0, 0, 0, []),
  (2, .if_icmp .ne 10, 3, 12, 0, 0, 0, []),
  (5, .aload_n 0, 1, 0, 0, 0, 0, []),
  (6, .iconst 0, 1, 0, 0, 0, 0, []),
  (7, .putfield 117, 3, 10, 35, 0, 4165, []),
  (10, .iconst 0, 1, 0, 0, 0, 0, []),
  (11, .ireturn, 1, 0, 0, 0, 0, []),
  (12, .aload_n 0, 1, 0, 0, 0, 0, []),
  (13, .iload_n 1, 1, 1, 0, 0, 0, []),
  (14, .invokevirtual 221, 3, 145, 1, 0, 5103, [(10, 0)]),
  (17, .ifCond .ne 5, 3, 22, 0, 0, 0, []),
  (20, .iconst (-1), 1, 0, 0, 0, 0, []),
  (21, .ireturn, 1, 0, 0, 0, 0, []),
  (22, .aload_n 0, 1, 0, 0, 0, 0, []),
  (23, .iload_n 2, 1, 2, 0, 0, 0, []),
  (24, .invokevirtual 217, 3, 143, 1, 0, 5095, [(10, 0)]),
  (27, .ifCond .ne 6, 3, 33, 0, 0, 0, []),
  (30, .bipush (-2), 2, 0, 0, 0, 0, []),
  (32, .ireturn, 1, 0, 0, 0, 0, []),
  (33, .aload_n 0, 1, 0, 0, 0, 0, []),
  (34, .getfield 117, 3, 10, 35, 0, 4165, []),
  (37, .bipush 8, 2, 0, 0, 0, 0, []),
  (39, .if_icmp .ne 6, 3, 45, 0, 0, 0, []),
  (42, .bipush (-4), 2, 0, 0, 0, 0, []),
  (44, .ireturn, 1, 0, 0, 0, 0, []),
  (45, .aload_n 0, 1, 0, 0, 0, 0, []),
  (46, .getfield 126, 3, 10, 38, 0, 4168, []),
  (49, .aload_n 0, 1, 0, 0, 0, 0, []),
  (50, .getfield 117, 3, 10, 35, 0, 4165, []),
  (53, .iload_n 1, 1, 1, 0, 0, 0, []),
  (54, .iastore, 1, 0, 0, 0, 0, []),
  (55, .aload_n 0, 1, 0, 0, 0, 0, []),
  (56, .getfield 129, 3, 10, 39, 0, 4169, []),
  (59, .aload_n 0, 1, 0, 0, 0, 0, []),
  (60, .getfield 117, 3, 10, 35, 0, 4165, []),
  (63, .iload_n 2, 1, 2, 0, 0, 0, []),
  (64, .iastore, 1, 0, 0, 0, 0, []),
  (65, .aload_n 0, 1, 0, 0, 0, 0, []),
  (66, .dup, 1, 0, 0, 0, 0, []),
  (67, .getfield 117, 3, 10, 35, 0, 4165, []),
  (70, .iconst 1, 1, 0, 0, 0, 0, []),
  (71, .iadd, 1, 0, 0, 0, 0, []),
  (72, .putfield 117, 3, 10, 35, 0, 4165, []),
  (75, .aload_n 0, 1, 0, 0, 0, 0, []),
  (76, .getfield 117, 3, 10, 35, 0, 4165, []),
  (79, .ireturn, 1, 0, 0, 0, 0, [])]
def m214 : MI := (⟨"LeavesObjectModel", "book", "(II)I"⟩, prog_12_method_75_code, 3, (Option.some Jvm.ClassFile.FieldType.int), k214, 2, [6144, 1011, 6142, 6143])
/-- LeavesObjectModel.looked()I -/
def k215 : List XE := [(0, .iconst 0, 1, 0, 0, 0, 0, []),
  (1, .istore_n 1, 1, 1, 0, 0, 0, []),
  (2, .iload_n 1, 1, 1, 0, 0, 0, []),
  (3, .aload_n 0, 1, 0, 0, 0, 0, []),
  (4, .getfield 117, 3, 10, 35, 0, 4165, []),
  (7, .if_icmp .ge 31, 3, 38, 0, 0, 0, []),
  (10, .aload_n 0, 1, 0, 0, 0, 0, []),
  (11, .getfield 23, 3, 10, 4, 0, 4134, []),
  (14, .aload_n 0, 1, 0, 0, 0, 0, []),
  (15, .getfield 126, 3, 10, 38, 0, 4168, []),
  (18, .iload_n 1, 1, 1, 0, 0, 0, []),
  (19, .iaload, 1, 0, 0, 0, 0, []),
  (20, .iaload, 1, 0, 0, 0, 0, []),
  (21, .aload_n 0, 1, 0, 0, 0, 0, []),
  (22, .getfield 129, 3, 10, 39, 0, 4169, []),
  (25, .iload_n 1, 1, 1, 0, 0, 0, []),
  (26, .iaload, 1, 0, 0, 0, 0, []),
  (27, .if_icmp .eq 5, 3, 32, 0, 0, 0, []),
  (30, .iload_n 1, 1, 1, 0, 0, 0, []),
  (31, .ireturn, 1, 0, 0, 0, 0, []),
  (32, .iinc 1 1, 3, 1, 0, 0, 0, []),
  (35, .goto (-33), 3, 2, 0, 0, 0, []),
  (38, .bipush (-5), 2, 0, 0, 0, 0, []),
  (40, .ireturn, 1, 0, 0, 0, 0, [])]
def m215 : MI := (⟨"LeavesObjectModel", "looked", "()I"⟩, prog_12_method_76_code, 2, (Option.some Jvm.ClassFile.FieldType.int), k215, 0, [6148, 1011, 6146, 6147])
/-- LeavesObjectModel.judge(II)I -/
def k216 : List XE := [(0, .aload_n 0, 1, 0, 0, 0, 0, []),
  (1, .iload_n 1, 1, 1, 0, 0, 0, []),
  (2, .invokevirtual 375, 3, 217, 1, 0, 6153, [(10, 0)]),
  (5, .ifCond .ne 5, 3, 10, 0, 0, 0, []),
  (8, .iconst (-1), 1, 0, 0, 0, 0, []),
  (9, .ireturn, 1, 0, 0, 0, 0, []),
  (10, .aload_n 0, 1, 0, 0, 0, 0, []),
  (11, .getfield 196, 3, 10, 61, 0, 4191, []),
  (14, .iload_n 1, 1, 1, 0, 0, 0, []),
  (15, .iaload, 1, 0, 0, 0, 0, []),
  (16, .ifCond .lt 16, 3, 32, 0, 0, 0, []),
  (19, .aload_n 0, 1, 0, 0, 0, 0, []),
  (20, .getfield 196, 3, 10, 61, 0, 4191, []),
  (23, .iload_n 1, 1, 1, 0, 0, 0, []),
  (24, .iaload, 1, 0, 0, 0, 0, []),
  (25, .iconst 1, 1, 0, 0, 0, 0, []),
  (26, .if_icmp .eq 6, 3, 32, 0, 0, 0, []),
  (29, .bipush (-12), 2, 0, 0, 0, 0, []),
  (31, .ireturn, 1, 0, 0, 0, 0, []),
  (32, .iconst 0, 1, 0, 0, 0, 0, []),
  (33, .istore_n 3, 1, 3, 0, 0, 0, []),
  (34, .iload_n 3, 1, 3, 0, 0, 0, []),
  (35, .aload_n 0, 1, 0, 0, 0, 0, []),
  (36, .getfield 7, 3, 10, 0, 0, 4130, []),
  (39, .if_icmp .ge 67, 3, 106, 0, 0, 0, []),
  (42, .aload_n 0, 1, 0, 0, 0, 0, []),
  (43, .getfield 196, 3, 10, 61, 0, 4191, []),
  (46, .iload_n 1, 1, 1, 0, 0, 0, []),
  (47, .iaload, 1, 0, 0, 0, 0, []),
  (48, .ifCond .lt 21, 3, 69, 0, 0, 0, []),
  (51, .iload_n 2, 1, 2, 0, 0, 0, []),
  (52, .ifCond .lt 17, 3, 69, 0, 0, 0, []),
  (55, .iload_n 2, 1, 2, 0, 0, 0, []),
  (56, .aload_n 0, 1, 0, 0, 0, 0, []),
  (57, .getfield 199, 3, 10, 62, 0, 4192, []),
  (60, .iload_n 1, 1, 1, 0, 0, 0, []),
  (61, .iaload, 1, 0, 0, 0, 0, []),
  (62, .iload_n 3, 1, 3, 0, 0, 0, []),
  (63, .isub, 1, 0, 0, 0, 0, []),
  (64, .iconst 1, 1, 0, 0, 0, 0, []),
  (65, .isub, 1, 0, 0, 0, 0, []),
  (66, .if_icmp .le 8, 3, 74, 0, 0, 0, []),
  (69, .bipush 100, 2, 0, 0, 0, 0, []),
  (71, .iload_n 3, 1, 3, 0, 0, 0, []),
  (72, .iadd, 1, 0, 0, 0, 0, []),
  (73, .ireturn, 1, 0, 0, 0, 0, []),
  (74, .aload_n 0, 1, 0, 0, 0, 0, []),
  (75, .getfield 202, 3, 10, 63, 0, 4193, []),
  (78, .bipush 60, 2, 0, 0, 0, 0, []),
  (80, .iload_n 1, 1, 1, 0, 0, 0, []),
  (81, .imul, 1, 0, 0, 0, 0, []),
  (82, .iload_n 2, 1, 2, 0, 0, 0, []),
  (83, .iadd, 1, 0, 0, 0, 0, []),
  (84, .iload_n 3, 1, 3, 0, 0, 0, []),
  (85, .iadd, 1, 0, 0, 0, 0, []),
  (86, .laload, 1, 0, 0, 0, 0, []),
  (87, .aload_n 0, 1, 0, 0, 0, 0, []),
  (88, .getfield 23, 3, 10, 4, 0, 4134, []),
  (91, .iload_n 3, 1, 3, 0, 0, 0, []),
  (92, .iaload, 1, 0, 0, 0, 0, []),
  (93, .i2l, 1, 0, 0, 0, 0, []),
  (94, .lcmp, 1, 0, 0, 0, 0, []),
  (95, .ifCond .eq 5, 3, 100, 0, 0, 0, []),
  (98, .iload_n 3, 1, 3, 0, 0, 0, []),
  (99, .ireturn, 1, 0, 0, 0, 0, []),
  (100, .iinc 3 1, 3, 3, 0, 0, 0, []),
  (103, .goto (-69), 3, 34, 0, 0, 0, []),
  (106, .bipush (-5), 2, 0, 0, 0, 0, []),
  (108, .ireturn, 1, 0, 0, 0, 0, [])]
def m216 : MI := (⟨"LeavesObjectModel", "judge", "(II)I"⟩, prog_12_method_77_code, 4, (Option.some Jvm.ClassFile.FieldType.int), k216, 2, [6152, 1011, 6150, 6151])
/-- LeavesObjectModel.isTape(I)Z -/
def k217 : List XE := [(0, .aload_n 0, 1, 0, 0, 0, 0, []),
  (1, .iload_n 1, 1, 1, 0, 0, 0, []),
  (2, .iconst 0, 1, 0, 0, 0, 0, []),
  (3, .iconst 5, 1, 0, 0, 0, 0, []),
  (4, .invokevirtual 213, 3, 142, 3, 0, 5091, [(10, 0)]),
  (7, .ireturn, 1, 0, 0, 0, 0, [])]
def m217 : MI := (⟨"LeavesObjectModel", "isTape", "(I)Z"⟩, prog_12_method_92_code, 2, (Option.some Jvm.ClassFile.FieldType.boolean), k217, 1, [6156, 1011, 6155, 71])
/-- LeavesObjectModel.image()I -/
def k218 : List XE := [(0, .aload_n 0, 1, 0, 0, 0, 0, []),
  (1, .iconst 1, 1, 0, 0, 0, 0, []),
  (2, .putfield 132, 3, 10, 40, 0, 4170, []),
  (5, .aload_n 0, 1, 0, 0, 0, 0, []),
  (6, .aload_n 0, 1, 0, 0, 0, 0, []),
  (7, .getfield 38, 3, 10, 9, 0, 4139, []),
  (10, .putfield 136, 3, 10, 41, 0, 4171, []),
  (13, .aload_n 0, 1, 0, 0, 0, 0, []),
  (14, .aload_n 0, 1, 0, 0, 0, 0, []),
  (15, .getfield 7, 3, 10, 0, 0, 4130, []),
  (18, .putfield 139, 3, 10, 42, 0, 4172, []),
  (21, .aload_n 0, 1, 0, 0, 0, 0, []),
  (22, .aload_n 0, 1, 0, 0, 0, 0, []),
  (23, .getfield 13, 3, 10, 1, 0, 4131, []),
  (26, .putfield 142, 3, 10, 43, 0, 4173, []),
  (29, .aload_n 0, 1, 0, 0, 0, 0, []),
  (30, .aload_n 0, 1, 0, 0, 0, 0, []),
  (31, .getfield 105, 3, 10, 31, 0, 4161, []),
  (34, .putfield 145, 3, 10, 44, 0, 4174, []),
  (37, .aload_n 0, 1, 0, 0, 0, 0, []),
  (38, .aload_n 0, 1, 0, 0, 0, 0, []),
  (39, .getfield 114, 3, 10, 34, 0, 4164, []),
  (42, .putfield 148, 3, 10, 45, 0, 4175, []),
  (45, .aload_n 0, 1, 0, 0, 0, 0, []),
  (46, .aload_n 0, 1, 0, 0, 0, 0, []),
  (47, .getfield 117, 3, 10, 35, 0, 4165, []),
  (50, .putfield 151, 3, 10, 46, 0, 4176, []),
  (53, .iconst 0, 1, 0, 0, 0, 0, []),
  (54, .istore_n 1, 1, 1, 0, 0, 0, []),
  (55, .iload_n 1, 1, 1, 0, 0, 0, []),
  (56, .iconst 5, 1, 0, 0, 0, 0, []),
  (57, .if_icmp .ge 93, 3, 150, 0, 0, 0, []),
  (60, .aload_n 0, 1, 0, 0, 0, 0, []),
  (61, .getfield 154, 3, 10, 47, 0, 4177, []),
  (64, .iload_n 1, 1, 1, 0, 0, 0, []),
  (65, .aload_n 0, 1, 0, 0, 0, 0, []),
  (66, .getfield 16, 3, 10, 2, 0, 4132, []),
  (69, .iload_n 1, 1, 1, 0, 0, 0, []),
  (70, .iaload, 1, 0, 0, 0, 0, []),
  (71, .iastore, 1, 0, 0, 0, 0, []),
  (72, .aload_n 0, 1, 0, 0, 0, 0, []),
  (73, .getfield 157, 3, 10, 48, 0, 4178, []),
  (76, .iload_n 1, 1, 1, 0, 0, 0, []),
  (77, .aload_n 0, 1, 0, 0, 0, 0, []),
  (78, .getfield 20, 3, 10, 3, 0, 4133, []),
  (81, .iload_n 1, 1, 1, 0, 0, 0, []),
  (82, .iaload, 1, 0, 0, 0, 0, []),
  (83, .iastore, 1, 0, 0, 0, 0, []),
  (84, .aload_n 0, 1, 0, 0, 0, 0, []),
  (85, .getfield 160, 3, 10, 49, 0, 4179, []),
  (88, .iload_n 1, 1, 1, 0, 0, 0, []),
  (89, .aload_n 0, 1, 0, 0, 0, 0, []),
  (90, .getfield 23, 3, 10, 4, 0, 4134, []),
  (93, .iload_n 1, 1, 1, 0, 0, 0, []),
  (94, .iaload, 1, 0, 0, 0, 0, []),
  (95, .iastore, 1, 0, 0, 0, 0, []),
  (96, .aload_n 0, 1, 0, 0, 0, 0, []),
  (97, .getfield 163, 3, 10, 50, 0, 4180, []),
  (100, .iload_n 1, 1, 1, 0, 0, 0, []),
  (101, .aload_n 0, 1, 0, 0, 0, 0, []),
  (102, .getfield 26, 3, 10, 5, 0, 4135, []),
  (105, .iload_n 1, 1, 1, 0, 0, 0, []),
  (106, .iaload, 1, 0, 0, 0, 0, []),
  (107, .iastore, 1, 0, 0, 0, 0, []),
  (108, .aload_n 0, 1, 0, 0, 0, 0, []),
  (109, .getfield 166, 3, 10, 51, 0, 4181, []),
  (112, .iload_n 1, 1, 1, 0, 0, 0, []),
  (113, .aload_n 0, 1, 0, 0, 0, 0, []),
  (114, .getfield 29, 3, 10, 6, 0, 4136, []),
  (117, .iload_n 1, 1, 1, 0, 0, 0, []),
  (118, .iaload, 1, 0, 0, 0, 0, []),
  (119, .iastore, 1, 0, 0, 0, 0, []),
  (120, .aload_n 0, 1, 0, 0, 0, 0, []),
  (121, .getfield 172, 3, 10, 53, 0, 4183, []),
  (124, .iload_n 1, 1, 1, 0, 0, 0, []),
  (125, .aload_n 0, 1, 0, 0, 0, 0, []),
  (126, .getfield 108, 3, 10, 32, 0, 4162, []),
  (129, .iload_n 1, 1, 1, 0, 0, 0, []),
  (130, .iaload, 1, 0, 0, 0, 0, []),
  (131, .iastore, 1, 0, 0, 0, 0, []),
  (132, .aload_n 0, 1, 0, 0, 0, 0, []),
  (133, .getfield 175, 3, 10, 54, 0, 4184, []),
  (136, .iload_n 1, 1, 1, 0, 0, 0, []),
  (137, .aload_n 0, 1, 0, 0, 0, 0, []),
  (138, .getfield 111, 3, 10, 33, 0, 4163, []),
  (141, .iload_n 1, 1, 1, 0, 0, 0, []),
  (142, .iaload, 1, 0, 0, 0, 0, []),
  (143, .iastore, 1, 0, 0, 0, 0, []),
  (144, .iinc 1 1, 3, 1, 0, 0, 0, []),
  (147, .goto (-92), 3, 55, 0, 0, 0, []),
  (150, .iconst 0, 1, 0, 0, 0, 0, []),
  (151, .istore_n 1, 1, 1, 0, 0, 0, []),
  (152, .iload_n 1, 1, 1, 0, 0, 0, []),
  (153, .bipush 20, 2, 0, 0, 0, 0, []),
  (155, .if_icmp .ge 21, 3, 176, 0, 0, 0, []),
  (158, .aload_n 0, 1, 0, 0, 0, 0, []),
  (159, .getfield 169, 3, 10, 52, 0, 4182, []),
  (162, .iload_n 1, 1, 1, 0, 0, 0, []),
  (163, .aload_n 0, 1, 0, 0, 0, 0, []),
  (164, .getfield 32, 3, 10, 7, 0, 4137, []),
  (167, .iload_n 1, 1, 1, 0, 0, 0, []),
  (168, .iaload, 1, 0, 0, 0, 0, []),
  (169, .iastore, 1, 0, 0, 0, 0, []),
  (170, .iinc 1 1, 3, 1, 0, 0, 0, []),
  (173, .goto (-21), 3, 152, 0, 0, 0, []),
  (176, .iconst 0, 1, 0, 0, 0, 0, []),
  (177, .istore_n 1, 1, 1, 0, 0, 0, []),
  (178, .iload_n 1, 1, 1, 0, 0, 0, []),
  (179, .bipush 10, 2, 0, 0, 0, 0, []),
  (181, .if_icmp .ge 33, 3, 214, 0, 0, 0, []),
  (184, .aload_n 0, 1, 0, 0, 0, 0, []),
  (185, .getfield 178, 3, 10, 55, 0, 4185, []),
  (188, .iload_n 1, 1, 1, 0, 0, 0, []),
  (189, .aload_n 0, 1, 0, 0, 0, 0, []),
  (190, .getfield 120, 3, 10, 36, 0, 4166, []),
  (193, .iload_n 1, 1, 1, 0, 0, 0, []),
  (194, .iaload, 1, 0, 0, 0, 0, []),
  (195, .iastore, 1, 0, 0, 0, 0, []),
  (196, .aload_n 0, 1, 0, 0, 0, 0, []),
  (197, .getfield 181, 3, 10, 56, 0, 4186, []),
  (200, .iload_n 1, 1, 1, 0, 0, 0, []),
  (201, .aload_n 0, 1, 0, 0, 0, 0, []),
  (202, .getfield 123, 3, 10, 37, 0, 4167, []),
  (205, .iload_n 1, 1, 1, 0, 0, 0, []),
  (206, .iaload, 1, 0, 0, 0, 0, []),
  (207, .iastore, 1, 0, 0, 0, 0, []),
  (208, .iinc 1 1, 3, 1, 0, 0, 0, []),
  (211, .goto (-33), 3, 178, 0, 0, 0, []),
  (214, .iconst 0, 1, 0, 0, 0, 0, []),
  (215, .istore_n 1, 1, 1, 0, 0, 0, []),
  (216, .iload_n 1, 1, 1, 0, 0, 0, []),
  (217, .bipush 8, 2, 0, 0, 0, 0, []),
  (219, .if_icmp .ge 33, 3, 252, 0, 0, 0, []),
  (222, .aload_n 0, 1, 0, 0, 0, 0, []),
  (223, .getfield 184, 3, 10, 57, 0, 4187, []),
  (226, .iload_n 1, 1, 1, 0, 0, 0, []),
  (227, .aload_n 0, 1, 0, 0, 0, 0, []),
  (228, .getfield 126, 3, 10, 38, 0, 4168, []),
  (231, .iload_n 1, 1, 1, 0, 0, 0, []),
  (232, .iaload, 1, 0, 0, 0, 0, []),
  (233, .iastore, 1, 0, 0, 0, 0, []),
  (234, .aload_n 0, 1, 0, 0, 0, 0, []),
  (235, .getfield 187, 3, 10, 58, 0, 4188, []),
  (238, .iload_n 1, 1, 1, 0, 0, 0, []),
  (239, .aload_n 0, 1, 0, 0, 0, 0, []),
  (240, .getfield 129, 3, 10, 39, 0, 4169, []),
  (243, .iload_n 1, 1, 1, 0, 0, 0, []),
  (244, .iaload, 1, 0, 0, 0, 0, []),
  (245, .iastore, 1, 0, 0, 0, 0, []),
  (246, .iinc 1 1, 3, 1, 0, 0, 0, []),
  (249, .goto (-33), 3, 216, 0, 0, 0, []),
  (252, .aload_n 0, 1, 0, 0, 0, 0, []),
  (253, .getfield 7, 3, 10, 0, 0, 4130, []),
  (256, .ireturn, 1, 0, 0, 0, 0, [])]
def m218 : MI := (⟨"LeavesObjectModel", "image", "()I"⟩, prog_12_method_78_code, 2, (Option.some Jvm.ClassFile.FieldType.int), k218, 0, [6160, 1011, 6158, 6159])
/-- LeavesObjectModel.undo()I -/
def k219 : List XE := [(0, .aload_n 0, 1, 0, 0, 0, 0, []),
  (1, .getfield 132, 3, 10, 40, 0, 4170, []),
  (4, .ifCond .ne 6, 3, 10, 0, 0, 0, []),
  (7, .bipush (-3), 2, 0, 0, 0, 0, []),
  (9, .ireturn, 1, 0, 0, 0, 0, []),
  (10, .aload_n 0, 1, 0, 0, 0, 0, []),
  (11, .aload_n 0, 1, 0, 0, 0, 0, []),
  (12, .getfield 136, 3, 10, 41, 0, 4171, []),
  (15, .putfield 38, 3, 10, 9, 0, 4139, []),
  (18, .aload_n 0, 1, 0, 0, 0, 0, []),
  (19, .aload_n 0, 1, 0, 0, 0, 0, []),
  (20, .getfield 139, 3, 10, 42, 0, 4172, []),
  (23, .putfield 7, 3, 10, 0, 0, 4130, []),
  (26, .aload_n 0, 1, 0, 0, 0, 0, []),
  (27, .aload_n 0, 1, 0, 0, 0, 0, []),
  (28, .getfield 142, 3, 10, 43, 0, 4173, []),
  (31, .putfield 13, 3, 10, 1, 0, 4131, []),
  (34, .aload_n 0, 1, 0, 0, 0, 0, []),
  (35, .aload_n 0, 1, 0, 0, 0, 0, []),
  (36, .getfield 145, 3, 10, 44, 0, 4174, []),
  (39, .putfield 105, 3, 10, 31, 0, 4161, []),
  (42, .aload_n 0, 1, 0, 0, 0, 0, []),
  (43, .aload_n 0, 1, 0, 0, 0, 0, []),
  (44, .getfield 148, 3, 10, 45, 0, 4175, []),
  (47, .putfield 114, 3, 10, 34, 0, 4164, []),
  (50, .aload_n 0, 1, 0, 0, 0, 0, []),
  (51, .aload_n 0, 1, 0, 0, 0, 0, []),
  (52, .getfield 151, 3, 10, 46, 0, 4176, []),
  (55, .putfield 117, 3, 10, 35, 0, 4165, []),
  (58, .iconst 0, 1, 0, 0, 0, 0, []),
  (59, .istore_n 1, 1, 1, 0, 0, 0, []),
  (60, .iload_n 1, 1, 1, 0, 0, 0, []),
  (61, .iconst 5, 1, 0, 0, 0, 0, []),
  (62, .if_icmp .ge 93, 3, 155, 0, 0, 0, []),
  (65, .aload_n 0, 1, 0, 0, 0, 0, []),
  (66, .getfield 16, 3, 10, 2, 0, 4132, []),
  (69, .iload_n 1, 1, 1, 0, 0, 0, []),
  (70, .aload_n 0, 1, 0, 0, 0, 0, []),
  (71, .getfield 154, 3, 10, 47, 0, 4177, []),
  (74, .iload_n 1, 1, 1, 0, 0, 0, []),
  (75, .iaload, 1, 0, 0, 0, 0, []),
  (76, .iastore, 1, 0, 0, 0, 0, []),
  (77, .aload_n 0, 1, 0, 0, 0, 0, []),
  (78, .getfield 20, 3, 10, 3, 0, 4133, []),
  (81, .iload_n 1, 1, 1, 0, 0, 0, []),
  (82, .aload_n 0, 1, 0, 0, 0, 0, []),
  (83, .getfield 157, 3, 10, 48, 0, 4178, []),
  (86, .iload_n 1, 1, 1, 0, 0, 0, []),
  (87, .iaload, 1, 0, 0, 0, 0, []),
  (88, .iastore, 1, 0, 0, 0, 0, []),
  (89, .aload_n 0, 1, 0, 0, 0, 0, []),
  (90, .getfield 23, 3, 10, 4, 0, 4134, []),
  (93, .iload_n 1, 1, 1, 0, 0, 0, []),
  (94, .aload_n 0, 1, 0, 0, 0, 0, []),
  (95, .getfield 160, 3, 10, 49, 0, 4179, []),
  (98, .iload_n 1, 1, 1, 0, 0, 0, []),
  (99, .iaload, 1, 0, 0, 0, 0, []),
  (100, .iastore, 1, 0, 0, 0, 0, []),
  (101, .aload_n 0, 1, 0, 0, 0, 0, []),
  (102, .getfield 26, 3, 10, 5, 0, 4135, []),
  (105, .iload_n 1, 1, 1, 0, 0, 0, []),
  (106, .aload_n 0, 1, 0, 0, 0, 0, []),
  (107, .getfield 163, 3, 10, 50, 0, 4180, []),
  (110, .iload_n 1, 1, 1, 0, 0, 0, []),
  (111, .iaload, 1, 0, 0, 0, 0, []),
  (112, .iastore, 1, 0, 0, 0, 0, []),
  (113, .aload_n 0, 1, 0, 0, 0, 0, []),
  (114, .getfield 29, 3, 10, 6, 0, 4136, []),
  (117, .iload_n 1, 1, 1, 0, 0, 0, []),
  (118, .aload_n 0, 1, 0, 0, 0, 0, []),
  (119, .getfield 166, 3, 10, 51, 0, 4181, []),
  (122, .iload_n 1, 1, 1, 0, 0, 0, []),
  (123, .iaload, 1, 0, 0, 0, 0, []),
  (124, .iastore, 1, 0, 0, 0, 0, []),
  (125, .aload_n 0, 1, 0, 0, 0, 0, []),
  (126, .getfield 108, 3, 10, 32, 0, 4162, []),
  (129, .iload_n 1, 1, 1, 0, 0, 0, []),
  (130, .aload_n 0, 1, 0, 0, 0, 0, []),
  (131, .getfield 172, 3, 10, 53, 0, 4183, []),
  (134, .iload_n 1, 1, 1, 0, 0, 0, []),
  (135, .iaload, 1, 0, 0, 0, 0, []),
  (136, .iastore, 1, 0, 0, 0, 0, []),
  (137, .aload_n 0, 1, 0, 0, 0, 0, []),
  (138, .getfield 111, 3, 10, 33, 0, 4163, []),
  (141, .iload_n 1, 1, 1, 0, 0, 0, []),
  (142, .aload_n 0, 1, 0, 0, 0, 0, []),
  (143, .getfield 175, 3, 10, 54, 0, 4184, []),
  (146, .iload_n 1, 1, 1, 0, 0, 0, []),
  (147, .iaload, 1, 0, 0, 0, 0, []),
  (148, .iastore, 1, 0, 0, 0, 0, []),
  (149, .iinc 1 1, 3, 1, 0, 0, 0, []),
  (152, .goto (-92), 3, 60, 0, 0, 0, []),
  (155, .iconst 0, 1, 0, 0, 0, 0, []),
  (156, .istore_n 1, 1, 1, 0, 0, 0, []),
  (157, .iload_n 1, 1, 1, 0, 0, 0, []),
  (158, .bipush 20, 2, 0, 0, 0, 0, []),
  (160, .if_icmp .ge 21, 3, 181, 0, 0, 0, []),
  (163, .aload_n 0, 1, 0, 0, 0, 0, []),
  (164, .getfield 32, 3, 10, 7, 0, 4137, []),
  (167, .iload_n 1, 1, 1, 0, 0, 0, []),
  (168, .aload_n 0, 1, 0, 0, 0, 0, []),
  (169, .getfield 169, 3, 10, 52, 0, 4182, []),
  (172, .iload_n 1, 1, 1, 0, 0, 0, []),
  (173, .iaload, 1, 0, 0, 0, 0, []),
  (174, .iastore, 1, 0, 0, 0, 0, []),
  (175, .iinc 1 1, 3, 1, 0, 0, 0, []),
  (178, .goto (-21), 3, 157, 0, 0, 0, []),
  (181, .iconst 0, 1, 0, 0, 0, 0, []),
  (182, .istore_n 1, 1, 1, 0, 0, 0, []),
  (183, .iload_n 1, 1, 1, 0, 0, 0, []),
  (184, .bipush 10, 2, 0, 0, 0, 0, []),
  (186, .if_icmp .ge 33, 3, 219, 0, 0, 0, []),
  (189, .aload_n 0, 1, 0, 0, 0, 0, []),
  (190, .getfield 120, 3, 10, 36, 0, 4166, []),
  (193, .iload_n 1, 1, 1, 0, 0, 0, []),
  (194, .aload_n 0, 1, 0, 0, 0, 0, []),
  (195, .getfield 178, 3, 10, 55, 0, 4185, []),
  (198, .iload_n 1, 1, 1, 0, 0, 0, []),
  (199, .iaload, 1, 0, 0, 0, 0, []),
  (200, .iastore, 1, 0, 0, 0, 0, []),
  (201, .aload_n 0, 1, 0, 0, 0, 0, []),
  (202, .getfield 123, 3, 10, 37, 0, 4167, []),
  (205, .iload_n 1, 1, 1, 0, 0, 0, []),
  (206, .aload_n 0, 1, 0, 0, 0, 0, []),
  (207, .getfield 181, 3, 10, 56, 0, 4186, []),
  (210, .iload_n 1, 1, 1, 0, 0, 0, []),
  (211, .iaload, 1, 0, 0, 0, 0, []),
  (212, .iastore, 1, 0, 0, 0, 0, []),
  (213, .iinc 1 1, 3, 1, 0, 0, 0, []),
  (216, .goto (-33), 3, 183, 0, 0, 0, []),
  (219, .iconst 0, 1, 0, 0, 0, 0, []),
  (220, .istore_n 1, 1, 1, 0, 0, 0, []),
  (221, .iload_n 1, 1, 1, 0, 0, 0, []),
  (222, .bipush 8, 2, 0, 0, 0, 0, []),
  (224, .if_icmp .ge 33, 3, 257, 0, 0, 0, []),
  (227, .aload_n 0, 1, 0, 0, 0, 0, []),
  (228, .getfield 126, 3, 10, 38, 0, 4168, []),
  (231, .iload_n 1, 1, 1, 0, 0, 0, []),
  (232, .aload_n 0, 1, 0, 0, 0, 0, []),
  (233, .getfield 184, 3, 10, 57, 0, 4187, []),
  (236, .iload_n 1, 1, 1, 0, 0, 0, []),
  (237, .iaload, 1, 0, 0, 0, 0, []),
  (238, .iastore, 1, 0, 0, 0, 0, []),
  (239, .aload_n 0, 1, 0, 0, 0, 0, []),
  (240, .getfield 129, 3, 10, 39, 0, 4169, []),
  (243, .iload_n 1, 1, 1, 0, 0, 0, []),
  (244, .aload_n 0, 1, 0, 0, 0, 0, []),
  (245, .getfield 187, 3, 10, 58, 0, 4188, []),
  (248, .iload_n 1, 1, 1, 0, 0, 0, []),
  (249, .iaload, 1, 0, 0, 0, 0, []),
  (250, .iastore, 1, 0, 0, 0, 0, []),
  (251, .iinc 1 1, 3, 1, 0, 0, 0, []),
  (254, .goto (-33), 3, 221, 0, 0, 0, []),
  (257, .aload_n 0, 1, 0, 0, 0, 0, []),
  (258, .getfield 7, 3, 10, 0, 0, 4130, []),
  (261, .ireturn, 1, 0, 0, 0, 0, [])]
def m219 : MI := (⟨"LeavesObjectModel", "undo", "()I"⟩, prog_12_method_79_code, 2, (Option.some Jvm.ClassFile.FieldType.int), k219, 0, [6164, 1011, 6162, 6163])
/-- LeavesObjectModel.act(III)I -/
def k220 : List XE := [(0, .aload_n 0, 1, 0, 0, 0, 0, []),
  (1, .iconst 0, 1, 0, 0, 0, 0, []),
  (2, .putfield 190, 3, 10, 59, 0, 4189, []),
  (5, .aload_n 0, 1, 0, 0, 0, 0, []),
  (6, .iload_n 1, 1, 1, 0, 0, 0, []),
  (7, .invokevirtual 221, 3, 145, 1, 0, 5103, [(10, 0)]),
  (10, .ifCond .eq 13, 3, 23, 0, 0, 0, []),
  (13, .aload_n 0, 1, 0, 0, 0, 0, []),
  (14, .iload_n 2, 1, 2, 0, 0, 0, []),
  (15, .iconst 0, 1, 0, 0, 0, 0, []),
  (16, .iconst 2, 1, 0, 0, 0, 0, []),
  (17, .invokevirtual 213, 3, 142, 3, 0, 5091, [(10, 0)]),
  (20, .ifCond .ne 5, 3, 25, 0, 0, 0, []),
  (23, .iconst 0, 1, 0, 0, 0, 0, []),
  (24, .ireturn, 1, 0, 0, 0, 0, []),
  (25, .iload_n 2, 1, 2, 0, 0, 0, []),
  (26, .ifCond .ne 12, 3, 38, 0, 0, 0, []),
  (29, .aload_n 0, 1, 0, 0, 0, 0, []),
  (30, .iload_n 1, 1, 1, 0, 0, 0, []),
  (31, .iload_n 3, 1, 3, 0, 0, 0, []),
  (32, .invokevirtual 384, 3, 221, 2, 0, 6169, [(10, 0)]),
  (35, .goto 23, 3, 58, 0, 0, 0, []),
  (38, .iload_n 2, 1, 2, 0, 0, 0, []),
  (39, .iconst 1, 1, 0, 0, 0, 0, []),
  (40, .if_icmp .ne 12, 3, 52, 0, 0, 0, []),
  (43, .aload_n 0, 1, 0, 0, 0, 0, []),
  (44, .iload_n 1, 1, 1, 0, 0, 0, []),
  (45, .iload_n 3, 1, 3, 0, 0, 0, []),
  (46, .invokevirtual 393, 3, 224, 2, 0, 6181, [(10, 0)]),
  (49, .goto 9, 3, 58, 0, 0, 0, []),
  (52, .aload_n 0, 1, 0, 0, 0, 0, []),
  (53, .iload_n 1, 1, 1, 0, 0, 0, []),
  (54, .iload_n 3, 1, 3, 0, 0, 0, []),
  (55, .invokevirtual 399, 3, 227, 2, 0, 6193, [(10, 0)]),
  (58, .ireturn, 1, 0, 0, 0, 0, [])]
def m220 : MI := (⟨"LeavesObjectModel", "act", "(III)I"⟩, prog_12_method_88_code, 4, (Option.some Jvm.ClassFile.FieldType.int), k220, 3, [6168, 1011, 6166, 6167])
/-- LeavesObjectModel.liesAct(II)I -/
def k221 : List XE := [(0, .aload_n 0, 1, 0, 0, 0, 0, []),
  (1, .getfield 16, 3, 10, 2, 0, 4132, []),
  (4, .iload_n 1, 1, 1, 0, 0, 0, []),
  (5, .iaload, 1, 0, 0, 0, 0, []),
  (6, .tableswitch 83 2 6 #[34, 83, 49, 34, 63], 34, 89, 0, 0, 0, [(2, 40), (3, 89), (4, 55), (5, 40), (6, 69)]),
  (40, .aload_n 0, 1, 0, 0, 0, 0, []),
  (41, .bipush 30, 2, 0, 0, 0, 0, []),
  (43, .invokevirtual 378, 3, 222, 1, 0, 6173, [(10, 0)]),
  (46, .aload_n 0, 1, 0, 0, 0, 0, []),
  (47, .iload_n 1, 1, 1, 0, 0, 0, []),
  (48, .iload_n 2, 1, 2, 0, 0, 0, []),
  (49, .iconst 3, 1, 0, 0, 0, 0, []),
  (50, .imul, 1, 0, 0, 0, 0, []),
  (51, .invokevirtual 381, 3, 223, 2, 0, 6177, [(10, 0)]),
  (54, .ireturn, 1, 0, 0, 0, 0, []),
  (55, .aload_n 0, 1, 0, 0, 0, 0, []),
  (56, .bipush 50, 2, 0, 0, 0, 0, []),
  (58, .invokevirtual 378, 3, 222, 1, 0, 6173, [(10, 0)]),
  (61, .aload_n 0, 1, 0, 0, 0, 0, []),
  (62, .iload_n 1, 1, 1, 0, 0, 0, []),
  (63, .iload_n 2, 1, 2, 0, 0, 0, []),
  (64, .invokevirtual 381, 3, 223, 2, 0, 6177, [(10, 0)]),
  (67, .ineg, 1, 0, 0, 0, 0, []),
  (68, .ireturn, 1, 0, 0, 0, 0, []),
  (69, .aload_n 0, 1, 0, 0, 0, 0, []),
  (70, .bipush 71, 2, 0, 0, 0, 0, []),
  (72, .invokevirtual 378, 3, 222, 1, 0, 6173, [(10, 0)]),
  (75, .aload_n 0, 1, 0, 0, 0, 0, []),
  (76, .iload_n 1, 1, 1, 0, 0, 0, []),
  (77, .iload_n 2, 1, 2, 0, 0, 0, []),
  (78, .invokevirtual 381, 3, 223, 2, 0, 6177, [(10, 0)]),
  (81, .aload_n 0, 1, 0, 0, 0, 0, []),
  (82, .getfield 20, 3, 10, 3, 0, 4133, []),
  (85, .iload_n 1, 1, 1, 0, 0, 0, []),
  (86, .iaload, 1, 0, 0, 0, 0, []),
  (87, .ixor, 1, 0, 0, 0, 0, []),
  (88, .ireturn, 1, 0, 0, 0, 0, []),
  (89, .aload_n 0, 1, 0, 0, 0, 0, []),
  (90, .iload_n 1, 1, 1, 0, 0, 0, []),
  (91, .iload_n 2, 1, 2, 0, 0, 0, []),
  (92, .invokevirtual 381, 3, 223, 2, 0, 6177, [(10, 0)]),
  (95, .ireturn, 1, 0, 0, 0, 0, [])]
def m221 : MI := (⟨"LeavesObjectModel", "liesAct", "(II)I"⟩, prog_12_method_82_code, 3, (Option.some Jvm.ClassFile.FieldType.int), k221, 2, [6172, 1011, 6171, 72])
/-- LeavesObjectModel.body(I)V -/
def k222 : List XE := [(0, .aload_n 0, 1, 0, 0, 0, 0, []),
  (1, .getfield 190, 3, 10, 59, 0, 4189, []),
  (4, .bipush 20, 2, 0, 0, 0, 0, []),
  (6, .if_icmp .ge 13, 3, 19, 0, 0, 0, []),
  (9, .aload_n 0, 1, 0, 0, 0, 0, []),
  (10, .getfield 193, 3, 10, 60, 0, 4190, []),
  (13, .aload_n 0, 1, 0, 0, 0, 0, []),
  (14, .getfield 190, 3, 10, 59, 0, 4189, []),
  (17, .iload_n 1, 1, 1, 0, 0, 0, []),
  (18, .iastore, 1, 0, 0, 0, 0, []),
  (19, .aload_n 0, 1, 0, 0, 0, 0, []),
  (20, .dup, 1, 0, 0, 0, 0, []),
  (21, .getfield 190, 3, 10, 59, 0, 4189, []),
  (24, .iconst 1, 1, 0, 0, 0, 0, []),
  (25, .iadd, 1, 0, 0, 0, 0, []),
  (26, .putfield 190, 3, 10, 59, 0, 4189, []),
  (29, .return_, 1, 0, 0, 0, 0, [])]
def m222 : MI := (⟨"LeavesObjectModel", "body", "(I)V"⟩, prog_12_method_80_code, 2, none, k222, 1, [6176, 1011, 6175, 73])
/-- LeavesObjectModel.cupLies(II)I -/
def k223 : List XE := [(0, .aload_n 0, 1, 0, 0, 0, 0, []),
  (1, .bipush 10, 2, 0, 0, 0, 0, []),
  (3, .invokevirtual 378, 3, 222, 1, 0, 6173, [(10, 0)]),
  (6, .iload_n 2, 1, 2, 0, 0, 0, []),
  (7, .iload_n 1, 1, 1, 0, 0, 0, []),
  (8, .iadd, 1, 0, 0, 0, 0, []),
  (9, .ireturn, 1, 0, 0, 0, 0, [])]
def m223 : MI := (⟨"LeavesObjectModel", "cupLies", "(II)I"⟩, prog_12_method_81_code, 3, (Option.some Jvm.ClassFile.FieldType.int), k223, 2, [6180, 1011, 6179, 74])
/-- LeavesObjectModel.saysAct(II)I -/
def k224 : List XE := [(0, .aload_n 0, 1, 0, 0, 0, 0, []),
  (1, .getfield 16, 3, 10, 2, 0, 4132, []),
  (4, .iload_n 1, 1, 1, 0, 0, 0, []),
  (5, .iaload, 1, 0, 0, 0, 0, []),
  (6, .lookupswitch 78 #[(1, 34), (4, 41), (6, 56)], 34, 84, 0, 0, 0, [(1, 40), (4, 47), (6, 62)]),
  (40, .aload_n 0, 1, 0, 0, 0, 0, []),
  (41, .iload_n 1, 1, 1, 0, 0, 0, []),
  (42, .iload_n 2, 1, 2, 0, 0, 0, []),
  (43, .invokevirtual 390, 3, 225, 2, 0, 6185, [(10, 0)]),
  (46, .ireturn, 1, 0, 0, 0, 0, []),
  (47, .aload_n 0, 1, 0, 0, 0, 0, []),
  (48, .bipush 51, 2, 0, 0, 0, 0, []),
  (50, .invokevirtual 378, 3, 222, 1, 0, 6173, [(10, 0)]),
  (53, .aload_n 0, 1, 0, 0, 0, 0, []),
  (54, .iload_n 1, 1, 1, 0, 0, 0, []),
  (55, .iload_n 2, 1, 2, 0, 0, 0, []),
  (56, .iconst 1, 1, 0, 0, 0, 0, []),
  (57, .iadd, 1, 0, 0, 0, 0, []),
  (58, .invokevirtual 390, 3, 225, 2, 0, 6185, [(10, 0)]),
  (61, .ireturn, 1, 0, 0, 0, 0, []),
  (62, .aload_n 0, 1, 0, 0, 0, 0, []),
  (63, .bipush 70, 2, 0, 0, 0, 0, []),
  (65, .invokevirtual 378, 3, 222, 1, 0, 6173, [(10, 0)]),
  (68, .aload_n 0, 1, 0, 0, 0, 0, []),
  (69, .iload_n 1, 1, 1, 0, 0, 0, []),
  (70, .iload_n 2, 1, 2, 0, 0, 0, []),
  (71, .invokevirtual 387, 3, 226, 2, 0, 6189, [(10, 0)]),
  (74, .istore_n 3, 1, 3, 0, 0, 0, []),
  (75, .iload_n 3, 1, 3, 0, 0, 0, []),
  (76, .aload_n 0, 1, 0, 0, 0, 0, []),
  (77, .iload_n 1, 1, 1, 0, 0, 0, []),
  (78, .iconst 2, 1, 0, 0, 0, 0, []),
  (79, .invokevirtual 381, 3, 223, 2, 0, 6177, [(10, 0)]),
  (82, .iadd, 1, 0, 0, 0, 0, []),
  (83, .ireturn, 1, 0, 0, 0, 0, []),
  (84, .aload_n 0, 1, 0, 0, 0, 0, []),
  (85, .iload_n 1, 1, 1, 0, 0, 0, []),
  (86, .iload_n 2, 1, 2, 0, 0, 0, []),
  (87, .invokevirtual 387, 3, 226, 2, 0, 6189, [(10, 0)]),
  (90, .ireturn, 1, 0, 0, 0, 0, [])]
def m224 : MI := (⟨"LeavesObjectModel", "saysAct", "(II)I"⟩, prog_12_method_85_code, 4, (Option.some Jvm.ClassFile.FieldType.int), k224, 2, [6184, 1011, 6183, 75])
/-- LeavesObjectModel.shySays(II)I -/
def k225 : List XE := [(0, .aload_n 0, 1, 0, 0, 0, 0, []),
  (1, .bipush 20, 2, 0, 0, 0, 0, []),
  (3, .invokevirtual 378, 3, 222, 1, 0, 6173, [(10, 0)]),
  (6, .aload_n 0, 1, 0, 0, 0, 0, []),
  (7, .iload_n 1, 1, 1, 0, 0, 0, []),
  (8, .iload_n 2, 1, 2, 0, 0, 0, []),
  (9, .invokevirtual 387, 3, 226, 2, 0, 6189, [(10, 0)]),
  (12, .bipush 6, 2, 0, 0, 0, 0, []),
  (14, .ixor, 1, 0, 0, 0, 0, []),
  (15, .ireturn, 1, 0, 0, 0, 0, [])]
def m225 : MI := (⟨"LeavesObjectModel", "shySays", "(II)I"⟩, prog_12_method_84_code, 3, (Option.some Jvm.ClassFile.FieldType.int), k225, 2, [6188, 1011, 6187, 76])
/-- LeavesObjectModel.cupSays(II)I -/
def k226 : List XE := [(0, .aload_n 0, 1, 0, 0, 0, 0, []),
  (1, .bipush 11, 2, 0, 0, 0, 0, []),
  (3, .invokevirtual 378, 3, 222, 1, 0, 6173, [(10, 0)]),
  (6, .aload_n 0, 1, 0, 0, 0, 0, []),
  (7, .iload_n 1, 1, 1, 0, 0, 0, []),
  (8, .iload_n 2, 1, 2, 0, 0, 0, []),
  (9, .invokevirtual 384, 3, 221, 2, 0, 6169, [(10, 0)]),
  (12, .aload_n 0, 1, 0, 0, 0, 0, []),
  (13, .getfield 20, 3, 10, 3, 0, 4133, []),
  (16, .iload_n 1, 1, 1, 0, 0, 0, []),
  (17, .iaload, 1, 0, 0, 0, 0, []),
  (18, .isub, 1, 0, 0, 0, 0, []),
  (19, .ireturn, 1, 0, 0, 0, 0, [])]
def m226 : MI := (⟨"LeavesObjectModel", "cupSays", "(II)I"⟩, prog_12_method_83_code, 3, (Option.some Jvm.ClassFile.FieldType.int), k226, 2, [6192, 1011, 6191, 77])
/-- LeavesObjectModel.tellsAct(II)I -/
def k227 : List XE := [(0, .aload_n 0, 1, 0, 0, 0, 0, []),
  (1, .getfield 16, 3, 10, 2, 0, 4132, []),
  (4, .iload_n 1, 1, 1, 0, 0, 0, []),
  (5, .iaload, 1, 0, 0, 0, 0, []),
  (6, .tableswitch 67 3 6 #[30, 67, 52, 30], 30, 73, 0, 0, 0, [(3, 36), (4, 73), (5, 58), (6, 36)]),
  (36, .aload_n 0, 1, 0, 0, 0, 0, []),
  (37, .bipush 40, 2, 0, 0, 0, 0, []),
  (39, .invokevirtual 378, 3, 222, 1, 0, 6173, [(10, 0)]),
  (42, .aload_n 0, 1, 0, 0, 0, 0, []),
  (43, .iload_n 1, 1, 1, 0, 0, 0, []),
  (44, .iload_n 2, 1, 2, 0, 0, 0, []),
  (45, .invokevirtual 396, 3, 228, 2, 0, 6197, [(10, 0)]),
  (48, .istore_n 3, 1, 3, 0, 0, 0, []),
  (49, .iload_n 3, 1, 3, 0, 0, 0, []),
  (50, .aload_n 0, 1, 0, 0, 0, 0, []),
  (51, .iload_n 1, 1, 1, 0, 0, 0, []),
  (52, .iconst 1, 1, 0, 0, 0, 0, []),
  (53, .invokevirtual 393, 3, 224, 2, 0, 6181, [(10, 0)]),
  (56, .iadd, 1, 0, 0, 0, 0, []),
  (57, .ireturn, 1, 0, 0, 0, 0, []),
  (58, .aload_n 0, 1, 0, 0, 0, 0, []),
  (59, .bipush 60, 2, 0, 0, 0, 0, []),
  (61, .invokevirtual 378, 3, 222, 1, 0, 6173, [(10, 0)]),
  (64, .aload_n 0, 1, 0, 0, 0, 0, []),
  (65, .iload_n 1, 1, 1, 0, 0, 0, []),
  (66, .iload_n 2, 1, 2, 0, 0, 0, []),
  (67, .iload_n 1, 1, 1, 0, 0, 0, []),
  (68, .isub, 1, 0, 0, 0, 0, []),
  (69, .invokevirtual 396, 3, 228, 2, 0, 6197, [(10, 0)]),
  (72, .ireturn, 1, 0, 0, 0, 0, []),
  (73, .aload_n 0, 1, 0, 0, 0, 0, []),
  (74, .iload_n 1, 1, 1, 0, 0, 0, []),
  (75, .iload_n 2, 1, 2, 0, 0, 0, []),
  (76, .invokevirtual 396, 3, 228, 2, 0, 6197, [(10, 0)]),
  (79, .ireturn, 1, 0, 0, 0, 0, [])]
def m227 : MI := (⟨"LeavesObjectModel", "tellsAct", "(II)I"⟩, prog_12_method_87_code, 4, (Option.some Jvm.ClassFile.FieldType.int), k227, 2, [6196, 1011, 6195, 78])
/-- LeavesObjectModel.cupTells(II)I -/
def k228 : List XE := [(0, .aload_n 0, 1, 0, 0, 0, 0, []),
  (1, .bipush 12, 2, 0, 0, 0, 0, []),
  (3, .invokevirtual 378, 3, 222, 1, 0, 6173, [(10, 0)]),
  (6, .aload_n 0, 1, 0, 0, 0, 0, []),
  (7, .iload_n 1, 1, 1, 0, 0, 0, []),
  (8, .iload_n 2, 1, 2, 0, 0, 0, []),
  (9, .invokevirtual 393, 3, 224, 2, 0, 6181, [(10, 0)]),
  (12, .iconst 2, 1, 0, 0, 0, 0, []),
  (13, .imul, 1, 0, 0, 0, 0, []),
  (14, .ireturn, 1, 0, 0, 0, 0, [])]
def m228 : MI := (⟨"LeavesObjectModel", "cupTells", "(II)I"⟩, prog_12_method_86_code, 3, (Option.some Jvm.ClassFile.FieldType.int), k228, 2, [6200, 1011, 6199, 79])
/-- LeavesObjectModel.trace(I)I -/
def k229 : List XE := [(0, .aload_n 0, 1, 0, 0, 0, 0, []),
  (1, .iload_n 1, 1, 1, 0, 0, 0, []),
  (2, .iconst 0, 1, 0, 0, 0, 0, []),
  (3, .bipush 19, 2, 0, 0, 0, 0, []),
  (5, .invokevirtual 213, 3, 142, 3, 0, 5091, [(10, 0)]),
  (8, .ifCond .eq 20, 3, 28, 0, 0, 0, []),
  (11, .iload_n 1, 1, 1, 0, 0, 0, []),
  (12, .aload_n 0, 1, 0, 0, 0, 0, []),
  (13, .getfield 190, 3, 10, 59, 0, 4189, []),
  (16, .if_icmp .ge 12, 3, 28, 0, 0, 0, []),
  (19, .aload_n 0, 1, 0, 0, 0, 0, []),
  (20, .getfield 193, 3, 10, 60, 0, 4190, []),
  (23, .iload_n 1, 1, 1, 0, 0, 0, []),
  (24, .iaload, 1, 0, 0, 0, 0, []),
  (25, .goto 4, 3, 29, 0, 0, 0, []),
  (28, .iconst (-1), 1, 0, 0, 0, 0, []),
  (29, .ireturn, 1, 0, 0, 0, 0, [])]
def m229 : MI := (⟨"LeavesObjectModel", "trace", "(I)I"⟩, prog_12_method_89_code, 2, (Option.some Jvm.ClassFile.FieldType.int), k229, 1, [6204, 1011, 6202, 6203])
/-- LeavesObjectModel.taken(II)I -/
def k230 : List XE := [(0, .aload_n 0, 1, 0, 0, 0, 0, []),
  (1, .iload_n 2, 1, 2, 0, 0, 0, []),
  (2, .iconst 0, 1, 0, 0, 0, 0, []),
  (3, .bipush 6, 2, 0, 0, 0, 0, []),
  (5, .invokevirtual 213, 3, 142, 3, 0, 5091, [(10, 0)]),
  (8, .ifCond .ne 6, 3, 14, 0, 0, 0, []),
  (11, .bipush (-2), 2, 0, 0, 0, 0, []),
  (13, .ireturn, 1, 0, 0, 0, 0, []),
  (14, .aload_n 0, 1, 0, 0, 0, 0, []),
  (15, .iload_n 1, 1, 1, 0, 0, 0, []),
  (16, .invokevirtual 221, 3, 145, 1, 0, 5103, [(10, 0)]),
  (19, .ifCond .ne 6, 3, 25, 0, 0, 0, []),
  (22, .bipush (-11), 2, 0, 0, 0, 0, []),
  (24, .ireturn, 1, 0, 0, 0, 0, []),
  (25, .aload_n 0, 1, 0, 0, 0, 0, []),
  (26, .getfield 16, 3, 10, 2, 0, 4132, []),
  (29, .iload_n 1, 1, 1, 0, 0, 0, []),
  (30, .iaload, 1, 0, 0, 0, 0, []),
  (31, .istore_n 3, 1, 3, 0, 0, 0, []),
  (32, .iload_n 2, 1, 2, 0, 0, 0, []),
  (33, .ifCond .eq 39, 3, 72, 0, 0, 0, []),
  (36, .iload_n 3, 1, 3, 0, 0, 0, []),
  (37, .iload_n 2, 1, 2, 0, 0, 0, []),
  (38, .if_icmp .eq 34, 3, 72, 0, 0, 0, []),
  (41, .iload_n 2, 1, 2, 0, 0, 0, []),
  (42, .iconst 1, 1, 0, 0, 0, 0, []),
  (43, .if_icmp .ne 8, 3, 51, 0, 0, 0, []),
  (46, .iload_n 3, 1, 3, 0, 0, 0, []),
  (47, .iconst 4, 1, 0, 0, 0, 0, []),
  (48, .if_icmp .eq 24, 3, 72, 0, 0, 0, []),
  (51, .iload_n 2, 1, 2, 0, 0, 0, []),
  (52, .iconst 2, 1, 0, 0, 0, 0, []),
  (53, .if_icmp .ne 8, 3, 61, 0, 0, 0, []),
  (56, .iload_n 3, 1, 3, 0, 0, 0, []),
  (57, .iconst 5, 1, 0, 0, 0, 0, []),
  (58, .if_icmp .eq 14, 3, 72, 0, 0, 0, []),
  (61, .iload_n 2, 1, 2, 0, 0, 0, []),
  (62, .iconst 3, 1, 0, 0, 0, 0, []),
  (63, .if_icmp .ne 13, 3, 76, 0, 0, 0, []),
  (66, .iload_n 3, 1, 3, 0, 0, 0, []),
  (67, .bipush 6, 2, 0, 0, 0, 0, []),
  (69, .if_icmp .ne 7, 3, 76, 0, 0, 0, []),
  (72, .iload_n 3, 1, 3, 0, 0, 0, []),
  (73, .goto 5, 3, 78, 0, 0, 0, []),
  (76, .bipush (-12), 2, 0, 0, 0, 0, []),
  (78, .ireturn, 1, 0, 0, 0, 0, [])]
def m230 : MI := (⟨"LeavesObjectModel", "taken", "(II)I"⟩, prog_12_method_90_code, 4, (Option.some Jvm.ClassFile.FieldType.int), k230, 2, [6208, 1011, 6206, 6207])
/-- LeavesObjectModel.count(I)I -/
def k231 : List XE := [(0, .iload_n 1, 1, 1, 0, 0, 0, []),
  (1, .tableswitch 78 0 6 #[43, 48, 53, 58, 63, 68, 73], 43, 79, 0, 0, 0, [(0, 44), (1, 49), (2, 54), (3, 59), (4, 64), (5, 69), (6, 74)]),
  (44, .aload_n 0, 1, 0, 0, 0, 0, []),
  (45, .getfield 7, 3, 10, 0, 0, 4130, []),
  (48, .ireturn, 1, 0, 0, 0, 0, []),
  (49, .aload_n 0, 1, 0, 0, 0, 0, []),
  (50, .getfield 35, 3, 10, 8, 0, 4138, []),
  (53, .ireturn, 1, 0, 0, 0, 0, []),
  (54, .aload_n 0, 1, 0, 0, 0, 0, []),
  (55, .getfield 105, 3, 10, 31, 0, 4161, []),
  (58, .ireturn, 1, 0, 0, 0, 0, []),
  (59, .aload_n 0, 1, 0, 0, 0, 0, []),
  (60, .getfield 114, 3, 10, 34, 0, 4164, []),
  (63, .ireturn, 1, 0, 0, 0, 0, []),
  (64, .aload_n 0, 1, 0, 0, 0, 0, []),
  (65, .getfield 117, 3, 10, 35, 0, 4165, []),
  (68, .ireturn, 1, 0, 0, 0, 0, []),
  (69, .aload_n 0, 1, 0, 0, 0, 0, []),
  (70, .getfield 41, 3, 10, 10, 0, 4140, []),
  (73, .ireturn, 1, 0, 0, 0, 0, []),
  (74, .aload_n 0, 1, 0, 0, 0, 0, []),
  (75, .getfield 190, 3, 10, 59, 0, 4189, []),
  (78, .ireturn, 1, 0, 0, 0, 0, []),
  (79, .bipush (-2), 2, 0, 0, 0, 0, []),
  (81, .ireturn, 1, 0, 0, 0, 0, [])]
def m231 : MI := (⟨"LeavesObjectModel", "count", "(I)I"⟩, prog_12_method_91_code, 2, (Option.some Jvm.ClassFile.FieldType.int), k231, 1, [6212, 1011, 6210, 6211])
/-- LeavesObjectModel.tape(III)I -/
def k232 : List XE := [(0, .aload_n 0, 1, 0, 0, 0, 0, []),
  (1, .iload_n 1, 1, 1, 0, 0, 0, []),
  (2, .invokevirtual 375, 3, 217, 1, 0, 6153, [(10, 0)]),
  (5, .ifCond .ne 5, 3, 10, 0, 0, 0, []),
  (8, .iconst (-1), 1, 0, 0, 0, 0, []),
  (9, .ireturn, 1, 0, 0, 0, 0, []),
  (10, .aload_n 0, 1, 0, 0, 0, 0, []),
  (11, .iload_n 2, 1, 2, 0, 0, 0, []),
  (12, .iconst (-1), 1, 0, 0, 0, 0, []),
  (13, .iconst 4, 1, 0, 0, 0, 0, []),
  (14, .invokevirtual 213, 3, 142, 3, 0, 5091, [(10, 0)]),
  (17, .ifCond .eq 13, 3, 30, 0, 0, 0, []),
  (20, .iload_n 2, 1, 2, 0, 0, 0, []),
  (21, .ifCond .lt 12, 3, 33, 0, 0, 0, []),
  (24, .iload_n 3, 1, 3, 0, 0, 0, []),
  (25, .bipush 60, 2, 0, 0, 0, 0, []),
  (27, .if_icmp .le 6, 3, 33, 0, 0, 0, []),
  (30, .bipush (-2), 2, 0, 0, 0, 0, []),
  (32, .ireturn, 1, 0, 0, 0, 0, []),
  (33, .iload_n 2, 1, 2, 0, 0, 0, []),
  (34, .ifCond .lt 10, 3, 44, 0, 0, 0, []),
  (37, .iload_n 3, 1, 3, 0, 0, 0, []),
  (38, .ifCond .ge 6, 3, 44, 0, 0, 0, []),
  (41, .bipush (-14), 2, 0, 0, 0, 0, []),
  (43, .ireturn, 1, 0, 0, 0, 0, []),
  (44, .aload_n 0, 1, 0, 0, 0, 0, []),
  (45, .getfield 196, 3, 10, 61, 0, 4191, []),
  (48, .iload_n 1, 1, 1, 0, 0, 0, []),
  (49, .iload_n 2, 1, 2, 0, 0, 0, []),
  (50, .iastore, 1, 0, 0, 0, 0, []),
  (51, .aload_n 0, 1, 0, 0, 0, 0, []),
  (52, .getfield 199, 3, 10, 62, 0, 4192, []),
  (55, .iload_n 1, 1, 1, 0, 0, 0, []),
  (56, .iload_n 2, 1, 2, 0, 0, 0, []),
  (57, .ifCond .ge 7, 3, 64, 0, 0, 0, []),
  (60, .iconst 0, 1, 0, 0, 0, 0, []),
  (61, .goto 4, 3, 65, 0, 0, 0, []),
  (64, .iload_n 3, 1, 3, 0, 0, 0, []),
  (65, .iastore, 1, 0, 0, 0, 0, []),
  (66, .iconst 0, 1, 0, 0, 0, 0, []),
  (67, .istore 4, 2, 4, 0, 0, 0, []),
  (69, .iload 4, 2, 4, 0, 0, 0, []),
  (71, .bipush 60, 2, 0, 0, 0, 0, []),
  (73, .if_icmp .ge 22, 3, 95, 0, 0, 0, []),
  (76, .aload_n 0, 1, 0, 0, 0, 0, []),
  (77, .getfield 202, 3, 10, 63, 0, 4193, []),
  (80, .bipush 60, 2, 0, 0, 0, 0, []),
  (82, .iload_n 1, 1, 1, 0, 0, 0, []),
  (83, .imul, 1, 0, 0, 0, 0, []),
  (84, .iload 4, 2, 4, 0, 0, 0, []),
  (86, .iadd, 1, 0, 0, 0, 0, []),
  (87, .lconst 0, 1, 0, 0, 0, 0, []),
  (88, .lastore, 1, 0, 0, 0, 0, []),
  (89, .iinc 4 1, 3, 4, 0, 0, 0, []),
  (92, .goto (-23), 3, 69, 0, 0, 0, []),
  (95, .iconst 1, 1, 0, 0, 0, 0, []),
  (96, .ireturn, 1, 0, 0, 0, 0, [])]
def m232 : MI := (⟨"LeavesObjectModel", "tape", "(III)I"⟩, prog_12_method_93_code, 5, (Option.some Jvm.ClassFile.FieldType.int), k232, 3, [6216, 1011, 6214, 6215])
/-- LeavesObjectModel.item(IIJ)I -/
def k233 : List XE := [(0, .aload_n 0, 1, 0, 0, 0, 0, []),
  (1, .iload_n 1, 1, 1, 0, 0, 0, []),
  (2, .invokevirtual 375, 3, 217, 1, 0, 6153, [(10, 0)]),
  (5, .ifCond .ne 5, 3, 10, 0, 0, 0, []),
  (8, .iconst (-1), 1, 0, 0, 0, 0, []),
  (9, .ireturn, 1, 0, 0, 0, 0, []),
  (10, .aload_n 0, 1, 0, 0, 0, 0, []),
  (11, .getfield 196, 3, 10, 61, 0, 4191, []),
  (14, .iload_n 1, 1, 1, 0, 0, 0, []),
  (15, .iaload, 1, 0, 0, 0, 0, []),
  (16, .ifCond .ge 6, 3, 22, 0, 0, 0, []),
  (19, .bipush (-11), 2, 0, 0, 0, 0, []),
  (21, .ireturn, 1, 0, 0, 0, 0, []),
  (22, .aload_n 0, 1, 0, 0, 0, 0, []),
  (23, .iload_n 2, 1, 2, 0, 0, 0, []),
  (24, .iconst 0, 1, 0, 0, 0, 0, []),
  (25, .aload_n 0, 1, 0, 0, 0, 0, []),
  (26, .getfield 199, 3, 10, 62, 0, 4192, []),
  (29, .iload_n 1, 1, 1, 0, 0, 0, []),
  (30, .iaload, 1, 0, 0, 0, 0, []),
  (31, .iconst 1, 1, 0, 0, 0, 0, []),
  (32, .isub, 1, 0, 0, 0, 0, []),
  (33, .invokevirtual 213, 3, 142, 3, 0, 5091, [(10, 0)]),
  (36, .ifCond .ne 6, 3, 42, 0, 0, 0, []),
  (39, .bipush (-13), 2, 0, 0, 0, 0, []),
  (41, .ireturn, 1, 0, 0, 0, 0, []),
  (42, .aload_n 0, 1, 0, 0, 0, 0, []),
  (43, .getfield 202, 3, 10, 63, 0, 4193, []),
  (46, .bipush 60, 2, 0, 0, 0, 0, []),
  (48, .iload_n 1, 1, 1, 0, 0, 0, []),
  (49, .imul, 1, 0, 0, 0, 0, []),
  (50, .iload_n 2, 1, 2, 0, 0, 0, []),
  (51, .iadd, 1, 0, 0, 0, 0, []),
  (52, .aload_n 0, 1, 0, 0, 0, 0, []),
  (53, .aload_n 0, 1, 0, 0, 0, 0, []),
  (54, .getfield 196, 3, 10, 61, 0, 4191, []),
  (57, .iload_n 1, 1, 1, 0, 0, 0, []),
  (58, .iaload, 1, 0, 0, 0, 0, []),
  (59, .lload_n 3, 1, 3, 0, 0, 0, []),
  (60, .invokevirtual 402, 3, 234, 2, 0, 6221, [(10, 0)]),
  (63, .lastore, 1, 0, 0, 0, 0, []),
  (64, .iconst 1, 1, 0, 0, 0, 0, []),
  (65, .ireturn, 1, 0, 0, 0, 0, [])]
def m233 : MI := (⟨"LeavesObjectModel", "item", "(IIJ)I"⟩, prog_12_method_95_code, 5, (Option.some Jvm.ClassFile.FieldType.int), k233, 3, [6220, 1011, 6218, 6219])
/-- LeavesObjectModel.narrow(IJ)J -/
def k234 : List XE := [(0, .iload_n 1, 1, 1, 0, 0, 0, []),
  (1, .ifCond .ne 10, 3, 11, 0, 0, 0, []),
  (4, .lload_n 2, 1, 2, 0, 0, 0, []),
  (5, .l2i, 1, 0, 0, 0, 0, []),
  (6, .i2b, 1, 0, 0, 0, 0, []),
  (7, .i2l, 1, 0, 0, 0, 0, []),
  (8, .goto 46, 3, 54, 0, 0, 0, []),
  (11, .iload_n 1, 1, 1, 0, 0, 0, []),
  (12, .iconst 1, 1, 0, 0, 0, 0, []),
  (13, .if_icmp .ne 10, 3, 23, 0, 0, 0, []),
  (16, .lload_n 2, 1, 2, 0, 0, 0, []),
  (17, .l2i, 1, 0, 0, 0, 0, []),
  (18, .i2s, 1, 0, 0, 0, 0, []),
  (19, .i2l, 1, 0, 0, 0, 0, []),
  (20, .goto 34, 3, 54, 0, 0, 0, []),
  (23, .iload_n 1, 1, 1, 0, 0, 0, []),
  (24, .iconst 2, 1, 0, 0, 0, 0, []),
  (25, .if_icmp .ne 9, 3, 34, 0, 0, 0, []),
  (28, .lload_n 2, 1, 2, 0, 0, 0, []),
  (29, .l2i, 1, 0, 0, 0, 0, []),
  (30, .i2l, 1, 0, 0, 0, 0, []),
  (31, .goto 23, 3, 54, 0, 0, 0, []),
  (34, .iload_n 1, 1, 1, 0, 0, 0, []),
  (35, .iconst 4, 1, 0, 0, 0, 0, []),
  (36, .if_icmp .ne 17, 3, 53, 0, 0, 0, []),
  (39, .lload_n 2, 1, 2, 0, 0, 0, []),
  (40, .lconst 0, 1, 0, 0, 0, 0, []),
  (41, .lcmp, 1, 0, 0, 0, 0, []),
  (42, .ifCond .eq 7, 3, 49, 0, 0, 0, []),
  (45, .lconst 1, 1, 0, 0, 0, 0, []),
  (46, .goto 8, 3, 54, 0, 0, 0, []),
  (49, .lconst 0, 1, 0, 0, 0, 0, []),
  (50, .goto 4, 3, 54, 0, 0, 0, []),
  (53, .lload_n 2, 1, 2, 0, 0, 0, []),
  (54, .lreturn, 1, 0, 0, 0, 0, [])]
def m234 : MI := (⟨"LeavesObjectModel", "narrow", "(IJ)J"⟩, prog_12_method_94_code, 4, (Option.some Jvm.ClassFile.FieldType.long), k234, 2, [6224, 1011, 6223, 80])
/-- LeavesObjectModel.read(II)J -/
def k235 : List XE := [(0, .aload_n 0, 1, 0, 0, 0, 0, []),
  (1, .iload_n 1, 1, 1, 0, 0, 0, []),
  (2, .invokevirtual 375, 3, 217, 1, 0, 6153, [(10, 0)]),
  (5, .ifCond .eq 29, 3, 34, 0, 0, 0, []),
  (8, .aload_n 0, 1, 0, 0, 0, 0, []),
  (9, .getfield 196, 3, 10, 61, 0, 4191, []),
  (12, .iload_n 1, 1, 1, 0, 0, 0, []),
  (13, .iaload, 1, 0, 0, 0, 0, []),
  (14, .ifCond .lt 20, 3, 34, 0, 0, 0, []),
  (17, .aload_n 0, 1, 0, 0, 0, 0, []),
  (18, .iload_n 2, 1, 2, 0, 0, 0, []),
  (19, .iconst 0, 1, 0, 0, 0, 0, []),
  (20, .aload_n 0, 1, 0, 0, 0, 0, []),
  (21, .getfield 199, 3, 10, 62, 0, 4192, []),
  (24, .iload_n 1, 1, 1, 0, 0, 0, []),
  (25, .iaload, 1, 0, 0, 0, 0, []),
  (26, .iconst 1, 1, 0, 0, 0, 0, []),
  (27, .isub, 1, 0, 0, 0, 0, []),
  (28, .invokevirtual 213, 3, 142, 3, 0, 5091, [(10, 0)]),
  (31, .ifCond .ne 9, 3, 40, 0, 0, 0, []),
  (34, .ldc2_w 369, 3, 0, 0, 0, 6120, [((-9223372036854775808), 0)]),
  (37, .goto 14, 3, 51, 0, 0, 0, []),
  (40, .aload_n 0, 1, 0, 0, 0, 0, []),
  (41, .getfield 202, 3, 10, 63, 0, 4193, []),
  (44, .bipush 60, 2, 0, 0, 0, 0, []),
  (46, .iload_n 1, 1, 1, 0, 0, 0, []),
  (47, .imul, 1, 0, 0, 0, 0, []),
  (48, .iload_n 2, 1, 2, 0, 0, 0, []),
  (49, .iadd, 1, 0, 0, 0, 0, []),
  (50, .laload, 1, 0, 0, 0, 0, []),
  (51, .lreturn, 1, 0, 0, 0, 0, [])]
def m235 : MI := (⟨"LeavesObjectModel", "read", "(II)J"⟩, prog_12_method_96_code, 3, (Option.some Jvm.ClassFile.FieldType.long), k235, 2, [6228, 1011, 6226, 6227])
/-- LeavesObjectModel.shift(IIIII)I -/
def k236 : List XE := [(0, .aload_n 0, 1, 0, 0, 0, 0, []),
  (1, .iload_n 1, 1, 1, 0, 0, 0, []),
  (2, .invokevirtual 375, 3, 217, 1, 0, 6153, [(10, 0)]),
  (5, .ifCond .eq 11, 3, 16, 0, 0, 0, []),
  (8, .aload_n 0, 1, 0, 0, 0, 0, []),
  (9, .iload_n 3, 1, 3, 0, 0, 0, []),
  (10, .invokevirtual 375, 3, 217, 1, 0, 6153, [(10, 0)]),
  (13, .ifCond .ne 5, 3, 18, 0, 0, 0, []),
  (16, .iconst (-1), 1, 0, 0, 0, 0, []),
  (17, .ireturn, 1, 0, 0, 0, 0, []),
  (18, .aload_n 0, 1, 0, 0, 0, 0, []),
  (19, .getfield 196, 3, 10, 61, 0, 4191, []),
  (22, .iload_n 1, 1, 1, 0, 0, 0, []),
  (23, .iaload, 1, 0, 0, 0, 0, []),
  (24, .ifCond .lt 12, 3, 36, 0, 0, 0, []),
  (27, .aload_n 0, 1, 0, 0, 0, 0, []),
  (28, .getfield 196, 3, 10, 61, 0, 4191, []),
  (31, .iload_n 3, 1, 3, 0, 0, 0, []),
  (32, .iaload, 1, 0, 0, 0, 0, []),
  (33, .ifCond .ge 6, 3, 39, 0, 0, 0, []),
  (36, .bipush (-11), 2, 0, 0, 0, 0, []),
  (38, .ireturn, 1, 0, 0, 0, 0, []),
  (39, .aload_n 0, 1, 0, 0, 0, 0, []),
  (40, .getfield 196, 3, 10, 61, 0, 4191, []),
  (43, .iload_n 1, 1, 1, 0, 0, 0, []),
  (44, .iaload, 1, 0, 0, 0, 0, []),
  (45, .aload_n 0, 1, 0, 0, 0, 0, []),
  (46, .getfield 196, 3, 10, 61, 0, 4191, []),
  (49, .iload_n 3, 1, 3, 0, 0, 0, []),
  (50, .iaload, 1, 0, 0, 0, 0, []),
  (51, .if_icmp .eq 6, 3, 57, 0, 0, 0, []),
  (54, .bipush (-12), 2, 0, 0, 0, 0, []),
  (56, .ireturn, 1, 0, 0, 0, 0, []),
  (57, .iload 5, 2, 5, 0, 0, 0, []),
  (59, .ifCond .lt 39, 3, 98, 0, 0, 0, []),
  (62, .iload_n 2, 1, 2, 0, 0, 0, []),
  (63, .ifCond .lt 35, 3, 98, 0, 0, 0, []),
  (66, .iload 4, 2, 4, 0, 0, 0, []),
  (68, .ifCond .lt 30, 3, 98, 0, 0, 0, []),
  (71, .iload_n 2, 1, 2, 0, 0, 0, []),
  (72, .aload_n 0, 1, 0, 0, 0, 0, []),
  (73, .getfield 199, 3, 10, 62, 0, 4192, []),
  (76, .iload_n 1, 1, 1, 0, 0, 0, []),
  (77, .iaload, 1, 0, 0, 0, 0, []),
  (78, .iload 5, 2, 5, 0, 0, 0, []),
  (80, .isub, 1, 0, 0, 0, 0, []),
  (81, .if_icmp .gt 17, 3, 98, 0, 0, 0, []),
  (84, .iload 4, 2, 4, 0, 0, 0, []),
  (86, .aload_n 0, 1, 0, 0, 0, 0, []),
  (87, .getfield 199, 3, 10, 62, 0, 4192, []),
  (90, .iload_n 3, 1, 3, 0, 0, 0, []),
  (91, .iaload, 1, 0, 0, 0, 0, []),
  (92, .iload 5, 2, 5, 0, 0, 0, []),
  (94, .isub, 1, 0, 0, 0, 0, []),
  (95, .if_icmp .le 6, 3, 101, 0, 0, 0, []),
  (98, .bipush (-13), 2, 0, 0, 0, 0, []),
  (100, .ireturn, 1, 0, 0, 0, 0, []),
  (101, .iconst 0, 1, 0, 0, 0, 0, []),
  (102, .istore 6, 2, 6, 0, 0, 0, []),
  (104, .iload 6, 2, 6, 0, 0, 0, []),
  (106, .iload 5, 2, 5, 0, 0, 0, []),
  (108, .if_icmp .ge 30, 3, 138, 0, 0, 0, []),
  (111, .aload_n 0, 1, 0, 0, 0, 0, []),
  (112, .getfield 206, 3, 10, 64, 0, 4194, []),
  (115, .iload 6, 2, 6, 0, 0, 0, []),
  (117, .aload_n 0, 1, 0, 0, 0, 0, []),
  (118, .getfield 202, 3, 10, 63, 0, 4193, []),
  (121, .bipush 60, 2, 0, 0, 0, 0, []),
  (123, .iload_n 1, 1, 1, 0, 0, 0, []),
  (124, .imul, 1, 0, 0, 0, 0, []),
  (125, .iload_n 2, 1, 2, 0, 0, 0, []),
  (126, .iadd, 1, 0, 0, 0, 0, []),
  (127, .iload 6, 2, 6, 0, 0, 0, []),
  (129, .iadd, 1, 0, 0, 0, 0, []),
  (130, .laload, 1, 0, 0, 0, 0, []),
  (131, .lastore, 1, 0, 0, 0, 0, []),
  (132, .iinc 6 1, 3, 6, 0, 0, 0, []),
  (135, .goto (-31), 3, 104, 0, 0, 0, []),
  (138, .iconst 0, 1, 0, 0, 0, 0, []),
  (139, .istore 6, 2, 6, 0, 0, 0, []),
  (141, .iload 6, 2, 6, 0, 0, 0, []),
  (143, .iload 5, 2, 5, 0, 0, 0, []),
  (145, .if_icmp .ge 31, 3, 176, 0, 0, 0, []),
  (148, .aload_n 0, 1, 0, 0, 0, 0, []),
  (149, .getfield 202, 3, 10, 63, 0, 4193, []),
  (152, .bipush 60, 2, 0, 0, 0, 0, []),
  (154, .iload_n 3, 1, 3, 0, 0, 0, []),
  (155, .imul, 1, 0, 0, 0, 0, []),
  (156, .iload 4, 2, 4, 0, 0, 0, []),
  (158, .iadd, 1, 0, 0, 0, 0, []),
  (159, .iload 6, 2, 6, 0, 0, 0, []),
  (161, .iadd, 1, 0, 0, 0, 0, []),
  (162, .aload_n 0, 1, 0, 0, 0, 0, []),
  (163, .getfield 206, 3, 10, 64, 0, 4194, []),
  (166, .iload 6, 2, 6, 0, 0, 0, []),
  (168, .laload, 1, 0, 0, 0, 0, []),
  (169, .lastore, 1, 0, 0, 0, 0, []),
  (170, .iinc 6 1, 3, 6, 0, 0, 0, []),
  (173, .goto (-32), 3, 141, 0, 0, 0, []),
  (176, .iload 5, 2, 5, 0, 0, 0, []),
  (178, .ireturn, 1, 0, 0, 0, 0, [])]
def m236 : MI := (⟨"LeavesObjectModel", "shift", "(IIIII)I"⟩, prog_12_method_97_code, 7, (Option.some Jvm.ClassFile.FieldType.int), k236, 5, [6232, 1011, 6230, 6231])
def kLaw : List XE := [(0, .new 7, 3, 9, 0, 0, 1020, []),
  (3, .dup, 1, 0, 0, 0, 0, []),
  (4, .invokespecial 9, 3, 0, 0, 2, 1022, []),
  (7, .astore_n 1, 1, 1, 0, 0, 0, []),
  (8, .new 10, 3, 10, 0, 0, 4124, []),
  (11, .dup, 1, 0, 0, 0, 0, []),
  (12, .invokespecial 12, 3, 140, 0, 2, 4126, []),
  (15, .astore_n 2, 1, 2, 0, 0, 0, []),
  (16, .iconst 0, 1, 0, 0, 0, 0, []),
  (17, .istore_n 3, 1, 3, 0, 0, 0, []),
  (18, .iload_n 3, 1, 3, 0, 0, 0, []),
  (19, .aload_n 0, 1, 0, 0, 0, 0, []),
  (20, .arraylength, 1, 0, 0, 0, 0, []),
  (21, .bipush 6, 2, 0, 0, 0, 0, []),
  (23, .isub, 1, 0, 0, 0, 0, []),
  (24, .if_icmp .gt 1345, 3, 1369, 0, 0, 0, []),
  (27, .aload_n 0, 1, 0, 0, 0, 0, []),
  (28, .iload_n 3, 1, 3, 0, 0, 0, []),
  (29, .iaload, 1, 0, 0, 0, 0, []),
  (30, .bipush 63, 2, 0, 0, 0, 0, []),
  (32, .iand, 1, 0, 0, 0, 0, []),
  (33, .tableswitch 1330 0 35 #[159, 202, 235, 278, 321, 344, 357, 380, 413, 436, 479, 522, 565, 588, 621, 644, 667, 700, 733, 766, 810, 834, 867, 890, 923, 936, 969, 982, 995, 1038, 1061, 1094, 1117, 1160, 1233, 1267], 159, 1363, 0, 0, 0, [(0, 192), (1, 235), (2, 268), (3, 311), (4, 354), (5, 377), (6, 390), (7, 413), (8, 446), (9, 469), (10, 512), (11, 555), (12, 598), (13, 621), (14, 654), (15, 677), (16, 700), (17, 733), (18, 766), (19, 799), (20, 843), (21, 867), (22, 900), (23, 923), (24, 956), (25, 969), (26, 1002), (27, 1015), (28, 1028), (29, 1071), (30, 1094), (31, 1127), (32, 1150), (33, 1193), (34, 1266), (35, 1300)]),
  (192, .aload_n 1, 1, 1, 0, 0, 0, []),
  (193, .aload_n 0, 1, 0, 0, 0, 0, []),
  (194, .iload_n 3, 1, 3, 0, 0, 0, []),
  (195, .iconst 1, 1, 0, 0, 0, 0, []),
  (196, .iadd, 1, 0, 0, 0, 0, []),
  (197, .iaload, 1, 0, 0, 0, 0, []),
  (198, .aload_n 0, 1, 0, 0, 0, 0, []),
  (199, .iload_n 3, 1, 3, 0, 0, 0, []),
  (200, .iconst 2, 1, 0, 0, 0, 0, []),
  (201, .iadd, 1, 0, 0, 0, 0, []),
  (202, .iaload, 1, 0, 0, 0, 0, []),
  (203, .aload_n 0, 1, 0, 0, 0, 0, []),
  (204, .iload_n 3, 1, 3, 0, 0, 0, []),
  (205, .iconst 3, 1, 0, 0, 0, 0, []),
  (206, .iadd, 1, 0, 0, 0, 0, []),
  (207, .iaload, 1, 0, 0, 0, 0, []),
  (208, .invokevirtual 13, 3, 10, 3, 0, 2036, [(9, 0)]),
  (211, .aload_n 2, 1, 2, 0, 0, 0, []),
  (212, .aload_n 0, 1, 0, 0, 0, 0, []),
  (213, .iload_n 3, 1, 3, 0, 0, 0, []),
  (214, .iconst 1, 1, 0, 0, 0, 0, []),
  (215, .iadd, 1, 0, 0, 0, 0, []),
  (216, .iaload, 1, 0, 0, 0, 0, []),
  (217, .aload_n 0, 1, 0, 0, 0, 0, []),
  (218, .iload_n 3, 1, 3, 0, 0, 0, []),
  (219, .iconst 2, 1, 0, 0, 0, 0, []),
  (220, .iadd, 1, 0, 0, 0, 0, []),
  (221, .iaload, 1, 0, 0, 0, 0, []),
  (222, .aload_n 0, 1, 0, 0, 0, 0, []),
  (223, .iload_n 3, 1, 3, 0, 0, 0, []),
  (224, .iconst 3, 1, 0, 0, 0, 0, []),
  (225, .iadd, 1, 0, 0, 0, 0, []),
  (226, .iaload, 1, 0, 0, 0, 0, []),
  (227, .invokevirtual 17, 3, 141, 3, 0, 5087, [(10, 0)]),
  (230, .if_icmp .eq 1133, 3, 1363, 0, 0, 0, []),
  (233, .iconst 0, 1, 0, 0, 0, 0, []),
  (234, .ireturn, 1, 0, 0, 0, 0, []),
  (235, .aload_n 1, 1, 1, 0, 0, 0, []),
  (236, .aload_n 0, 1, 0, 0, 0, 0, []),
  (237, .iload_n 3, 1, 3, 0, 0, 0, []),
  (238, .iconst 1, 1, 0, 0, 0, 0, []),
  (239, .iadd, 1, 0, 0, 0, 0, []),
  (240, .iaload, 1, 0, 0, 0, 0, []),
  (241, .aload_n 0, 1, 0, 0, 0, 0, []),
  (242, .iload_n 3, 1, 3, 0, 0, 0, []),
  (243, .iconst 2, 1, 0, 0, 0, 0, []),
  (244, .iadd, 1, 0, 0, 0, 0, []),
  (245, .iaload, 1, 0, 0, 0, 0, []),
  (246, .invokevirtual 18, 3, 16, 2, 0, 2057, [(9, 0)]),
  (249, .aload_n 2, 1, 2, 0, 0, 0, []),
  (250, .aload_n 0, 1, 0, 0, 0, 0, []),
  (251, .iload_n 3, 1, 3, 0, 0, 0, []),
  (252, .iconst 1, 1, 0, 0, 0, 0, []),
  (253, .iadd, 1, 0, 0, 0, 0, []),
  (254, .iaload, 1, 0, 0, 0, 0, []),
  (255, .aload_n 0, 1, 0, 0, 0, 0, []),
  (256, .iload_n 3, 1, 3, 0, 0, 0, []),
  (257, .iconst 2, 1, 0, 0, 0, 0, []),
  (258, .iadd, 1, 0, 0, 0, 0, []),
  (259, .iaload, 1, 0, 0, 0, 0, []),
  (260, .invokevirtual 22, 3, 163, 2, 0, 5175, [(10, 0)]),
  (263, .if_icmp .eq 1100, 3, 1363, 0, 0, 0, []),
  (266, .iconst 0, 1, 0, 0, 0, 0, []),
  (267, .ireturn, 1, 0, 0, 0, 0, []),
  (268, .aload_n 1, 1, 1, 0, 0, 0, []),
  (269, .aload_n 0, 1, 0, 0, 0, 0, []),
  (270, .iload_n 3, 1, 3, 0, 0, 0, []),
  (271, .iconst 1, 1, 0, 0, 0, 0, []),
  (272, .iadd, 1, 0, 0, 0, 0, []),
  (273, .iaload, 1, 0, 0, 0, 0, []),
  (274, .aload_n 0, 1, 0, 0, 0, 0, []),
  (275, .iload_n 3, 1, 3, 0, 0, 0, []),
  (276, .iconst 2, 1, 0, 0, 0, 0, []),
  (277, .iadd, 1, 0, 0, 0, 0, []),
  (278, .iaload, 1, 0, 0, 0, 0, []),
  (279, .aload_n 0, 1, 0, 0, 0, 0, []),
  (280, .iload_n 3, 1, 3, 0, 0, 0, []),
  (281, .iconst 3, 1, 0, 0, 0, 0, []),
  (282, .iadd, 1, 0, 0, 0, 0, []),
  (283, .iaload, 1, 0, 0, 0, 0, []),
  (284, .invokevirtual 23, 3, 35, 3, 0, 2129, [(9, 0)]),
  (287, .aload_n 2, 1, 2, 0, 0, 0, []),
  (288, .aload_n 0, 1, 0, 0, 0, 0, []),
  (289, .iload_n 3, 1, 3, 0, 0, 0, []),
  (290, .iconst 1, 1, 0, 0, 0, 0, []),
  (291, .iadd, 1, 0, 0, 0, 0, []),
  (292, .iaload, 1, 0, 0, 0, 0, []),
  (293, .aload_n 0, 1, 0, 0, 0, 0, []),
  (294, .iload_n 3, 1, 3, 0, 0, 0, []),
  (295, .iconst 2, 1, 0, 0, 0, 0, []),
  (296, .iadd, 1, 0, 0, 0, 0, []),
  (297, .iaload, 1, 0, 0, 0, 0, []),
  (298, .aload_n 0, 1, 0, 0, 0, 0, []),
  (299, .iload_n 3, 1, 3, 0, 0, 0, []),
  (300, .iconst 3, 1, 0, 0, 0, 0, []),
  (301, .iadd, 1, 0, 0, 0, 0, []),
  (302, .iaload, 1, 0, 0, 0, 0, []),
  (303, .invokevirtual 26, 3, 144, 3, 0, 5099, [(10, 0)]),
  (306, .if_icmp .eq 1057, 3, 1363, 0, 0, 0, []),
  (309, .iconst 0, 1, 0, 0, 0, 0, []),
  (310, .ireturn, 1, 0, 0, 0, 0, []),
  (311, .aload_n 1, 1, 1, 0, 0, 0, []),
  (312, .aload_n 0, 1, 0, 0, 0, 0, []),
  (313, .iload_n 3, 1, 3, 0, 0, 0, []),
  (314, .iconst 1, 1, 0, 0, 0, 0, []),
  (315, .iadd, 1, 0, 0, 0, 0, []),
  (316, .iaload, 1, 0, 0, 0, 0, []),
  (317, .aload_n 0, 1, 0, 0, 0, 0, []),
  (318, .iload_n 3, 1, 3, 0, 0, 0, []),
  (319, .iconst 2, 1, 0, 0, 0, 0, []),
  (320, .iadd, 1, 0, 0, 0, 0, []),
  (321, .iaload, 1, 0, 0, 0, 0, []),
  (322, .aload_n 0, 1, 0, 0, 0, 0, []),
  (323, .iload_n 3, 1, 3, 0, 0, 0, []),
  (324, .iconst 3, 1, 0, 0, 0, 0, []),
  (325, .iadd, 1, 0, 0, 0, 0, []),
  (326, .iaload, 1, 0, 0, 0, 0, []),
  (327, .invokevirtual 27, 3, 36, 3, 0, 2133, [(9, 0)]),
  (330, .aload_n 2, 1, 2, 0, 0, 0, []),
  (331, .aload_n 0, 1, 0, 0, 0, 0, []),
  (332, .iload_n 3, 1, 3, 0, 0, 0, []),
  (333, .iconst 1, 1, 0, 0, 0, 0, []),
  (334, .iadd, 1, 0, 0, 0, 0, []),
  (335, .iaload, 1, 0, 0, 0, 0, []),
  (336, .aload_n 0, 1, 0, 0, 0, 0, []),
  (337, .iload_n 3, 1, 3, 0, 0, 0, []),
  (338, .iconst 2, 1, 0, 0, 0, 0, []),
  (339, .iadd, 1, 0, 0, 0, 0, []),
  (340, .iaload, 1, 0, 0, 0, 0, []),
  (341, .aload_n 0, 1, 0, 0, 0, 0, []),
  (342, .iload_n 3, 1, 3, 0, 0, 0, []),
  (343, .iconst 3, 1, 0, 0, 0, 0, []),
  (344, .iadd, 1, 0, 0, 0, 0, []),
  (345, .iaload, 1, 0, 0, 0, 0, []),
  (346, .invokevirtual 30, 3, 146, 3, 0, 5107, [(10, 0)]),
  (349, .if_icmp .eq 1014, 3, 1363, 0, 0, 0, []),
  (352, .iconst 0, 1, 0, 0, 0, 0, []),
  (353, .ireturn, 1, 0, 0, 0, 0, []),
  (354, .aload_n 1, 1, 1, 0, 0, 0, []),
  (355, .aload_n 0, 1, 0, 0, 0, 0, []),
  (356, .iload_n 3, 1, 3, 0, 0, 0, []),
  (357, .iconst 1, 1, 0, 0, 0, 0, []),
  (358, .iadd, 1, 0, 0, 0, 0, []),
  (359, .iaload, 1, 0, 0, 0, 0, []),
  (360, .invokevirtual 31, 3, 38, 1, 0, 2142, [(9, 0)]),
  (363, .aload_n 2, 1, 2, 0, 0, 0, []),
  (364, .aload_n 0, 1, 0, 0, 0, 0, []),
  (365, .iload_n 3, 1, 3, 0, 0, 0, []),
  (366, .iconst 1, 1, 0, 0, 0, 0, []),
  (367, .iadd, 1, 0, 0, 0, 0, []),
  (368, .iaload, 1, 0, 0, 0, 0, []),
  (369, .invokevirtual 35, 3, 147, 1, 0, 5111, [(10, 0)]),
  (372, .if_icmp .eq 991, 3, 1363, 0, 0, 0, []),
  (375, .iconst 0, 1, 0, 0, 0, 0, []),
  (376, .ireturn, 1, 0, 0, 0, 0, []),
  (377, .aload_n 1, 1, 1, 0, 0, 0, []),
  (378, .invokevirtual 36, 3, 40, 0, 0, 2150, [(9, 0)]),
  (381, .aload_n 2, 1, 2, 0, 0, 0, []),
  (382, .invokevirtual 40, 3, 148, 0, 0, 5115, [(10, 0)]),
  (385, .if_icmp .eq 978, 3, 1363, 0, 0, 0, []),
  (388, .iconst 0, 1, 0, 0, 0, 0, []),
  (389, .ireturn, 1, 0, 0, 0, 0, []),
  (390, .aload_n 1, 1, 1, 0, 0, 0, []),
  (391, .aload_n 0, 1, 0, 0, 0, 0, []),
  (392, .iload_n 3, 1, 3, 0, 0, 0, []),
  (393, .iconst 1, 1, 0, 0, 0, 0, []),
  (394, .iadd, 1, 0, 0, 0, 0, []),
  (395, .iaload, 1, 0, 0, 0, 0, []),
  (396, .invokevirtual 41, 3, 63, 1, 0, 3033, [(9, 0)]),
  (399, .aload_n 2, 1, 2, 0, 0, 0, []),
  (400, .aload_n 0, 1, 0, 0, 0, 0, []),
  (401, .iload_n 3, 1, 3, 0, 0, 0, []),
  (402, .iconst 1, 1, 0, 0, 0, 0, []),
  (403, .iadd, 1, 0, 0, 0, 0, []),
  (404, .iaload, 1, 0, 0, 0, 0, []),
  (405, .invokevirtual 44, 3, 196, 1, 0, 6068, [(10, 0)]),
  (408, .if_icmp .eq 955, 3, 1363, 0, 0, 0, []),
  (411, .iconst 0, 1, 0, 0, 0, 0, []),
  (412, .ireturn, 1, 0, 0, 0, 0, []),
  (413, .aload_n 1, 1, 1, 0, 0, 0, []),
  (414, .aload_n 0, 1, 0, 0, 0, 0, []),
  (415, .iload_n 3, 1, 3, 0, 0, 0, []),
  (416, .iconst 1, 1, 0, 0, 0, 0, []),
  (417, .iadd, 1, 0, 0, 0, 0, []),
  (418, .iaload, 1, 0, 0, 0, 0, []),
  (419, .aload_n 0, 1, 0, 0, 0, 0, []),
  (420, .iload_n 3, 1, 3, 0, 0, 0, []),
  (421, .iconst 2, 1, 0, 0, 0, 0, []),
  (422, .iadd, 1, 0, 0, 0, 0, []),
  (423, .iaload, 1, 0, 0, 0, 0, []),
  (424, .invokevirtual 45, 3, 71, 2, 0, 3065, [(9, 0)]),
  (427, .aload_n 2, 1, 2, 0, 0, 0, []),
  (428, .aload_n 0, 1, 0, 0, 0, 0, []),
  (429, .iload_n 3, 1, 3, 0, 0, 0, []),
  (430, .iconst 1, 1, 0, 0, 0, 0, []),
  (431, .iadd, 1, 0, 0, 0, 0, []),
  (432, .iaload, 1, 0, 0, 0, 0, []),
  (433, .aload_n 0, 1, 0, 0, 0, 0, []),
  (434, .iload_n 3, 1, 3, 0, 0, 0, []),
  (435, .iconst 2, 1, 0, 0, 0, 0, []),
  (436, .iadd, 1, 0, 0, 0, 0, []),
  (437, .iaload, 1, 0, 0, 0, 0, []),
  (438, .invokevirtual 48, 3, 178, 2, 0, 5235, [(10, 0)]),
  (441, .if_icmp .eq 922, 3, 1363, 0, 0, 0, []),
  (444, .iconst 0, 1, 0, 0, 0, 0, []),
  (445, .ireturn, 1, 0, 0, 0, 0, []),
  (446, .aload_n 1, 1, 1, 0, 0, 0, []),
  (447, .aload_n 0, 1, 0, 0, 0, 0, []),
  (448, .iload_n 3, 1, 3, 0, 0, 0, []),
  (449, .iconst 1, 1, 0, 0, 0, 0, []),
  (450, .iadd, 1, 0, 0, 0, 0, []),
  (451, .iaload, 1, 0, 0, 0, 0, []),
  (452, .invokevirtual 49, 3, 74, 1, 0, 3079, [(9, 0)]),
  (455, .aload_n 2, 1, 2, 0, 0, 0, []),
  (456, .aload_n 0, 1, 0, 0, 0, 0, []),
  (457, .iload_n 3, 1, 3, 0, 0, 0, []),
  (458, .iconst 1, 1, 0, 0, 0, 0, []),
  (459, .iadd, 1, 0, 0, 0, 0, []),
  (460, .iaload, 1, 0, 0, 0, 0, []),
  (461, .invokevirtual 52, 3, 184, 1, 0, 6019, [(10, 0)]),
  (464, .if_icmp .eq 899, 3, 1363, 0, 0, 0, []),
  (467, .iconst 0, 1, 0, 0, 0, 0, []),
  (468, .ireturn, 1, 0, 0, 0, 0, []),
  (469, .aload_n 1, 1, 1, 0, 0, 0, []),
  (470, .aload_n 0, 1, 0, 0, 0, 0, []),
  (471, .iload_n 3, 1, 3, 0, 0, 0, []),
  (472, .iconst 1, 1, 0, 0, 0, 0, []),
  (473, .iadd, 1, 0, 0, 0, 0, []),
  (474, .iaload, 1, 0, 0, 0, 0, []),
  (475, .aload_n 0, 1, 0, 0, 0, 0, []),
  (476, .iload_n 3, 1, 3, 0, 0, 0, []),
  (477, .iconst 2, 1, 0, 0, 0, 0, []),
  (478, .iadd, 1, 0, 0, 0, 0, []),
  (479, .iaload, 1, 0, 0, 0, 0, []),
  (480, .aload_n 0, 1, 0, 0, 0, 0, []),
  (481, .iload_n 3, 1, 3, 0, 0, 0, []),
  (482, .iconst 3, 1, 0, 0, 0, 0, []),
  (483, .iadd, 1, 0, 0, 0, 0, []),
  (484, .iaload, 1, 0, 0, 0, 0, []),
  (485, .invokevirtual 53, 3, 76, 3, 0, 3088, [(9, 0)]),
  (488, .aload_n 2, 1, 2, 0, 0, 0, []),
  (489, .aload_n 0, 1, 0, 0, 0, 0, []),
  (490, .iload_n 3, 1, 3, 0, 0, 0, []),
  (491, .iconst 1, 1, 0, 0, 0, 0, []),
  (492, .iadd, 1, 0, 0, 0, 0, []),
  (493, .iaload, 1, 0, 0, 0, 0, []),
  (494, .aload_n 0, 1, 0, 0, 0, 0, []),
  (495, .iload_n 3, 1, 3, 0, 0, 0, []),
  (496, .iconst 2, 1, 0, 0, 0, 0, []),
  (497, .iadd, 1, 0, 0, 0, 0, []),
  (498, .iaload, 1, 0, 0, 0, 0, []),
  (499, .aload_n 0, 1, 0, 0, 0, 0, []),
  (500, .iload_n 3, 1, 3, 0, 0, 0, []),
  (501, .iconst 3, 1, 0, 0, 0, 0, []),
  (502, .iadd, 1, 0, 0, 0, 0, []),
  (503, .iaload, 1, 0, 0, 0, 0, []),
  (504, .invokevirtual 56, 3, 186, 3, 0, 6027, [(10, 0)]),
  (507, .if_icmp .eq 856, 3, 1363, 0, 0, 0, []),
  (510, .iconst 0, 1, 0, 0, 0, 0, []),
  (511, .ireturn, 1, 0, 0, 0, 0, []),
  (512, .aload_n 1, 1, 1, 0, 0, 0, []),
  (513, .aload_n 0, 1, 0, 0, 0, 0, []),
  (514, .iload_n 3, 1, 3, 0, 0, 0, []),
  (515, .iconst 1, 1, 0, 0, 0, 0, []),
  (516, .iadd, 1, 0, 0, 0, 0, []),
  (517, .iaload, 1, 0, 0, 0, 0, []),
  (518, .aload_n 0, 1, 0, 0, 0, 0, []),
  (519, .iload_n 3, 1, 3, 0, 0, 0, []),
  (520, .iconst 2, 1, 0, 0, 0, 0, []),
  (521, .iadd, 1, 0, 0, 0, 0, []),
  (522, .iaload, 1, 0, 0, 0, 0, []),
  (523, .aload_n 0, 1, 0, 0, 0, 0, []),
  (524, .iload_n 3, 1, 3, 0, 0, 0, []),
  (525, .iconst 3, 1, 0, 0, 0, 0, []),
  (526, .iadd, 1, 0, 0, 0, 0, []),
  (527, .iaload, 1, 0, 0, 0, 0, []),
  (528, .invokevirtual 57, 3, 79, 3, 0, 3103, [(9, 0)]),
  (531, .aload_n 2, 1, 2, 0, 0, 0, []),
  (532, .aload_n 0, 1, 0, 0, 0, 0, []),
  (533, .iload_n 3, 1, 3, 0, 0, 0, []),
  (534, .iconst 1, 1, 0, 0, 0, 0, []),
  (535, .iadd, 1, 0, 0, 0, 0, []),
  (536, .iaload, 1, 0, 0, 0, 0, []),
  (537, .aload_n 0, 1, 0, 0, 0, 0, []),
  (538, .iload_n 3, 1, 3, 0, 0, 0, []),
  (539, .iconst 2, 1, 0, 0, 0, 0, []),
  (540, .iadd, 1, 0, 0, 0, 0, []),
  (541, .iaload, 1, 0, 0, 0, 0, []),
  (542, .aload_n 0, 1, 0, 0, 0, 0, []),
  (543, .iload_n 3, 1, 3, 0, 0, 0, []),
  (544, .iconst 3, 1, 0, 0, 0, 0, []),
  (545, .iadd, 1, 0, 0, 0, 0, []),
  (546, .iaload, 1, 0, 0, 0, 0, []),
  (547, .invokevirtual 60, 3, 190, 3, 0, 6044, [(10, 0)]),
  (550, .if_icmp .eq 813, 3, 1363, 0, 0, 0, []),
  (553, .iconst 0, 1, 0, 0, 0, 0, []),
  (554, .ireturn, 1, 0, 0, 0, 0, []),
  (555, .aload_n 1, 1, 1, 0, 0, 0, []),
  (556, .aload_n 0, 1, 0, 0, 0, 0, []),
  (557, .iload_n 3, 1, 3, 0, 0, 0, []),
  (558, .iconst 1, 1, 0, 0, 0, 0, []),
  (559, .iadd, 1, 0, 0, 0, 0, []),
  (560, .iaload, 1, 0, 0, 0, 0, []),
  (561, .aload_n 0, 1, 0, 0, 0, 0, []),
  (562, .iload_n 3, 1, 3, 0, 0, 0, []),
  (563, .iconst 2, 1, 0, 0, 0, 0, []),
  (564, .iadd, 1, 0, 0, 0, 0, []),
  (565, .iaload, 1, 0, 0, 0, 0, []),
  (566, .aload_n 0, 1, 0, 0, 0, 0, []),
  (567, .iload_n 3, 1, 3, 0, 0, 0, []),
  (568, .iconst 3, 1, 0, 0, 0, 0, []),
  (569, .iadd, 1, 0, 0, 0, 0, []),
  (570, .iaload, 1, 0, 0, 0, 0, []),
  (571, .invokevirtual 61, 3, 86, 3, 0, 3135, [(9, 0)]),
  (574, .aload_n 2, 1, 2, 0, 0, 0, []),
  (575, .aload_n 0, 1, 0, 0, 0, 0, []),
  (576, .iload_n 3, 1, 3, 0, 0, 0, []),
  (577, .iconst 1, 1, 0, 0, 0, 0, []),
  (578, .iadd, 1, 0, 0, 0, 0, []),
  (579, .iaload, 1, 0, 0, 0, 0, []),
  (580, .aload_n 0, 1, 0, 0, 0, 0, []),
  (581, .iload_n 3, 1, 3, 0, 0, 0, []),
  (582, .iconst 2, 1, 0, 0, 0, 0, []),
  (583, .iadd, 1, 0, 0, 0, 0, []),
  (584, .iaload, 1, 0, 0, 0, 0, []),
  (585, .aload_n 0, 1, 0, 0, 0, 0, []),
  (586, .iload_n 3, 1, 3, 0, 0, 0, []),
  (587, .iconst 3, 1, 0, 0, 0, 0, []),
  (588, .iadd, 1, 0, 0, 0, 0, []),
  (589, .iaload, 1, 0, 0, 0, 0, []),
  (590, .invokevirtual 64, 3, 193, 3, 0, 6056, [(10, 0)]),
  (593, .if_icmp .eq 770, 3, 1363, 0, 0, 0, []),
  (596, .iconst 0, 1, 0, 0, 0, 0, []),
  (597, .ireturn, 1, 0, 0, 0, 0, []),
  (598, .aload_n 1, 1, 1, 0, 0, 0, []),
  (599, .aload_n 0, 1, 0, 0, 0, 0, []),
  (600, .iload_n 3, 1, 3, 0, 0, 0, []),
  (601, .iconst 1, 1, 0, 0, 0, 0, []),
  (602, .iadd, 1, 0, 0, 0, 0, []),
  (603, .iaload, 1, 0, 0, 0, 0, []),
  (604, .invokevirtual 65, 3, 89, 1, 0, 3150, [(9, 0)]),
  (607, .aload_n 2, 1, 2, 0, 0, 0, []),
  (608, .aload_n 0, 1, 0, 0, 0, 0, []),
  (609, .iload_n 3, 1, 3, 0, 0, 0, []),
  (610, .iconst 1, 1, 0, 0, 0, 0, []),
  (611, .iadd, 1, 0, 0, 0, 0, []),
  (612, .iaload, 1, 0, 0, 0, 0, []),
  (613, .invokevirtual 68, 3, 194, 1, 0, 6060, [(10, 0)]),
  (616, .if_icmp .eq 747, 3, 1363, 0, 0, 0, []),
  (619, .iconst 0, 1, 0, 0, 0, 0, []),
  (620, .ireturn, 1, 0, 0, 0, 0, []),
  (621, .aload_n 1, 1, 1, 0, 0, 0, []),
  (622, .aload_n 0, 1, 0, 0, 0, 0, []),
  (623, .iload_n 3, 1, 3, 0, 0, 0, []),
  (624, .iconst 1, 1, 0, 0, 0, 0, []),
  (625, .iadd, 1, 0, 0, 0, 0, []),
  (626, .iaload, 1, 0, 0, 0, 0, []),
  (627, .aload_n 0, 1, 0, 0, 0, 0, []),
  (628, .iload_n 3, 1, 3, 0, 0, 0, []),
  (629, .iconst 2, 1, 0, 0, 0, 0, []),
  (630, .iadd, 1, 0, 0, 0, 0, []),
  (631, .iaload, 1, 0, 0, 0, 0, []),
  (632, .invokevirtual 69, 3, 91, 2, 0, 3160, [(9, 0)]),
  (635, .aload_n 2, 1, 2, 0, 0, 0, []),
  (636, .aload_n 0, 1, 0, 0, 0, 0, []),
  (637, .iload_n 3, 1, 3, 0, 0, 0, []),
  (638, .iconst 1, 1, 0, 0, 0, 0, []),
  (639, .iadd, 1, 0, 0, 0, 0, []),
  (640, .iaload, 1, 0, 0, 0, 0, []),
  (641, .aload_n 0, 1, 0, 0, 0, 0, []),
  (642, .iload_n 3, 1, 3, 0, 0, 0, []),
  (643, .iconst 2, 1, 0, 0, 0, 0, []),
  (644, .iadd, 1, 0, 0, 0, 0, []),
  (645, .iaload, 1, 0, 0, 0, 0, []),
  (646, .invokevirtual 72, 3, 195, 2, 0, 6064, [(10, 0)]),
  (649, .if_icmp .eq 714, 3, 1363, 0, 0, 0, []),
  (652, .iconst 0, 1, 0, 0, 0, 0, []),
  (653, .ireturn, 1, 0, 0, 0, 0, []),
  (654, .aload_n 1, 1, 1, 0, 0, 0, []),
  (655, .aload_n 0, 1, 0, 0, 0, 0, []),
  (656, .iload_n 3, 1, 3, 0, 0, 0, []),
  (657, .iconst 1, 1, 0, 0, 0, 0, []),
  (658, .iadd, 1, 0, 0, 0, 0, []),
  (659, .iaload, 1, 0, 0, 0, 0, []),
  (660, .invokevirtual 73, 3, 92, 1, 0, 3164, [(9, 0)]),
  (663, .aload_n 2, 1, 2, 0, 0, 0, []),
  (664, .aload_n 0, 1, 0, 0, 0, 0, []),
  (665, .iload_n 3, 1, 3, 0, 0, 0, []),
  (666, .iconst 1, 1, 0, 0, 0, 0, []),
  (667, .iadd, 1, 0, 0, 0, 0, []),
  (668, .iaload, 1, 0, 0, 0, 0, []),
  (669, .invokevirtual 76, 3, 202, 1, 0, 6092, [(10, 0)]),
  (672, .if_icmp .eq 691, 3, 1363, 0, 0, 0, []),
  (675, .iconst 0, 1, 0, 0, 0, 0, []),
  (676, .ireturn, 1, 0, 0, 0, 0, []),
  (677, .aload_n 1, 1, 1, 0, 0, 0, []),
  (678, .aload_n 0, 1, 0, 0, 0, 0, []),
  (679, .iload_n 3, 1, 3, 0, 0, 0, []),
  (680, .iconst 1, 1, 0, 0, 0, 0, []),
  (681, .iadd, 1, 0, 0, 0, 0, []),
  (682, .iaload, 1, 0, 0, 0, 0, []),
  (683, .invokevirtual 77, 3, 94, 1, 0, 3172, [(9, 0)]),
  (686, .aload_n 2, 1, 2, 0, 0, 0, []),
  (687, .aload_n 0, 1, 0, 0, 0, 0, []),
  (688, .iload_n 3, 1, 3, 0, 0, 0, []),
  (689, .iconst 1, 1, 0, 0, 0, 0, []),
  (690, .iadd, 1, 0, 0, 0, 0, []),
  (691, .iaload, 1, 0, 0, 0, 0, []),
  (692, .invokevirtual 80, 3, 203, 1, 0, 6096, [(10, 0)]),
  (695, .if_icmp .eq 668, 3, 1363, 0, 0, 0, []),
  (698, .iconst 0, 1, 0, 0, 0, 0, []),
  (699, .ireturn, 1, 0, 0, 0, 0, []),
  (700, .aload_n 1, 1, 1, 0, 0, 0, []),
  (701, .aload_n 0, 1, 0, 0, 0, 0, []),
  (702, .iload_n 3, 1, 3, 0, 0, 0, []),
  (703, .iconst 1, 1, 0, 0, 0, 0, []),
  (704, .iadd, 1, 0, 0, 0, 0, []),
  (705, .iaload, 1, 0, 0, 0, 0, []),
  (706, .aload_n 0, 1, 0, 0, 0, 0, []),
  (707, .iload_n 3, 1, 3, 0, 0, 0, []),
  (708, .iconst 2, 1, 0, 0, 0, 0, []),
  (709, .iadd, 1, 0, 0, 0, 0, []),
  (710, .iaload, 1, 0, 0, 0, 0, []),
  (711, .invokevirtual 81, 3, 95, 2, 0, 3176, [(9, 0)]),
  (714, .aload_n 2, 1, 2, 0, 0, 0, []),
  (715, .aload_n 0, 1, 0, 0, 0, 0, []),
  (716, .iload_n 3, 1, 3, 0, 0, 0, []),
  (717, .iconst 1, 1, 0, 0, 0, 0, []),
  (718, .iadd, 1, 0, 0, 0, 0, []),
  (719, .iaload, 1, 0, 0, 0, 0, []),
  (720, .aload_n 0, 1, 0, 0, 0, 0, []),
  (721, .iload_n 3, 1, 3, 0, 0, 0, []),
  (722, .iconst 2, 1, 0, 0, 0, 0, []),
  (723, .iadd, 1, 0, 0, 0, 0, []),
  (724, .iaload, 1, 0, 0, 0, 0, []),
  (725, .invokevirtual 84, 3, 204, 2, 0, 6100, [(10, 0)]),
  (728, .if_icmp .eq 635, 3, 1363, 0, 0, 0, []),
  (731, .iconst 0, 1, 0, 0, 0, 0, []),
  (732, .ireturn, 1, 0, 0, 0, 0, []),
  (733, .aload_n 1, 1, 1, 0, 0, 0, []),
  (734, .aload_n 0, 1, 0, 0, 0, 0, []),
  (735, .iload_n 3, 1, 3, 0, 0, 0, []),
  (736, .iconst 1, 1, 0, 0, 0, 0, []),
  (737, .iadd, 1, 0, 0, 0, 0, []),
  (738, .iaload, 1, 0, 0, 0, 0, []),
  (739, .aload_n 0, 1, 0, 0, 0, 0, []),
  (740, .iload_n 3, 1, 3, 0, 0, 0, []),
  (741, .iconst 2, 1, 0, 0, 0, 0, []),
  (742, .iadd, 1, 0, 0, 0, 0, []),
  (743, .iaload, 1, 0, 0, 0, 0, []),
  (744, .invokevirtual 85, 3, 97, 2, 0, 3184, [(9, 0)]),
  (747, .aload_n 2, 1, 2, 0, 0, 0, []),
  (748, .aload_n 0, 1, 0, 0, 0, 0, []),
  (749, .iload_n 3, 1, 3, 0, 0, 0, []),
  (750, .iconst 1, 1, 0, 0, 0, 0, []),
  (751, .iadd, 1, 0, 0, 0, 0, []),
  (752, .iaload, 1, 0, 0, 0, 0, []),
  (753, .aload_n 0, 1, 0, 0, 0, 0, []),
  (754, .iload_n 3, 1, 3, 0, 0, 0, []),
  (755, .iconst 2, 1, 0, 0, 0, 0, []),
  (756, .iadd, 1, 0, 0, 0, 0, []),
  (757, .iaload, 1, 0, 0, 0, 0, []),
  (758, .invokevirtual 88, 3, 205, 2, 0, 6104, [(10, 0)]),
  (761, .if_icmp .eq 602, 3, 1363, 0, 0, 0, []),
  (764, .iconst 0, 1, 0, 0, 0, 0, []),
  (765, .ireturn, 1, 0, 0, 0, 0, []),
  (766, .aload_n 1, 1, 1, 0, 0, 0, []),
  (767, .aload_n 0, 1, 0, 0, 0, 0, []),
  (768, .iload_n 3, 1, 3, 0, 0, 0, []),
  (769, .iconst 1, 1, 0, 0, 0, 0, []),
  (770, .iadd, 1, 0, 0, 0, 0, []),
  (771, .iaload, 1, 0, 0, 0, 0, []),
  (772, .aload_n 0, 1, 0, 0, 0, 0, []),
  (773, .iload_n 3, 1, 3, 0, 0, 0, []),
  (774, .iconst 2, 1, 0, 0, 0, 0, []),
  (775, .iadd, 1, 0, 0, 0, 0, []),
  (776, .iaload, 1, 0, 0, 0, 0, []),
  (777, .invokevirtual 89, 3, 102, 2, 0, 3204, [(9, 0)]),
  (780, .aload_n 2, 1, 2, 0, 0, 0, []),
  (781, .aload_n 0, 1, 0, 0, 0, 0, []),
  (782, .iload_n 3, 1, 3, 0, 0, 0, []),
  (783, .iconst 1, 1, 0, 0, 0, 0, []),
  (784, .iadd, 1, 0, 0, 0, 0, []),
  (785, .iaload, 1, 0, 0, 0, 0, []),
  (786, .aload_n 0, 1, 0, 0, 0, 0, []),
  (787, .iload_n 3, 1, 3, 0, 0, 0, []),
  (788, .iconst 2, 1, 0, 0, 0, 0, []),
  (789, .iadd, 1, 0, 0, 0, 0, []),
  (790, .iaload, 1, 0, 0, 0, 0, []),
  (791, .invokevirtual 92, 3, 207, 2, 0, 6112, [(10, 0)]),
  (794, .if_icmp .eq 569, 3, 1363, 0, 0, 0, []),
  (797, .iconst 0, 1, 0, 0, 0, 0, []),
  (798, .ireturn, 1, 0, 0, 0, 0, []),
  (799, .aload_n 1, 1, 1, 0, 0, 0, []),
  (800, .aload_n 0, 1, 0, 0, 0, 0, []),
  (801, .iload_n 3, 1, 3, 0, 0, 0, []),
  (802, .iconst 1, 1, 0, 0, 0, 0, []),
  (803, .iadd, 1, 0, 0, 0, 0, []),
  (804, .iaload, 1, 0, 0, 0, 0, []),
  (805, .aload_n 0, 1, 0, 0, 0, 0, []),
  (806, .iload_n 3, 1, 3, 0, 0, 0, []),
  (807, .iconst 2, 1, 0, 0, 0, 0, []),
  (808, .iadd, 1, 0, 0, 0, 0, []),
  (809, .iaload, 1, 0, 0, 0, 0, []),
  (810, .aload_n 0, 1, 0, 0, 0, 0, []),
  (811, .iload_n 3, 1, 3, 0, 0, 0, []),
  (812, .iconst 3, 1, 0, 0, 0, 0, []),
  (813, .iadd, 1, 0, 0, 0, 0, []),
  (814, .iaload, 1, 0, 0, 0, 0, []),
  (815, .invokevirtual 93, 3, 103, 3, 0, 3208, [(9, 0)]),
  (818, .aload_n 2, 1, 2, 0, 0, 0, []),
  (819, .aload_n 0, 1, 0, 0, 0, 0, []),
  (820, .iload_n 3, 1, 3, 0, 0, 0, []),
  (821, .iconst 1, 1, 0, 0, 0, 0, []),
  (822, .iadd, 1, 0, 0, 0, 0, []),
  (823, .iaload, 1, 0, 0, 0, 0, []),
  (824, .aload_n 0, 1, 0, 0, 0, 0, []),
  (825, .iload_n 3, 1, 3, 0, 0, 0, []),
  (826, .iconst 2, 1, 0, 0, 0, 0, []),
  (827, .iadd, 1, 0, 0, 0, 0, []),
  (828, .iaload, 1, 0, 0, 0, 0, []),
  (829, .aload_n 0, 1, 0, 0, 0, 0, []),
  (830, .iload_n 3, 1, 3, 0, 0, 0, []),
  (831, .iconst 3, 1, 0, 0, 0, 0, []),
  (832, .iadd, 1, 0, 0, 0, 0, []),
  (833, .iaload, 1, 0, 0, 0, 0, []),
  (834, .invokevirtual 97, 3, 208, 3, 0, 6116, [(10, 0)]),
  (837, .lcmp, 1, 0, 0, 0, 0, []),
  (838, .ifCond .eq 525, 3, 1363, 0, 0, 0, []),
  (841, .iconst 0, 1, 0, 0, 0, 0, []),
  (842, .ireturn, 1, 0, 0, 0, 0, []),
  (843, .aload_n 1, 1, 1, 0, 0, 0, []),
  (844, .aload_n 0, 1, 0, 0, 0, 0, []),
  (845, .iload_n 3, 1, 3, 0, 0, 0, []),
  (846, .iconst 1, 1, 0, 0, 0, 0, []),
  (847, .iadd, 1, 0, 0, 0, 0, []),
  (848, .iaload, 1, 0, 0, 0, 0, []),
  (849, .invokevirtual 98, 3, 107, 1, 0, 3223, [(9, 0)]),
  (852, .aload_n 2, 1, 2, 0, 0, 0, []),
  (853, .aload_n 0, 1, 0, 0, 0, 0, []),
  (854, .iload_n 3, 1, 3, 0, 0, 0, []),
  (855, .iconst 1, 1, 0, 0, 0, 0, []),
  (856, .iadd, 1, 0, 0, 0, 0, []),
  (857, .iaload, 1, 0, 0, 0, 0, []),
  (858, .invokevirtual 102, 3, 211, 1, 0, 6129, [(10, 0)]),
  (861, .lcmp, 1, 0, 0, 0, 0, []),
  (862, .ifCond .eq 501, 3, 1363, 0, 0, 0, []),
  (865, .iconst 0, 1, 0, 0, 0, 0, []),
  (866, .ireturn, 1, 0, 0, 0, 0, []),
  (867, .aload_n 1, 1, 1, 0, 0, 0, []),
  (868, .aload_n 0, 1, 0, 0, 0, 0, []),
  (869, .iload_n 3, 1, 3, 0, 0, 0, []),
  (870, .iconst 1, 1, 0, 0, 0, 0, []),
  (871, .iadd, 1, 0, 0, 0, 0, []),
  (872, .iaload, 1, 0, 0, 0, 0, []),
  (873, .aload_n 0, 1, 0, 0, 0, 0, []),
  (874, .iload_n 3, 1, 3, 0, 0, 0, []),
  (875, .iconst 2, 1, 0, 0, 0, 0, []),
  (876, .iadd, 1, 0, 0, 0, 0, []),
  (877, .iaload, 1, 0, 0, 0, 0, []),
  (878, .invokevirtual 103, 3, 108, 2, 0, 3227, [(9, 0)]),
  (881, .aload_n 2, 1, 2, 0, 0, 0, []),
  (882, .aload_n 0, 1, 0, 0, 0, 0, []),
  (883, .iload_n 3, 1, 3, 0, 0, 0, []),
  (884, .iconst 1, 1, 0, 0, 0, 0, []),
  (885, .iadd, 1, 0, 0, 0, 0, []),
  (886, .iaload, 1, 0, 0, 0, 0, []),
  (887, .aload_n 0, 1, 0, 0, 0, 0, []),
  (888, .iload_n 3, 1, 3, 0, 0, 0, []),
  (889, .iconst 2, 1, 0, 0, 0, 0, []),
  (890, .iadd, 1, 0, 0, 0, 0, []),
  (891, .iaload, 1, 0, 0, 0, 0, []),
  (892, .invokevirtual 106, 3, 212, 2, 0, 6133, [(10, 0)]),
  (895, .if_icmp .eq 468, 3, 1363, 0, 0, 0, []),
  (898, .iconst 0, 1, 0, 0, 0, 0, []),
  (899, .ireturn, 1, 0, 0, 0, 0, []),
  (900, .aload_n 1, 1, 1, 0, 0, 0, []),
  (901, .aload_n 0, 1, 0, 0, 0, 0, []),
  (902, .iload_n 3, 1, 3, 0, 0, 0, []),
  (903, .iconst 1, 1, 0, 0, 0, 0, []),
  (904, .iadd, 1, 0, 0, 0, 0, []),
  (905, .iaload, 1, 0, 0, 0, 0, []),
  (906, .invokevirtual 107, 3, 109, 1, 0, 3231, [(9, 0)]),
  (909, .aload_n 2, 1, 2, 0, 0, 0, []),
  (910, .aload_n 0, 1, 0, 0, 0, 0, []),
  (911, .iload_n 3, 1, 3, 0, 0, 0, []),
  (912, .iconst 1, 1, 0, 0, 0, 0, []),
  (913, .iadd, 1, 0, 0, 0, 0, []),
  (914, .iaload, 1, 0, 0, 0, 0, []),
  (915, .invokevirtual 110, 3, 213, 1, 0, 6137, [(10, 0)]),
  (918, .if_icmp .eq 445, 3, 1363, 0, 0, 0, []),
  (921, .iconst 0, 1, 0, 0, 0, 0, []),
  (922, .ireturn, 1, 0, 0, 0, 0, []),
  (923, .aload_n 1, 1, 1, 0, 0, 0, []),
  (924, .aload_n 0, 1, 0, 0, 0, 0, []),
  (925, .iload_n 3, 1, 3, 0, 0, 0, []),
  (926, .iconst 1, 1, 0, 0, 0, 0, []),
  (927, .iadd, 1, 0, 0, 0, 0, []),
  (928, .iaload, 1, 0, 0, 0, 0, []),
  (929, .aload_n 0, 1, 0, 0, 0, 0, []),
  (930, .iload_n 3, 1, 3, 0, 0, 0, []),
  (931, .iconst 2, 1, 0, 0, 0, 0, []),
  (932, .iadd, 1, 0, 0, 0, 0, []),
  (933, .iaload, 1, 0, 0, 0, 0, []),
  (934, .invokevirtual 111, 3, 112, 2, 0, 4007, [(9, 0)]),
  (937, .aload_n 2, 1, 2, 0, 0, 0, []),
  (938, .aload_n 0, 1, 0, 0, 0, 0, []),
  (939, .iload_n 3, 1, 3, 0, 0, 0, []),
  (940, .iconst 1, 1, 0, 0, 0, 0, []),
  (941, .iadd, 1, 0, 0, 0, 0, []),
  (942, .iaload, 1, 0, 0, 0, 0, []),
  (943, .aload_n 0, 1, 0, 0, 0, 0, []),
  (944, .iload_n 3, 1, 3, 0, 0, 0, []),
  (945, .iconst 2, 1, 0, 0, 0, 0, []),
  (946, .iadd, 1, 0, 0, 0, 0, []),
  (947, .iaload, 1, 0, 0, 0, 0, []),
  (948, .invokevirtual 114, 3, 214, 2, 0, 6141, [(10, 0)]),
  (951, .if_icmp .eq 412, 3, 1363, 0, 0, 0, []),
  (954, .iconst 0, 1, 0, 0, 0, 0, []),
  (955, .ireturn, 1, 0, 0, 0, 0, []),
  (956, .aload_n 1, 1, 1, 0, 0, 0, []),
  (957, .invokevirtual 115, 3, 113, 0, 0, 4011, [(9, 0)]),
  (960, .aload_n 2, 1, 2, 0, 0, 0, []),
  (961, .invokevirtual 118, 3, 215, 0, 0, 6145, [(10, 0)]),
  (964, .if_icmp .eq 399, 3, 1363, 0, 0, 0, []),
  (967, .iconst 0, 1, 0, 0, 0, 0, []),
  (968, .ireturn, 1, 0, 0, 0, 0, []),
  (969, .aload_n 1, 1, 1, 0, 0, 0, []),
  (970, .aload_n 0, 1, 0, 0, 0, 0, []),
  (971, .iload_n 3, 1, 3, 0, 0, 0, []),
  (972, .iconst 1, 1, 0, 0, 0, 0, []),
  (973, .iadd, 1, 0, 0, 0, 0, []),
  (974, .iaload, 1, 0, 0, 0, 0, []),
  (975, .aload_n 0, 1, 0, 0, 0, 0, []),
  (976, .iload_n 3, 1, 3, 0, 0, 0, []),
  (977, .iconst 2, 1, 0, 0, 0, 0, []),
  (978, .iadd, 1, 0, 0, 0, 0, []),
  (979, .iaload, 1, 0, 0, 0, 0, []),
  (980, .invokevirtual 119, 3, 114, 2, 0, 4015, [(9, 0)]),
  (983, .aload_n 2, 1, 2, 0, 0, 0, []),
  (984, .aload_n 0, 1, 0, 0, 0, 0, []),
  (985, .iload_n 3, 1, 3, 0, 0, 0, []),
  (986, .iconst 1, 1, 0, 0, 0, 0, []),
  (987, .iadd, 1, 0, 0, 0, 0, []),
  (988, .iaload, 1, 0, 0, 0, 0, []),
  (989, .aload_n 0, 1, 0, 0, 0, 0, []),
  (990, .iload_n 3, 1, 3, 0, 0, 0, []),
  (991, .iconst 2, 1, 0, 0, 0, 0, []),
  (992, .iadd, 1, 0, 0, 0, 0, []),
  (993, .iaload, 1, 0, 0, 0, 0, []),
  (994, .invokevirtual 122, 3, 216, 2, 0, 6149, [(10, 0)]),
  (997, .if_icmp .eq 366, 3, 1363, 0, 0, 0, []),
  (1000, .iconst 0, 1, 0, 0, 0, 0, []),
  (1001, .ireturn, 1, 0, 0, 0, 0, []),
  (1002, .aload_n 1, 1, 1, 0, 0, 0, []),
  (1003, .invokevirtual 123, 3, 119, 0, 0, 4036, [(9, 0)]),
  (1006, .aload_n 2, 1, 2, 0, 0, 0, []),
  (1007, .invokevirtual 126, 3, 218, 0, 0, 6157, [(10, 0)]),
  (1010, .if_icmp .eq 353, 3, 1363, 0, 0, 0, []),
  (1013, .iconst 0, 1, 0, 0, 0, 0, []),
  (1014, .ireturn, 1, 0, 0, 0, 0, []),
  (1015, .aload_n 1, 1, 1, 0, 0, 0, []),
  (1016, .invokevirtual 127, 3, 120, 0, 0, 4040, [(9, 0)]),
  (1019, .aload_n 2, 1, 2, 0, 0, 0, []),
  (1020, .invokevirtual 130, 3, 219, 0, 0, 6161, [(10, 0)]),
  (1023, .if_icmp .eq 340, 3, 1363, 0, 0, 0, []),
  (1026, .iconst 0, 1, 0, 0, 0, 0, []),
  (1027, .ireturn, 1, 0, 0, 0, 0, []),
  (1028, .aload_n 1, 1, 1, 0, 0, 0, []),
  (1029, .aload_n 0, 1, 0, 0, 0, 0, []),
  (1030, .iload_n 3, 1, 3, 0, 0, 0, []),
  (1031, .iconst 1, 1, 0, 0, 0, 0, []),
  (1032, .iadd, 1, 0, 0, 0, 0, []),
  (1033, .iaload, 1, 0, 0, 0, 0, []),
  (1034, .aload_n 0, 1, 0, 0, 0, 0, []),
  (1035, .iload_n 3, 1, 3, 0, 0, 0, []),
  (1036, .iconst 2, 1, 0, 0, 0, 0, []),
  (1037, .iadd, 1, 0, 0, 0, 0, []),
  (1038, .iaload, 1, 0, 0, 0, 0, []),
  (1039, .aload_n 0, 1, 0, 0, 0, 0, []),
  (1040, .iload_n 3, 1, 3, 0, 0, 0, []),
  (1041, .iconst 3, 1, 0, 0, 0, 0, []),
  (1042, .iadd, 1, 0, 0, 0, 0, []),
  (1043, .iaload, 1, 0, 0, 0, 0, []),
  (1044, .invokevirtual 131, 3, 121, 3, 0, 4044, [(9, 0)]),
  (1047, .aload_n 2, 1, 2, 0, 0, 0, []),
  (1048, .aload_n 0, 1, 0, 0, 0, 0, []),
  (1049, .iload_n 3, 1, 3, 0, 0, 0, []),
  (1050, .iconst 1, 1, 0, 0, 0, 0, []),
  (1051, .iadd, 1, 0, 0, 0, 0, []),
  (1052, .iaload, 1, 0, 0, 0, 0, []),
  (1053, .aload_n 0, 1, 0, 0, 0, 0, []),
  (1054, .iload_n 3, 1, 3, 0, 0, 0, []),
  (1055, .iconst 2, 1, 0, 0, 0, 0, []),
  (1056, .iadd, 1, 0, 0, 0, 0, []),
  (1057, .iaload, 1, 0, 0, 0, 0, []),
  (1058, .aload_n 0, 1, 0, 0, 0, 0, []),
  (1059, .iload_n 3, 1, 3, 0, 0, 0, []),
  (1060, .iconst 3, 1, 0, 0, 0, 0, []),
  (1061, .iadd, 1, 0, 0, 0, 0, []),
  (1062, .iaload, 1, 0, 0, 0, 0, []),
  (1063, .invokevirtual 134, 3, 220, 3, 0, 6165, [(10, 0)]),
  (1066, .if_icmp .eq 297, 3, 1363, 0, 0, 0, []),
  (1069, .iconst 0, 1, 0, 0, 0, 0, []),
  (1070, .ireturn, 1, 0, 0, 0, 0, []),
  (1071, .aload_n 1, 1, 1, 0, 0, 0, []),
  (1072, .aload_n 0, 1, 0, 0, 0, 0, []),
  (1073, .iload_n 3, 1, 3, 0, 0, 0, []),
  (1074, .iconst 1, 1, 0, 0, 0, 0, []),
  (1075, .iadd, 1, 0, 0, 0, 0, []),
  (1076, .iaload, 1, 0, 0, 0, 0, []),
  (1077, .invokevirtual 135, 3, 127, 1, 0, 4071, [(9, 0)]),
  (1080, .aload_n 2, 1, 2, 0, 0, 0, []),
  (1081, .aload_n 0, 1, 0, 0, 0, 0, []),
  (1082, .iload_n 3, 1, 3, 0, 0, 0, []),
  (1083, .iconst 1, 1, 0, 0, 0, 0, []),
  (1084, .iadd, 1, 0, 0, 0, 0, []),
  (1085, .iaload, 1, 0, 0, 0, 0, []),
  (1086, .invokevirtual 138, 3, 229, 1, 0, 6201, [(10, 0)]),
  (1089, .if_icmp .eq 274, 3, 1363, 0, 0, 0, []),
  (1092, .iconst 0, 1, 0, 0, 0, 0, []),
  (1093, .ireturn, 1, 0, 0, 0, 0, []),
  (1094, .aload_n 1, 1, 1, 0, 0, 0, []),
  (1095, .aload_n 0, 1, 0, 0, 0, 0, []),
  (1096, .iload_n 3, 1, 3, 0, 0, 0, []),
  (1097, .iconst 1, 1, 0, 0, 0, 0, []),
  (1098, .iadd, 1, 0, 0, 0, 0, []),
  (1099, .iaload, 1, 0, 0, 0, 0, []),
  (1100, .aload_n 0, 1, 0, 0, 0, 0, []),
  (1101, .iload_n 3, 1, 3, 0, 0, 0, []),
  (1102, .iconst 2, 1, 0, 0, 0, 0, []),
  (1103, .iadd, 1, 0, 0, 0, 0, []),
  (1104, .iaload, 1, 0, 0, 0, 0, []),
  (1105, .invokevirtual 139, 3, 129, 2, 0, 4079, [(9, 0)]),
  (1108, .aload_n 2, 1, 2, 0, 0, 0, []),
  (1109, .aload_n 0, 1, 0, 0, 0, 0, []),
  (1110, .iload_n 3, 1, 3, 0, 0, 0, []),
  (1111, .iconst 1, 1, 0, 0, 0, 0, []),
  (1112, .iadd, 1, 0, 0, 0, 0, []),
  (1113, .iaload, 1, 0, 0, 0, 0, []),
  (1114, .aload_n 0, 1, 0, 0, 0, 0, []),
  (1115, .iload_n 3, 1, 3, 0, 0, 0, []),
  (1116, .iconst 2, 1, 0, 0, 0, 0, []),
  (1117, .iadd, 1, 0, 0, 0, 0, []),
  (1118, .iaload, 1, 0, 0, 0, 0, []),
  (1119, .invokevirtual 142, 3, 230, 2, 0, 6205, [(10, 0)]),
  (1122, .if_icmp .eq 241, 3, 1363, 0, 0, 0, []),
  (1125, .iconst 0, 1, 0, 0, 0, 0, []),
  (1126, .ireturn, 1, 0, 0, 0, 0, []),
  (1127, .aload_n 1, 1, 1, 0, 0, 0, []),
  (1128, .aload_n 0, 1, 0, 0, 0, 0, []),
  (1129, .iload_n 3, 1, 3, 0, 0, 0, []),
  (1130, .iconst 1, 1, 0, 0, 0, 0, []),
  (1131, .iadd, 1, 0, 0, 0, 0, []),
  (1132, .iaload, 1, 0, 0, 0, 0, []),
  (1133, .invokevirtual 143, 3, 131, 1, 0, 4088, [(9, 0)]),
  (1136, .aload_n 2, 1, 2, 0, 0, 0, []),
  (1137, .aload_n 0, 1, 0, 0, 0, 0, []),
  (1138, .iload_n 3, 1, 3, 0, 0, 0, []),
  (1139, .iconst 1, 1, 0, 0, 0, 0, []),
  (1140, .iadd, 1, 0, 0, 0, 0, []),
  (1141, .iaload, 1, 0, 0, 0, 0, []),
  (1142, .invokevirtual 146, 3, 231, 1, 0, 6209, [(10, 0)]),
  (1145, .if_icmp .eq 218, 3, 1363, 0, 0, 0, []),
  (1148, .iconst 0, 1, 0, 0, 0, 0, []),
  (1149, .ireturn, 1, 0, 0, 0, 0, []),
  (1150, .aload_n 1, 1, 1, 0, 0, 0, []),
  (1151, .aload_n 0, 1, 0, 0, 0, 0, []),
  (1152, .iload_n 3, 1, 3, 0, 0, 0, []),
  (1153, .iconst 1, 1, 0, 0, 0, 0, []),
  (1154, .iadd, 1, 0, 0, 0, 0, []),
  (1155, .iaload, 1, 0, 0, 0, 0, []),
  (1156, .aload_n 0, 1, 0, 0, 0, 0, []),
  (1157, .iload_n 3, 1, 3, 0, 0, 0, []),
  (1158, .iconst 2, 1, 0, 0, 0, 0, []),
  (1159, .iadd, 1, 0, 0, 0, 0, []),
  (1160, .iaload, 1, 0, 0, 0, 0, []),
  (1161, .aload_n 0, 1, 0, 0, 0, 0, []),
  (1162, .iload_n 3, 1, 3, 0, 0, 0, []),
  (1163, .iconst 3, 1, 0, 0, 0, 0, []),
  (1164, .iadd, 1, 0, 0, 0, 0, []),
  (1165, .iaload, 1, 0, 0, 0, 0, []),
  (1166, .invokevirtual 147, 3, 132, 3, 0, 4092, [(9, 0)]),
  (1169, .aload_n 2, 1, 2, 0, 0, 0, []),
  (1170, .aload_n 0, 1, 0, 0, 0, 0, []),
  (1171, .iload_n 3, 1, 3, 0, 0, 0, []),
  (1172, .iconst 1, 1, 0, 0, 0, 0, []),
  (1173, .iadd, 1, 0, 0, 0, 0, []),
  (1174, .iaload, 1, 0, 0, 0, 0, []),
  (1175, .aload_n 0, 1, 0, 0, 0, 0, []),
  (1176, .iload_n 3, 1, 3, 0, 0, 0, []),
  (1177, .iconst 2, 1, 0, 0, 0, 0, []),
  (1178, .iadd, 1, 0, 0, 0, 0, []),
  (1179, .iaload, 1, 0, 0, 0, 0, []),
  (1180, .aload_n 0, 1, 0, 0, 0, 0, []),
  (1181, .iload_n 3, 1, 3, 0, 0, 0, []),
  (1182, .iconst 3, 1, 0, 0, 0, 0, []),
  (1183, .iadd, 1, 0, 0, 0, 0, []),
  (1184, .iaload, 1, 0, 0, 0, 0, []),
  (1185, .invokevirtual 150, 3, 232, 3, 0, 6213, [(10, 0)]),
  (1188, .if_icmp .eq 175, 3, 1363, 0, 0, 0, []),
  (1191, .iconst 0, 1, 0, 0, 0, 0, []),
  (1192, .ireturn, 1, 0, 0, 0, 0, []),
  (1193, .aload_n 1, 1, 1, 0, 0, 0, []),
  (1194, .aload_n 0, 1, 0, 0, 0, 0, []),
  (1195, .iload_n 3, 1, 3, 0, 0, 0, []),
  (1196, .iconst 1, 1, 0, 0, 0, 0, []),
  (1197, .iadd, 1, 0, 0, 0, 0, []),
  (1198, .iaload, 1, 0, 0, 0, 0, []),
  (1199, .aload_n 0, 1, 0, 0, 0, 0, []),
  (1200, .iload_n 3, 1, 3, 0, 0, 0, []),
  (1201, .iconst 2, 1, 0, 0, 0, 0, []),
  (1202, .iadd, 1, 0, 0, 0, 0, []),
  (1203, .iaload, 1, 0, 0, 0, 0, []),
  (1204, .aload_n 0, 1, 0, 0, 0, 0, []),
  (1205, .iload_n 3, 1, 3, 0, 0, 0, []),
  (1206, .iconst 3, 1, 0, 0, 0, 0, []),
  (1207, .iadd, 1, 0, 0, 0, 0, []),
  (1208, .iaload, 1, 0, 0, 0, 0, []),
  (1209, .i2l, 1, 0, 0, 0, 0, []),
  (1210, .bipush 32, 2, 0, 0, 0, 0, []),
  (1212, .lshl, 1, 0, 0, 0, 0, []),
  (1213, .aload_n 0, 1, 0, 0, 0, 0, []),
  (1214, .iload_n 3, 1, 3, 0, 0, 0, []),
  (1215, .iconst 4, 1, 0, 0, 0, 0, []),
  (1216, .iadd, 1, 0, 0, 0, 0, []),
  (1217, .iaload, 1, 0, 0, 0, 0, []),
  (1218, .i2l, 1, 0, 0, 0, 0, []),
  (1219, .ldc2_w 151, 3, 0, 0, 0, 6233, [(4294967295, 0)]),
  (1222, .land, 1, 0, 0, 0, 0, []),
  (1223, .lor, 1, 0, 0, 0, 0, []),
  (1224, .invokevirtual 153, 3, 135, 3, 0, 4103, [(9, 0)]),
  (1227, .aload_n 2, 1, 2, 0, 0, 0, []),
  (1228, .aload_n 0, 1, 0, 0, 0, 0, []),
  (1229, .iload_n 3, 1, 3, 0, 0, 0, []),
  (1230, .iconst 1, 1, 0, 0, 0, 0, []),
  (1231, .iadd, 1, 0, 0, 0, 0, []),
  (1232, .iaload, 1, 0, 0, 0, 0, []),
  (1233, .aload_n 0, 1, 0, 0, 0, 0, []),
  (1234, .iload_n 3, 1, 3, 0, 0, 0, []),
  (1235, .iconst 2, 1, 0, 0, 0, 0, []),
  (1236, .iadd, 1, 0, 0, 0, 0, []),
  (1237, .iaload, 1, 0, 0, 0, 0, []),
  (1238, .aload_n 0, 1, 0, 0, 0, 0, []),
  (1239, .iload_n 3, 1, 3, 0, 0, 0, []),
  (1240, .iconst 3, 1, 0, 0, 0, 0, []),
  (1241, .iadd, 1, 0, 0, 0, 0, []),
  (1242, .iaload, 1, 0, 0, 0, 0, []),
  (1243, .i2l, 1, 0, 0, 0, 0, []),
  (1244, .bipush 32, 2, 0, 0, 0, 0, []),
  (1246, .lshl, 1, 0, 0, 0, 0, []),
  (1247, .aload_n 0, 1, 0, 0, 0, 0, []),
  (1248, .iload_n 3, 1, 3, 0, 0, 0, []),
  (1249, .iconst 4, 1, 0, 0, 0, 0, []),
  (1250, .iadd, 1, 0, 0, 0, 0, []),
  (1251, .iaload, 1, 0, 0, 0, 0, []),
  (1252, .i2l, 1, 0, 0, 0, 0, []),
  (1253, .ldc2_w 151, 3, 0, 0, 0, 6233, [(4294967295, 0)]),
  (1256, .land, 1, 0, 0, 0, 0, []),
  (1257, .lor, 1, 0, 0, 0, 0, []),
  (1258, .invokevirtual 157, 3, 233, 3, 0, 6217, [(10, 0)]),
  (1261, .if_icmp .eq 102, 3, 1363, 0, 0, 0, []),
  (1264, .iconst 0, 1, 0, 0, 0, 0, []),
  (1265, .ireturn, 1, 0, 0, 0, 0, []),
  (1266, .aload_n 1, 1, 1, 0, 0, 0, []),
  (1267, .aload_n 0, 1, 0, 0, 0, 0, []),
  (1268, .iload_n 3, 1, 3, 0, 0, 0, []),
  (1269, .iconst 1, 1, 0, 0, 0, 0, []),
  (1270, .iadd, 1, 0, 0, 0, 0, []),
  (1271, .iaload, 1, 0, 0, 0, 0, []),
  (1272, .aload_n 0, 1, 0, 0, 0, 0, []),
  (1273, .iload_n 3, 1, 3, 0, 0, 0, []),
  (1274, .iconst 2, 1, 0, 0, 0, 0, []),
  (1275, .iadd, 1, 0, 0, 0, 0, []),
  (1276, .iaload, 1, 0, 0, 0, 0, []),
  (1277, .invokevirtual 158, 3, 138, 2, 0, 4115, [(9, 0)]),
  (1280, .aload_n 2, 1, 2, 0, 0, 0, []),
  (1281, .aload_n 0, 1, 0, 0, 0, 0, []),
  (1282, .iload_n 3, 1, 3, 0, 0, 0, []),
  (1283, .iconst 1, 1, 0, 0, 0, 0, []),
  (1284, .iadd, 1, 0, 0, 0, 0, []),
  (1285, .iaload, 1, 0, 0, 0, 0, []),
  (1286, .aload_n 0, 1, 0, 0, 0, 0, []),
  (1287, .iload_n 3, 1, 3, 0, 0, 0, []),
  (1288, .iconst 2, 1, 0, 0, 0, 0, []),
  (1289, .iadd, 1, 0, 0, 0, 0, []),
  (1290, .iaload, 1, 0, 0, 0, 0, []),
  (1291, .invokevirtual 162, 3, 235, 2, 0, 6225, [(10, 0)]),
  (1294, .lcmp, 1, 0, 0, 0, 0, []),
  (1295, .ifCond .eq 68, 3, 1363, 0, 0, 0, []),
  (1298, .iconst 0, 1, 0, 0, 0, 0, []),
  (1299, .ireturn, 1, 0, 0, 0, 0, []),
  (1300, .aload_n 1, 1, 1, 0, 0, 0, []),
  (1301, .aload_n 0, 1, 0, 0, 0, 0, []),
  (1302, .iload_n 3, 1, 3, 0, 0, 0, []),
  (1303, .iconst 1, 1, 0, 0, 0, 0, []),
  (1304, .iadd, 1, 0, 0, 0, 0, []),
  (1305, .iaload, 1, 0, 0, 0, 0, []),
  (1306, .aload_n 0, 1, 0, 0, 0, 0, []),
  (1307, .iload_n 3, 1, 3, 0, 0, 0, []),
  (1308, .iconst 2, 1, 0, 0, 0, 0, []),
  (1309, .iadd, 1, 0, 0, 0, 0, []),
  (1310, .iaload, 1, 0, 0, 0, 0, []),
  (1311, .aload_n 0, 1, 0, 0, 0, 0, []),
  (1312, .iload_n 3, 1, 3, 0, 0, 0, []),
  (1313, .iconst 3, 1, 0, 0, 0, 0, []),
  (1314, .iadd, 1, 0, 0, 0, 0, []),
  (1315, .iaload, 1, 0, 0, 0, 0, []),
  (1316, .aload_n 0, 1, 0, 0, 0, 0, []),
  (1317, .iload_n 3, 1, 3, 0, 0, 0, []),
  (1318, .iconst 4, 1, 0, 0, 0, 0, []),
  (1319, .iadd, 1, 0, 0, 0, 0, []),
  (1320, .iaload, 1, 0, 0, 0, 0, []),
  (1321, .aload_n 0, 1, 0, 0, 0, 0, []),
  (1322, .iload_n 3, 1, 3, 0, 0, 0, []),
  (1323, .iconst 5, 1, 0, 0, 0, 0, []),
  (1324, .iadd, 1, 0, 0, 0, 0, []),
  (1325, .iaload, 1, 0, 0, 0, 0, []),
  (1326, .invokevirtual 163, 3, 139, 5, 0, 4119, [(9, 0)]),
  (1329, .aload_n 2, 1, 2, 0, 0, 0, []),
  (1330, .aload_n 0, 1, 0, 0, 0, 0, []),
  (1331, .iload_n 3, 1, 3, 0, 0, 0, []),
  (1332, .iconst 1, 1, 0, 0, 0, 0, []),
  (1333, .iadd, 1, 0, 0, 0, 0, []),
  (1334, .iaload, 1, 0, 0, 0, 0, []),
  (1335, .aload_n 0, 1, 0, 0, 0, 0, []),
  (1336, .iload_n 3, 1, 3, 0, 0, 0, []),
  (1337, .iconst 2, 1, 0, 0, 0, 0, []),
  (1338, .iadd, 1, 0, 0, 0, 0, []),
  (1339, .iaload, 1, 0, 0, 0, 0, []),
  (1340, .aload_n 0, 1, 0, 0, 0, 0, []),
  (1341, .iload_n 3, 1, 3, 0, 0, 0, []),
  (1342, .iconst 3, 1, 0, 0, 0, 0, []),
  (1343, .iadd, 1, 0, 0, 0, 0, []),
  (1344, .iaload, 1, 0, 0, 0, 0, []),
  (1345, .aload_n 0, 1, 0, 0, 0, 0, []),
  (1346, .iload_n 3, 1, 3, 0, 0, 0, []),
  (1347, .iconst 4, 1, 0, 0, 0, 0, []),
  (1348, .iadd, 1, 0, 0, 0, 0, []),
  (1349, .iaload, 1, 0, 0, 0, 0, []),
  (1350, .aload_n 0, 1, 0, 0, 0, 0, []),
  (1351, .iload_n 3, 1, 3, 0, 0, 0, []),
  (1352, .iconst 5, 1, 0, 0, 0, 0, []),
  (1353, .iadd, 1, 0, 0, 0, 0, []),
  (1354, .iaload, 1, 0, 0, 0, 0, []),
  (1355, .invokevirtual 167, 3, 236, 5, 0, 6229, [(10, 0)]),
  (1358, .if_icmp .eq 5, 3, 1363, 0, 0, 0, []),
  (1361, .iconst 0, 1, 0, 0, 0, 0, []),
  (1362, .ireturn, 1, 0, 0, 0, 0, []),
  (1363, .iinc 3 6, 3, 3, 0, 0, 0, []),
  (1366, .goto (-1348), 3, 18, 0, 0, 0, []),
  (1369, .iconst 1, 1, 0, 0, 0, 0, []),
  (1370, .ireturn, 1, 0, 0, 0, 0, [])]
def mtab : List MI := [m0, m1, m2, m3, m4, m5, m6, m7, m8, m9, m10, m11, m12, m13, m14, m15, m16, m17, m18, m19, m20, m21, m22, m23, m24, m25, m26, m27, m28, m29, m30, m31, m32, m33, m34, m35, m36, m37, m38, m39, m40, m41, m42, m43, m44, m45, m46, m47, m48, m49, m50, m51, m52, m53, m54, m55, m56, m57, m58, m59, m60, m61, m62, m63, m64, m65, m66, m67, m68, m69, m70, m71, m72, m73, m74, m75, m76, m77, m78, m79, m80, m81, m82, m83, m84, m85, m86, m87, m88, m89, m90, m91, m92, m93, m94, m95, m96, m97, m98, m99, m100, m101, m102, m103, m104, m105, m106, m107, m108, m109, m110, m111, m112, m113, m114, m115, m116, m117, m118, m119, m120, m121, m122, m123, m124, m125, m126, m127, m128, m129, m130, m131, m132, m133, m134, m135, m136, m137, m138, m139, m140, m141, m142, m143, m144, m145, m146, m147, m148, m149, m150, m151, m152, m153, m154, m155, m156, m157, m158, m159, m160, m161, m162, m163, m164, m165, m166, m167, m168, m169, m170, m171, m172, m173, m174, m175, m176, m177, m178, m179, m180, m181, m182, m183, m184, m185, m186, m187, m188, m189, m190, m191, m192, m193, m194, m195, m196, m197, m198, m199, m200, m201, m202, m203, m204, m205, m206, m207, m208, m209, m210, m211, m212, m213, m214, m215, m216, m217, m218, m219, m220, m221, m222, m223, m224, m225, m226, m227, m228, m229, m230, m231, m232, m233, m234, m235, m236]
end
section
def mY (mi : MI) : MethodName := mi.1
def mB (mi : MI) : ByteArray := mi.2.1
def mL (mi : MI) : Nat := mi.2.2.1
def mR (mi : MI) : Option FieldType := mi.2.2.2.1
def mC (mi : MI) : List XE := mi.2.2.2.2.1
def mN (mi : MI) : Nat := mi.2.2.2.2.2.1
def mP (mi : MI) : List Nat := mi.2.2.2.2.2.2
def recvOk (K : XK) (k : Nat) (t : List (Int × Nat)) : Bool := match K[k]?, t with
  | some (.inr ci), [(z, _)] => decide (z = (ci : Int))
  | none, [(z, _)] => decide (z = 99 ∧ 1000000 ≤ k ∧ k < 1000008)
  | _, _ => false
/-- a call: which method, what it is given, what stays -/
def cll (e : XE) (st : List Value) (K : XK) : Option (Nat × List Value × List Value) := match e with
  | (_, i, _, a, b, _, _, t) => match i with
    | .invokevirtual _ => match st.drop b with
      | .ref k :: rest => if b < st.length ∧ sWord rest = true ∧ recvOk K k t = true then some (a, .ref k :: (st.take b).reverse, rest) else none
      | _ => none
    | .invokespecial _ => match st.drop b with
      | .ref k :: rest => if b < st.length ∧ sWord rest = true ∧ k < K.length then some (a, .ref k :: (st.take b).reverse, rest) else none
      | _ => none
    | .invokestatic _ => if b ≤ st.length ∧ sWord (st.drop b) = true then some (a, (st.take b).reverse, st.drop b) else none
    | _ => none
/-- n steps at most, d calls deep at most: what the method answers, and the world behind it -/
def exec (X : Nat × (Nat → Int32)) : Nat → Nat → MI → Nat → XL → List Value → XW → Option (Option Value × XW)
  | 0, _, _, _, _, _, _ => none
  | n + 1, d, mi, pc, ls, st, w => match cdx (mC mi) pc with
    | none => none
    | some e => match grp e with
      | 5 => match rtn (mR mi) e st with
        | some r => some (r, w)
        | none => none
      | 6 => match cll e st w.1, d with
        | some (a, args, rest), d' + 1 => match mtab[a]? with
          | some mj => if (entL args).length ≤ mL mj then (match exec X n d' mj 0 (entX (mL mj) args) [] w with
            | some (r, w1) => exec X n (d' + 1) mi (pc + 3) ls (r.toList ++ rest) w1
            | none => none) else none
          | none => none
        | _, _ => none
      | _ => match stp X e pc ls st w with
        | some (pc', ls', st', w') => exec X n d mi pc' ls' st' w'
        | none => none
/-! What is checked of each method once: its bytes decode to its entries, its links are in lw_tbl. -/
def tbk (k : Nat) : List Jvm.Cond := match k with
  | 0 => k2_sels lw_privs
  | 1 => tables_1_1
  | 2 => tables_1_2
  | 3 => tables_1_3
  | 4 => tables_1_4
  | 5 => tables_1_5
  | _ => tables_1_6
def wd (p : Nat) (c : Jvm.Cond) : Bool := decide ((tbk (p / 1000))[p % 1000]? = some c)
theorem wd_in {p : Nat} {c : Jvm.Cond} (h : wd p c = true) : c ∈ lw_tbl := by
  have h1 : (tbk (p / 1000))[p % 1000]? = some c := of_decide_eq_true h
  have h2 : c ∈ tbk (p / 1000) := List.mem_of_getElem? h1
  unfold lw_tbl tables_1
  generalize p / 1000 = k at h2
  simp only [List.mem_append]
  match k, h2 with
  | 0, h2 => exact Or.inl h2
  | 1, h2 => exact Or.inr (Or.inl h2)
  | 2, h2 => exact Or.inr (Or.inr (Or.inl h2))
  | 3, h2 => exact Or.inr (Or.inr (Or.inr (Or.inl h2)))
  | 4, h2 => exact Or.inr (Or.inr (Or.inr (Or.inr (Or.inl h2))))
  | 5, h2 => exact Or.inr (Or.inr (Or.inr (Or.inr (Or.inr (Or.inl h2)))))
  | k + 6, h2 => exact Or.inr (Or.inr (Or.inr (Or.inr (Or.inr (Or.inr h2)))))
def tswOk (pc : Nat) (lo : Int) : List Int → List (Int × Nat) → Bool
  | [], [] => true
  | o :: os, q :: ts => decide (q.1 = lo) && (decide ((pc : Int) + o = (q.2 : Int)) && tswOk pc (lo + 1) os ts)
  | _, _ => false
def lswOk (pc : Nat) : List (Int × Int) → List (Int × Nat) → Bool
  | [], [] => true
  | o :: os, q :: ts => decide (o.1 = q.1) && (decide ((pc : Int) + o.2 = (q.2 : Int)) && lswOk pc os ts)
  | _, _ => false
def clR (ci : Nat) : String := match classes[ci]? with
  | some r => r.1
  | none => ""
def clF (ci j : Nat) : String × String × String × Bool := match classes[ci]? with
  | some r => r.2.1 j
  | none => ("", "", "", false)
def strT (i : Nat) : String := (["balk", "rise", "fall", "will", " ", "cwkvln", "<=>", ")"] : List String).getD i ""
def strK (i : Nat) : Nat := ([62, 64, 65, 66, 43, 101, 107, 99] : List Nat).getD i 0
def sttT (b : Nat) : String × String × String := if b = 0 then ("LeavesObject", "KIND_ABOVE", "[I") else if b = 1 then ("LeavesObject", "BODIES", "[I") else if b = 2 then ("LeavesObject", "ROWS_BEGIN", "[I") else ("jdk/internal/util/Preconditions", "SIOOBE_FORMATTER", "Ljava/util/function/BiFunction;")
def calOk (y : MethodName) (ix : Nat) (e : XE) (mj : MI) : Bool := match e with
  | (_, i, n, _, b, c, p, t) => n == 3 && (b == mN mj && (match i with
    | .invokevirtual _ => (match t with
        | [(z, _)] => (decide (z = 99) && decide ((mY mj).cls = "java/lang/String")) || (decide (0 ≤ z ∧ z.toNat < 11) && decide (clR z.toNat = (mY mj).cls))
        | _ => false) && (decide ((mP mj)[3]? ≠ some 9999) && ((if c = 0 then wd p (.methodLink y.cls ix (mY mj)) else if c = 1 then wd p (.methodLinkNest y.cls ix (mY mj) "LeavesObject") else false)))
    | .invokespecial _ => decide ((mY mj).name = "<init>") && (decide (mR mj = none) && (if c = 2 then wd p (.methodLink y.cls ix (mY mj)) else if c = 3 then wd p (.methodLinkNest y.cls ix (mY mj) "LeavesObject") else false))
    | .invokestatic _ => if c = 4 then (decide ((mY mj).cls = y.cls) && wd p (.methodLink y.cls ix (mY mj))) else if c = 5 then wd p (.methodLink y.cls ix (mY mj)) else if c = 6 then wd p (.methodLinkNest y.cls ix (mY mj) "LeavesObject") else false
    | _ => false))
def lnkOk (y : MethodName) (e : XE) : Bool := match e with
  | (pc, i, n, a, b, c, p, t) => match i with
    | .goto off => n == 3 && decide ((pc : Int) + off = (a : Int))
    | .ifCond _ off => n == 3 && decide ((pc : Int) + off = (a : Int))
    | .if_icmp _ off => n == 3 && decide ((pc : Int) + off = (a : Int))
    | .ifnull off => n == 3 && decide ((pc : Int) + off = (a : Int))
    | .ifnonnull off => n == 3 && decide ((pc : Int) + off = (a : Int))
    | .tableswitch d lo hi offs => decide ((pc : Int) + d = (a : Int)) && (decide (hi = lo + (offs.size : Int) - 1) && tswOk pc lo offs.toList t)
    | .lookupswitch d ps => decide ((pc : Int) + d = (a : Int)) && (((ps.toList.zip (ps.toList.drop 1)).all (fun (a, next) => a.1 < next.1)) && lswOk pc ps.toList t)
    | .iload_n k => n == 1 && (k : Nat) == a
    | .lload_n k => n == 1 && (k : Nat) == a
    | .aload_n k => n == 1 && (k : Nat) == a
    | .istore_n k => n == 1 && (k : Nat) == a
    | .lstore_n k => n == 1 && (k : Nat) == a
    | .astore_n k => n == 1 && (k : Nat) == a
    | .iload k => n == 2 && k == a
    | .aload k => n == 2 && k == a
    | .istore k => n == 2 && k == a
    | .astore k => n == 2 && k == a
    | .iinc k _ => n == 3 && k == a
    | .bipush _ => n == 2
    | .sipush _ => n == 3
    | .ldc_w ix => n == 3 && (match t with
      | [(z, _)] => wd p (.constant y.cls ix (Int32.ofInt z))
      | _ => false)
    | .ldc2_w ix => n == 3 && (match t with
      | [(z, _)] => wd p (.constantLong y.cls ix (Int64.ofInt z))
      | _ => false)
    | .ldc ix => n == 2 && (decide (a < 8) && (decide (y.cls = "LeavesObject$Text") && (decide (strK a = ix) && wd p (.stringRef "LeavesObject$Text" ix (strT a)))))
    | .getfield ix => n == 3 && (if c = 0 then decide (a < 11 ∧ b < clN a) && wd p (.fieldLink y.cls ix (clF a b).1 (clF a b).2.1 (clF a b).2.2.1)
        else if c = 1 then decide (b < 2) && wd p (.fieldLink y.cls ix "java/lang/String" (if b = 0 then "coder" else "value") (if b = 0 then "B" else "[B")) else false)
    | .putfield ix => n == 3 && (decide (a < 11 ∧ b < clN a) && (wd p (.fieldLink y.cls ix (clF a b).1 (clF a b).2.1 (clF a b).2.2.1) &&
        (if c = 0 then decide ((clF a b).2.2.2 = false) else decide ((clF a b).2.2.2 = true ∧ y.name = "<init>" ∧ (clF a b).1 = y.cls))))
    | .getstatic ix => n == 3 && (if c = 0 then decide (b < 3 ∨ b = 20) && (match t with
          | [] => wd p (.fieldLink y.cls ix (sttT b).1 (sttT b).2.1 (sttT b).2.2)
          | _ => decide (b < 3) && wd p (.fieldLinkNest y.cls ix (sttT b).1 (sttT b).2.1 (sttT b).2.2 "LeavesObject"))
        else decide (b = 1) && wd p (.fieldLink y.cls ix "java/lang/String" "COMPACT_STRINGS" "Z"))
    | .new ix => n == 3 && (decide (a < 11) && wd p (.classLink y.cls ix (clR a)))
    | .anewarray ix => n == 3 && (decide (a < 11) && (wd p (.classLink y.cls ix (clR a)) && decide (a = 1 ∨ a = 2 ∨ a = 6)))
    | .newarray _ => n == 2
    | .invokevirtual ix => (match mtab[a]? with
      | some mj => calOk y ix e mj
      | none => false)
    | .invokespecial ix => if c = 99 then true else if c = 21 then n == 3 && wd p (.methodLink y.cls ix Lib.objectInit) else (match mtab[a]? with
      | some mj => calOk y ix e mj
      | none => false)
    | .invokestatic ix => if c = 99 then true else if c = 20 then n == 3 && wd p (.methodLink y.cls ix arraycopyName) else (match mtab[a]? with
      | some mj => calOk y ix e mj
      | none => false)
    | _ => n == 1
def eOk (y : MethodName) (bytes : ByteArray) (e : XE) : Bool := decide (decode bytes e.1 = .ok (e.2.1, e.2.2.1)) && lnkOk y e
/-- of a method itself: its words -/
def mOk (mi : MI) : Bool := match mP mi with
  | [pc, pi, ps, pv] => wd pc (.code (mY mi) (mB mi) (mL mi) (mR mi)) && (wd pi (.initialized (mY mi).cls) && ((if pv = 9999 then wd ps (.static (mY mi)) || ((decide ((mY mi).name = "<init>")) && wd ps (.instanceMethod (mY mi))) else wd ps (.instanceMethod (mY mi)) && wd pv (.selects (mY mi).cls (mY mi) (mY mi))) &&
      (decide (mL mi ≤ 20) && (plainFor (mY mi) && (decide ((mY mi).cls ≠ "java/lang/invoke/MethodHandle" ∧ (mY mi).cls ≠ "java/lang/invoke/VarHandle") && decide ((parseMethodDescriptor (mY mi).desc).map (fun d => d.parameters.length) = some (mN mi)))))))
  | _ => false
end
section
set_option maxRecDepth 100000 in
theorem ok0 : (mOk m0 && k0.all (eOk (mY m0) (mB m0))) = true := by decide +kernel
set_option maxRecDepth 100000 in
theorem ok1 : (mOk m1 && k1.all (eOk (mY m1) (mB m1))) = true := by decide +kernel
set_option maxRecDepth 100000 in
theorem ok2 : (mOk m2 && k2.all (eOk (mY m2) (mB m2))) = true := by decide +kernel
set_option maxRecDepth 100000 in
theorem ok3 : (mOk m3 && k3.all (eOk (mY m3) (mB m3))) = true := by decide +kernel
set_option maxRecDepth 100000 in
theorem ok4 : (mOk m4 && k4.all (eOk (mY m4) (mB m4))) = true := by decide +kernel
set_option maxRecDepth 100000 in
theorem ok5 : (mOk m5 && k5.all (eOk (mY m5) (mB m5))) = true := by decide +kernel
set_option maxRecDepth 100000 in
theorem ok6 : (mOk m6 && k6.all (eOk (mY m6) (mB m6))) = true := by decide +kernel
set_option maxRecDepth 100000 in
theorem ok7 : (mOk m7 && k7.all (eOk (mY m7) (mB m7))) = true := by decide +kernel
set_option maxRecDepth 100000 in
theorem ok8 : (mOk m8 && k8.all (eOk (mY m8) (mB m8))) = true := by decide +kernel
set_option maxRecDepth 100000 in
theorem ok9 : (mOk m9 && k9.all (eOk (mY m9) (mB m9))) = true := by decide +kernel
set_option maxRecDepth 100000 in
theorem ok10 : (mOk m10 && k10.all (eOk (mY m10) (mB m10))) = true := by decide +kernel
set_option maxRecDepth 100000 in
theorem ok11 : (mOk m11 && k11.all (eOk (mY m11) (mB m11))) = true := by decide +kernel
set_option maxRecDepth 100000 in
theorem ok12 : (mOk m12 && k12.all (eOk (mY m12) (mB m12))) = true := by decide +kernel
set_option maxRecDepth 100000 in
theorem ok13 : (mOk m13 && k13.all (eOk (mY m13) (mB m13))) = true := by decide +kernel
set_option maxRecDepth 100000 in
theorem ok14 : (mOk m14 && k14.all (eOk (mY m14) (mB m14))) = true := by decide +kernel
set_option maxRecDepth 100000 in
theorem ok15 : (mOk m15 && k15.all (eOk (mY m15) (mB m15))) = true := by decide +kernel
set_option maxRecDepth 100000 in
theorem ok16 : (mOk m16 && k16.all (eOk (mY m16) (mB m16))) = true := by decide +kernel
set_option maxRecDepth 100000 in
theorem ok17 : (mOk m17 && k17.all (eOk (mY m17) (mB m17))) = true := by decide +kernel
set_option maxRecDepth 100000 in
theorem ok18 : (mOk m18 && k18.all (eOk (mY m18) (mB m18))) = true := by decide +kernel
set_option maxRecDepth 100000 in
theorem ok19 : (mOk m19 && k19.all (eOk (mY m19) (mB m19))) = true := by decide +kernel
set_option maxRecDepth 100000 in
theorem ok20 : (mOk m20 && k20.all (eOk (mY m20) (mB m20))) = true := by decide +kernel
set_option maxRecDepth 100000 in
theorem ok21 : (mOk m21 && k21.all (eOk (mY m21) (mB m21))) = true := by decide +kernel
set_option maxRecDepth 100000 in
theorem ok22 : (mOk m22 && k22.all (eOk (mY m22) (mB m22))) = true := by decide +kernel
set_option maxRecDepth 100000 in
theorem ok23 : (mOk m23 && k23.all (eOk (mY m23) (mB m23))) = true := by decide +kernel
set_option maxRecDepth 100000 in
theorem ok24 : (mOk m24 && k24.all (eOk (mY m24) (mB m24))) = true := by decide +kernel
set_option maxRecDepth 100000 in
theorem ok25 : (mOk m25 && k25.all (eOk (mY m25) (mB m25))) = true := by decide +kernel
set_option maxRecDepth 100000 in
theorem ok26 : (mOk m26 && k26.all (eOk (mY m26) (mB m26))) = true := by decide +kernel
set_option maxRecDepth 100000 in
theorem ok27 : (mOk m27 && k27.all (eOk (mY m27) (mB m27))) = true := by decide +kernel
set_option maxRecDepth 100000 in
theorem ok28 : (mOk m28 && k28.all (eOk (mY m28) (mB m28))) = true := by decide +kernel
set_option maxRecDepth 100000 in
theorem ok29 : (mOk m29 && k29.all (eOk (mY m29) (mB m29))) = true := by decide +kernel
set_option maxRecDepth 100000 in
theorem ok30 : (mOk m30 && k30.all (eOk (mY m30) (mB m30))) = true := by decide +kernel
set_option maxRecDepth 100000 in
theorem ok31 : (mOk m31 && k31.all (eOk (mY m31) (mB m31))) = true := by decide +kernel
set_option maxRecDepth 100000 in
theorem ok32 : (mOk m32 && k32.all (eOk (mY m32) (mB m32))) = true := by decide +kernel
set_option maxRecDepth 100000 in
theorem ok33 : (mOk m33 && k33.all (eOk (mY m33) (mB m33))) = true := by decide +kernel
set_option maxRecDepth 100000 in
theorem ok34 : (mOk m34 && k34.all (eOk (mY m34) (mB m34))) = true := by decide +kernel
set_option maxRecDepth 100000 in
theorem ok35 : (mOk m35 && k35.all (eOk (mY m35) (mB m35))) = true := by decide +kernel
set_option maxRecDepth 100000 in
theorem ok36 : (mOk m36 && k36.all (eOk (mY m36) (mB m36))) = true := by decide +kernel
set_option maxRecDepth 100000 in
theorem ok37 : (mOk m37 && k37.all (eOk (mY m37) (mB m37))) = true := by decide +kernel
set_option maxRecDepth 100000 in
theorem ok38 : (mOk m38 && k38.all (eOk (mY m38) (mB m38))) = true := by decide +kernel
set_option maxRecDepth 100000 in
theorem ok39 : (mOk m39 && k39.all (eOk (mY m39) (mB m39))) = true := by decide +kernel
set_option maxRecDepth 100000 in
theorem ok40 : (mOk m40 && k40.all (eOk (mY m40) (mB m40))) = true := by decide +kernel
set_option maxRecDepth 100000 in
theorem ok41 : (mOk m41 && k41.all (eOk (mY m41) (mB m41))) = true := by decide +kernel
set_option maxRecDepth 100000 in
theorem ok42 : (mOk m42 && k42.all (eOk (mY m42) (mB m42))) = true := by decide +kernel
set_option maxRecDepth 100000 in
theorem ok43 : (mOk m43 && k43.all (eOk (mY m43) (mB m43))) = true := by decide +kernel
set_option maxRecDepth 100000 in
theorem ok44 : (mOk m44 && k44.all (eOk (mY m44) (mB m44))) = true := by decide +kernel
set_option maxRecDepth 100000 in
theorem ok45 : (mOk m45 && k45.all (eOk (mY m45) (mB m45))) = true := by decide +kernel
set_option maxRecDepth 100000 in
theorem ok46 : (mOk m46 && k46.all (eOk (mY m46) (mB m46))) = true := by decide +kernel
set_option maxRecDepth 100000 in
theorem ok47 : (mOk m47 && k47.all (eOk (mY m47) (mB m47))) = true := by decide +kernel
set_option maxRecDepth 100000 in
theorem ok48 : (mOk m48 && k48.all (eOk (mY m48) (mB m48))) = true := by decide +kernel
set_option maxRecDepth 100000 in
theorem ok49 : (mOk m49 && k49.all (eOk (mY m49) (mB m49))) = true := by decide +kernel
set_option maxRecDepth 100000 in
theorem ok50 : (mOk m50 && k50.all (eOk (mY m50) (mB m50))) = true := by decide +kernel
set_option maxRecDepth 100000 in
theorem ok51 : (mOk m51 && k51.all (eOk (mY m51) (mB m51))) = true := by decide +kernel
set_option maxRecDepth 100000 in
theorem ok52 : (mOk m52 && k52.all (eOk (mY m52) (mB m52))) = true := by decide +kernel
set_option maxRecDepth 100000 in
theorem ok53 : (mOk m53 && k53.all (eOk (mY m53) (mB m53))) = true := by decide +kernel
set_option maxRecDepth 100000 in
theorem ok54 : (mOk m54 && k54.all (eOk (mY m54) (mB m54))) = true := by decide +kernel
set_option maxRecDepth 100000 in
theorem ok55 : (mOk m55 && k55.all (eOk (mY m55) (mB m55))) = true := by decide +kernel
set_option maxRecDepth 100000 in
theorem ok56 : (mOk m56 && k56.all (eOk (mY m56) (mB m56))) = true := by decide +kernel
set_option maxRecDepth 100000 in
theorem ok57 : (mOk m57 && k57.all (eOk (mY m57) (mB m57))) = true := by decide +kernel
set_option maxRecDepth 100000 in
theorem ok58 : (mOk m58 && k58.all (eOk (mY m58) (mB m58))) = true := by decide +kernel
set_option maxRecDepth 100000 in
theorem ok59 : (mOk m59 && k59.all (eOk (mY m59) (mB m59))) = true := by decide +kernel
set_option maxRecDepth 100000 in
theorem ok60 : (mOk m60 && k60.all (eOk (mY m60) (mB m60))) = true := by decide +kernel
set_option maxRecDepth 100000 in
theorem ok61 : (mOk m61 && k61.all (eOk (mY m61) (mB m61))) = true := by decide +kernel
set_option maxRecDepth 100000 in
theorem ok62 : (mOk m62 && k62.all (eOk (mY m62) (mB m62))) = true := by decide +kernel
set_option maxRecDepth 100000 in
theorem ok63 : (mOk m63 && k63.all (eOk (mY m63) (mB m63))) = true := by decide +kernel
set_option maxRecDepth 100000 in
theorem ok64 : (mOk m64 && k64.all (eOk (mY m64) (mB m64))) = true := by decide +kernel
set_option maxRecDepth 100000 in
theorem ok65 : (mOk m65 && k65.all (eOk (mY m65) (mB m65))) = true := by decide +kernel
set_option maxRecDepth 100000 in
theorem ok66 : (mOk m66 && k66.all (eOk (mY m66) (mB m66))) = true := by decide +kernel
set_option maxRecDepth 100000 in
theorem ok67 : (mOk m67 && k67.all (eOk (mY m67) (mB m67))) = true := by decide +kernel
set_option maxRecDepth 100000 in
theorem ok68 : (mOk m68 && k68.all (eOk (mY m68) (mB m68))) = true := by decide +kernel
set_option maxRecDepth 100000 in
theorem ok69 : (mOk m69 && k69.all (eOk (mY m69) (mB m69))) = true := by decide +kernel
set_option maxRecDepth 100000 in
theorem ok70 : (mOk m70 && k70.all (eOk (mY m70) (mB m70))) = true := by decide +kernel
set_option maxRecDepth 100000 in
theorem ok71 : (mOk m71 && k71.all (eOk (mY m71) (mB m71))) = true := by decide +kernel
set_option maxRecDepth 100000 in
theorem ok72 : (mOk m72 && k72.all (eOk (mY m72) (mB m72))) = true := by decide +kernel
set_option maxRecDepth 100000 in
theorem ok73 : (mOk m73 && k73.all (eOk (mY m73) (mB m73))) = true := by decide +kernel
set_option maxRecDepth 100000 in
theorem ok74 : (mOk m74 && k74.all (eOk (mY m74) (mB m74))) = true := by decide +kernel
set_option maxRecDepth 100000 in
theorem ok75 : (mOk m75 && k75.all (eOk (mY m75) (mB m75))) = true := by decide +kernel
set_option maxRecDepth 100000 in
theorem ok76 : (mOk m76 && k76.all (eOk (mY m76) (mB m76))) = true := by decide +kernel
set_option maxRecDepth 100000 in
theorem ok77 : (mOk m77 && k77.all (eOk (mY m77) (mB m77))) = true := by decide +kernel
set_option maxRecDepth 100000 in
theorem ok78 : (mOk m78 && k78.all (eOk (mY m78) (mB m78))) = true := by decide +kernel
set_option maxRecDepth 100000 in
theorem ok79 : (mOk m79 && k79.all (eOk (mY m79) (mB m79))) = true := by decide +kernel
set_option maxRecDepth 100000 in
theorem ok80 : (mOk m80 && k80.all (eOk (mY m80) (mB m80))) = true := by decide +kernel
set_option maxRecDepth 100000 in
theorem ok81 : (mOk m81 && k81.all (eOk (mY m81) (mB m81))) = true := by decide +kernel
set_option maxRecDepth 100000 in
theorem ok82 : (mOk m82 && k82.all (eOk (mY m82) (mB m82))) = true := by decide +kernel
set_option maxRecDepth 100000 in
theorem ok83 : (mOk m83 && k83.all (eOk (mY m83) (mB m83))) = true := by decide +kernel
set_option maxRecDepth 100000 in
theorem ok84 : (mOk m84 && k84.all (eOk (mY m84) (mB m84))) = true := by decide +kernel
set_option maxRecDepth 100000 in
theorem ok85 : (mOk m85 && k85.all (eOk (mY m85) (mB m85))) = true := by decide +kernel
set_option maxRecDepth 100000 in
theorem ok86 : (mOk m86 && k86.all (eOk (mY m86) (mB m86))) = true := by decide +kernel
set_option maxRecDepth 100000 in
theorem ok87 : (mOk m87 && k87.all (eOk (mY m87) (mB m87))) = true := by decide +kernel
set_option maxRecDepth 100000 in
theorem ok88 : (mOk m88 && k88.all (eOk (mY m88) (mB m88))) = true := by decide +kernel
set_option maxRecDepth 100000 in
theorem ok89 : (mOk m89 && k89.all (eOk (mY m89) (mB m89))) = true := by decide +kernel
set_option maxRecDepth 100000 in
theorem ok90 : (mOk m90 && k90.all (eOk (mY m90) (mB m90))) = true := by decide +kernel
set_option maxRecDepth 100000 in
theorem ok91 : (mOk m91 && k91.all (eOk (mY m91) (mB m91))) = true := by decide +kernel
set_option maxRecDepth 100000 in
theorem ok92 : (mOk m92 && k92.all (eOk (mY m92) (mB m92))) = true := by decide +kernel
set_option maxRecDepth 100000 in
theorem ok93 : (mOk m93 && k93.all (eOk (mY m93) (mB m93))) = true := by decide +kernel
set_option maxRecDepth 100000 in
theorem ok94 : (mOk m94 && k94.all (eOk (mY m94) (mB m94))) = true := by decide +kernel
set_option maxRecDepth 100000 in
theorem ok95 : (mOk m95 && k95.all (eOk (mY m95) (mB m95))) = true := by decide +kernel
set_option maxRecDepth 100000 in
theorem ok96 : (mOk m96 && k96.all (eOk (mY m96) (mB m96))) = true := by decide +kernel
set_option maxRecDepth 100000 in
theorem ok97 : (mOk m97 && k97.all (eOk (mY m97) (mB m97))) = true := by decide +kernel
set_option maxRecDepth 100000 in
theorem ok98 : (mOk m98 && k98.all (eOk (mY m98) (mB m98))) = true := by decide +kernel
set_option maxRecDepth 100000 in
theorem ok99 : (mOk m99 && k99.all (eOk (mY m99) (mB m99))) = true := by decide +kernel
set_option maxRecDepth 100000 in
theorem ok100 : (mOk m100 && k100.all (eOk (mY m100) (mB m100))) = true := by decide +kernel
set_option maxRecDepth 100000 in
theorem ok101 : (mOk m101 && k101.all (eOk (mY m101) (mB m101))) = true := by decide +kernel
set_option maxRecDepth 100000 in
theorem ok102 : (mOk m102 && k102.all (eOk (mY m102) (mB m102))) = true := by decide +kernel
set_option maxRecDepth 100000 in
theorem ok103 : (mOk m103 && k103.all (eOk (mY m103) (mB m103))) = true := by decide +kernel
set_option maxRecDepth 100000 in
theorem ok104 : (mOk m104 && k104.all (eOk (mY m104) (mB m104))) = true := by decide +kernel
set_option maxRecDepth 100000 in
theorem ok105 : (mOk m105 && k105.all (eOk (mY m105) (mB m105))) = true := by decide +kernel
set_option maxRecDepth 100000 in
theorem ok106 : (mOk m106 && k106.all (eOk (mY m106) (mB m106))) = true := by decide +kernel
set_option maxRecDepth 100000 in
theorem ok107 : (mOk m107 && k107.all (eOk (mY m107) (mB m107))) = true := by decide +kernel
set_option maxRecDepth 100000 in
theorem ok108 : (mOk m108 && k108.all (eOk (mY m108) (mB m108))) = true := by decide +kernel
set_option maxRecDepth 100000 in
theorem ok109 : (mOk m109 && k109.all (eOk (mY m109) (mB m109))) = true := by decide +kernel
set_option maxRecDepth 100000 in
theorem ok110 : (mOk m110 && k110.all (eOk (mY m110) (mB m110))) = true := by decide +kernel
set_option maxRecDepth 100000 in
theorem ok111 : (mOk m111 && k111.all (eOk (mY m111) (mB m111))) = true := by decide +kernel
set_option maxRecDepth 100000 in
theorem ok112 : (mOk m112 && k112.all (eOk (mY m112) (mB m112))) = true := by decide +kernel
set_option maxRecDepth 100000 in
theorem ok113 : (mOk m113 && k113.all (eOk (mY m113) (mB m113))) = true := by decide +kernel
set_option maxRecDepth 100000 in
theorem ok114 : (mOk m114 && k114.all (eOk (mY m114) (mB m114))) = true := by decide +kernel
set_option maxRecDepth 100000 in
theorem ok115 : (mOk m115 && k115.all (eOk (mY m115) (mB m115))) = true := by decide +kernel
set_option maxRecDepth 100000 in
theorem ok116 : (mOk m116 && k116.all (eOk (mY m116) (mB m116))) = true := by decide +kernel
set_option maxRecDepth 100000 in
theorem ok117 : (mOk m117 && k117.all (eOk (mY m117) (mB m117))) = true := by decide +kernel
set_option maxRecDepth 100000 in
theorem ok118 : (mOk m118 && k118.all (eOk (mY m118) (mB m118))) = true := by decide +kernel
set_option maxRecDepth 100000 in
theorem ok119 : (mOk m119 && k119.all (eOk (mY m119) (mB m119))) = true := by decide +kernel
set_option maxRecDepth 100000 in
theorem ok120 : (mOk m120 && k120.all (eOk (mY m120) (mB m120))) = true := by decide +kernel
set_option maxRecDepth 100000 in
theorem ok121 : (mOk m121 && k121.all (eOk (mY m121) (mB m121))) = true := by decide +kernel
set_option maxRecDepth 100000 in
theorem ok123 : (mOk m123 && k123.all (eOk (mY m123) (mB m123))) = true := by decide +kernel
set_option maxRecDepth 100000 in
theorem ok124 : (mOk m124 && k124.all (eOk (mY m124) (mB m124))) = true := by decide +kernel
set_option maxRecDepth 100000 in
theorem ok125 : (mOk m125 && k125.all (eOk (mY m125) (mB m125))) = true := by decide +kernel
set_option maxRecDepth 100000 in
theorem ok126 : (mOk m126 && k126.all (eOk (mY m126) (mB m126))) = true := by decide +kernel
set_option maxRecDepth 100000 in
theorem ok127 : (mOk m127 && k127.all (eOk (mY m127) (mB m127))) = true := by decide +kernel
set_option maxRecDepth 100000 in
theorem ok128 : (mOk m128 && k128.all (eOk (mY m128) (mB m128))) = true := by decide +kernel
set_option maxRecDepth 100000 in
theorem ok129 : (mOk m129 && k129.all (eOk (mY m129) (mB m129))) = true := by decide +kernel
set_option maxRecDepth 100000 in
theorem ok130 : (mOk m130 && k130.all (eOk (mY m130) (mB m130))) = true := by decide +kernel
set_option maxRecDepth 100000 in
theorem ok131 : (mOk m131 && k131.all (eOk (mY m131) (mB m131))) = true := by decide +kernel
set_option maxRecDepth 100000 in
theorem ok132 : (mOk m132 && k132.all (eOk (mY m132) (mB m132))) = true := by decide +kernel
set_option maxRecDepth 100000 in
theorem ok133 : (mOk m133 && k133.all (eOk (mY m133) (mB m133))) = true := by decide +kernel
set_option maxRecDepth 100000 in
theorem ok134 : (mOk m134 && k134.all (eOk (mY m134) (mB m134))) = true := by decide +kernel
set_option maxRecDepth 100000 in
theorem ok135 : (mOk m135 && k135.all (eOk (mY m135) (mB m135))) = true := by decide +kernel
set_option maxRecDepth 100000 in
theorem ok136 : (mOk m136 && k136.all (eOk (mY m136) (mB m136))) = true := by decide +kernel
set_option maxRecDepth 100000 in
theorem ok137 : (mOk m137 && k137.all (eOk (mY m137) (mB m137))) = true := by decide +kernel
set_option maxRecDepth 100000 in
theorem ok138 : (mOk m138 && k138.all (eOk (mY m138) (mB m138))) = true := by decide +kernel
set_option maxRecDepth 100000 in
theorem ok139 : (mOk m139 && k139.all (eOk (mY m139) (mB m139))) = true := by decide +kernel
set_option maxRecDepth 100000 in
theorem ok141 : (mOk m141 && k141.all (eOk (mY m141) (mB m141))) = true := by decide +kernel
set_option maxRecDepth 100000 in
theorem ok142 : (mOk m142 && k142.all (eOk (mY m142) (mB m142))) = true := by decide +kernel
set_option maxRecDepth 100000 in
theorem ok143 : (mOk m143 && k143.all (eOk (mY m143) (mB m143))) = true := by decide +kernel
set_option maxRecDepth 100000 in
theorem ok144 : (mOk m144 && k144.all (eOk (mY m144) (mB m144))) = true := by decide +kernel
set_option maxRecDepth 100000 in
theorem ok145 : (mOk m145 && k145.all (eOk (mY m145) (mB m145))) = true := by decide +kernel
set_option maxRecDepth 100000 in
theorem ok146 : (mOk m146 && k146.all (eOk (mY m146) (mB m146))) = true := by decide +kernel
set_option maxRecDepth 100000 in
theorem ok147 : (mOk m147 && k147.all (eOk (mY m147) (mB m147))) = true := by decide +kernel
set_option maxRecDepth 100000 in
theorem ok148 : (mOk m148 && k148.all (eOk (mY m148) (mB m148))) = true := by decide +kernel
set_option maxRecDepth 100000 in
theorem ok149 : (mOk m149 && k149.all (eOk (mY m149) (mB m149))) = true := by decide +kernel
set_option maxRecDepth 100000 in
theorem ok150 : (mOk m150 && k150.all (eOk (mY m150) (mB m150))) = true := by decide +kernel
set_option maxRecDepth 100000 in
theorem ok151 : (mOk m151 && k151.all (eOk (mY m151) (mB m151))) = true := by decide +kernel
set_option maxRecDepth 100000 in
theorem ok152 : (mOk m152 && k152.all (eOk (mY m152) (mB m152))) = true := by decide +kernel
set_option maxRecDepth 100000 in
theorem ok153 : (mOk m153 && k153.all (eOk (mY m153) (mB m153))) = true := by decide +kernel
set_option maxRecDepth 100000 in
theorem ok154 : (mOk m154 && k154.all (eOk (mY m154) (mB m154))) = true := by decide +kernel
set_option maxRecDepth 100000 in
theorem ok155 : (mOk m155 && k155.all (eOk (mY m155) (mB m155))) = true := by decide +kernel
set_option maxRecDepth 100000 in
theorem ok156 : (mOk m156 && k156.all (eOk (mY m156) (mB m156))) = true := by decide +kernel
set_option maxRecDepth 100000 in
theorem ok158 : (mOk m158 && k158.all (eOk (mY m158) (mB m158))) = true := by decide +kernel
set_option maxRecDepth 100000 in
theorem ok159 : (mOk m159 && k159.all (eOk (mY m159) (mB m159))) = true := by decide +kernel
set_option maxRecDepth 100000 in
theorem ok160 : (mOk m160 && k160.all (eOk (mY m160) (mB m160))) = true := by decide +kernel
set_option maxRecDepth 100000 in
theorem ok161 : (mOk m161 && k161.all (eOk (mY m161) (mB m161))) = true := by decide +kernel
set_option maxRecDepth 100000 in
theorem ok162 : (mOk m162 && k162.all (eOk (mY m162) (mB m162))) = true := by decide +kernel
set_option maxRecDepth 100000 in
theorem ok163 : (mOk m163 && k163.all (eOk (mY m163) (mB m163))) = true := by decide +kernel
set_option maxRecDepth 100000 in
theorem ok164 : (mOk m164 && k164.all (eOk (mY m164) (mB m164))) = true := by decide +kernel
set_option maxRecDepth 100000 in
theorem ok165 : (mOk m165 && k165.all (eOk (mY m165) (mB m165))) = true := by decide +kernel
set_option maxRecDepth 100000 in
theorem ok166 : (mOk m166 && k166.all (eOk (mY m166) (mB m166))) = true := by decide +kernel
set_option maxRecDepth 100000 in
theorem ok168 : (mOk m168 && k168.all (eOk (mY m168) (mB m168))) = true := by decide +kernel
set_option maxRecDepth 100000 in
theorem ok169 : (mOk m169 && k169.all (eOk (mY m169) (mB m169))) = true := by decide +kernel
set_option maxRecDepth 100000 in
theorem ok170 : (mOk m170 && k170.all (eOk (mY m170) (mB m170))) = true := by decide +kernel
set_option maxRecDepth 100000 in
theorem ok171 : (mOk m171 && k171.all (eOk (mY m171) (mB m171))) = true := by decide +kernel
set_option maxRecDepth 100000 in
theorem ok172 : (mOk m172 && k172.all (eOk (mY m172) (mB m172))) = true := by decide +kernel
set_option maxRecDepth 100000 in
theorem ok173 : (mOk m173 && k173.all (eOk (mY m173) (mB m173))) = true := by decide +kernel
set_option maxRecDepth 100000 in
theorem ok174 : (mOk m174 && k174.all (eOk (mY m174) (mB m174))) = true := by decide +kernel
set_option maxRecDepth 100000 in
theorem ok175 : (mOk m175 && k175.all (eOk (mY m175) (mB m175))) = true := by decide +kernel
set_option maxRecDepth 100000 in
theorem ok176 : (mOk m176 && k176.all (eOk (mY m176) (mB m176))) = true := by decide +kernel
set_option maxRecDepth 100000 in
theorem ok177 : (mOk m177 && k177.all (eOk (mY m177) (mB m177))) = true := by decide +kernel
set_option maxRecDepth 100000 in
theorem ok178 : (mOk m178 && k178.all (eOk (mY m178) (mB m178))) = true := by decide +kernel
set_option maxRecDepth 100000 in
theorem ok179 : (mOk m179 && k179.all (eOk (mY m179) (mB m179))) = true := by decide +kernel
set_option maxRecDepth 100000 in
theorem ok180 : (mOk m180 && k180.all (eOk (mY m180) (mB m180))) = true := by decide +kernel
set_option maxRecDepth 100000 in
theorem ok181 : (mOk m181 && k181.all (eOk (mY m181) (mB m181))) = true := by decide +kernel
set_option maxRecDepth 100000 in
theorem ok182 : (mOk m182 && k182.all (eOk (mY m182) (mB m182))) = true := by decide +kernel
set_option maxRecDepth 100000 in
theorem ok183 : (mOk m183 && k183.all (eOk (mY m183) (mB m183))) = true := by decide +kernel
set_option maxRecDepth 100000 in
theorem ok184 : (mOk m184 && k184.all (eOk (mY m184) (mB m184))) = true := by decide +kernel
set_option maxRecDepth 100000 in
theorem ok185 : (mOk m185 && k185.all (eOk (mY m185) (mB m185))) = true := by decide +kernel
set_option maxRecDepth 100000 in
theorem ok186 : (mOk m186 && k186.all (eOk (mY m186) (mB m186))) = true := by decide +kernel
set_option maxRecDepth 100000 in
theorem ok187 : (mOk m187 && k187.all (eOk (mY m187) (mB m187))) = true := by decide +kernel
set_option maxRecDepth 100000 in
theorem ok188 : (mOk m188 && k188.all (eOk (mY m188) (mB m188))) = true := by decide +kernel
set_option maxRecDepth 100000 in
theorem ok189 : (mOk m189 && k189.all (eOk (mY m189) (mB m189))) = true := by decide +kernel
set_option maxRecDepth 100000 in
theorem ok190 : (mOk m190 && k190.all (eOk (mY m190) (mB m190))) = true := by decide +kernel
set_option maxRecDepth 100000 in
theorem ok191 : (mOk m191 && k191.all (eOk (mY m191) (mB m191))) = true := by decide +kernel
set_option maxRecDepth 100000 in
theorem ok192 : (mOk m192 && k192.all (eOk (mY m192) (mB m192))) = true := by decide +kernel
set_option maxRecDepth 100000 in
theorem ok193 : (mOk m193 && k193.all (eOk (mY m193) (mB m193))) = true := by decide +kernel
set_option maxRecDepth 100000 in
theorem ok194 : (mOk m194 && k194.all (eOk (mY m194) (mB m194))) = true := by decide +kernel
set_option maxRecDepth 100000 in
theorem ok195 : (mOk m195 && k195.all (eOk (mY m195) (mB m195))) = true := by decide +kernel
set_option maxRecDepth 100000 in
theorem ok196 : (mOk m196 && k196.all (eOk (mY m196) (mB m196))) = true := by decide +kernel
set_option maxRecDepth 100000 in
theorem ok197 : (mOk m197 && k197.all (eOk (mY m197) (mB m197))) = true := by decide +kernel
set_option maxRecDepth 100000 in
theorem ok198 : (mOk m198 && k198.all (eOk (mY m198) (mB m198))) = true := by decide +kernel
set_option maxRecDepth 100000 in
theorem ok199 : (mOk m199 && k199.all (eOk (mY m199) (mB m199))) = true := by decide +kernel
set_option maxRecDepth 100000 in
theorem ok200 : (mOk m200 && k200.all (eOk (mY m200) (mB m200))) = true := by decide +kernel
set_option maxRecDepth 100000 in
theorem ok201 : (mOk m201 && k201.all (eOk (mY m201) (mB m201))) = true := by decide +kernel
set_option maxRecDepth 100000 in
theorem ok202 : (mOk m202 && k202.all (eOk (mY m202) (mB m202))) = true := by decide +kernel
set_option maxRecDepth 100000 in
theorem ok203 : (mOk m203 && k203.all (eOk (mY m203) (mB m203))) = true := by decide +kernel
set_option maxRecDepth 100000 in
theorem ok204 : (mOk m204 && k204.all (eOk (mY m204) (mB m204))) = true := by decide +kernel
set_option maxRecDepth 100000 in
theorem ok205 : (mOk m205 && k205.all (eOk (mY m205) (mB m205))) = true := by decide +kernel
set_option maxRecDepth 100000 in
theorem ok206 : (mOk m206 && k206.all (eOk (mY m206) (mB m206))) = true := by decide +kernel
set_option maxRecDepth 100000 in
theorem ok207 : (mOk m207 && k207.all (eOk (mY m207) (mB m207))) = true := by decide +kernel
set_option maxRecDepth 100000 in
theorem ok208 : (mOk m208 && k208.all (eOk (mY m208) (mB m208))) = true := by decide +kernel
set_option maxRecDepth 100000 in
theorem ok209 : (mOk m209 && k209.all (eOk (mY m209) (mB m209))) = true := by decide +kernel
set_option maxRecDepth 100000 in
theorem ok210 : (mOk m210 && k210.all (eOk (mY m210) (mB m210))) = true := by decide +kernel
set_option maxRecDepth 100000 in
theorem ok211 : (mOk m211 && k211.all (eOk (mY m211) (mB m211))) = true := by decide +kernel
set_option maxRecDepth 100000 in
theorem ok212 : (mOk m212 && k212.all (eOk (mY m212) (mB m212))) = true := by decide +kernel
set_option maxRecDepth 100000 in
theorem ok213 : (mOk m213 && k213.all (eOk (mY m213) (mB m213))) = true := by decide +kernel
set_option maxRecDepth 100000 in
theorem ok214 : (mOk m214 && k214.all (eOk (mY m214) (mB m214))) = true := by decide +kernel
set_option maxRecDepth 100000 in
theorem ok215 : (mOk m215 && k215.all (eOk (mY m215) (mB m215))) = true := by decide +kernel
set_option maxRecDepth 100000 in
theorem ok216 : (mOk m216 && k216.all (eOk (mY m216) (mB m216))) = true := by decide +kernel
set_option maxRecDepth 100000 in
theorem ok217 : (mOk m217 && k217.all (eOk (mY m217) (mB m217))) = true := by decide +kernel
set_option maxRecDepth 100000 in
theorem ok220 : (mOk m220 && k220.all (eOk (mY m220) (mB m220))) = true := by decide +kernel
set_option maxRecDepth 100000 in
theorem ok221 : (mOk m221 && k221.all (eOk (mY m221) (mB m221))) = true := by decide +kernel
set_option maxRecDepth 100000 in
theorem ok222 : (mOk m222 && k222.all (eOk (mY m222) (mB m222))) = true := by decide +kernel
set_option maxRecDepth 100000 in
theorem ok223 : (mOk m223 && k223.all (eOk (mY m223) (mB m223))) = true := by decide +kernel
set_option maxRecDepth 100000 in
theorem ok224 : (mOk m224 && k224.all (eOk (mY m224) (mB m224))) = true := by decide +kernel
set_option maxRecDepth 100000 in
theorem ok225 : (mOk m225 && k225.all (eOk (mY m225) (mB m225))) = true := by decide +kernel
set_option maxRecDepth 100000 in
theorem ok226 : (mOk m226 && k226.all (eOk (mY m226) (mB m226))) = true := by decide +kernel
set_option maxRecDepth 100000 in
theorem ok227 : (mOk m227 && k227.all (eOk (mY m227) (mB m227))) = true := by decide +kernel
set_option maxRecDepth 100000 in
theorem ok228 : (mOk m228 && k228.all (eOk (mY m228) (mB m228))) = true := by decide +kernel
set_option maxRecDepth 100000 in
theorem ok229 : (mOk m229 && k229.all (eOk (mY m229) (mB m229))) = true := by decide +kernel
set_option maxRecDepth 100000 in
theorem ok230 : (mOk m230 && k230.all (eOk (mY m230) (mB m230))) = true := by decide +kernel
set_option maxRecDepth 100000 in
theorem ok231 : (mOk m231 && k231.all (eOk (mY m231) (mB m231))) = true := by decide +kernel
set_option maxRecDepth 100000 in
theorem ok232 : (mOk m232 && k232.all (eOk (mY m232) (mB m232))) = true := by decide +kernel
set_option maxRecDepth 100000 in
theorem ok233 : (mOk m233 && k233.all (eOk (mY m233) (mB m233))) = true := by decide +kernel
set_option maxRecDepth 100000 in
theorem ok234 : (mOk m234 && k234.all (eOk (mY m234) (mB m234))) = true := by decide +kernel
set_option maxRecDepth 100000 in
theorem ok235 : (mOk m235 && k235.all (eOk (mY m235) (mB m235))) = true := by decide +kernel
end
section
theorem all_cut {α : Type} {p : α → Bool} {l : List α} (n : Nat) (h1 : (l.take n).all p = true) (h2 : (l.drop n).all p = true) : l.all p = true := by
  rw [← List.take_append_drop n l, List.all_append, h1, h2]
  rfl
set_option maxRecDepth 100000 in
theorem oc122_0 : ((k122.drop 0).take 40).all (eOk (mY m122) (mB m122)) = true := by decide +kernel
set_option maxRecDepth 100000 in
theorem oc122_1 : ((k122.drop 40).take 40).all (eOk (mY m122) (mB m122)) = true := by decide +kernel
set_option maxRecDepth 100000 in
theorem oc122_2 : ((k122.drop 80).take 40).all (eOk (mY m122) (mB m122)) = true := by decide +kernel
set_option maxRecDepth 100000 in
theorem oc122_3 : (k122.drop 120).all (eOk (mY m122) (mB m122)) = true := by decide +kernel
theorem oc122 : k122.all (eOk (mY m122) (mB m122)) = true := by
  have h : (k122.drop 0).all (eOk (mY m122) (mB m122)) = true := all_cut 40 oc122_0 (by rw [List.drop_drop]; exact all_cut 40 oc122_1 (by rw [List.drop_drop]; exact all_cut 40 oc122_2 (by rw [List.drop_drop]; exact oc122_3)))
  exact h
set_option maxRecDepth 100000 in
theorem ok122 : (mOk m122 && k122.all (eOk (mY m122) (mB m122))) = true := by
  rw [oc122]
  decide +kernel
set_option maxRecDepth 100000 in
theorem oc140_0 : ((k140.drop 0).take 40).all (eOk (mY m140) (mB m140)) = true := by decide +kernel
set_option maxRecDepth 100000 in
theorem oc140_1 : ((k140.drop 40).take 40).all (eOk (mY m140) (mB m140)) = true := by decide +kernel
set_option maxRecDepth 100000 in
theorem oc140_2 : ((k140.drop 80).take 40).all (eOk (mY m140) (mB m140)) = true := by decide +kernel
set_option maxRecDepth 100000 in
theorem oc140_3 : ((k140.drop 120).take 40).all (eOk (mY m140) (mB m140)) = true := by decide +kernel
set_option maxRecDepth 100000 in
theorem oc140_4 : ((k140.drop 160).take 40).all (eOk (mY m140) (mB m140)) = true := by decide +kernel
set_option maxRecDepth 100000 in
theorem oc140_5 : ((k140.drop 200).take 40).all (eOk (mY m140) (mB m140)) = true := by decide +kernel
set_option maxRecDepth 100000 in
theorem oc140_6 : ((k140.drop 240).take 40).all (eOk (mY m140) (mB m140)) = true := by decide +kernel
set_option maxRecDepth 100000 in
theorem oc140_7 : ((k140.drop 280).take 40).all (eOk (mY m140) (mB m140)) = true := by decide +kernel
set_option maxRecDepth 100000 in
theorem oc140_8 : (k140.drop 320).all (eOk (mY m140) (mB m140)) = true := by decide +kernel
theorem oc140 : k140.all (eOk (mY m140) (mB m140)) = true := by
  have h : (k140.drop 0).all (eOk (mY m140) (mB m140)) = true := all_cut 40 oc140_0 (by rw [List.drop_drop]; exact all_cut 40 oc140_1 (by rw [List.drop_drop]; exact all_cut 40 oc140_2 (by rw [List.drop_drop]; exact all_cut 40 oc140_3 (by rw [List.drop_drop]; exact all_cut 40 oc140_4 (by rw [List.drop_drop]; exact all_cut 40 oc140_5 (by rw [List.drop_drop]; exact all_cut 40 oc140_6 (by rw [List.drop_drop]; exact all_cut 40 oc140_7 (by rw [List.drop_drop]; exact oc140_8))))))))
  exact h
set_option maxRecDepth 100000 in
theorem ok140 : (mOk m140 && k140.all (eOk (mY m140) (mB m140))) = true := by
  rw [oc140]
  decide +kernel
set_option maxRecDepth 100000 in
theorem oc157_0 : ((k157.drop 0).take 40).all (eOk (mY m157) (mB m157)) = true := by decide +kernel
set_option maxRecDepth 100000 in
theorem oc157_1 : ((k157.drop 40).take 40).all (eOk (mY m157) (mB m157)) = true := by decide +kernel
set_option maxRecDepth 100000 in
theorem oc157_2 : ((k157.drop 80).take 40).all (eOk (mY m157) (mB m157)) = true := by decide +kernel
set_option maxRecDepth 100000 in
theorem oc157_3 : (k157.drop 120).all (eOk (mY m157) (mB m157)) = true := by decide +kernel
theorem oc157 : k157.all (eOk (mY m157) (mB m157)) = true := by
  have h : (k157.drop 0).all (eOk (mY m157) (mB m157)) = true := all_cut 40 oc157_0 (by rw [List.drop_drop]; exact all_cut 40 oc157_1 (by rw [List.drop_drop]; exact all_cut 40 oc157_2 (by rw [List.drop_drop]; exact oc157_3)))
  exact h
set_option maxRecDepth 100000 in
theorem ok157 : (mOk m157 && k157.all (eOk (mY m157) (mB m157))) = true := by
  rw [oc157]
  decide +kernel
set_option maxRecDepth 100000 in
theorem oc167_0 : ((k167.drop 0).take 40).all (eOk (mY m167) (mB m167)) = true := by decide +kernel
set_option maxRecDepth 100000 in
theorem oc167_1 : ((k167.drop 40).take 40).all (eOk (mY m167) (mB m167)) = true := by decide +kernel
set_option maxRecDepth 100000 in
theorem oc167_2 : ((k167.drop 80).take 40).all (eOk (mY m167) (mB m167)) = true := by decide +kernel
set_option maxRecDepth 100000 in
theorem oc167_3 : (k167.drop 120).all (eOk (mY m167) (mB m167)) = true := by decide +kernel
theorem oc167 : k167.all (eOk (mY m167) (mB m167)) = true := by
  have h : (k167.drop 0).all (eOk (mY m167) (mB m167)) = true := all_cut 40 oc167_0 (by rw [List.drop_drop]; exact all_cut 40 oc167_1 (by rw [List.drop_drop]; exact all_cut 40 oc167_2 (by rw [List.drop_drop]; exact oc167_3)))
  exact h
set_option maxRecDepth 100000 in
theorem ok167 : (mOk m167 && k167.all (eOk (mY m167) (mB m167))) = true := by
  rw [oc167]
  decide +kernel
set_option maxRecDepth 100000 in
theorem oc218_0 : ((k218.drop 0).take 40).all (eOk (mY m218) (mB m218)) = true := by decide +kernel
set_option maxRecDepth 100000 in
theorem oc218_1 : ((k218.drop 40).take 40).all (eOk (mY m218) (mB m218)) = true := by decide +kernel
set_option maxRecDepth 100000 in
theorem oc218_2 : ((k218.drop 80).take 40).all (eOk (mY m218) (mB m218)) = true := by decide +kernel
set_option maxRecDepth 100000 in
theorem oc218_3 : (k218.drop 120).all (eOk (mY m218) (mB m218)) = true := by decide +kernel
theorem oc218 : k218.all (eOk (mY m218) (mB m218)) = true := by
  have h : (k218.drop 0).all (eOk (mY m218) (mB m218)) = true := all_cut 40 oc218_0 (by rw [List.drop_drop]; exact all_cut 40 oc218_1 (by rw [List.drop_drop]; exact all_cut 40 oc218_2 (by rw [List.drop_drop]; exact oc218_3)))
  exact h
set_option maxRecDepth 100000 in
theorem ok218 : (mOk m218 && k218.all (eOk (mY m218) (mB m218))) = true := by
  rw [oc218]
  decide +kernel
set_option maxRecDepth 100000 in
theorem oc219_0 : ((k219.drop 0).take 40).all (eOk (mY m219) (mB m219)) = true := by decide +kernel
set_option maxRecDepth 100000 in
theorem oc219_1 : ((k219.drop 40).take 40).all (eOk (mY m219) (mB m219)) = true := by decide +kernel
set_option maxRecDepth 100000 in
theorem oc219_2 : ((k219.drop 80).take 40).all (eOk (mY m219) (mB m219)) = true := by decide +kernel
set_option maxRecDepth 100000 in
theorem oc219_3 : (k219.drop 120).all (eOk (mY m219) (mB m219)) = true := by decide +kernel
theorem oc219 : k219.all (eOk (mY m219) (mB m219)) = true := by
  have h : (k219.drop 0).all (eOk (mY m219) (mB m219)) = true := all_cut 40 oc219_0 (by rw [List.drop_drop]; exact all_cut 40 oc219_1 (by rw [List.drop_drop]; exact all_cut 40 oc219_2 (by rw [List.drop_drop]; exact oc219_3)))
  exact h
set_option maxRecDepth 100000 in
theorem ok219 : (mOk m219 && k219.all (eOk (mY m219) (mB m219))) = true := by
  rw [oc219]
  decide +kernel
set_option maxRecDepth 100000 in
theorem oc236_0 : ((k236.drop 0).take 40).all (eOk (mY m236) (mB m236)) = true := by decide +kernel
set_option maxRecDepth 100000 in
theorem oc236_1 : ((k236.drop 40).take 40).all (eOk (mY m236) (mB m236)) = true := by decide +kernel
set_option maxRecDepth 100000 in
theorem oc236_2 : (k236.drop 80).all (eOk (mY m236) (mB m236)) = true := by decide +kernel
theorem oc236 : k236.all (eOk (mY m236) (mB m236)) = true := by
  have h : (k236.drop 0).all (eOk (mY m236) (mB m236)) = true := all_cut 40 oc236_0 (by rw [List.drop_drop]; exact all_cut 40 oc236_1 (by rw [List.drop_drop]; exact oc236_2))
  exact h
set_option maxRecDepth 100000 in
theorem ok236 : (mOk m236 && k236.all (eOk (mY m236) (mB m236))) = true := by
  rw [oc236]
  decide +kernel
set_option maxRecDepth 100000 in
theorem okLaw_0 : ((kLaw.drop 0).take 40).all (eOk x code) = true := by decide +kernel
set_option maxRecDepth 100000 in
theorem okLaw_1 : ((kLaw.drop 40).take 40).all (eOk x code) = true := by decide +kernel
set_option maxRecDepth 100000 in
theorem okLaw_2 : ((kLaw.drop 80).take 40).all (eOk x code) = true := by decide +kernel
set_option maxRecDepth 100000 in
theorem okLaw_3 : ((kLaw.drop 120).take 40).all (eOk x code) = true := by decide +kernel
set_option maxRecDepth 100000 in
theorem okLaw_4 : ((kLaw.drop 160).take 40).all (eOk x code) = true := by decide +kernel
set_option maxRecDepth 100000 in
theorem okLaw_5 : ((kLaw.drop 200).take 40).all (eOk x code) = true := by decide +kernel
set_option maxRecDepth 100000 in
theorem okLaw_6 : ((kLaw.drop 240).take 40).all (eOk x code) = true := by decide +kernel
set_option maxRecDepth 100000 in
theorem okLaw_7 : ((kLaw.drop 280).take 40).all (eOk x code) = true := by decide +kernel
set_option maxRecDepth 100000 in
theorem okLaw_8 : ((kLaw.drop 320).take 40).all (eOk x code) = true := by decide +kernel
set_option maxRecDepth 100000 in
theorem okLaw_9 : ((kLaw.drop 360).take 40).all (eOk x code) = true := by decide +kernel
set_option maxRecDepth 100000 in
theorem okLaw_10 : ((kLaw.drop 400).take 40).all (eOk x code) = true := by decide +kernel
set_option maxRecDepth 100000 in
theorem okLaw_11 : ((kLaw.drop 440).take 40).all (eOk x code) = true := by decide +kernel
set_option maxRecDepth 100000 in
theorem okLaw_12 : ((kLaw.drop 480).take 40).all (eOk x code) = true := by decide +kernel
set_option maxRecDepth 100000 in
theorem okLaw_13 : ((kLaw.drop 520).take 40).all (eOk x code) = true := by decide +kernel
set_option maxRecDepth 100000 in
theorem okLaw_14 : ((kLaw.drop 560).take 40).all (eOk x code) = true := by decide +kernel
set_option maxRecDepth 100000 in
theorem okLaw_15 : ((kLaw.drop 600).take 40).all (eOk x code) = true := by decide +kernel
set_option maxRecDepth 100000 in
theorem okLaw_16 : ((kLaw.drop 640).take 40).all (eOk x code) = true := by decide +kernel
set_option maxRecDepth 100000 in
theorem okLaw_17 : ((kLaw.drop 680).take 40).all (eOk x code) = true := by decide +kernel
set_option maxRecDepth 100000 in
theorem okLaw_18 : ((kLaw.drop 720).take 40).all (eOk x code) = true := by decide +kernel
set_option maxRecDepth 100000 in
theorem okLaw_19 : ((kLaw.drop 760).take 40).all (eOk x code) = true := by decide +kernel
set_option maxRecDepth 100000 in
theorem okLaw_20 : ((kLaw.drop 800).take 40).all (eOk x code) = true := by decide +kernel
set_option maxRecDepth 100000 in
theorem okLaw_21 : ((kLaw.drop 840).take 40).all (eOk x code) = true := by decide +kernel
set_option maxRecDepth 100000 in
theorem okLaw_22 : ((kLaw.drop 880).take 40).all (eOk x code) = true := by decide +kernel
set_option maxRecDepth 100000 in
theorem okLaw_23 : ((kLaw.drop 920).take 40).all (eOk x code) = true := by decide +kernel
set_option maxRecDepth 100000 in
theorem okLaw_24 : (kLaw.drop 960).all (eOk x code) = true := by decide +kernel
theorem okLaw : kLaw.all (eOk x code) = true := by
  have h : (kLaw.drop 0).all (eOk x code) = true := all_cut 40 okLaw_0 (by rw [List.drop_drop]; exact all_cut 40 okLaw_1 (by rw [List.drop_drop]; exact all_cut 40 okLaw_2 (by rw [List.drop_drop]; exact all_cut 40 okLaw_3 (by rw [List.drop_drop]; exact all_cut 40 okLaw_4 (by rw [List.drop_drop]; exact all_cut 40 okLaw_5 (by rw [List.drop_drop]; exact all_cut 40 okLaw_6 (by rw [List.drop_drop]; exact all_cut 40 okLaw_7 (by rw [List.drop_drop]; exact all_cut 40 okLaw_8 (by rw [List.drop_drop]; exact all_cut 40 okLaw_9 (by rw [List.drop_drop]; exact all_cut 40 okLaw_10 (by rw [List.drop_drop]; exact all_cut 40 okLaw_11 (by rw [List.drop_drop]; exact all_cut 40 okLaw_12 (by rw [List.drop_drop]; exact all_cut 40 okLaw_13 (by rw [List.drop_drop]; exact all_cut 40 okLaw_14 (by rw [List.drop_drop]; exact all_cut 40 okLaw_15 (by rw [List.drop_drop]; exact all_cut 40 okLaw_16 (by rw [List.drop_drop]; exact all_cut 40 okLaw_17 (by rw [List.drop_drop]; exact all_cut 40 okLaw_18 (by rw [List.drop_drop]; exact all_cut 40 okLaw_19 (by rw [List.drop_drop]; exact all_cut 40 okLaw_20 (by rw [List.drop_drop]; exact all_cut 40 okLaw_21 (by rw [List.drop_drop]; exact all_cut 40 okLaw_22 (by rw [List.drop_drop]; exact all_cut 40 okLaw_23 (by rw [List.drop_drop]; exact okLaw_24))))))))))))))))))))))))
  exact h
end
section
/-! What the small machine's values and cells say of the real ones. -/
def Vo (ws : va_W) (v v' : Value) : Prop := match v with
  | .ref n => ∃ a e, ws[n]? = some (a, e) ∧ v' = .ref a
  | _ => v' = v
def Vr (ws : va_W) (cst : Nat → Value) (v v' : Value) : Prop := match v with
  | .ref n => (∃ a e, ws[n]? = some (a, e) ∧ v' = .ref a) ∨ (1000000 ≤ n ∧ v' = cst n ∧ (v' = .null ∨ ∃ a, v' = .ref a))
  | _ => v' = v
def Sr (ws : va_W) (cst : Nat → Value) : List Value → List Value → Prop
  | [], [] => True
  | v :: s, v' :: s' => Vr ws cst v v' ∧ Sr ws cst s s'
  | _, _ => False
def Ext (ws ws' : va_W) : Prop := ∀ (k a : Nat) (e : va_E), ws[k]? = some (a, e) → ∃ e', ws'[k]? = some (a, e')
def Br (ws : va_W) (ty : FieldType) (n : Nat) (r : Nat → Option Nat) (i : Nat → Int32) (l : Nat → Int64) (b : (Nat → Int32) ⊕ (Nat → Int64) ⊕ (Nat → UInt32) ⊕ (Nat → UInt64) ⊕ (Nat → Option Nat)) : Prop := match ty with
  | .object _ => ∃ f, b = .inr (.inr (.inr (.inr f))) ∧ ∀ j, j < n → Vo ws (rfv (r j)) (va_rf (f j))
  | .long => ∃ f, b = .inr (.inl f) ∧ ∀ j, j < n → f j = l j
  | _ => ∃ f, b = .inl f ∧ ∀ j, j < n → f j = i j
def Cr (ws : va_W) (tys : List (ClassId × FieldType)) (R : Nat → Nat → Option Nat) (I : Nat → Nat → Int32) (L : Nat → Nat → Int64) (k : Nat) (kd : (FieldType × Nat) ⊕ Nat) (e : va_E) : Prop := match kd, e with
  | .inr ci, .inr (ci', fs) => ci' = ci ∧ ci < 11 ∧ fs.length = clN ci ∧ ∀ j, j < clN ci → ∃ v', fs[j]? = some v' ∧ Vo ws (fval (clT ci j) (R k j) (I k j) (L k j)) v'
  | .inl (ty, n), .inl (cA, n', b) => n' = n ∧ (∃ t0 : Nat, tys[t0]? = some (cA, ty)) ∧ Br ws ty n (R k) (I k) (L k) b
  | _, _ => False
def Wr (D : va_G) (U : State) (H : Heap) (A : Nat → Prop) (w : XW) (ws : va_W) (tys : List (ClassId × FieldType)) : Prop :=
  va_K D classes tys U ∧ va_P D classes ws H ∧ va_D A ws ∧ ws.length = w.1.length ∧ w.1.length ≤ 900000 ∧ ∀ (k : Nat) (kd : (FieldType × Nat) ⊕ Nat), w.1[k]? = some kd → ∃ a e, ws[k]? = some (a, e) ∧ Cr ws tys w.2.1 w.2.2.1 w.2.2.2 k kd e
/-- the words that a method uses: those that any list hands on, and three kinds that are handed on one by one -/
def isNest : Jvm.Cond → Bool
  | .methodLinkNest .. => true
  | .fieldLinkNest .. => true
  | .arrayOver (.object _) => true
  | _ => false
def useW (w : Jvm.Cond) : Bool := (k2_isCode w || goodWord w) || isNest w
def lw_use : List Jvm.Cond := lw_tbl.filter useW
def lw_gd : List Jvm.Cond := lw_tbl.filter (fun w => k2_isCode w || goodWord w)
theorem wu {p : Nat} {c : Jvm.Cond} (h : wd p c = true) (hu : useW c = true) : c ∈ lw_use := List.mem_filter.mpr ⟨wd_in h, hu⟩
def Nf (U : State) : Prop := ∀ w ∈ lw_tbl, isNest w = true → w.before #[] U = true
theorem Nf.go {s U : State} (h : Nf s) (hW : s.WarmedH U.vm) : Nf U := by
  intro w hw hn
  have h1 := h w hw hn
  unfold isNest at hn
  split at hn
  · exact va_Nw.warmM hW h1
  · exact va_Nw.warmF hW h1
  · exact va_AO.moved hW.alike h1
  · cases hn
theorem Nf.same {s U : State} (h : Nf s) (hv : U.vm = s.vm) : Nf U := by
  intro w hw hn
  have h1 := h w hw hn
  unfold isNest at hn
  split at hn
  · exact va_Nw.same rfl hv.symm h1
  · exact va_Nw.same rfl hv.symm h1
  · exact va_AO.moved (by rw [hv]; exact Vm.Alike.refl s.vm) h1
  · cases hn
theorem nest_args {w : Jvm.Cond} {A : Array Value} {U : State} (hn : isNest w = true) (h : w.before #[] U = true) : w.before A U = true := by
  unfold isNest at hn
  split at hn
  · exact va_Nw.use rfl h
  · exact va_Nw.use rfl h
  · exact h
  · cases hn
def xA (base : Nat) : Nat → Prop := fun q => base ≤ q
/-- what was there before the law began, and stays -/
def Gc (X : Nat × (Nat → Int32)) (cst : Nat → Value) (A : Nat → Prop) (U : State) (H : Heap) : Prop :=
  (∀ b, b < 3 → ∃ a, cst (1000040 + b) = .ref a ∧ va_Z (sttT b).1 (sttT b).2.1 (sttT b).2.2 (.ref a) A U H ∧ ∃ N f, cInts X (1000040 + b) = some (N, f) ∧ va_T .int a N (fun j => .int (f j)) A U H) ∧
  va_Z "java/lang/String" "COMPACT_STRINGS" "Z" (.int 1) A U H ∧
  ((cst 1000060 = .null ∨ ∃ t, cst 1000060 = .ref t) ∧ va_Z (sttT 20).1 (sttT 20).2.1 (sttT 20).2.2 (cst 1000060) A U H) ∧
  (∀ i, i < 8 → ∃ aK aV, cst (1000000 + i) = .ref aK ∧ cst (1000020 + i) = .ref aV ∧ vk_R "LeavesObject$Text" (strK i) (strT i) aK U ∧ va_O "java/lang/String" aK A U H ∧ va_OF "java/lang/String" "coder" "B" (.int 0) aK A U H ∧ va_OF "java/lang/String" "value" "[B" (.ref aV) aK A U H ∧ va_T .byte aV (strLen.getD i 0) (fun j => .int ((strByt.getD i []).getD j 0)) A U H) ∧
  (X.1 = 0 ∨ ∃ b, cst 1000050 = .ref b ∧ va_X b (X.1 - 1) X.2 U H ∧ b < H.size ∧ ¬ A b) ∧ Nf U
theorem Gc.go {X : Nat × (Nat → Int32)} {cst : Nat → Value} {A : Nat → Prop} {s U : State} {H0 H : Heap} {locs : List Loc} (h : Gc X cst A s H0) (hW : s.WarmedH U.vm) (hS : va_S A H0 H locs) : Gc X cst A U H := by
  obtain ⟨h1, h2, ⟨h3, h3'⟩, h4, h5, h9⟩ := h
  refine ⟨fun b hb => ?_, (va_Z.moved hW.alike h2).kept hS.2.1, ⟨h3, (va_Z.moved hW.alike h3').kept hS.2.1⟩, fun i hi => ?_, ?_, h9.go hW⟩
  · obtain ⟨a, q1, q2, N, f, q3, q4⟩ := h1 b hb
    exact ⟨a, q1, (va_Z.moved hW.alike q2).kept hS.2.1, N, f, q3, (va_T.moved hW.alike q4).kept hS.2.1⟩
  · obtain ⟨aK, aV, q1, q2, q3, q4, q5, q6, q7⟩ := h4 i hi
    exact ⟨aK, aV, q1, q2, q3.warm hW, (va_O.moved hW.alike q4).kept hS.2.1, (va_OF.moved hW.alike q5).kept hS.2.1, (va_OF.moved hW.alike q6).kept hS.2.1, (va_T.moved hW.alike q7).kept hS.2.1⟩
  · rcases h5 with h5 | ⟨b, h5, h6, h7, h8⟩
    · exact Or.inl h5
    · exact Or.inr ⟨b, h5, (va_X.moved hW.alike h6).kept (hS.2.1 b h7 h8), Nat.lt_of_lt_of_le h7 hS.1, h8⟩
theorem Gc.same {X : Nat × (Nat → Int32)} {cst : Nat → Value} {A : Nat → Prop} {s U : State} {H : Heap} (h : Gc X cst A s H) (hv : U.vm = s.vm) : Gc X cst A U H := by
  have ha : s.vm.Alike U.vm := by rw [hv]; exact Vm.Alike.refl s.vm
  obtain ⟨h1, h2, ⟨h3, h3'⟩, h4, h5, h9⟩ := h
  refine ⟨fun b hb => ?_, va_Z.moved ha h2, ⟨h3, va_Z.moved ha h3'⟩, fun i hi => ?_, ?_, h9.same hv⟩
  · obtain ⟨a, q1, q2, N, f, q3, q4⟩ := h1 b hb
    exact ⟨a, q1, va_Z.moved ha q2, N, f, q3, va_T.moved ha q4⟩
  · obtain ⟨aK, aV, q1, q2, q3, q4, q5, q6, q7⟩ := h4 i hi
    exact ⟨aK, aV, q1, q2, q3.same hv, va_O.moved ha q4, va_OF.moved ha q5, va_OF.moved ha q6, va_T.moved ha q7⟩
  · rcases h5 with h5 | ⟨b, h5, h6, h7, h8⟩
    · exact Or.inl h5
    · exact Or.inr ⟨b, h5, va_X.moved ha h6, h7, h8⟩
/-- without the script -/
theorem Gc.less {X : Nat × (Nat → Int32)} {cst : Nat → Value} {A : Nat → Prop} {s : State} {H : Heap} (h : Gc X cst A s H) (f : Nat → Int32) : Gc (0, f) cst A s H := by
  obtain ⟨h1, h2, h3, h4, h5, h9⟩ := h
  refine ⟨fun b hb => ?_, h2, h3, h4, Or.inl rfl, h9⟩
  obtain ⟨a, q1, q2, N, g, q3, q4⟩ := h1 b hb
  refine ⟨a, q1, q2, N, g, ?_, q4⟩
  match b, hb with
  | 0, _ => exact q3
  | 1, _ => exact q3
  | 2, _ => exact q3
  | b + 3, hb => omega
theorem Vo.r {ws : va_W} {cst : Nat → Value} {v v' : Value} (h : Vo ws v v') : Vr ws cst v v' := by
  cases v with
  | ref n => exact Or.inl h
  | _ => exact h
theorem Ext.rf {ws : va_W} : Ext ws ws := fun _ _ e h => ⟨e, h⟩
theorem Ext.tr {a b c : va_W} (h1 : Ext a b) (h2 : Ext b c) : Ext a c := fun k q e h => by
  obtain ⟨e1, h3⟩ := h1 k q e h
  exact h2 k q e1 h3
theorem Ext.app {ws : va_W} {q : Nat × va_E} : Ext ws (ws ++ [q]) := fun k a e h => ⟨e, by rw [List.getElem?_append_left (List.getElem?_eq_some_iff.mp h).1]; exact h⟩
theorem Ext.set {ws : va_W} {k a : Nat} {e e' : va_E} (h : ws[k]? = some (a, e)) : Ext ws (ws.set k (a, e')) := fun j b e1 h1 => by
  by_cases hj : k = j
  · subst hj
    rw [h] at h1
    cases h1
    exact ⟨e', List.getElem?_set_self (List.getElem?_eq_some_iff.mp h).1⟩
  · exact ⟨e1, by rw [List.getElem?_set_ne hj]; exact h1⟩
theorem Vo.mono {a b : va_W} (h : Ext a b) {v v' : Value} (hv : Vo a v v') : Vo b v v' := by
  cases v with
  | ref n =>
    obtain ⟨q, e, h1, h2⟩ := hv
    obtain ⟨e', h3⟩ := h n q e h1
    exact ⟨q, e', h3, h2⟩
  | _ => exact hv
theorem Vr.mono {a b : va_W} (h : Ext a b) {cst : Nat → Value} {v v' : Value} (hv : Vr a cst v v') : Vr b cst v v' := by
  cases v with
  | ref n =>
    rcases hv with ⟨q, e, h1, h2⟩ | hv
    · obtain ⟨e', h3⟩ := h n q e h1
      exact Or.inl ⟨q, e', h3, h2⟩
    · exact Or.inr hv
  | _ => exact hv
theorem Sr.mono {a b : va_W} (h : Ext a b) {cst : Nat → Value} : ∀ {s s' : List Value}, Sr a cst s s' → Sr b cst s s'
  | [], [], _ => trivial
  | _ :: _, _ :: _, hs => ⟨hs.1.mono h, Sr.mono h hs.2⟩
theorem Br.mono {a b : va_W} (h : Ext a b) {ty : FieldType} {n : Nat} {r : Nat → Option Nat} {i : Nat → Int32} {l : Nat → Int64} {x : (Nat → Int32) ⊕ (Nat → Int64) ⊕ (Nat → UInt32) ⊕ (Nat → UInt64) ⊕ (Nat → Option Nat)} (hb : Br a ty n r i l x) : Br b ty n r i l x := by
  cases ty with
  | object C =>
    obtain ⟨f, h1, h2⟩ := hb
    exact ⟨f, h1, fun j hj => (h2 j hj).mono h⟩
  | _ => exact hb
theorem Cr.mono {a b : va_W} (h : Ext a b) {tys tys' : List (ClassId × FieldType)} (ht : ∀ (t0 : Nat) (q : ClassId × FieldType), tys[t0]? = some q → ∃ t1 : Nat, tys'[t1]? = some q) {R : Nat → Nat → Option Nat} {I : Nat → Nat → Int32} {L : Nat → Nat → Int64} {k : Nat} {kd : (FieldType × Nat) ⊕ Nat} {e : va_E} (hc : Cr a tys R I L k kd e) : Cr b tys' R I L k kd e := by
  match kd, e, hc with
  | .inr ci, .inr (ci', fs), hc =>
    obtain ⟨h1, h0, h2, h3⟩ := hc
    refine ⟨h1, h0, h2, fun j hj => ?_⟩
    obtain ⟨v', h4, h5⟩ := h3 j hj
    exact ⟨v', h4, h5.mono h⟩
  | .inl (ty, n), .inl (cA, n', x), hc =>
    obtain ⟨h1, ⟨t0, h2⟩, h3⟩ := hc
    obtain ⟨t1, h4⟩ := ht t0 _ h2
    exact ⟨h1, ⟨t1, h4⟩, h3.mono h⟩
  | .inl (_, _), .inr (_, _), hc => exact hc.elim
  | .inr _, .inl (_, _, _), hc => exact hc.elim
theorem Vr.cat {ws : va_W} {cst : Nat → Value} {v v' : Value} (h : Vr ws cst v v') : v'.category = v.category := by
  cases v with
  | ref n =>
    rcases h with ⟨a, e, -, rfl⟩ | ⟨-, -, rfl | ⟨a, rfl⟩⟩ <;> rfl
  | _ => exact congrArg _ h
theorem Sr.cons {ws : va_W} {cst : Nat → Value} {v : Value} {st stA : List Value} (h : Sr ws cst (v :: st) stA) : ∃ v' stA', stA = v' :: stA' ∧ Vr ws cst v v' ∧ Sr ws cst st stA' := by
  cases stA with
  | nil => exact h.elim
  | cons v' s => exact ⟨v', s, rfl, h.1, h.2⟩
theorem Sr.nil {ws : va_W} {cst : Nat → Value} {stA : List Value} (h : Sr ws cst [] stA) : stA = [] := by
  cases stA with
  | nil => rfl
  | cons v' s => exact h.elim
theorem Sr.sum {ws : va_W} {cst : Nat → Value} : ∀ {s s' : List Value}, Sr ws cst s s' → (s'.map fun v => v.category).sum = (s.map fun v => v.category).sum
  | [], [], _ => rfl
  | _ :: _, _ :: _, h => by simp only [List.map_cons, List.sum_cons]; rw [h.1.cat, Sr.sum h.2]
theorem Sr.len {ws : va_W} {cst : Nat → Value} : ∀ {s s' : List Value}, Sr ws cst s s' → s'.length = s.length
  | [], [], _ => rfl
  | _ :: _, _ :: _, h => by simp only [List.length_cons]; rw [Sr.len h.2]
theorem Sr.app {ws : va_W} {cst : Nat → Value} : ∀ {s s' t t' : List Value}, Sr ws cst s s' → Sr ws cst t t' → Sr ws cst (s ++ t) (s' ++ t')
  | [], [], _, _, _, h => h
  | _ :: _, _ :: _, _, _, h, h2 => ⟨h.1, Sr.app h.2 h2⟩
theorem Sr.take {ws : va_W} {cst : Nat → Value} : ∀ (n : Nat) {s s' : List Value}, Sr ws cst s s' → Sr ws cst (s.take n) (s'.take n)
  | 0, _, _, _ => by simp only [List.take_zero]; trivial
  | _ + 1, [], [], _ => trivial
  | n + 1, _ :: _, _ :: _, h => ⟨h.1, Sr.take n h.2⟩
theorem Sr.drop {ws : va_W} {cst : Nat → Value} : ∀ (n : Nat) {s s' : List Value}, Sr ws cst s s' → Sr ws cst (s.drop n) (s'.drop n)
  | 0, _, _, h => h
  | _ + 1, [], [], _ => trivial
  | n + 1, _ :: _, _ :: _, h => Sr.drop n h.2
theorem Sr.rev {ws : va_W} {cst : Nat → Value} : ∀ {s s' : List Value}, Sr ws cst s s' → Sr ws cst s.reverse s'.reverse
  | [], [], _ => trivial
  | _ :: _, _ :: _, h => by
    simp only [List.reverse_cons]
    exact Sr.app (Sr.rev h.2) ⟨h.1, trivial⟩
/-- locals -/
def Lr (ws : va_W) (cst : Nat → Value) (ls : XL) (lsA : Array Slot) : Prop := ∃ lm : List (Nat × Value), lv_has lsA ls.length lm ∧ ∀ (j : Nat) (u : Value), ls[j]? = some (some u) → ∃ u', (j, u') ∈ lm ∧ Vr ws cst u u'
theorem Lr.mono {a b : va_W} (h : Ext a b) {cst : Nat → Value} {ls : XL} {lsA : Array Slot} (hl : Lr a cst ls lsA) : Lr b cst ls lsA := by
  obtain ⟨lm, h1, h2⟩ := hl
  refine ⟨lm, h1, fun j u hj => ?_⟩
  obtain ⟨u', h3, h4⟩ := h2 j u hj
  exact ⟨u', h3, h4.mono h⟩
theorem Lr.get {ws : va_W} {cst : Nat → Value} {ls : XL} {lsA : Array Slot} (hl : Lr ws cst ls lsA) {i : Nat} {v : Value} (h : lget ls i = some v) : ∃ v', lsA[i]? = some (.val v') ∧ Vr ws cst v v' := by
  obtain ⟨lm, h1, h2⟩ := hl
  have hi : ls[i]? = some (some v) := by
    unfold lget at h
    split at h
    · cases h; assumption
    · cases h
  obtain ⟨u', h3, h4⟩ := h2 i v hi
  exact ⟨u', h1.2.2 _ h3, h4⟩
theorem lclr_len (ls : XL) (i : Nat) : (lclr ls i).length = ls.length := by
  cases i with
  | zero => rfl
  | succ i =>
    simp only [lclr]
    split <;> first | rfl | exact List.length_set
theorem lclr_get {ls : XL} {i j : Nat} {u : Value} (h : (lclr ls i)[j]? = some (some u)) : ls[j]? = some (some u) ∧ ¬ (j + 1 = i ∧ u.category = 2) := by
  cases i with
  | zero => exact ⟨h, fun q => by omega⟩
  | succ i =>
    simp only [lclr] at h
    by_cases hj : j = i
    · subst hj
      split at h
      · rw [List.getElem?_set] at h
        simp at h
      · rw [List.getElem?_set] at h
        simp at h
      · rename_i h1 h2
        refine ⟨h, fun q => ?_⟩
        cases u with
        | long x => exact h1 _ h
        | double x => exact h2 _ h
        | _ => exact absurd q.2 (by simp [Value.category])
    · have e : ∀ z : XL, z = ls ∨ z = ls.set i none → z[j]? = some (some u) → ls[j]? = some (some u) := by
        intro z hz hq
        rcases hz with rfl | rfl
        · exact hq
        · rw [List.getElem?_set_ne (fun q => hj q.symm)] at hq
          exact hq
      refine ⟨?_, fun q => hj (by omega)⟩
      split at h
      · exact e _ (Or.inr rfl) h
      · exact e _ (Or.inr rfl) h
      · exact h
theorem Lr.set1 {ws : va_W} {cst : Nat → Value} {ls : XL} {lm : List (Nat × Value)} {lsA' : Array Slot} {i : Nat} {v v' : Value} (hrel : ∀ (j : Nat) (u : Value), ls[j]? = some (some u) → ∃ u', (j, u') ∈ lm ∧ Vr ws cst u u') (hi : i < ls.length) (hv : Vr ws cst v v')
    (h : lv_has lsA' ls.length ((i, v') :: lm.filter (fun q => !(q.1 == i) && !(q.1 + 1 == i && q.2.category == 2)))) : Lr ws cst (lset1 ls i v) lsA' := by
  refine ⟨_, by unfold lset1; rw [List.length_set, lclr_len]; exact h, fun j u hj => ?_⟩
  unfold lset1 at hj
  by_cases hji : j = i
  · subst hji
    rw [List.getElem?_set_self (by rw [lclr_len]; exact hi)] at hj
    cases hj
    exact ⟨v', List.mem_cons_self, hv⟩
  · rw [List.getElem?_set_ne (fun q => hji q.symm)] at hj
    obtain ⟨h1, h2⟩ := lclr_get hj
    obtain ⟨u', h3, h4⟩ := hrel j u h1
    refine ⟨u', List.mem_cons_of_mem _ (List.mem_filter.mpr ⟨h3, ?_⟩), h4⟩
    have hc := h4.cat
    simp only [Bool.and_eq_true, Bool.not_eq_true', beq_eq_false_iff_ne, Bool.and_eq_false_iff, ne_eq]
    refine ⟨hji, ?_⟩
    by_cases hq : j + 1 = i
    · right
      rw [hc]
      exact fun q => h2 ⟨hq, q⟩
    · left
      exact hq
theorem Lr.set2 {ws : va_W} {cst : Nat → Value} {ls : XL} {lm : List (Nat × Value)} {lsA' : Array Slot} {i : Nat} {v v' : Value} (hrel : ∀ (j : Nat) (u : Value), ls[j]? = some (some u) → ∃ u', (j, u') ∈ lm ∧ Vr ws cst u u') (hi : i + 1 < ls.length) (hv : Vr ws cst v v')
    (h : lv_has lsA' ls.length ((i, v') :: lm.filter (fun q => !(q.1 == i) && (!(q.1 == i + 1) && !(q.1 + 1 == i && q.2.category == 2))))) : Lr ws cst (lset2 ls i v) lsA' := by
  refine ⟨_, by unfold lset2; rw [List.length_set, List.length_set, lclr_len]; exact h, fun j u hj => ?_⟩
  unfold lset2 at hj
  by_cases hj2 : j = i + 1
  · subst hj2
    rw [List.getElem?_set_self (by rw [List.length_set, lclr_len]; exact hi)] at hj
    cases hj
  · rw [List.getElem?_set_ne (fun q => hj2 q.symm)] at hj
    by_cases hji : j = i
    · subst hji
      rw [List.getElem?_set_self (by rw [lclr_len]; omega)] at hj
      cases hj
      exact ⟨v', List.mem_cons_self, hv⟩
    · rw [List.getElem?_set_ne (fun q => hji q.symm)] at hj
      obtain ⟨h1, h2⟩ := lclr_get hj
      obtain ⟨u', h3, h4⟩ := hrel j u h1
      refine ⟨u', List.mem_cons_of_mem _ (List.mem_filter.mpr ⟨h3, ?_⟩), h4⟩
      have hc := h4.cat
      simp only [Bool.and_eq_true, Bool.not_eq_true', beq_eq_false_iff_ne, Bool.and_eq_false_iff, ne_eq]
      refine ⟨hji, hj2, ?_⟩
      by_cases hq : j + 1 = i
      · right
        rw [hc]
        exact fun q => h2 ⟨hq, q⟩
      · left
        exact hq
theorem xs_inj {a a' : Nat} {b b' : XL} {c c' : List Value} {d d' : XW} (h : some (a, b, c, d) = some (a', b', c', d')) : a = a' ∧ b = b' ∧ c = c' ∧ d = d' := by
  cases h
  exact ⟨rfl, rfl, rfl, rfl⟩
theorem cdx_mem {cd : List XE} {pc : Nat} {e : XE} (h : cdx cd pc = some e) : e.1 = pc ∧ e ∈ cd := by
  induction cd with
  | nil => cases h
  | cons q cd ih =>
    unfold cdx at h
    split at h
    · cases h
      exact ⟨by assumption, List.mem_cons_self⟩
    · obtain ⟨h1, h2⟩ := ih h
      exact ⟨h1, List.mem_cons_of_mem _ h2⟩
theorem lsw_ok {pc : Nat} : ∀ {ps : List (Int × Int)} {t : List (Int × Nat)} {d : Int} {a : Nat} {x : Int}, lswOk pc ps t = true → (pc : Int) + d = (a : Int) → (pc : Int) + Op.lookupswitch.offset ps d x = (swT t a x : Int)
  | [], [], d, a, x, _, h => h
  | o :: os, q :: ts, d, a, x, h, hd => by
    obtain ⟨o1, o2⟩ := o
    simp only [lswOk, Bool.and_eq_true, decide_eq_true_eq] at h
    rw [Op.lookupswitch.offset_cons]
    unfold swT
    by_cases hx : o1 = x
    · rw [if_pos hx, if_pos (by rw [← h.1, hx])]
      exact h.2.1
    · rw [if_neg hx, if_neg (by rw [← h.1]; exact fun q => hx q.symm)]
      exact lsw_ok h.2.2 hd
theorem tsw_ok {pc : Nat} : ∀ {os : List Int} {t : List (Int × Nat)} {lo : Int} {a : Nat} {x : Int}, tswOk pc lo os t = true → ((x < lo ∨ lo + os.length ≤ x) → swT t a x = a) ∧ (lo ≤ x → x < lo + os.length → ∃ off, os[(x - lo).toNat]? = some off ∧ (pc : Int) + off = (swT t a x : Int))
  | [], [], lo, a, x, _ => ⟨fun _ => rfl, fun h1 h2 => by simp at h2; omega⟩
  | o :: os, q :: ts, lo, a, x, h => by
    simp only [tswOk, Bool.and_eq_true, decide_eq_true_eq] at h
    have ih := tsw_ok (a := a) (x := x) h.2.2
    unfold swT
    simp only [List.length_cons, Int.natCast_add, Int.cast_ofNat_Int]
    refine ⟨fun hx => ?_, fun h1 h2 => ?_⟩
    · rw [if_neg (by rw [h.1]; omega)]
      exact ih.1 (by omega)
    · by_cases hx : x = lo
      · rw [if_pos (by rw [h.1]; exact hx)]
        subst hx
        exact ⟨o, by simp, h.2.1⟩
      · rw [if_neg (by rw [h.1]; exact hx)]
        obtain ⟨off, h3, h4⟩ := ih.2 (by omega) (by omega)
        refine ⟨off, ?_, h4⟩
        rw [show (x - lo).toNat = (x - (lo + 1)).toNat + 1 by omega, List.getElem?_cons_succ]
        exact h3
end
section
/-! A step of the small machine is a step of the real one: jumps, values, locals. -/
/-- what getstatic gives is told by 0 or 1; what is made has a constructor -/
def gsOk (e : XE) : Bool := match e with
  | (_, .getstatic _, _, _, _, c, _, _) => decide (c ≤ 1)
  | (_, .new _, _, a, _, _, _, _) => decide (a ≠ 3)
  | (_, .invokestatic _, _, a, _, c, _, _) => if c < 20 then (match mtab[a]? with
    | some mj => wd ((mP mj).getD 2 0) (.static (mY mj))
    | none => false) else true
  | (_, .invokespecial _, _, a, _, c, _, _) => if c < 20 then (match mtab[a]? with
    | some mj => wd ((mP mj).getD 2 0) (.instanceMethod (mY mj))
    | none => false) else true
  | _ => true
def Fx (X : Nat × (Nat → Int32)) (cst : Nat → Value) (base : Nat) (mi : MI) (p : Program) (s : State) (m : MethodId) (args : Array Value) (meth : Method) (c : Code) : Prop :=
  p.tables.exec = Jvm.exec ∧ c.code = mB mi ∧ meth.sig.returnType = mR mi ∧ c.maxLocals = mL mi ∧ s.vm.findClass (mY mi).cls = some m.cls ∧ (∀ w ∈ lw_use, w.before args s = true) ∧ meth.locks = false ∧ base ≤ s.heap.size ∧ Gc X cst (xA base) s s.heap ∧ ((mC mi).all (eOk (mY mi) (mB mi)) = true) ∧ ((mY mi).name = "<init>" → meth.name = "<init>") ∧ ((mC mi).all gsOk = true)
def FR (cst : Nat → Value) (base : Nat) (D : va_G) (mi : MI) (s : State) (w : XW) (ls : XL) (st : List Value) (H : Heap) (locs : List Loc) (lsA : Array Slot) (stA : List Value) (ws : va_W) (tys : List (ClassId × FieldType)) : Prop :=
  Wr D s H (xA base) w ws tys ∧ va_S (xA base) s.heap H locs ∧ Lr ws cst ls lsA ∧ Sr ws cst st stA ∧ ls.length = mL mi
theorem Fx.at {X : Nat × (Nat → Int32)} {cst : Nat → Value} {base : Nat} {mi : MI} {p : Program} {s : State} {m : MethodId} {args : Array Value} {meth : Method} {c : Code} (F : Fx X cst base mi p s m args meth c) {pc : Nat} {en : XE} (h : cdx (mC mi) pc = some en) : en.1 = pc ∧ decode (mB mi) pc = .ok (en.2.1, en.2.2.1) ∧ lnkOk (mY mi) en = true := by
  obtain ⟨h1, h2⟩ := cdx_mem h
  have h3 := List.all_eq_true.mp F.2.2.2.2.2.2.2.2.2.1 en h2
  simp only [eOk, Bool.and_eq_true, decide_eq_true_eq] at h3
  rw [h1] at h3
  exact ⟨h1, h3⟩
section SND
variable {X : Nat × (Nat → Int32)} {cst : Nat → Value} {base : Nat} {D : va_G} {mi : MI} {p : Program} {l : Launch} {e : Env} {R : Room} {s : State} {m : MethodId} {args : Array Value} {below : List Frame} {meth : Method} {c : Code} {Q : State → Prop}
variable {w w' : XW} {ls ls' : XL} {st st' : List Value} {H : Heap} {locs : List Loc} {lsA : Array Slot} {stA : List Value} {ws : va_W} {tys : List (ClassId × FieldType)} {cells slots pc pc' : Nat}
theorem FR.pop {v : Value} (r : FR cst base D mi s w ls (v :: st) H locs lsA stA ws tys) : ∃ v' stA', stA = v' :: stA' ∧ Vr ws cst v v' ∧ FR cst base D mi s w ls st H locs lsA stA' ws tys := by
  obtain ⟨v', stA', h1, h2, h3⟩ := r.2.2.2.1.cons
  exact ⟨v', stA', h1, h2, r.1, r.2.1, r.2.2.1, h3, r.2.2.2.2⟩
theorem FR.push {v v' : Value} (r : FR cst base D mi s w ls st H locs lsA stA ws tys) (h : Vr ws cst v v') : FR cst base D mi s w ls (v :: st) H locs lsA (v' :: stA) ws tys := ⟨r.1, r.2.1, r.2.2.1, ⟨h, r.2.2.2.1⟩, r.2.2.2.2⟩
theorem FR.int {x : Int32} (r : FR cst base D mi s w ls (.int x :: st) H locs lsA stA ws tys) : ∃ stA', stA = .int x :: stA' ∧ FR cst base D mi s w ls st H locs lsA stA' ws tys := by
  obtain ⟨v', stA', h1, h2, h3⟩ := r.pop
  exact ⟨stA', by rw [h1, show v' = .int x from h2], h3⟩
theorem FR.long {x : Int64} (r : FR cst base D mi s w ls (.long x :: st) H locs lsA stA ws tys) : ∃ stA', stA = .long x :: stA' ∧ FR cst base D mi s w ls st H locs lsA stA' ws tys := by
  obtain ⟨v', stA', h1, h2, h3⟩ := r.pop
  exact ⟨stA', by rw [h1, show v' = .long x from h2], h3⟩
theorem FR.null (r : FR cst base D mi s w ls (.null :: st) H locs lsA stA ws tys) : ∃ stA', stA = .null :: stA' ∧ FR cst base D mi s w ls st H locs lsA stA' ws tys := by
  obtain ⟨v', stA', h1, h2, h3⟩ := r.pop
  exact ⟨stA', by rw [h1, show v' = .null from h2], h3⟩
/-- a cell of our own -/
theorem Wr.own {U : State} {A : Nat → Prop} (r : Wr D U H A w ws tys) {k : Nat} {v' : Value} (hk : k < w.1.length) (h : Vr ws cst (.ref k) v') : ∃ a en, ws[k]? = some (a, en) ∧ v' = .ref a := by
  rcases h with h | ⟨h, -⟩
  · exact h
  · have h1 : 1000000 ≤ k := h
    have h2 := r.2.2.2.2.1
    omega
theorem Wr.con {U : State} {A : Nat → Prop} (r : Wr D U H A w ws tys) {k : Nat} {v' : Value} (hk : w.1[k]? = none) (h : Vr ws cst (.ref k) v') : 1000000 ≤ k ∧ v' = cst k ∧ (v' = .null ∨ ∃ a, v' = .ref a) := by
  rcases h with ⟨a, en, h, -⟩ | h
  · have h1 := (List.getElem?_eq_some_iff.mp h).1
    have h2 := List.getElem?_eq_none_iff.mp hk
    have := r.2.2.2.1
    omega
  · exact h
set_option maxHeartbeats 4000000 in
theorem sJ (F : Fx X cst base mi p s m args meth c) {en : XE} (he : cdx (mC mi) pc = some en) (hst : stpJ en pc ls st w = some (pc', ls', st', w')) (r : FR cst base D mi s w ls st H locs lsA stA ws tys)
    (kk : ∀ stA' : List Value, FR cst base D mi s w' ls' st' H locs lsA stA' ws tys → W p l e R s m args below meth c H locs cells slots Q (F0 m pc' lsA stA')) : W p l e R s m args below meth c H locs cells slots Q (F0 m pc lsA stA) := by
  obtain ⟨h0, hd, hl⟩ := F.at he
  obtain ⟨hx, hb, -⟩ := id F
  obtain ⟨pc0, i, n, a, b, c0, pp, t⟩ := en
  dsimp only at h0 hd
  subst h0
  unfold stpJ at hst
  dsimp only at hst
  split at hst
  all_goals try (cases hst; done)
  · obtain ⟨rfl, rfl, rfl, rfl⟩ := xs_inj hst
    simp only [lnkOk, Bool.and_eq_true, beq_iff_eq, decide_eq_true_eq] at hl
    obtain ⟨rfl, ht⟩ := hl
    exact lv_goto hx hb hd ht (kk _ r)
  · obtain ⟨rfl, rfl, rfl, rfl⟩ := xs_inj hst
    simp only [lnkOk, Bool.and_eq_true, beq_iff_eq, decide_eq_true_eq] at hl
    obtain ⟨rfl, ht⟩ := hl
    obtain ⟨stA', rfl, r'⟩ := r.int
    have k1 := kk _ r'
    refine lv_if_eq hx hb hd ht (fun c1 => ?_) (fun c1 => ?_)
    · rw [if_pos c1] at k1; exact k1
    · rw [if_neg c1] at k1; exact k1
  · obtain ⟨rfl, rfl, rfl, rfl⟩ := xs_inj hst
    simp only [lnkOk, Bool.and_eq_true, beq_iff_eq, decide_eq_true_eq] at hl
    obtain ⟨rfl, ht⟩ := hl
    obtain ⟨stA', rfl, r'⟩ := r.int
    have k1 := kk _ r'
    refine lv_if_ne hx hb hd ht (fun c1 => ?_) (fun c1 => ?_)
    · rw [if_neg c1] at k1; exact k1
    · rw [if_pos c1] at k1; exact k1
  · obtain ⟨rfl, rfl, rfl, rfl⟩ := xs_inj hst
    simp only [lnkOk, Bool.and_eq_true, beq_iff_eq, decide_eq_true_eq] at hl
    obtain ⟨rfl, ht⟩ := hl
    obtain ⟨stA', rfl, r'⟩ := r.int
    have k1 := kk _ r'
    refine lv_if_lt hx hb hd ht (fun c1 => ?_) (fun c1 => ?_)
    · rw [if_pos c1] at k1; exact k1
    · rw [if_neg c1] at k1; exact k1
  · obtain ⟨rfl, rfl, rfl, rfl⟩ := xs_inj hst
    simp only [lnkOk, Bool.and_eq_true, beq_iff_eq, decide_eq_true_eq] at hl
    obtain ⟨rfl, ht⟩ := hl
    obtain ⟨stA', rfl, r'⟩ := r.int
    have k1 := kk _ r'
    refine lv_if_ge hx hb hd ht (fun c1 => ?_) (fun c1 => ?_)
    · rw [if_neg (Int32.not_lt.mpr c1)] at k1; exact k1
    · rw [if_pos (Int32.not_le.mp c1)] at k1; exact k1
  · obtain ⟨rfl, rfl, rfl, rfl⟩ := xs_inj hst
    simp only [lnkOk, Bool.and_eq_true, beq_iff_eq, decide_eq_true_eq] at hl
    obtain ⟨rfl, ht⟩ := hl
    obtain ⟨stA', rfl, r'⟩ := r.int
    have k1 := kk _ r'
    refine lv_if_gt hx hb hd ht (fun c1 => ?_) (fun c1 => ?_)
    · rw [if_pos c1] at k1; exact k1
    · rw [if_neg c1] at k1; exact k1
  · obtain ⟨rfl, rfl, rfl, rfl⟩ := xs_inj hst
    simp only [lnkOk, Bool.and_eq_true, beq_iff_eq, decide_eq_true_eq] at hl
    obtain ⟨rfl, ht⟩ := hl
    obtain ⟨stA', rfl, r'⟩ := r.int
    have k1 := kk _ r'
    refine lv_if_le hx hb hd ht (fun c1 => ?_) (fun c1 => ?_)
    · rw [if_neg (Int32.not_lt.mpr c1)] at k1; exact k1
    · rw [if_pos (Int32.not_le.mp c1)] at k1; exact k1
  · obtain ⟨rfl, rfl, rfl, rfl⟩ := xs_inj hst
    simp only [lnkOk, Bool.and_eq_true, beq_iff_eq, decide_eq_true_eq] at hl
    obtain ⟨rfl, ht⟩ := hl
    obtain ⟨stA1, rfl, r1⟩ := r.int
    obtain ⟨stA', rfl, r'⟩ := r1.int
    have k1 := kk _ r'
    refine lv_icmp_eq hx hb hd ht (fun c1 => ?_) (fun c1 => ?_)
    · rw [if_pos c1] at k1; exact k1
    · rw [if_neg c1] at k1; exact k1
  · obtain ⟨rfl, rfl, rfl, rfl⟩ := xs_inj hst
    simp only [lnkOk, Bool.and_eq_true, beq_iff_eq, decide_eq_true_eq] at hl
    obtain ⟨rfl, ht⟩ := hl
    obtain ⟨stA1, rfl, r1⟩ := r.int
    obtain ⟨stA', rfl, r'⟩ := r1.int
    have k1 := kk _ r'
    refine lv_icmp_ne hx hb hd ht (fun c1 => ?_) (fun c1 => ?_)
    · rw [if_neg c1] at k1; exact k1
    · rw [if_pos c1] at k1; exact k1
  · obtain ⟨rfl, rfl, rfl, rfl⟩ := xs_inj hst
    simp only [lnkOk, Bool.and_eq_true, beq_iff_eq, decide_eq_true_eq] at hl
    obtain ⟨rfl, ht⟩ := hl
    obtain ⟨stA1, rfl, r1⟩ := r.int
    obtain ⟨stA', rfl, r'⟩ := r1.int
    have k1 := kk _ r'
    refine lv_icmp_lt hx hb hd ht (fun c1 => ?_) (fun c1 => ?_)
    · rw [if_pos c1] at k1; exact k1
    · rw [if_neg c1] at k1; exact k1
  · obtain ⟨rfl, rfl, rfl, rfl⟩ := xs_inj hst
    simp only [lnkOk, Bool.and_eq_true, beq_iff_eq, decide_eq_true_eq] at hl
    obtain ⟨rfl, ht⟩ := hl
    obtain ⟨stA1, rfl, r1⟩ := r.int
    obtain ⟨stA', rfl, r'⟩ := r1.int
    have k1 := kk _ r'
    refine lv_icmp_ge hx hb hd ht (fun c1 => ?_) (fun c1 => ?_)
    · rw [if_neg (Int32.not_lt.mpr c1)] at k1; exact k1
    · rw [if_pos (Int32.not_le.mp c1)] at k1; exact k1
  · obtain ⟨rfl, rfl, rfl, rfl⟩ := xs_inj hst
    simp only [lnkOk, Bool.and_eq_true, beq_iff_eq, decide_eq_true_eq] at hl
    obtain ⟨rfl, ht⟩ := hl
    obtain ⟨stA1, rfl, r1⟩ := r.int
    obtain ⟨stA', rfl, r'⟩ := r1.int
    have k1 := kk _ r'
    refine lv_icmp_gt hx hb hd ht (fun c1 => ?_) (fun c1 => ?_)
    · rw [if_pos c1] at k1; exact k1
    · rw [if_neg c1] at k1; exact k1
  · obtain ⟨rfl, rfl, rfl, rfl⟩ := xs_inj hst
    simp only [lnkOk, Bool.and_eq_true, beq_iff_eq, decide_eq_true_eq] at hl
    obtain ⟨rfl, ht⟩ := hl
    obtain ⟨stA1, rfl, r1⟩ := r.int
    obtain ⟨stA', rfl, r'⟩ := r1.int
    have k1 := kk _ r'
    refine lv_icmp_le hx hb hd ht (fun c1 => ?_) (fun c1 => ?_)
    · rw [if_neg (Int32.not_lt.mpr c1)] at k1; exact k1
    · rw [if_pos (Int32.not_le.mp c1)] at k1; exact k1
  · obtain ⟨rfl, rfl, rfl, rfl⟩ := xs_inj hst
    simp only [lnkOk, Bool.and_eq_true, beq_iff_eq, decide_eq_true_eq] at hl
    obtain ⟨rfl, ht⟩ := hl
    obtain ⟨stA', rfl, r'⟩ := r.null
    exact lv_ifnullN hx hb hd ht (kk _ r')
  · split at hst
    · rename_i hk
      obtain ⟨rfl, rfl, rfl, rfl⟩ := xs_inj hst
      simp only [lnkOk, Bool.and_eq_true, beq_iff_eq, decide_eq_true_eq] at hl
      obtain ⟨rfl, ht⟩ := hl
      obtain ⟨v', stA', rfl, hv, r'⟩ := r.pop
      obtain ⟨a1, e1, -, rfl⟩ := r.1.own hk hv
      exact lv_ifnull hx hb hd (kk _ r')
    · cases hst
  · obtain ⟨rfl, rfl, rfl, rfl⟩ := xs_inj hst
    simp only [lnkOk, Bool.and_eq_true, beq_iff_eq, decide_eq_true_eq] at hl
    obtain ⟨rfl, ht⟩ := hl
    obtain ⟨stA', rfl, r'⟩ := r.null
    exact lv_ifnonnullN hx hb hd (kk _ r')
  · split at hst
    · rename_i hk
      obtain ⟨rfl, rfl, rfl, rfl⟩ := xs_inj hst
      simp only [lnkOk, Bool.and_eq_true, beq_iff_eq, decide_eq_true_eq] at hl
      obtain ⟨rfl, ht⟩ := hl
      obtain ⟨v', stA', rfl, hv, r'⟩ := r.pop
      obtain ⟨a1, e1, -, rfl⟩ := r.1.own hk hv
      exact lv_ifnonnull hx hb hd ht (kk _ r')
    · cases hst
  · rename_i df lo hi offs x st1
    obtain ⟨rfl, rfl, rfl, rfl⟩ := xs_inj hst
    simp only [lnkOk, Bool.and_eq_true, beq_iff_eq, decide_eq_true_eq] at hl
    obtain ⟨h1, h2, h3⟩ := hl
    obtain ⟨stA', rfl, r'⟩ := r.int
    have h4 := tsw_ok (a := a) (x := x.toInt) h3
    rw [Array.length_toList] at h4
    by_cases hin : lo ≤ x.toInt ∧ x.toInt < lo + offs.size
    · obtain ⟨off, h5, h6⟩ := h4.2 hin.1 hin.2
      exact lv_tableIn hx hb hd (by omega) (by omega) (by rw [← Array.getElem?_toList]; exact h5) h6 (kk _ r')
    · refine lv_tableOut (tgt := swT t a x.toInt) hx hb hd (by omega) ?_ (kk _ r')
      rw [h4.1 (by omega)]
      exact h1
  · rename_i df ps x st1
    obtain ⟨rfl, rfl, rfl, rfl⟩ := xs_inj hst
    simp only [lnkOk, Bool.and_eq_true, beq_iff_eq, decide_eq_true_eq] at hl
    obtain ⟨h1, h2, h3⟩ := hl
    obtain ⟨stA', rfl, r'⟩ := r.int
    exact lv_lookup hx hb hd h2 rfl (lsw_ok h3 h1) (kk _ r')
end SND
end
section
/-! A step of the small machine is a step of the real one: values, locals. -/
section SNV
variable {X : Nat × (Nat → Int32)} {cst : Nat → Value} {base : Nat} {D : va_G} {mi : MI} {p : Program} {l : Launch} {e : Env} {R : Room} {s : State} {m : MethodId} {args : Array Value} {below : List Frame} {meth : Method} {c : Code} {Q : State → Prop}
variable {w w' : XW} {ls ls' : XL} {st st' : List Value} {H : Heap} {locs : List Loc} {lsA : Array Slot} {stA : List Value} {ws : va_W} {tys : List (ClassId × FieldType)} {cells slots pc pc' : Nat}
set_option maxHeartbeats 4000000 in
theorem sV (F : Fx X cst base mi p s m args meth c) {en : XE} (he : cdx (mC mi) pc = some en) (hst : stpV en pc ls st w = some (pc', ls', st', w')) (r : FR cst base D mi s w ls st H locs lsA stA ws tys)
    (kk : ∀ (lsA' : Array Slot) (stA' : List Value), FR cst base D mi s w' ls' st' H locs lsA' stA' ws tys → W p l e R s m args below meth c H locs cells slots Q (F0 m pc' lsA' stA')) : W p l e R s m args below meth c H locs cells slots Q (F0 m pc lsA stA) := by
  obtain ⟨h0, hd, hl⟩ := F.at he
  obtain ⟨hx, hb, -, -, hown, hts, -⟩ := id F
  obtain ⟨pc0, i, n, a, b, c0, pp, t⟩ := en
  dsimp only at h0 hd
  subst h0
  unfold stpV at hst
  dsimp only at hst
  split at hst
  all_goals try (cases hst; done)
  · obtain ⟨rfl, rfl, rfl, rfl⟩ := xs_inj hst
    simp only [lnkOk, beq_iff_eq] at hl
    subst hl
    exact lv_iconst hx hb hd rfl (kk _ _ (r.push rfl))
  · obtain ⟨rfl, rfl, rfl, rfl⟩ := xs_inj hst
    simp only [lnkOk, beq_iff_eq] at hl
    subst hl
    exact lv_bipush hx hb hd rfl (kk _ _ (r.push rfl))
  · obtain ⟨rfl, rfl, rfl, rfl⟩ := xs_inj hst
    simp only [lnkOk, beq_iff_eq] at hl
    subst hl
    exact lv_sipush hx hb hd rfl (kk _ _ (r.push rfl))
  · obtain ⟨rfl, rfl, rfl, rfl⟩ := xs_inj hst
    simp only [lnkOk, beq_iff_eq] at hl
    subst hl
    exact lv_lconst hx hb hd rfl (kk _ _ (r.push rfl))
  · split at hst
    · rename_i ix z y tl
      obtain ⟨rfl, rfl, rfl, rfl⟩ := xs_inj hst
      cases tl with
      | cons q tl => simp [lnkOk] at hl
      | nil =>
        simp only [lnkOk, Bool.and_eq_true, beq_iff_eq] at hl
        obtain ⟨rfl, hw⟩ := hl
        exact lv_ldcw hx hb hown (hts _ (wu hw rfl)) hd (kk _ _ (r.push rfl))
    · cases hst
  · split at hst
    · rename_i ix z y tl
      obtain ⟨rfl, rfl, rfl, rfl⟩ := xs_inj hst
      cases tl with
      | cons q tl => simp [lnkOk] at hl
      | nil =>
        simp only [lnkOk, Bool.and_eq_true, beq_iff_eq] at hl
        obtain ⟨rfl, hw⟩ := hl
        exact lv_ldc2 hx hb hown (hts _ (wu hw rfl)) hd (kk _ _ (r.push rfl))
    · cases hst
  · obtain ⟨rfl, rfl, rfl, rfl⟩ := xs_inj hst
    simp only [lnkOk, beq_iff_eq] at hl
    subst hl
    exact lv_null hx hb hd (kk _ _ (r.push rfl))
  · split at hst
    · rename_i hc
      obtain ⟨rfl, rfl, rfl, rfl⟩ := xs_inj hst
      simp only [lnkOk, beq_iff_eq] at hl
      subst hl
      obtain ⟨v, sA, rfl, hv, r1⟩ := r.pop
      exact lv_dup hx hb hd (by rw [hv.cat]; exact hc) (kk _ _ (r.push hv))
    · cases hst
  · split at hst
    · rename_i hc
      obtain ⟨rfl, rfl, rfl, rfl⟩ := xs_inj hst
      simp only [lnkOk, beq_iff_eq] at hl
      subst hl
      obtain ⟨v, sA, rfl, hv, r1⟩ := r.pop
      exact lv_pop hx hb hd (by rw [hv.cat]; exact hc) (kk _ _ r1)
    · cases hst
  · obtain ⟨rfl, rfl, rfl, rfl⟩ := xs_inj hst
    simp only [lnkOk, beq_iff_eq] at hl
    subst hl
    obtain ⟨sA0, rfl, r0⟩ := r.int
    obtain ⟨sA1, rfl, r1⟩ := r0.int
    exact lv_iadd hx hb hd (kk _ _ (r1.push rfl))
  · obtain ⟨rfl, rfl, rfl, rfl⟩ := xs_inj hst
    simp only [lnkOk, beq_iff_eq] at hl
    subst hl
    obtain ⟨sA0, rfl, r0⟩ := r.int
    obtain ⟨sA1, rfl, r1⟩ := r0.int
    exact lv_isub hx hb hd (kk _ _ (r1.push rfl))
  · obtain ⟨rfl, rfl, rfl, rfl⟩ := xs_inj hst
    simp only [lnkOk, beq_iff_eq] at hl
    subst hl
    obtain ⟨sA0, rfl, r0⟩ := r.int
    obtain ⟨sA1, rfl, r1⟩ := r0.int
    exact lv_imul hx hb hd (kk _ _ (r1.push rfl))
  · split at hst
    · cases hst
    · rename_i hc
      obtain ⟨rfl, rfl, rfl, rfl⟩ := xs_inj hst
      simp only [lnkOk, beq_iff_eq] at hl
      subst hl
      obtain ⟨sA0, rfl, r0⟩ := r.int
      obtain ⟨sA1, rfl, r1⟩ := r0.int
      exact lv_idiv hx hb hd hc (kk _ _ (r1.push rfl))
  · split at hst
    · cases hst
    · rename_i hc
      obtain ⟨rfl, rfl, rfl, rfl⟩ := xs_inj hst
      simp only [lnkOk, beq_iff_eq] at hl
      subst hl
      obtain ⟨sA0, rfl, r0⟩ := r.int
      obtain ⟨sA1, rfl, r1⟩ := r0.int
      exact lv_irem hx hb hd hc (kk _ _ (r1.push rfl))
  · obtain ⟨rfl, rfl, rfl, rfl⟩ := xs_inj hst
    simp only [lnkOk, beq_iff_eq] at hl
    subst hl
    obtain ⟨sA0, rfl, r0⟩ := r.int
    obtain ⟨sA1, rfl, r1⟩ := r0.int
    exact lv_iand hx hb hd (kk _ _ (r1.push rfl))
  · obtain ⟨rfl, rfl, rfl, rfl⟩ := xs_inj hst
    simp only [lnkOk, beq_iff_eq] at hl
    subst hl
    obtain ⟨sA0, rfl, r0⟩ := r.int
    obtain ⟨sA1, rfl, r1⟩ := r0.int
    exact lv_ior hx hb hd (kk _ _ (r1.push rfl))
  · obtain ⟨rfl, rfl, rfl, rfl⟩ := xs_inj hst
    simp only [lnkOk, beq_iff_eq] at hl
    subst hl
    obtain ⟨sA0, rfl, r0⟩ := r.int
    obtain ⟨sA1, rfl, r1⟩ := r0.int
    exact lv_ixor hx hb hd (kk _ _ (r1.push rfl))
  · obtain ⟨rfl, rfl, rfl, rfl⟩ := xs_inj hst
    simp only [lnkOk, beq_iff_eq] at hl
    subst hl
    obtain ⟨sA0, rfl, r0⟩ := r.int
    exact lv_ineg hx hb hd (kk _ _ (r0.push rfl))
  · obtain ⟨rfl, rfl, rfl, rfl⟩ := xs_inj hst
    simp only [lnkOk, beq_iff_eq] at hl
    subst hl
    obtain ⟨sA0, rfl, r0⟩ := r.int
    obtain ⟨sA1, rfl, r1⟩ := r0.int
    exact lv_ishl hx hb hd (kk _ _ (r1.push rfl))
  · obtain ⟨rfl, rfl, rfl, rfl⟩ := xs_inj hst
    simp only [lnkOk, beq_iff_eq] at hl
    subst hl
    obtain ⟨sA0, rfl, r0⟩ := r.int
    obtain ⟨sA1, rfl, r1⟩ := r0.int
    exact lv_ishr hx hb hd (kk _ _ (r1.push rfl))
  · obtain ⟨rfl, rfl, rfl, rfl⟩ := xs_inj hst
    simp only [lnkOk, beq_iff_eq] at hl
    subst hl
    obtain ⟨sA0, rfl, r0⟩ := r.int
    obtain ⟨sA1, rfl, r1⟩ := r0.int
    exact lv_iushr hx hb hd rfl (kk _ _ (r1.push rfl))
  · obtain ⟨rfl, rfl, rfl, rfl⟩ := xs_inj hst
    simp only [lnkOk, beq_iff_eq] at hl
    subst hl
    obtain ⟨sA0, rfl, r0⟩ := r.int
    exact lv_i2l hx hb hd rfl (kk _ _ (r0.push rfl))
  · obtain ⟨rfl, rfl, rfl, rfl⟩ := xs_inj hst
    simp only [lnkOk, beq_iff_eq] at hl
    subst hl
    obtain ⟨sA0, rfl, r0⟩ := r.long
    exact lv_l2i hx hb hd rfl (kk _ _ (r0.push rfl))
  · obtain ⟨rfl, rfl, rfl, rfl⟩ := xs_inj hst
    simp only [lnkOk, beq_iff_eq] at hl
    subst hl
    obtain ⟨sA0, rfl, r0⟩ := r.int
    exact lv_i2b hx hb hd rfl (kk _ _ (r0.push rfl))
  · obtain ⟨rfl, rfl, rfl, rfl⟩ := xs_inj hst
    simp only [lnkOk, beq_iff_eq] at hl
    subst hl
    obtain ⟨sA0, rfl, r0⟩ := r.int
    exact lv_i2s hx hb hd rfl (kk _ _ (r0.push rfl))
  · obtain ⟨rfl, rfl, rfl, rfl⟩ := xs_inj hst
    simp only [lnkOk, beq_iff_eq] at hl
    subst hl
    obtain ⟨sA0, rfl, r0⟩ := r.int
    exact lv_i2c hx hb hd rfl (kk _ _ (r0.push rfl))
  · obtain ⟨rfl, rfl, rfl, rfl⟩ := xs_inj hst
    simp only [lnkOk, beq_iff_eq] at hl
    subst hl
    obtain ⟨sA0, rfl, r0⟩ := r.long
    obtain ⟨sA1, rfl, r1⟩ := r0.long
    exact W.lcmp hx hb hd (kk _ _ (r1.push rfl))
  · obtain ⟨rfl, rfl, rfl, rfl⟩ := xs_inj hst
    simp only [lnkOk, beq_iff_eq] at hl
    subst hl
    obtain ⟨sA0, rfl, r0⟩ := r.int
    obtain ⟨sA1, rfl, r1⟩ := r0.long
    exact lv_lshl hx hb hd rfl (kk _ _ (r1.push rfl))
  · obtain ⟨rfl, rfl, rfl, rfl⟩ := xs_inj hst
    simp only [lnkOk, beq_iff_eq] at hl
    subst hl
    obtain ⟨sA0, rfl, r0⟩ := r.long
    obtain ⟨sA1, rfl, r1⟩ := r0.long
    exact lv_land hx hb hd (kk _ _ (r1.push rfl))
  · obtain ⟨rfl, rfl, rfl, rfl⟩ := xs_inj hst
    simp only [lnkOk, beq_iff_eq] at hl
    subst hl
    obtain ⟨sA0, rfl, r0⟩ := r.long
    obtain ⟨sA1, rfl, r1⟩ := r0.long
    exact lv_lor hx hb hd (kk _ _ (r1.push rfl))
set_option maxHeartbeats 4000000 in
theorem sL (F : Fx X cst base mi p s m args meth c) {en : XE} (he : cdx (mC mi) pc = some en) (hst : stpL en pc ls st w = some (pc', ls', st', w')) (r : FR cst base D mi s w ls st H locs lsA stA ws tys)
    (kk : ∀ (lsA' : Array Slot) (stA' : List Value), FR cst base D mi s w' ls' st' H locs lsA' stA' ws tys → W p l e R s m args below meth c H locs cells slots Q (F0 m pc' lsA' stA')) : W p l e R s m args below meth c H locs cells slots Q (F0 m pc lsA stA) := by
  obtain ⟨h0, hd, hl⟩ := F.at he
  obtain ⟨hx, hb, -, -, hown, hts, -⟩ := id F
  obtain ⟨pc0, i, n, a, b, c0, pp, t⟩ := en
  dsimp only at h0 hd
  subst h0
  unfold stpL at hst
  dsimp only at hst
  split at hst
  all_goals try (cases hst; done)
  · split at hst
    · rename_i hg
      obtain ⟨rfl, rfl, rfl, rfl⟩ := xs_inj hst
      simp only [lnkOk, Bool.and_eq_true, beq_iff_eq] at hl
      obtain ⟨rfl, ha⟩ := hl
      obtain ⟨v, hv, hr⟩ := r.2.2.1.get hg
      cases (show v = _ from hr)
      exact lv_iload_n hx hb hd ha hv (kk _ _ (r.push rfl))
    · cases hst
  · split at hst
    · rename_i hg
      obtain ⟨rfl, rfl, rfl, rfl⟩ := xs_inj hst
      simp only [lnkOk, Bool.and_eq_true, beq_iff_eq] at hl
      obtain ⟨rfl, ha⟩ := hl
      obtain ⟨v, hv, hr⟩ := r.2.2.1.get hg
      cases (show v = _ from hr)
      subst ha
      exact lv_iload hx hb hd hv (kk _ _ (r.push rfl))
    · cases hst
  · split at hst
    · rename_i hg
      obtain ⟨rfl, rfl, rfl, rfl⟩ := xs_inj hst
      simp only [lnkOk, Bool.and_eq_true, beq_iff_eq] at hl
      obtain ⟨rfl, ha⟩ := hl
      obtain ⟨v, hv, hr⟩ := r.2.2.1.get hg
      cases (show v = _ from hr)
      exact lv_lload_n hx hb hd ha hv (kk _ _ (r.push rfl))
    · cases hst
  · split at hst
    · rename_i hg
      obtain ⟨rfl, rfl, rfl, rfl⟩ := xs_inj hst
      simp only [lnkOk, Bool.and_eq_true, beq_iff_eq] at hl
      obtain ⟨rfl, ha⟩ := hl
      obtain ⟨v, hv, hr⟩ := r.2.2.1.get hg
      have hq : v = .null ∨ ∃ a, v = .ref a := by
        rcases id hr with ⟨a1, e1, -, h⟩ | ⟨-, -, h⟩
        · exact Or.inr ⟨a1, h⟩
        · exact h
      rcases hq with rfl | ⟨a1, rfl⟩
      · exact lv_aload_nN hx hb hd ha hv (kk _ _ (r.push hr))
      · exact lv_aload_n hx hb hd ha hv (kk _ _ (r.push hr))
    · rename_i hg
      obtain ⟨rfl, rfl, rfl, rfl⟩ := xs_inj hst
      simp only [lnkOk, Bool.and_eq_true, beq_iff_eq] at hl
      obtain ⟨rfl, ha⟩ := hl
      obtain ⟨v, hv, hr⟩ := r.2.2.1.get hg
      cases (show v = _ from hr)
      exact lv_aload_nN hx hb hd ha hv (kk _ _ (r.push hr))
    · cases hst
  · split at hst
    · rename_i hg
      obtain ⟨rfl, rfl, rfl, rfl⟩ := xs_inj hst
      simp only [lnkOk, Bool.and_eq_true, beq_iff_eq] at hl
      obtain ⟨rfl, ha⟩ := hl
      subst ha
      obtain ⟨v, hv, hr⟩ := r.2.2.1.get hg
      have hq : v = .null ∨ ∃ a, v = .ref a := by
        rcases id hr with ⟨a1, e1, -, h⟩ | ⟨-, -, h⟩
        · exact Or.inr ⟨a1, h⟩
        · exact h
      rcases hq with rfl | ⟨a1, rfl⟩
      · exact lv_aloadN hx hb hd hv (kk _ _ (r.push hr))
      · exact lv_aload hx hb hd hv (kk _ _ (r.push hr))
    · rename_i hg
      obtain ⟨rfl, rfl, rfl, rfl⟩ := xs_inj hst
      simp only [lnkOk, Bool.and_eq_true, beq_iff_eq] at hl
      obtain ⟨rfl, ha⟩ := hl
      subst ha
      obtain ⟨v, hv, hr⟩ := r.2.2.1.get hg
      cases (show v = _ from hr)
      exact lv_aloadN hx hb hd hv (kk _ _ (r.push hr))
    · cases hst
  · split at hst
    · rename_i hlt
      obtain ⟨rfl, rfl, rfl, rfl⟩ := xs_inj hst
      simp only [lnkOk, Bool.and_eq_true, beq_iff_eq] at hl
      obtain ⟨rfl, ha⟩ := hl
      obtain ⟨sA, rfl, r1⟩ := r.int
      obtain ⟨lm, hlm, hrel⟩ := r1.2.2.1
      exact lv_istore_n hx hb hd ha hlm hlt rfl (fun lsA1 hl1 => kk lsA1 _ ⟨r1.1, r1.2.1, Lr.set1 hrel hlt rfl hl1, r1.2.2.2.1, by unfold lset1; rw [List.length_set, lclr_len]; exact r.2.2.2.2⟩)
    · cases hst
  · split at hst
    · rename_i hlt
      obtain ⟨rfl, rfl, rfl, rfl⟩ := xs_inj hst
      simp only [lnkOk, Bool.and_eq_true, beq_iff_eq] at hl
      obtain ⟨rfl, ha⟩ := hl
      subst ha
      obtain ⟨sA, rfl, r1⟩ := r.int
      obtain ⟨lm, hlm, hrel⟩ := r1.2.2.1
      exact lv_istore hx hb hd hlm hlt rfl (fun lsA1 hl1 => kk lsA1 _ ⟨r1.1, r1.2.1, Lr.set1 hrel hlt rfl hl1, r1.2.2.2.1, by unfold lset1; rw [List.length_set, lclr_len]; exact r.2.2.2.2⟩)
    · cases hst
  · split at hst
    · rename_i hlt
      obtain ⟨rfl, rfl, rfl, rfl⟩ := xs_inj hst
      simp only [lnkOk, Bool.and_eq_true, beq_iff_eq] at hl
      obtain ⟨rfl, ha⟩ := hl
      obtain ⟨sA, rfl, r1⟩ := r.long
      obtain ⟨lm, hlm, hrel⟩ := r1.2.2.1
      exact lv_lstore_n hx hb hd ha hlm hlt rfl (fun lsA1 hl1 => kk lsA1 _ ⟨r1.1, r1.2.1, Lr.set2 hrel hlt rfl hl1, r1.2.2.2.1, by unfold lset2; rw [List.length_set, List.length_set, lclr_len]; exact r.2.2.2.2⟩)
    · cases hst
  · split at hst
    · rename_i hlt
      obtain ⟨rfl, rfl, rfl, rfl⟩ := xs_inj hst
      simp only [lnkOk, Bool.and_eq_true, beq_iff_eq] at hl
      obtain ⟨rfl, ha⟩ := hl
      obtain ⟨v, sA, rfl, hr, r1⟩ := r.pop
      obtain ⟨lm, hlm, hrel⟩ := r1.2.2.1
      have hq : v = .null ∨ ∃ a, v = .ref a := by
        rcases id hr with ⟨a1, e1, -, h⟩ | ⟨-, -, h⟩
        · exact Or.inr ⟨a1, h⟩
        · exact h
      rcases hq with rfl | ⟨a1, rfl⟩
      · exact lv_astore_nN hx hb hd ha hlm hlt rfl (fun lsA1 hl1 => kk lsA1 _ ⟨r1.1, r1.2.1, Lr.set1 hrel hlt hr hl1, r1.2.2.2.1, by unfold lset1; rw [List.length_set, lclr_len]; exact r.2.2.2.2⟩)
      · exact lv_astore_n hx hb hd ha hlm hlt rfl (fun lsA1 hl1 => kk lsA1 _ ⟨r1.1, r1.2.1, Lr.set1 hrel hlt hr hl1, r1.2.2.2.1, by unfold lset1; rw [List.length_set, lclr_len]; exact r.2.2.2.2⟩)
    · cases hst
  · split at hst
    · rename_i hlt
      obtain ⟨rfl, rfl, rfl, rfl⟩ := xs_inj hst
      simp only [lnkOk, Bool.and_eq_true, beq_iff_eq] at hl
      obtain ⟨rfl, ha⟩ := hl
      obtain ⟨sA, rfl, r1⟩ := r.null
      obtain ⟨lm, hlm, hrel⟩ := r1.2.2.1
      exact lv_astore_nN hx hb hd ha hlm hlt rfl (fun lsA1 hl1 => kk lsA1 _ ⟨r1.1, r1.2.1, Lr.set1 hrel hlt rfl hl1, r1.2.2.2.1, by unfold lset1; rw [List.length_set, lclr_len]; exact r.2.2.2.2⟩)
    · cases hst
  · split at hst
    · rename_i hlt
      obtain ⟨rfl, rfl, rfl, rfl⟩ := xs_inj hst
      simp only [lnkOk, Bool.and_eq_true, beq_iff_eq] at hl
      obtain ⟨rfl, ha⟩ := hl
      subst ha
      obtain ⟨v, sA, rfl, hr, r1⟩ := r.pop
      obtain ⟨lm, hlm, hrel⟩ := r1.2.2.1
      have hq : v = .null ∨ ∃ a, v = .ref a := by
        rcases id hr with ⟨a1, e1, -, h⟩ | ⟨-, -, h⟩
        · exact Or.inr ⟨a1, h⟩
        · exact h
      rcases hq with rfl | ⟨a1, rfl⟩
      · exact lv_astoreN hx hb hd hlm hlt rfl (fun lsA1 hl1 => kk lsA1 _ ⟨r1.1, r1.2.1, Lr.set1 hrel hlt hr hl1, r1.2.2.2.1, by unfold lset1; rw [List.length_set, lclr_len]; exact r.2.2.2.2⟩)
      · exact lv_astore hx hb hd hlm hlt rfl (fun lsA1 hl1 => kk lsA1 _ ⟨r1.1, r1.2.1, Lr.set1 hrel hlt hr hl1, r1.2.2.2.1, by unfold lset1; rw [List.length_set, lclr_len]; exact r.2.2.2.2⟩)
    · cases hst
  · split at hst
    · rename_i hlt
      obtain ⟨rfl, rfl, rfl, rfl⟩ := xs_inj hst
      simp only [lnkOk, Bool.and_eq_true, beq_iff_eq] at hl
      obtain ⟨rfl, ha⟩ := hl
      subst ha
      obtain ⟨sA, rfl, r1⟩ := r.null
      obtain ⟨lm, hlm, hrel⟩ := r1.2.2.1
      exact lv_astoreN hx hb hd hlm hlt rfl (fun lsA1 hl1 => kk lsA1 _ ⟨r1.1, r1.2.1, Lr.set1 hrel hlt rfl hl1, r1.2.2.2.1, by unfold lset1; rw [List.length_set, lclr_len]; exact r.2.2.2.2⟩)
    · cases hst
  · split at hst
    · rename_i hlt
      split at hst
      · rename_i hg
        obtain ⟨rfl, rfl, rfl, rfl⟩ := xs_inj hst
        simp only [lnkOk, Bool.and_eq_true, beq_iff_eq] at hl
        obtain ⟨rfl, rfl⟩ := hl
        obtain ⟨lm, hlm, hrel⟩ := r.2.2.1
        unfold lget at hg
        split at hg
        · rename_i hg1
          cases hg
          obtain ⟨u, hm, hr⟩ := hrel _ _ hg1
          cases (show u = _ from hr)
          obtain ⟨k, hk⟩ := List.getElem?_of_mem hm
          exact lv_iinc hx hb hd hlm hk rfl hlt rfl (fun lsA1 hl1 => kk lsA1 _ ⟨r.1, r.2.1, Lr.set1 hrel hlt rfl hl1, r.2.2.2.1, by unfold lset1; rw [List.length_set, lclr_len]; exact r.2.2.2.2⟩)
        · cases hg
      · cases hst
    · cases hst
end SNV
end
section
/-! A step of the small machine is a step of the real one: cells read and written. -/
theorem u_use {C : String} {T : u_T} {N : Nat} (h : ∀ w ∈ u_ws C T N, w ∈ lw_tbl) : ∀ w ∈ u_ws C T N, w ∈ lw_use := by
  intro w hw
  refine List.mem_filter.mpr ⟨h w hw, ?_⟩
  obtain ⟨k, -, rfl⟩ := List.mem_map.mp hw
  unfold u_lay
  split <;> rfl
theorem cls_ok : ∀ {ci : Nat} {r : vw_C}, classes[ci]? = some r → (∀ w ∈ u_ws r.1 r.2.1 r.2.2, w ∈ lw_use) ∧ (∀ k, k < r.2.2 → parseFieldDescriptor (r.2.1 k).2.2.1 = some (clT ci k)) ∧ (∀ a, a < r.2.2 → ∀ b, b < r.2.2 → a ≠ b → (r.2.1 a).2.1 ≠ (r.2.1 b).2.1) ∧ clN ci = r.2.2 ∧ clR ci = r.1 ∧ ∀ j, clF ci j = r.2.1 j := by
  intro ci r h
  match ci, h with
  | 0, h => cases h; exact ⟨u_use inX0, tyX0_ok, nmX0, rfl, rfl, fun _ => rfl⟩
  | 1, h => cases h; exact ⟨u_use inX1, tyX1_ok, nmX1, rfl, rfl, fun _ => rfl⟩
  | 2, h => cases h; exact ⟨u_use inX2, tyX2_ok, nmX2, rfl, rfl, fun _ => rfl⟩
  | 3, h => cases h; exact ⟨u_use inX4, tyX4_ok, nmX4, rfl, rfl, fun _ => rfl⟩
  | 4, h => cases h; exact ⟨u_use inX4, tyX4_ok, nmX4, rfl, rfl, fun _ => rfl⟩
  | 5, h => cases h; exact ⟨u_use inX5, tyX5_ok, nmX5, rfl, rfl, fun _ => rfl⟩
  | 6, h => cases h; exact ⟨u_use inX6, tyX6_ok, nmX6, rfl, rfl, fun _ => rfl⟩
  | 7, h => cases h; exact ⟨u_use inX7, tyX7_ok, nmX7, rfl, rfl, fun _ => rfl⟩
  | 8, h => cases h; exact ⟨u_use inX8, tyX8_ok, nmX8, rfl, rfl, fun _ => rfl⟩
  | 9, h => cases h; exact ⟨u_use inX9, tyX9_ok, nmX9, rfl, rfl, fun _ => rfl⟩
  | 10, h => cases h; exact ⟨u_use inX10, tyX10_ok, nmX10, rfl, rfl, fun _ => rfl⟩
  | k + 11, h => simp [classes] at h
theorem cls_ex {ci : Nat} (h : ci < 11) : ∃ r : vw_C, classes[ci]? = some r := by
  match ci, h with
  | 0, _ => exact ⟨_, rfl⟩
  | 1, _ => exact ⟨_, rfl⟩
  | 2, _ => exact ⟨_, rfl⟩
  | 3, _ => exact ⟨_, rfl⟩
  | 4, _ => exact ⟨_, rfl⟩
  | 5, _ => exact ⟨_, rfl⟩
  | 6, _ => exact ⟨_, rfl⟩
  | 7, _ => exact ⟨_, rfl⟩
  | 8, _ => exact ⟨_, rfl⟩
  | 9, _ => exact ⟨_, rfl⟩
  | 10, _ => exact ⟨_, rfl⟩
  | k + 11, h => omega
theorem inA_in {i : Int32} {n : Nat} (h : inA i n = true) : vp_in i n := by
  unfold inA at h
  unfold vp_in
  simpa using h
theorem inA_lt {i : Int32} {n : Nat} (h : inA i n = true) : i.toNatClampNeg < n := Nat.not_le.mp fun q => inA_in h (Or.inr q)
theorem updR_ne {α : Type} {f : Nat → Nat → α} {k j a : Nat} {v : α} (h : a ≠ k) : updR f k j v a = f a := by
  funext b
  unfold updR
  rw [if_neg (fun q => h q.1)]
theorem updR_self {α : Type} {f : Nat → Nat → α} {k j : Nat} {v : α} : updR f k j v k j = v := by
  unfold updR
  rw [if_pos ⟨rfl, rfl⟩]
theorem updR_off {α : Type} {f : Nat → Nat → α} {k j b : Nat} {v : α} (h : b ≠ j) : updR f k j v k b = f k b := by
  unfold updR
  rw [if_neg (fun q => h q.2)]
theorem Cr.cong {ws : va_W} {tys : List (ClassId × FieldType)} {R R' : Nat → Nat → Option Nat} {I I' : Nat → Nat → Int32} {L L' : Nat → Nat → Int64} {k : Nat} {kd : (FieldType × Nat) ⊕ Nat} {e : va_E} (hR : R' k = R k) (hI : I' k = I k) (hL : L' k = L k) (h : Cr ws tys R I L k kd e) : Cr ws tys R' I' L' k kd e := by
  match kd, e, h with
  | .inr ci, .inr (ci', fs), h =>
    unfold Cr at h ⊢
    dsimp only at h ⊢
    rw [hR, hI, hL]
    exact h
  | .inl (ty, n), .inl (cA, n', x), h =>
    unfold Cr at h ⊢
    dsimp only at h ⊢
    rw [hR, hI, hL]
    exact h
  | .inl (_, _), .inr (_, _), h => exact h.elim
  | .inr _, .inl (_, _, _), h => exact h.elim
theorem Wr.upd {D : va_G} {U : State} {H H1 : Heap} {A : Nat → Prop} {K : XK} {R R' : Nat → Nat → Option Nat} {I I' : Nat → Nat → Int32} {L L' : Nat → Nat → Int64} {ws : va_W} {tys : List (ClassId × FieldType)} {k a : Nat} {e0 e1 : va_E} {kd : (FieldType × Nat) ⊕ Nat} (r : Wr D U H A (K, R, I, L) ws tys) (h0 : ws[k]? = some (a, e0)) (hP : va_P D classes (ws.set k (a, e1)) H1) (hD : va_D A (ws.set k (a, e1)))
    (hk : K[k]? = some kd) (hc : Cr (ws.set k (a, e1)) tys R' I' L' k kd e1) (hR : ∀ q, q ≠ k → R' q = R q) (hI : ∀ q, q ≠ k → I' q = I q) (hL : ∀ q, q ≠ k → L' q = L q) : Wr D U H1 A (K, R', I', L') (ws.set k (a, e1)) tys := by
  obtain ⟨h1, h2, h3, h4, h5, h6⟩ := r
  refine ⟨h1, hP, hD, by rw [List.length_set]; exact h4, h5, fun q kd' hq => ?_⟩
  by_cases hqk : q = k
  · subst hqk
    have hq' : K[q]? = some kd' := hq
    rw [hk] at hq'
    cases hq'
    exact ⟨a, e1, List.getElem?_set_self (List.getElem?_eq_some_iff.mp h0).1, hc⟩
  · obtain ⟨b, e2, g1, g2⟩ := h6 q kd' hq
    exact ⟨b, e2, by rw [List.getElem?_set_ne (fun z => hqk z.symm)]; exact g1, (g2.mono (Ext.set h0) (fun t0 z hz => ⟨t0, hz⟩)).cong (hR q hqk) (hI q hqk) (hL q hqk)⟩
theorem fval_int {ty : FieldType} {r : Option Nat} {i : Int32} {l : Int64} (h : isIntT ty = true) : fval ty r i l = .int i := by
  cases ty <;> first | rfl | (simp [isIntT] at h)
theorem fval_ref {ty : FieldType} {r : Option Nat} {i : Int32} {l : Int64} (h : isRefT ty = true) : fval ty r i l = rfv r := by
  cases ty <;> first | rfl | (simp [isRefT] at h)
theorem fval_noref {ty : FieldType} {r : Option Nat} {i : Int32} {l : Int64} (h : isRefT ty = false) : fval ty r i l = fval ty none i l := by
  cases ty <;> first | rfl | (simp [isRefT] at h)
theorem nar_int {ty : FieldType} {x : Int32} (h : isIntT ty = true) (hf : fits ty (.int x) = true) : narrow ty (.int x) = .int x := by
  cases ty with
  | int => rfl
  | boolean =>
    simp only [fits, Bool.or_eq_true, beq_iff_eq] at hf
    rcases hf with rfl | rfl <;> rfl
  | _ => simp [isIntT] at h
theorem nar_bool {x : Int32} (hf : fits .boolean (.int x) = true) : vp_nar .boolean x = x := by
  have h := nar_int (ty := .boolean) rfl hf
  unfold vp_nar
  rw [h]
theorem nat_off {k c : Nat} (h1 : c ≤ k) (h2 : k < c + 8) : ∃ i0, i0 < 8 ∧ k = c + i0 := ⟨k - c, by omega, by omega⟩
theorem big_1 (i : Nat) : 1000000 ≤ 1000000 + i := by omega
theorem big_2 (i : Nat) : 1000000 ≤ 1000000 + i + 20 := by omega
theorem big_3 (i : Nat) : 1000000 ≤ 1000040 + i := by omega
theorem big_4 (i : Nat) : 1000000 + i + 20 = 1000020 + i := by omega
theorem big_5 (i : Nat) : 1000020 + i - 1000020 = i := by omega
section SNH
variable {X : Nat × (Nat → Int32)} {cst : Nat → Value} {base : Nat} {D : va_G} {mi : MI} {p : Program} {l : Launch} {e : Env} {R : Room} {s : State} {m : MethodId} {args : Array Value} {below : List Frame} {meth : Method} {c : Code} {Q : State → Prop}
variable {w w' : XW} {ls ls' : XL} {st st' : List Value} {H : Heap} {locs : List Loc} {lsA : Array Slot} {stA : List Value} {ws : va_W} {tys : List (ClassId × FieldType)} {cells slots pc pc' : Nat}
theorem FR.sto {H1 : Heap} {locs1 : List Loc} {ws1 : va_W} (r : FR cst base D mi s w ls st H locs lsA stA ws tys) (hW : Wr D s H1 (xA base) w' ws1 tys) (hS : va_S (xA base) s.heap H1 locs1) (hE : Ext ws ws1) : FR cst base D mi s w' ls st H1 locs1 lsA stA ws1 tys := ⟨hW, hS, r.2.2.1.mono hE, r.2.2.2.1.mono hE, r.2.2.2.2⟩
set_option maxHeartbeats 8000000 in
theorem sH (F : Fx X cst base mi p s m args meth c) {en : XE} (he : cdx (mC mi) pc = some en) (hst : stpH X en pc ls st w = some (pc', ls', st', w')) (r : FR cst base D mi s w ls st H locs lsA stA ws tys)
    (kk : ∀ (H1 : Heap) (locs1 : List Loc) (stA' : List Value) (ws1 : va_W), w'.1 = w.1 → Ext ws ws1 → FR cst base D mi s w' ls' st' H1 locs1 lsA stA' ws1 tys → W p l e R s m args below meth c H1 locs1 cells slots Q (F0 m pc' lsA stA')) : W p l e R s m args below meth c H locs cells slots Q (F0 m pc lsA stA) := by
  obtain ⟨h0, hd, hl⟩ := F.at he
  obtain ⟨hx, hb, -, -, hown, hts, -, -, hG, -, hinit, hgs⟩ := id F
  have hgs := List.all_eq_true.mp hgs _ (cdx_mem he).2
  obtain ⟨pc0, i, n, a, b, c0, pp, t⟩ := en
  obtain ⟨K, RR, I, L⟩ := w
  dsimp only at h0 hd
  subst h0
  unfold stpH at hst
  dsimp only at hst
  have hK := r.1.1
  have hP := r.1.2.1
  have hD := r.1.2.2.1
  have hS := r.2.1
  have hcell : ∀ {k : Nat} {kd : (FieldType × Nat) ⊕ Nat}, K[k]? = some kd → ∃ a e, ws[k]? = some (a, e) ∧ Cr ws tys RR I L k kd e := fun {k kd} h => r.1.2.2.2.2.2 k kd h
  have hown1 : ∀ {k : Nat} {v' : Value} {kd : (FieldType × Nat) ⊕ Nat} {a1 : Nat} {e1 : va_E}, K[k]? = some kd → ws[k]? = some (a1, e1) → Vr ws cst (.ref k) v' → v' = .ref a1 := by
    intro k v' kd a1 e1 h1 h2 h3
    obtain ⟨a2, e2, h4, h5⟩ := r.1.own (List.getElem?_eq_some_iff.mp h1).1 h3
    rw [h2] at h4
    cases h4
    exact h5
  have hcon : ∀ {k : Nat} {v' : Value}, K[k]? = none → Vr ws cst (.ref k) v' → v' = cst k := fun h1 h2 => (r.1.con h1 h2).2.1
  split at hst
  all_goals try (cases hst; done)
  -- getfield
  · rename_i ix k st1
    split at hst
    · rename_i ci hk
      split at hst
      · rename_i hc
        obtain ⟨rfl, rfl, hbN⟩ := hc
        obtain ⟨rfl, rfl, rfl, rfl⟩ := xs_inj hst
        simp only [lnkOk, Bool.and_eq_true, beq_iff_eq, decide_eq_true_eq, if_true] at hl
        obtain ⟨rfl, ⟨ha11, -⟩, hw⟩ := hl
        obtain ⟨v', sA, rfl, hv, r1⟩ := r.pop
        obtain ⟨a1, e1, h1, h2⟩ := hcell hk
        cases hown1 hk h1 hv
        obtain ⟨rc, hrc⟩ := cls_ex ha11
        obtain ⟨q1, q2, q3, q4, q5, q6⟩ := cls_ok hrc
        obtain ⟨rC, rT, rN⟩ := rc
        dsimp only at q1 q2 q3 q4 q5 q6
        match e1, h1, h2 with
        | .inr (ci', fs), h1, h2 =>
          obtain ⟨rfl, -, hlen, hfs⟩ := h2
          obtain ⟨vv, hv1, hv2⟩ := hfs b hbN
          rw [q6] at hw
          exact va_get hx hb hts q1 hown hK hP k h1 hrc b (by rw [← q4]; exact hbN) (hts _ (wu hw rfl)) (fun _ h9 => h9) hv1 hd (kk _ _ _ _ rfl Ext.rf (r1.push hv2.r))
        | .inl _, h1, h2 => exact h2.elim
      · cases hst
    · cases hst
    · rename_i hk
      split at hst
      · rename_i hc
        obtain ⟨rfl, hk1, hk2⟩ := hc
        obtain ⟨rfl, rfl, rfl, rfl⟩ := xs_inj hst
        simp only [lnkOk, Bool.and_eq_true, beq_iff_eq, decide_eq_true_eq] at hl
        obtain ⟨rfl, hl⟩ := hl
        simp only [if_neg (show ¬ (1 : Nat) = 0 by decide), if_true, Bool.and_eq_true, decide_eq_true_eq] at hl
        obtain ⟨hb2, hw⟩ := hl
        obtain ⟨v', sA, rfl, hv, r1⟩ := r.pop
        obtain ⟨i0, hi0, rfl⟩ := nat_off (c := 1000000) hk1 hk2
        obtain ⟨aK, aV, g1, g2, g3, g4, g5, g6, g7⟩ := hG.2.2.2.1 i0 hi0
        rw [hcon hk hv, g1]
        have hb3 : b = 0 ∨ b = 1 := by omega
        rcases hb3 with rfl | rfl
        · exact vk_getf hx hb g5 hS hown (hts _ (wu hw rfl)) (fun _ h9 => h9) hd (kk _ _ _ _ rfl Ext.rf (r1.push rfl))
        · refine vk_getf hx hb g6 hS hown (hts _ (wu hw rfl)) (fun _ h9 => h9) hd (kk _ _ _ _ rfl Ext.rf (r1.push (Or.inr ⟨big_2 i0, ?_, Or.inr ⟨aV, rfl⟩⟩)))
          exact ((congrArg cst (big_4 i0)).trans g2).symm
      · cases hst
  -- putfield int
  · rename_i ix x k st1
    split at hst
    · rename_i ci hk
      split at hst
      · rename_i hc
        obtain ⟨rfl, hbN, hty, hfit⟩ := hc
        obtain ⟨rfl, rfl, rfl, rfl⟩ := xs_inj hst
        simp only [lnkOk, Bool.and_eq_true, beq_iff_eq, decide_eq_true_eq] at hl
        obtain ⟨rfl, ⟨ha11, -⟩, hw, hfin⟩ := hl
        obtain ⟨sA0, rfl, r0⟩ := r.int
        obtain ⟨v', sA, rfl, hv, r1⟩ := r0.pop
        obtain ⟨a1, e1, h1, h2⟩ := hcell hk
        cases hown1 hk h1 hv
        obtain ⟨rc, hrc⟩ := cls_ex ha11
        obtain ⟨q1, q2, q3, q4, q5, q6⟩ := cls_ok hrc
        obtain ⟨rC, rT, rN⟩ := rc
        dsimp only at q1 q2 q3 q4 q5 q6
        match e1, h1, h2 with
        | .inr (ci', fs), h1, h2 =>
          obtain ⟨rfl, -, hlen, hfs⟩ := h2
          rw [q6] at hw hfin
          have hb' : b < rN := by rw [← q4]; exact hbN
          have hbl : b < fs.length := by rw [hlen]; exact hbN
          have fin : ∀ (H1 : Heap) (locs1 : List Loc), va_P D classes (ws.set k (a1, .inr (ci', fs.set b (.int x)))) H1 → va_D (xA base) (ws.set k (a1, .inr (ci', fs.set b (.int x)))) → va_S (xA base) s.heap H1 locs1 → W p l e R s m args below meth c H1 locs1 cells slots Q (F0 m (pc0 + 3) lsA sA) := by
            intro H1 locs1 hP1 hD1 hS1
            refine kk H1 locs1 sA _ rfl (Ext.set h1) (r1.sto (Wr.upd r.1 h1 hP1 hD1 hk ⟨rfl, ha11, by rw [List.length_set]; exact hlen, fun j hj => ?_⟩ (fun _ _ => rfl) (fun q hq => updR_ne hq) (fun _ _ => rfl)) hS1 (Ext.set h1))
            by_cases hjb : j = b
            · subst hjb
              refine ⟨.int x, List.getElem?_set_self hbl, ?_⟩
              rw [fval_int hty, updR_self]
              rfl
            · obtain ⟨vv, g1, g2⟩ := hfs j hj
              refine ⟨vv, by rw [List.getElem?_set_ne (fun z => hjb z.symm)]; exact g1, ?_⟩
              rw [updR_off hjb]
              exact g2.mono (Ext.set h1)
          by_cases hc0 : c0 = 0
          · rw [if_pos hc0] at hfin
            exact va_put hx hb hts q1 (clT ci') q2 q3 hown hK hP hD hS k h1 hrc b hb' (hts _ (wu hw rfl)) (fun _ h9 => h9) (of_decide_eq_true hfin) (q2 b hb') (nar_int hty hfit) hfit hbl hd fin
          · rw [if_neg hc0] at hfin
            obtain ⟨f1, f2, f3⟩ := of_decide_eq_true hfin
            exact va_putF hx hb hts q1 (clT ci') q2 q3 hown hK hP hD hS k h1 hrc b hb' (hts _ (wu hw rfl)) (fun _ h9 => h9) f1 (hinit f2) f3 (q2 b hb') (nar_int hty hfit) hfit hbl hd fin
        | .inl _, h1, h2 => exact h2.elim
      · cases hst
    · cases hst
  -- putfield ref
  · rename_i ix x k st1
    split at hst
    · rename_i ci hk
      split at hst
      · rename_i hc
        obtain ⟨rfl, hbN, hty, hxK⟩ := hc
        obtain ⟨rfl, rfl, rfl, rfl⟩ := xs_inj hst
        simp only [lnkOk, Bool.and_eq_true, beq_iff_eq, decide_eq_true_eq] at hl
        obtain ⟨rfl, ⟨ha11, -⟩, hw, hfin⟩ := hl
        obtain ⟨vx, sA0, rfl, hvx, r0⟩ := r.pop
        obtain ⟨v', sA, rfl, hv, r1⟩ := r0.pop
        obtain ⟨ax, ex, hx1, rfl⟩ := r.1.own hxK hvx
        obtain ⟨a1, e1, h1, h2⟩ := hcell hk
        cases hown1 hk h1 hv
        obtain ⟨rc, hrc⟩ := cls_ex ha11
        obtain ⟨q1, q2, q3, q4, q5, q6⟩ := cls_ok hrc
        obtain ⟨rC, rT, rN⟩ := rc
        dsimp only at q1 q2 q3 q4 q5 q6
        match e1, h1, h2 with
        | .inr (ci', fs), h1, h2 =>
          obtain ⟨rfl, -, hlen, hfs⟩ := h2
          rw [q6] at hw hfin
          have hb' : b < rN := by rw [← q4]; exact hbN
          have hbl : b < fs.length := by rw [hlen]; exact hbN
          have hnar : narrow (clT ci' b) (.ref ax) = .ref ax := by
            generalize clT ci' b = ty at hty
            cases ty <;> rfl
          have hfit : fits (clT ci' b) (.ref ax) = true := by
            generalize clT ci' b = ty at hty
            cases ty <;> first | rfl | (simp [isRefT] at hty)
          have fin : ∀ (H1 : Heap) (locs1 : List Loc), va_P D classes (ws.set k (a1, .inr (ci', fs.set b (.ref ax)))) H1 → va_D (xA base) (ws.set k (a1, .inr (ci', fs.set b (.ref ax)))) → va_S (xA base) s.heap H1 locs1 → W p l e R s m args below meth c H1 locs1 cells slots Q (F0 m (pc0 + 3) lsA sA) := by
            intro H1 locs1 hP1 hD1 hS1
            refine kk H1 locs1 sA _ rfl (Ext.set h1) (r1.sto (Wr.upd r.1 h1 hP1 hD1 hk ⟨rfl, ha11, by rw [List.length_set]; exact hlen, fun j hj => ?_⟩ (fun q hq => updR_ne hq) (fun _ _ => rfl) (fun _ _ => rfl)) hS1 (Ext.set h1))
            by_cases hjb : j = b
            · subst hjb
              refine ⟨.ref ax, List.getElem?_set_self hbl, ?_⟩
              rw [fval_ref hty, updR_self]
              obtain ⟨e9, h9⟩ := (Ext.set h1 : Ext ws (ws.set k (a1, .inr (ci', fs.set j (.ref ax))))) x ax ex hx1
              exact ⟨ax, e9, h9, rfl⟩
            · obtain ⟨vv, g1, g2⟩ := hfs j hj
              refine ⟨vv, by rw [List.getElem?_set_ne (fun z => hjb z.symm)]; exact g1, ?_⟩
              rw [updR_off hjb]
              exact g2.mono (Ext.set h1)
          by_cases hc0 : c0 = 0
          · rw [if_pos hc0] at hfin
            exact va_put hx hb hts q1 (clT ci') q2 q3 hown hK hP hD hS k h1 hrc b hb' (hts _ (wu hw rfl)) (fun _ h9 => h9) (of_decide_eq_true hfin) (q2 b hb') hnar hfit hbl hd fin
          · rw [if_neg hc0] at hfin
            obtain ⟨f1, f2, f3⟩ := of_decide_eq_true hfin
            exact va_putF hx hb hts q1 (clT ci') q2 q3 hown hK hP hD hS k h1 hrc b hb' (hts _ (wu hw rfl)) (fun _ h9 => h9) f1 (hinit f2) f3 (q2 b hb') hnar hfit hbl hd fin
        | .inl _, h1, h2 => exact h2.elim
      · cases hst
    · cases hst
  -- getstatic
  · rename_i ix
    obtain ⟨rfl, rfl, rfl, rfl⟩ := xs_inj hst
    simp only [lnkOk, Bool.and_eq_true, beq_iff_eq, decide_eq_true_eq] at hl
    obtain ⟨rfl, hl⟩ := hl
    by_cases hc0 : c0 = 0
    · subst hc0
      rw [if_pos rfl] at hl
      simp only [Bool.and_eq_true, decide_eq_true_eq] at hl
      obtain ⟨hb3, hl⟩ := hl
      rw [if_neg (by decide)] at kk
      rcases hb3 with hb3 | rfl
      · obtain ⟨a1, g1, g2, g3⟩ := hG.1 b hb3
        have k1 := kk _ _ _ _ rfl Ext.rf (r.push (v' := .ref a1) (Or.inr ⟨big_3 b, g1.symm, Or.inr ⟨a1, rfl⟩⟩))
        cases t with
        | nil => exact va_gets hx hb g2 hS hown (hts _ (wu hl rfl)) (fun _ h9 => h9) hd k1
        | cons q tl =>
          simp only [Bool.and_eq_true, decide_eq_true_eq] at hl
          exact va_getsN hx hb g2 hS hown (hts _ (wu hl.2 rfl)) (fun _ h9 => h9) hd k1
      · obtain ⟨g1, g2⟩ := hG.2.2.1
        have k1 := kk _ _ _ _ rfl Ext.rf (r.push (v' := cst 1000060) (Or.inr ⟨big_3 20, rfl, g1⟩))
        cases t with
        | nil => exact va_gets hx hb g2 hS hown (hts _ (wu hl rfl)) (fun _ h9 => h9) hd k1
        | cons q tl =>
          simp only [Bool.and_eq_true, decide_eq_true_eq] at hl
          exact absurd hl.1 (by decide)
    · rw [if_neg hc0] at hl
      simp only [Bool.and_eq_true, decide_eq_true_eq] at hl
      obtain ⟨rfl, hw⟩ := hl
      have hc1 : c0 = 1 := by
        have h := of_decide_eq_true hgs
        omega
      rw [if_pos hc1] at kk
      exact va_gets hx hb hG.2.1 hS hown (hts _ (wu hw rfl)) (fun _ h9 => h9) hd (kk _ _ _ _ rfl Ext.rf (r.push rfl))
  -- ldc
  · rename_i ix
    obtain ⟨rfl, rfl, rfl, rfl⟩ := xs_inj hst
    simp only [lnkOk, Bool.and_eq_true, beq_iff_eq, decide_eq_true_eq] at hl
    obtain ⟨rfl, ha8, hcls, hsk, -⟩ := hl
    obtain ⟨aK, aV, g1, g2, g3, g4, g5, g6, g7⟩ := hG.2.2.2.1 a ha8
    rw [hcls] at hown
    rw [hsk] at g3
    exact va_ldcS hx hb hown g3 hd (kk _ _ _ _ rfl Ext.rf (r.push (Or.inr ⟨big_1 a, g1.symm, Or.inr ⟨aK, rfl⟩⟩)))
  -- iaload
  · rename_i i1 k st1
    split at hst
    · rename_i m1 hk
      split at hst
      · rename_i hin
        obtain ⟨rfl, rfl, rfl, rfl⟩ := xs_inj hst
        simp only [lnkOk, beq_iff_eq] at hl
        subst hl
        obtain ⟨sA0, rfl, r0⟩ := r.int
        obtain ⟨v', sA, rfl, hv, r1⟩ := r0.pop
        obtain ⟨a1, e1, h1, h2⟩ := hcell hk
        cases hown1 hk h1 hv
        match e1, h1, h2 with
        | .inl (cA, n', bd), h1, h2 =>
          obtain ⟨rfl, ⟨t0, ht0⟩, f, rfl, hf⟩ := h2
          have k1 := kk _ _ _ _ rfl Ext.rf (r1.push (v := .int (I k i1.toNatClampNeg)) (v' := .int (f i1.toNatClampNeg)) (by rw [hf _ (inA_lt hin)]; rfl))
          exact va_iald hx hb hK hP k t0 h1 ht0 (inA_in hin) hd k1
        | .inr _, h1, h2 => exact h2.elim
      · cases hst
    · cases hst
    · rename_i hk
      split at hst
      · rename_i m1 f1 hcf
        split at hst
        · rename_i hin
          obtain ⟨rfl, rfl, rfl, rfl⟩ := xs_inj hst
          simp only [lnkOk, beq_iff_eq] at hl
          subst hl
          obtain ⟨sA0, rfl, r0⟩ := r.int
          obtain ⟨v', sA, rfl, hv, r1⟩ := r0.pop
          have hvc := hcon hk hv
          have k1 := kk _ _ _ _ rfl Ext.rf (r1.push (v := .int (f1 i1.toNatClampNeg)) (v' := .int (f1 i1.toNatClampNeg)) rfl)
          have hkc : (∃ b, b < 3 ∧ k = 1000040 + b) ∨ k = 1000050 := by
            unfold cInts at hcf
            split at hcf
            · exact Or.inl ⟨0, by decide, by assumption⟩
            · split at hcf
              · exact Or.inl ⟨1, by decide, by assumption⟩
              · split at hcf
                · exact Or.inl ⟨2, by decide, by assumption⟩
                · split at hcf
                  · exact Or.inr (by assumption)
                  · cases hcf
          rcases hkc with ⟨b1, hb1, rfl⟩ | rfl
          · obtain ⟨a1, g1, g2, N, f2, g3, g4⟩ := hG.1 b1 hb1
            rw [g3] at hcf
            cases hcf
            rw [hvc, g1]
            exact va_ti hx hb g4 hS (inA_in hin) rfl hd k1
          · obtain ⟨x1, x2⟩ := X
            cases x1 with
            | zero => cases hcf
            | succ x1 =>
              cases hcf
              rcases hG.2.2.2.2.1 with hG0 | ⟨b1, g1, g2, g3, g4⟩
              · cases hG0
              · rw [hvc, g1]
                exact va_sld hx hb g2 g3 g4 hS (inA_in hin) hd k1
        · cases hst
      · cases hst
  -- baload
  · rename_i i1 k st1
    split at hst
    · rename_i m1 hk
      split at hst
      · rename_i hin
        obtain ⟨rfl, rfl, rfl, rfl⟩ := xs_inj hst
        simp only [lnkOk, beq_iff_eq] at hl
        subst hl
        obtain ⟨sA0, rfl, r0⟩ := r.int
        obtain ⟨v', sA, rfl, hv, r1⟩ := r0.pop
        obtain ⟨a1, e1, h1, h2⟩ := hcell hk
        cases hown1 hk h1 hv
        match e1, h1, h2 with
        | .inl (cA, n', bd), h1, h2 =>
          obtain ⟨rfl, ⟨t0, ht0⟩, f, rfl, hf⟩ := h2
          have k1 := kk _ _ _ _ rfl Ext.rf (r1.push (v := .int (I k i1.toNatClampNeg)) (v' := .int (f i1.toNatClampNeg)) (by rw [hf _ (inA_lt hin)]; rfl))
          exact va_zald hx hb hK hP k t0 h1 ht0 (inA_in hin) hd k1
        | .inr _, h1, h2 => exact h2.elim
      · cases hst
    · cases hst
    · rename_i hk
      split at hst
      · rename_i m1 f1 hcf
        split at hst
        · rename_i hin
          obtain ⟨rfl, rfl, rfl, rfl⟩ := xs_inj hst
          simp only [lnkOk, beq_iff_eq] at hl
          subst hl
          obtain ⟨sA0, rfl, r0⟩ := r.int
          obtain ⟨v', sA, rfl, hv, r1⟩ := r0.pop
          have hvc := hcon hk hv
          have k1 := kk _ _ _ _ rfl Ext.rf (r1.push (v := .int (f1 i1.toNatClampNeg)) (v' := .int (f1 i1.toNatClampNeg)) rfl)
          unfold cByts at hcf
          split at hcf
          · rename_i hkr
            obtain ⟨i0, hi0, rfl⟩ := nat_off (c := 1000020) hkr.1 hkr.2
            obtain ⟨aK, aV, g1, g2, g3, g4, g5, g6, g7⟩ := hG.2.2.2.1 i0 hi0
            rw [big_5] at hcf
            cases hcf
            rw [hvc, g2]
            exact va_tb hx hb g7 hS (inA_in hin) rfl hd k1
          · cases hcf
        · cases hst
      · cases hst
  -- laload
  · rename_i i1 k st1
    split at hst
    · rename_i m1 hk
      split at hst
      · rename_i hin
        obtain ⟨rfl, rfl, rfl, rfl⟩ := xs_inj hst
        simp only [lnkOk, beq_iff_eq] at hl
        subst hl
        obtain ⟨sA0, rfl, r0⟩ := r.int
        obtain ⟨v', sA, rfl, hv, r1⟩ := r0.pop
        obtain ⟨a1, e1, h1, h2⟩ := hcell hk
        cases hown1 hk h1 hv
        match e1, h1, h2 with
        | .inl (cA, n', bd), h1, h2 =>
          obtain ⟨rfl, ⟨t0, ht0⟩, f, rfl, hf⟩ := h2
          have k1 := kk _ _ _ _ rfl Ext.rf (r1.push (v := .long (L k i1.toNatClampNeg)) (v' := .long (f i1.toNatClampNeg)) (by rw [hf _ (inA_lt hin)]; rfl))
          exact va_lald hx hb hK hP k t0 h1 ht0 (inA_in hin) hd k1
        | .inr _, h1, h2 => exact h2.elim
      · cases hst
    · cases hst
  -- aaload
  · rename_i i1 k st1
    split at hst
    · rename_i C1 m1 hk
      split at hst
      · rename_i hin
        obtain ⟨rfl, rfl, rfl, rfl⟩ := xs_inj hst
        simp only [lnkOk, beq_iff_eq] at hl
        subst hl
        obtain ⟨sA0, rfl, r0⟩ := r.int
        obtain ⟨v', sA, rfl, hv, r1⟩ := r0.pop
        obtain ⟨a1, e1, h1, h2⟩ := hcell hk
        cases hown1 hk h1 hv
        match e1, h1, h2 with
        | .inl (cA, n', bd), h1, h2 =>
          obtain ⟨rfl, ⟨t0, ht0⟩, f, rfl, hf⟩ := h2
          have k1 := kk _ _ _ _ rfl Ext.rf (r1.push (v := rfv (RR k i1.toNatClampNeg)) (v' := va_rf (f i1.toNatClampNeg)) (hf _ (inA_lt hin)).r)
          exact va_aldq hx hb hK hP k t0 h1 ht0 (inA_in hin) hd k1
        | .inr _, h1, h2 => exact h2.elim
      · cases hst
    · cases hst
  -- iastore
  · rename_i x i1 k st1
    split at hst
    · rename_i m1 hk
      split at hst
      · rename_i hin
        obtain ⟨rfl, rfl, rfl, rfl⟩ := xs_inj hst
        simp only [lnkOk, beq_iff_eq] at hl
        subst hl
        obtain ⟨sAx, rfl, rx⟩ := r.int
        obtain ⟨sA0, rfl, r0⟩ := rx.int
        obtain ⟨v', sA, rfl, hv, r1⟩ := r0.pop
        obtain ⟨a1, e1, h1, h2⟩ := hcell hk
        cases hown1 hk h1 hv
        match e1, h1, h2 with
        | .inl (cA, n', bd), h1, h2 =>
          obtain ⟨rfl, ⟨t0, ht0⟩, f, rfl, hf⟩ := h2
          refine va_iast hx hb hK hP hD hS k t0 h1 ht0 (inA_in hin) hd (fun H1 locs1 hP1 hD1 hS1 => ?_)
          refine kk H1 locs1 sA _ rfl (Ext.set h1) (r1.sto (Wr.upd r.1 h1 hP1 hD1 hk ⟨rfl, ⟨t0, ht0⟩, _, rfl, fun j hj => ?_⟩ (fun _ _ => rfl) (fun q hq => updR_ne hq) (fun _ _ => rfl)) hS1 (Ext.set h1))
          by_cases hji : j = i1.toNatClampNeg
          · subst hji
            rw [updR_self]
            simp [upd]
          · rw [updR_off hji, ← hf j hj]
            simp [upd, hji]
        | .inr _, h1, h2 => exact h2.elim
      · cases hst
    · cases hst
  -- bastore
  · rename_i x i1 k st1
    split at hst
    · rename_i m1 hk
      split at hst
      · rename_i hin
        obtain ⟨hin, hfit⟩ := hin
        obtain ⟨rfl, rfl, rfl, rfl⟩ := xs_inj hst
        simp only [lnkOk, beq_iff_eq] at hl
        subst hl
        obtain ⟨sAx, rfl, rx⟩ := r.int
        obtain ⟨sA0, rfl, r0⟩ := rx.int
        obtain ⟨v', sA, rfl, hv, r1⟩ := r0.pop
        obtain ⟨a1, e1, h1, h2⟩ := hcell hk
        cases hown1 hk h1 hv
        match e1, h1, h2 with
        | .inl (cA, n', bd), h1, h2 =>
          obtain ⟨rfl, ⟨t0, ht0⟩, f, rfl, hf⟩ := h2
          refine va_zast hx hb hK hP hD hS k t0 h1 ht0 (inA_in hin) hd (fun H1 locs1 hP1 hD1 hS1 => ?_)
          rw [nar_bool hfit] at hP1 hD1
          refine kk H1 locs1 sA _ rfl (Ext.set h1) (r1.sto (Wr.upd r.1 h1 hP1 hD1 hk ⟨rfl, ⟨t0, ht0⟩, _, rfl, fun j hj => ?_⟩ (fun _ _ => rfl) (fun q hq => updR_ne hq) (fun _ _ => rfl)) hS1 (Ext.set h1))
          by_cases hji : j = i1.toNatClampNeg
          · subst hji
            rw [updR_self]
            simp [upd]
          · rw [updR_off hji, ← hf j hj]
            simp [upd, hji]
        | .inr _, h1, h2 => exact h2.elim
      · cases hst
    · cases hst
  -- lastore
  · rename_i x i1 k st1
    split at hst
    · rename_i m1 hk
      split at hst
      · rename_i hin
        obtain ⟨rfl, rfl, rfl, rfl⟩ := xs_inj hst
        simp only [lnkOk, beq_iff_eq] at hl
        subst hl
        obtain ⟨sAx, rfl, rx⟩ := r.long
        obtain ⟨sA0, rfl, r0⟩ := rx.int
        obtain ⟨v', sA, rfl, hv, r1⟩ := r0.pop
        obtain ⟨a1, e1, h1, h2⟩ := hcell hk
        cases hown1 hk h1 hv
        match e1, h1, h2 with
        | .inl (cA, n', bd), h1, h2 =>
          obtain ⟨rfl, ⟨t0, ht0⟩, f, rfl, hf⟩ := h2
          refine va_last hx hb hK hP hD hS k t0 h1 ht0 (inA_in hin) hd (fun H1 locs1 hP1 hD1 hS1 => ?_)
          refine kk H1 locs1 sA _ rfl (Ext.set h1) (r1.sto (Wr.upd r.1 h1 hP1 hD1 hk ⟨rfl, ⟨t0, ht0⟩, _, rfl, fun j hj => ?_⟩ (fun _ _ => rfl) (fun _ _ => rfl) (fun q hq => updR_ne hq)) hS1 (Ext.set h1))
          by_cases hji : j = i1.toNatClampNeg
          · subst hji
            rw [updR_self]
            simp [vp_updL]
          · rw [updR_off hji, ← hf j hj]
            simp [vp_updL, hji]
        | .inr _, h1, h2 => exact h2.elim
      · cases hst
    · cases hst
  -- aastore
  · rename_i x i1 k st1
    split at hst
    · rename_i C1 m1 ci hk hkx
      split at hst
      · rename_i hin
        obtain ⟨hin, hC⟩ := hin
        obtain ⟨rfl, rfl, rfl, rfl⟩ := xs_inj hst
        simp only [lnkOk, beq_iff_eq] at hl
        subst hl
        obtain ⟨vx, sAx, rfl, hvx, rx⟩ := r.pop
        obtain ⟨sA0, rfl, r0⟩ := rx.int
        obtain ⟨v', sA, rfl, hv, r1⟩ := r0.pop
        obtain ⟨ax, ex, hx1, hx2⟩ := hcell hkx
        cases hown1 hkx hx1 hvx
        obtain ⟨a1, e1, h1, h2⟩ := hcell hk
        cases hown1 hk h1 hv
        cases hcl : classes[ci]? with
        | none => rw [hcl] at hC; cases hC
        | some rc =>
          rw [hcl] at hC
          cases hC
          match e1, h1, h2, ex, hx1, hx2 with
          | .inl (cA, n', bd), h1, h2, .inr (ci', vs), hx1, hx2 =>
            obtain ⟨rfl, ⟨t0, ht0⟩, f, rfl, hf⟩ := h2
            obtain ⟨rfl, -⟩ := hx2
            refine va_astq hx hb hK hP hD hS k t0 x ci' h1 ht0 hx1 hcl (inA_in hin) hd (fun H1 locs1 hP1 hD1 hS1 => ?_)
            refine kk H1 locs1 sA _ rfl (Ext.set h1) (r1.sto (Wr.upd r.1 h1 hP1 hD1 hk ⟨rfl, ⟨t0, ht0⟩, _, rfl, fun j hj => ?_⟩ (fun q hq => updR_ne hq) (fun _ _ => rfl) (fun _ _ => rfl)) hS1 (Ext.set h1))
            by_cases hji : j = i1.toNatClampNeg
            · subst hji
              rw [updR_self, va_up_self]
              obtain ⟨e9, h9⟩ := (Ext.set h1 : Ext ws (ws.set k (a1, _))) x ax _ hx1
              exact ⟨ax, e9, h9, rfl⟩
            · rw [updR_off hji]
              unfold va_up
              rw [if_neg hji]
              exact (hf j hj).mono (Ext.set h1)
          | .inr _, h1, h2, _, _, _ => exact h2.elim
          | .inl (_, _, _), _, _, .inl _, _, hx2 => exact hx2.elim
      · cases hst
    · cases hst
  -- arraylength
  · rename_i k st1
    split at hst
    · rename_i ty1 m1 hk
      obtain ⟨rfl, rfl, rfl, rfl⟩ := xs_inj hst
      simp only [lnkOk, beq_iff_eq] at hl
      subst hl
      obtain ⟨v', sA, rfl, hv, r1⟩ := r.pop
      obtain ⟨a1, e1, h1, h2⟩ := hcell hk
      cases hown1 hk h1 hv
      match e1, h1, h2 with
      | .inl (cA, n', bd), h1, h2 =>
        obtain ⟨rfl, ⟨t0, ht0⟩, -⟩ := h2
        exact va_alen hx hb hK hP k t0 h1 ht0 rfl hd (kk _ _ _ _ rfl Ext.rf (r1.push rfl))
      | .inr _, h1, h2 => exact h2.elim
    · cases hst
    · rename_i hk
      split at hst
      · rename_i m1 f1 hcf
        obtain ⟨rfl, rfl, rfl, rfl⟩ := xs_inj hst
        simp only [lnkOk, beq_iff_eq] at hl
        subst hl
        obtain ⟨v', sA, rfl, hv, r1⟩ := r.pop
        have hvc := hcon hk hv
        have k1 := kk _ _ _ _ rfl Ext.rf (r1.push (v := .int (Int32.ofNat m1)) (v' := .int (Int32.ofNat m1)) rfl)
        have hkc : (∃ b, b < 3 ∧ k = 1000040 + b) ∨ k = 1000050 := by
          unfold cInts at hcf
          split at hcf
          · exact Or.inl ⟨0, by decide, by assumption⟩
          · split at hcf
            · exact Or.inl ⟨1, by decide, by assumption⟩
            · split at hcf
              · exact Or.inl ⟨2, by decide, by assumption⟩
              · split at hcf
                · exact Or.inr (by assumption)
                · cases hcf
        rcases hkc with ⟨b1, hb1, rfl⟩ | rfl
        · obtain ⟨a1, g1, g2, N, f2, g3, g4⟩ := hG.1 b1 hb1
          rw [g3] at hcf
          cases hcf
          rw [hvc, g1]
          exact va_tlen hx hb g4 hS rfl hd k1
        · obtain ⟨x1, x2⟩ := X
          cases x1 with
          | zero => cases hcf
          | succ x1 =>
            cases hcf
            rcases hG.2.2.2.2.1 with hG0 | ⟨b1, g1, g2, g3, g4⟩
            · cases hG0
            · rw [hvc, g1]
              exact va_slen hx hb g2 g3 g4 hS hd k1
      · split at hst
        · rename_i m1 f1 hcf
          obtain ⟨rfl, rfl, rfl, rfl⟩ := xs_inj hst
          simp only [lnkOk, beq_iff_eq] at hl
          subst hl
          obtain ⟨v', sA, rfl, hv, r1⟩ := r.pop
          have hvc := hcon hk hv
          have k1 := kk _ _ _ _ rfl Ext.rf (r1.push (v := .int (Int32.ofNat m1)) (v' := .int (Int32.ofNat m1)) rfl)
          unfold cByts at hcf
          split at hcf
          · rename_i hkr
            obtain ⟨i0, hi0, rfl⟩ := nat_off (c := 1000020) hkr.1 hkr.2
            obtain ⟨aK, aV, g1, g2, g3, g4, g5, g6, g7⟩ := hG.2.2.2.1 i0 hi0
            rw [big_5] at hcf
            cases hcf
            rw [hvc, g2]
            exact va_tlen hx hb g7 hS rfl hd k1
          · cases hcf
        · cases hst
end SNH
end
section
/-! Cells that are made, and what is done at once: Object's constructor, arraycopy. -/
def kw : ((FieldType × Nat) ⊕ Nat) → Nat
  | .inl q => q.2
  | .inr ci => clN ci
def sw (K : XK) : Nat := (K.map kw).sum
theorem sw_app (K : XK) (q : (FieldType × Nat) ⊕ Nat) : sw (K ++ [q]) = sw K + kw q := by simp [sw]
set_option maxRecDepth 20000 in
theorem inst_ok : ∀ {a : Nat}, a < 11 → a ≠ 3 → Jvm.Cond.instantiable (clR a) (clN a) ∈ lw_use ∧ Jvm.Cond.initialized (clR a) ∈ lw_use := by
  intro a h h3
  match a, h, h3 with
  | 0, _, _ => exact ⟨wu (p := 1206) (by decide +kernel) rfl, wu (p := 1009) (by decide +kernel) rfl⟩
  | 1, _, _ => exact ⟨wu (p := 1057) (by decide +kernel) rfl, wu (p := 1005) (by decide +kernel) rfl⟩
  | 2, _, _ => exact ⟨wu (p := 1149) (by decide +kernel) rfl, wu (p := 1007) (by decide +kernel) rfl⟩
  | 3, _, h => exact absurd rfl h
  | 4, _, _ => exact ⟨wu (p := 1037) (by decide +kernel) rfl, wu (p := 1003) (by decide +kernel) rfl⟩
  | 5, _, _ => exact ⟨wu (p := 1029) (by decide +kernel) rfl, wu (p := 1002) (by decide +kernel) rfl⟩
  | 6, _, _ => exact ⟨wu (p := 1221) (by decide +kernel) rfl, wu (p := 1010) (by decide +kernel) rfl⟩
  | 7, _, _ => exact ⟨wu (p := 1130) (by decide +kernel) rfl, wu (p := 1006) (by decide +kernel) rfl⟩
  | 8, _, _ => exact ⟨wu (p := 1188) (by decide +kernel) rfl, wu (p := 1008) (by decide +kernel) rfl⟩
  | 9, _, _ => exact ⟨wu (p := 1021) (by decide +kernel) rfl, wu (p := 1001) (by decide +kernel) rfl⟩
  | 10, _, _ => exact ⟨wu (p := 4125) (by decide +kernel) rfl, wu (p := 1011) (by decide +kernel) rfl⟩
  | a + 11, h, _ => omega
theorem over_ok : ∀ {a : Nat}, a = 1 ∨ a = 2 ∨ a = 6 → Jvm.Cond.arrayOver (.object (clR a)) ∈ lw_use := by
  intro a h
  rcases h with rfl | rfl | rfl
  · exact wu (p := 1035) (by decide +kernel) rfl
  · exact wu (p := 1148) (by decide +kernel) rfl
  · exact wu (p := 1220) (by decide +kernel) rfl
theorem arr_int : Jvm.Cond.arrayClass .int ∈ lw_use := wu (p := 1056) (by decide +kernel) rfl
theorem arr_long : Jvm.Cond.arrayClass .long ∈ lw_use := wu (p := 1238) (by decide +kernel) rfl
theorem arr_bool : Jvm.Cond.arrayClass .boolean ∈ lw_use := wu (p := 5086) (by decide +kernel) rfl
theorem obj_ok : Jvm.Cond.instanceMethod Lib.objectInit ∈ lw_use ∧ Jvm.Cond.code Lib.objectInit ⟨#[0xb1]⟩ 1 none ∈ lw_use := ⟨wu (p := 1026) (by decide +kernel) rfl, wu (p := 1027) (by decide +kernel) rfl⟩
theorem cpy_ok : Jvm.Cond.native arraycopyName ∈ lw_use ∧ Jvm.Cond.static arraycopyName ∈ lw_use ∧ Jvm.Cond.initialized "java/lang/System" ∈ lw_use := ⟨wu (p := 3102) (by decide +kernel) rfl, wu (p := 3101) (by decide +kernel) rfl, wu (p := 1019) (by decide +kernel) rfl⟩
def tyOk (ty : FieldType) : Bool := isRefT ty || (isIntT ty || decide (ty = .long))
theorem tys_ok : ∀ a, a < 11 → ∀ j, j < clN a → tyOk (clT a j) = true := by decide +kernel
theorem def_ok {ty : FieldType} (h : tyOk ty = true) {ws : va_W} : Vo ws (fval ty none 0 0) (defaultValue ty) := by
  cases ty with
  | object C => rfl
  | array t => rfl
  | int => rfl
  | boolean => rfl
  | long => rfl
  | _ => simp [tyOk, isRefT, isIntT] at h
def dfl (a : Nat) : List Value := (List.range (clN a)).map (fun j => defaultValue (clT a j))
theorem dfl_at {a j : Nat} (h : j < clN a) : (dfl a)[j]? = some (defaultValue (clT a j)) := by
  unfold dfl
  rw [List.getElem?_map, List.getElem?_range h]
  rfl
theorem clrR_ne {α : Type} {f : Nat → Nat → α} {k a : Nat} {v : α} (h : a ≠ k) : clrR f k v a = f a := by
  funext b
  unfold clrR
  rw [if_neg h]
theorem clrR_self {α : Type} {f : Nat → Nat → α} {k : Nat} {v : α} : clrR f k v k = fun _ => v := by
  funext b
  unfold clrR
  rw [if_pos rfl]
theorem cpyR_ne {α : Type} {f : Nat → Nat → α} {a sp b dp n q : Nat} (h : q ≠ b) : cpyR f a sp b dp n q = f q := by
  funext j
  unfold cpyR
  rw [if_neg (fun z => h z.1)]
section SNN
variable {X : Nat × (Nat → Int32)} {cst : Nat → Value} {base : Nat} {D : va_G} {mi : MI} {p : Program} {l : Launch} {e : Env} {R : Room} {s : State} {m : MethodId} {args : Array Value} {below : List Frame} {meth : Method} {c : Code} {Q : State → Prop}
variable {w w' : XW} {ls ls' : XL} {st st' : List Value} {H : Heap} {locs : List Loc} {lsA : Array Slot} {stA : List Value} {ws : va_W} {tys : List (ClassId × FieldType)} {cells slots pc pc' : Nat}
theorem Wr.app {A : Nat → Prop} {K : XK} {R1 : Nat → Nat → Option Nat} {I1 : Nat → Nat → Int32} {L1 : Nat → Nat → Int64} {H1 : Heap} {tys' : List (ClassId × FieldType)} {q : Nat} {e1 : va_E} {kd : (FieldType × Nat) ⊕ Nat} {U : State} (r : Wr D U H A (K, R1, I1, L1) ws tys) (hlt : K.length < 900000) (hK : va_K D classes tys' U) (hP : va_P D classes (ws ++ [(q, e1)]) H1) (hD : va_D A (ws ++ [(q, e1)]))
    (ht : ∀ (t0 : Nat) (z : ClassId × FieldType), tys[t0]? = some z → tys'[t0]? = some z) (hc : Cr (ws ++ [(q, e1)]) tys' (clrR R1 K.length none) (clrR I1 K.length 0) (clrR L1 K.length 0) K.length kd e1) : Wr D U H1 A (xnew K R1 I1 L1 kd) (ws ++ [(q, e1)]) tys' := by
  obtain ⟨h1, h2, h3, h4, h5, h6⟩ := r
  have h4 : ws.length = K.length := h4
  refine ⟨hK, hP, hD, by simp [xnew, h4], by simp only [xnew, List.length_append, List.length_cons, List.length_nil]; omega, fun k kd' hk => ?_⟩
  have hk : (K ++ [kd])[k]? = some kd' := hk
  by_cases hkl : k < K.length
  · rw [List.getElem?_append_left hkl] at hk
    obtain ⟨b, e2, g1, g2⟩ := h6 k kd' hk
    have hne : k ≠ K.length := Nat.ne_of_lt hkl
    exact ⟨b, e2, by rw [List.getElem?_append_left (by omega)]; exact g1, (g2.mono Ext.app (fun t0 z hz => ⟨t0, ht t0 z hz⟩)).cong (clrR_ne hne) (clrR_ne hne) (clrR_ne hne)⟩
  · rw [List.getElem?_append_right (by omega)] at hk
    have hz : k - K.length < 1 := (List.getElem?_eq_some_iff.mp hk).1
    have hk0 : k = K.length := by omega
    subst hk0
    rw [Nat.sub_self] at hk
    cases hk
    exact ⟨q, e1, by rw [List.getElem?_append_right (by omega), h4, Nat.sub_self]; rfl, hc⟩
theorem FR.size (r : FR cst base D mi s w ls st H locs lsA stA ws tys) : lsA.size = mL mi := by
  obtain ⟨lm, h, -⟩ := r.2.2.1
  rw [h.1]
  exact r.2.2.2.2
theorem FR.new {H1 : Heap} {tys1 : List (ClassId × FieldType)} {a : Nat} {en : va_E} (r : FR cst base D mi s w ls st H locs lsA stA ws tys) (hW : Wr D s H1 (xA base) w' (ws ++ [(a, en)]) tys1) (hS : va_S (xA base) s.heap H1 locs) (hl : ws.length = w.1.length) : FR cst base D mi s w' ls (.ref w.1.length :: st) H1 locs lsA (.ref a :: stA) (ws ++ [(a, en)]) tys1 :=
  ⟨hW, hS, r.2.2.1.mono Ext.app, ⟨Or.inl ⟨a, en, by rw [List.getElem?_append_right (by omega), hl, Nat.sub_self]; rfl, rfl⟩, r.2.2.2.1.mono Ext.app⟩, r.2.2.2.2⟩
theorem tys_app {tys : List (ClassId × FieldType)} {q : ClassId × FieldType} : ∀ (t0 : Nat) (z : ClassId × FieldType), tys[t0]? = some z → (tys ++ [q])[t0]? = some z := fun t0 z hz => by
  rw [List.getElem?_append_left (List.getElem?_eq_some_iff.mp hz).1]
  exact hz
theorem tys_last {tys : List (ClassId × FieldType)} {q : ClassId × FieldType} : (tys ++ [q])[tys.length]? = some q := by
  rw [List.getElem?_append_right (Nat.le_refl _), Nat.sub_self]
  rfl
set_option maxHeartbeats 8000000 in
theorem sN (F : Fx X cst base mi p s m args meth c) {en : XE} (he : cdx (mC mi) pc = some en) (hst : stpN en pc ls st w = some (pc', ls', st', w')) (r : FR cst base D mi s w ls st H locs lsA stA ws tys) (hroom : 1 ≤ R.frames ∧ 60 ≤ R.locals) :
    ∃ dc ds, w'.1.length = w.1.length + dc ∧ sw w'.1 = sw w.1 + ds ∧ (cells + dc ≤ R.cells → slots + ds ≤ R.slots →
    (∀ (H1 : Heap) (locs1 : List Loc) (stA' : List Value) (ws1 : va_W) (tys1 : List (ClassId × FieldType)), Ext ws ws1 → FR cst base D mi s w' ls' st' H1 locs1 lsA stA' ws1 tys1 → W p l e R s m args below meth c H1 locs1 (cells + dc) (slots + ds) Q (F0 m pc' lsA stA')) → W p l e R s m args below meth c H locs cells slots Q (F0 m pc lsA stA)) := by
  obtain ⟨h0, hd, hl⟩ := F.at he
  obtain ⟨hx, hb, -, hml, hown, hts, -, hbase, hG, -, hinit, hgs⟩ := id F
  have hgs := List.all_eq_true.mp hgs _ (cdx_mem he).2
  obtain ⟨pc0, i, n, a, b, c0, pp, t⟩ := en
  obtain ⟨K, RR, I, L⟩ := w
  dsimp only at h0 hd
  subst h0
  unfold stpN at hst
  dsimp only at hst
  have hK := r.1.1
  have hP := r.1.2.1
  have hD := r.1.2.2.1
  have hS := r.2.1
  have hwl : ws.length = K.length := r.1.2.2.2.1
  have hA : ∀ q : Nat, s.heap.size ≤ q → xA base q := fun q h => Nat.le_trans hbase h
  have hcell : ∀ {k : Nat} {kd : (FieldType × Nat) ⊕ Nat}, K[k]? = some kd → ∃ a e, ws[k]? = some (a, e) ∧ Cr ws tys RR I L k kd e := fun {k kd} h => r.1.2.2.2.2.2 k kd h
  have hown1 : ∀ {k : Nat} {v' : Value} {kd : (FieldType × Nat) ⊕ Nat} {a1 : Nat} {e1 : va_E}, K[k]? = some kd → ws[k]? = some (a1, e1) → Vr ws cst (.ref k) v' → v' = .ref a1 := by
    intro k v' kd a1 e1 h1 h2 h3
    obtain ⟨a2, e2, h4, h5⟩ := r.1.own (List.getElem?_eq_some_iff.mp h1).1 h3
    rw [h2] at h4
    cases h4
    exact h5
  split at hst
  all_goals try (cases hst; done)
  -- new
  · rename_i ix
    split at hst
    · rename_i hc
      obtain ⟨hlt, ha11⟩ := hc
      obtain ⟨rfl, rfl, rfl, rfl⟩ := xs_inj hst
      simp only [lnkOk, Bool.and_eq_true, beq_iff_eq, decide_eq_true_eq] at hl
      obtain ⟨rfl, -, hw⟩ := hl
      have ha3 : a ≠ 3 := of_decide_eq_true hgs
      obtain ⟨rc, hrc⟩ := cls_ex ha11
      obtain ⟨q1, q2, q3, q4, q5, q6⟩ := cls_ok hrc
      obtain ⟨i1, i2⟩ := inst_ok ha11 ha3
      obtain ⟨rC, rT, rN⟩ := rc
      dsimp only at q1 q2 q3 q4 q5 q6
      refine ⟨1, clN a, by simp [xnew], by show sw (K ++ [.inr a]) = _; rw [sw_app]; rfl, fun hc1 hc2 kk => ?_⟩
      rw [q5] at hw i1 i2
      rw [q4] at i1 hc2 kk
      refine va_new hx hb hts q1 (clT a) q2 hown (hts _ (wu hw rfl)) (hts _ i1) (hts _ i2) hK hP hD hS hA hrc (fs := dfl a) (fun j hj => ?_) hc1 hc2 hd (fun q H1 hP1 hD1 hS1 => ?_)
      · unfold vp_V
        rw [List.getD_eq_getElem?_getD, dfl_at (by rw [q4]; exact hj)]
        rfl
      · refine kk H1 locs _ _ tys Ext.app (r.new (Wr.app r.1 hlt hK hP1 hD1 (fun _ _ h => h) ⟨rfl, ha11, by simp [dfl], fun j hj => ⟨_, dfl_at hj, ?_⟩⟩) hS1 hwl)
        rw [clrR_self, clrR_self, clrR_self]
        exact def_ok (tys_ok a ha11 j hj)
    · cases hst
  -- newarray int
  · rename_i x st1
    split at hst
    · rename_i hc
      obtain ⟨hlt, hx0, hx1⟩ := hc
      obtain ⟨rfl, rfl, rfl, rfl⟩ := xs_inj hst
      simp only [lnkOk, beq_iff_eq] at hl
      subst hl
      obtain ⟨sA, rfl, r1⟩ := r.int
      refine ⟨1, x.toNatClampNeg, by simp [xnew], by show sw (K ++ [.inl (.int, _)]) = _; rw [sw_app]; rfl, fun hc1 hc2 kk => ?_⟩
      refine va_newa hx hb (atype := .int) (hts _ arr_int) (ty := .int) rfl hK hP hD hS hA (N' := x.toNatClampNeg) (a0 := (x.toNatClampNeg, (.inl (fun _ => 0)))) (fun cA => rfl) hx0 rfl (by show x.toNatClampNeg * _ ≤ _; simp only [componentBytes]; omega) hc1 hc2 hd (fun q cA H1 hK1 hP1 hD1 hS1 => ?_)
      refine kk H1 locs _ _ _ Ext.app (r1.new (Wr.app r1.1 hlt hK1 hP1 hD1 tys_app ⟨rfl, ⟨_, tys_last⟩, _, rfl, fun j hj => ?_⟩) hS1 hwl)
      rw [clrR_self]
    · cases hst
  -- newarray long
  · rename_i x st1
    split at hst
    · rename_i hc
      obtain ⟨hlt, hx0, hx1⟩ := hc
      obtain ⟨rfl, rfl, rfl, rfl⟩ := xs_inj hst
      simp only [lnkOk, beq_iff_eq] at hl
      subst hl
      obtain ⟨sA, rfl, r1⟩ := r.int
      refine ⟨1, x.toNatClampNeg, by simp [xnew], by show sw (K ++ [.inl (.long, _)]) = _; rw [sw_app]; rfl, fun hc1 hc2 kk => ?_⟩
      refine va_newa hx hb (atype := .long) (hts _ arr_long) (ty := .long) rfl hK hP hD hS hA (N' := x.toNatClampNeg) (a0 := (x.toNatClampNeg, (.inr (.inl (fun _ => 0))))) (fun cA => rfl) hx0 rfl (by show x.toNatClampNeg * _ ≤ _; simp only [componentBytes]; omega) hc1 hc2 hd (fun q cA H1 hK1 hP1 hD1 hS1 => ?_)
      refine kk H1 locs _ _ _ Ext.app (r1.new (Wr.app r1.1 hlt hK1 hP1 hD1 tys_app ⟨rfl, ⟨_, tys_last⟩, _, rfl, fun j hj => ?_⟩) hS1 hwl)
      rw [clrR_self]
    · cases hst
  -- newarray boolean
  · rename_i x st1
    split at hst
    · rename_i hc
      obtain ⟨hlt, hx0, hx1⟩ := hc
      obtain ⟨rfl, rfl, rfl, rfl⟩ := xs_inj hst
      simp only [lnkOk, beq_iff_eq] at hl
      subst hl
      obtain ⟨sA, rfl, r1⟩ := r.int
      refine ⟨1, x.toNatClampNeg, by simp [xnew], by show sw (K ++ [.inl (.boolean, _)]) = _; rw [sw_app]; rfl, fun hc1 hc2 kk => ?_⟩
      refine va_newa hx hb (atype := .boolean) (hts _ arr_bool) (ty := .boolean) rfl hK hP hD hS hA (N' := x.toNatClampNeg) (a0 := (x.toNatClampNeg, (.inl (fun _ => 0)))) (fun cA => rfl) hx0 rfl (by show x.toNatClampNeg * _ ≤ _; simp only [componentBytes]; omega) hc1 hc2 hd (fun q cA H1 hK1 hP1 hD1 hS1 => ?_)
      refine kk H1 locs _ _ _ Ext.app (r1.new (Wr.app r1.1 hlt hK1 hP1 hD1 tys_app ⟨rfl, ⟨_, tys_last⟩, _, rfl, fun j hj => ?_⟩) hS1 hwl)
      rw [clrR_self]
    · cases hst
  -- anewarray
  · rename_i ix x st1
    split at hst
    · rename_i rc hrc
      split at hst
      · rename_i hc
        obtain ⟨hlt, hx0, hx1⟩ := hc
        obtain ⟨rfl, rfl, rfl, rfl⟩ := xs_inj hst
        simp only [lnkOk, Bool.and_eq_true, beq_iff_eq, decide_eq_true_eq] at hl
        obtain ⟨rfl, ha11, hw, ha⟩ := hl
        obtain ⟨q1, q2, q3, q4, q5, q6⟩ := cls_ok hrc
        obtain ⟨sA, rfl, r1⟩ := r.int
        have hov := over_ok ha
        rw [q5] at hw hov
        refine ⟨1, x.toNatClampNeg, by simp [xnew], by show sw (K ++ [.inl (.object rc.1, _)]) = _; rw [sw_app]; rfl, fun hc1 hc2 kk => ?_⟩
        refine va_newq hx hb hown (hts _ (wu hw rfl)) (va_AO.of (hts _ hov)) hK hP hD hS hA hx0 rfl (by omega) hc1 hc2 hd (fun q cA H1 hK1 hP1 hD1 hS1 => ?_)
        refine kk H1 locs _ _ _ Ext.app (r1.new (Wr.app r1.1 hlt hK1 hP1 hD1 tys_app ⟨rfl, ⟨_, tys_last⟩, _, rfl, fun j hj => ?_⟩) hS1 hwl)
        rw [clrR_self]
        rfl
      · cases hst
    · cases hst
  -- Object's constructor
  · rename_i ix k st1
    split at hst
    · rename_i hc
      obtain ⟨rfl, hsw, hkK⟩ := hc
      obtain ⟨rfl, rfl, rfl, rfl⟩ := xs_inj hst
      simp only [lnkOk, if_neg (show ¬ (21 : Nat) = 99 by decide), if_true, Bool.and_eq_true, beq_iff_eq] at hl
      obtain ⟨rfl, hw⟩ := hl
      obtain ⟨v', sA, rfl, hv, r1⟩ := r.pop
      obtain ⟨a1, e1, h1, rfl⟩ := r.1.own hkK hv
      have hsum := of_decide_eq_true hsw
      rw [← r1.2.2.2.1.sum] at hsum
      refine ⟨0, 0, rfl, rfl, fun _ _ kk => ?_⟩
      refine W.objInit hx hb hown (hts _ (wu hw rfl)) (hts _ obj_ok.1) (hts _ obj_ok.2) rfl (by rw [hml]; exact r.size) rfl hd hroom.1 ?_ ?_
      · show 2 * 0 + _ + 12 ≤ _
        have := hroom.2
        omega
      · exact kk H locs sA ws tys Ext.rf r1
    · cases hst
  -- arraycopy
  · rename_i ix z dp k1 sp k0 st1
    split at hst
    · rename_i t0 m0 t1 m1 hk0 hk1
      split at hst
      · rename_i hc
        obtain ⟨rfl, hsw, rfl, hsp, hdp, hz, hb0, hb1⟩ := hc
        simp only [lnkOk, if_neg (show ¬ (20 : Nat) = 99 by decide), if_true, Bool.and_eq_true, beq_iff_eq] at hl
        obtain ⟨rfl, hw⟩ := hl
        obtain ⟨sA1, rfl, r1⟩ := r.int
        obtain ⟨sA2, rfl, r2⟩ := r1.int
        obtain ⟨v1, sA3, rfl, hv1, r3⟩ := r2.pop
        obtain ⟨sA4, rfl, r4⟩ := r3.int
        obtain ⟨v0, sA, rfl, hv0, r5⟩ := r4.pop
        obtain ⟨a0, e0, g0, c00⟩ := hcell hk0
        obtain ⟨a1, e1, g1, c11⟩ := hcell hk1
        cases hown1 hk0 g0 hv0
        cases hown1 hk1 g1 hv1
        have hsum := of_decide_eq_true hsw
        rw [← r5.2.2.2.1.sum] at hsum
        have hnw : (sA.map fun v => v.category).sum + (nativeFrameWords "java/lang/System" "arraycopy" 5 + 11) ≤ R.locals := by
          have h1 : nativeFrameWords "java/lang/System" "arraycopy" 5 ≤ 40 := by decide +kernel
          have := hroom.2
          omega
        split at hst
        · obtain ⟨rfl, rfl, rfl, rfl⟩ := xs_inj hst
          refine ⟨0, 0, rfl, rfl, fun _ _ kk => ?_⟩
          match e0, g0, c00, e1, g1, c11 with
          | .inl (cA, n0, bd0), g0, c00, .inl (cB, n1, bd1), g1, c11 =>
            obtain ⟨rfl, ⟨ta, hta⟩, f, rfl, hf⟩ := c00
            obtain ⟨rfl, ⟨tb, htb⟩, g, rfl, hg⟩ := c11
            refine va_copyi hx hb (by rw [hml, r.size]) hown (hts _ (wu hw rfl)) (hts _ cpy_ok.1) (hts _ cpy_ok.2.1) (hts _ cpy_ok.2.2) hK hP hD hS k0 k1 ta tb g0 g1 hta htb rfl hsp hdp hz hb0 hb1 (fun _ _ => rfl) hroom.1 hnw hd (fun H1 locs1 hP1 hD1 hS1 => ?_)
            refine kk H1 locs1 sA _ tys (Ext.set g1) (r5.sto (Wr.upd r.1 g1 hP1 hD1 hk1 ⟨rfl, ⟨tb, htb⟩, _, rfl, fun j hj => ?_⟩ (fun _ _ => rfl) (fun q hq => cpyR_ne hq) (fun _ _ => rfl)) hS1 (Ext.set g1))
            unfold va_cpy cpyR
            by_cases hin : dp.toNatClampNeg ≤ j ∧ j < dp.toNatClampNeg + z.toNatClampNeg
            · rw [if_pos hin, if_pos ⟨rfl, hin⟩]
              exact hf _ (by omega)
            · rw [if_neg hin, if_neg (fun q => hin q.2)]
              exact hg _ hj
          | .inr _, _, c00, _, _, _ => exact c00.elim
          | .inl (_, _, _), _, _, .inr _, _, c11 => exact c11.elim
        · obtain ⟨rfl, rfl, rfl, rfl⟩ := xs_inj hst
          refine ⟨0, 0, rfl, rfl, fun _ _ kk => ?_⟩
          match e0, g0, c00, e1, g1, c11 with
          | .inl (cA, n0, bd0), g0, c00, .inl (cB, n1, bd1), g1, c11 =>
            obtain ⟨rfl, ⟨ta, hta⟩, f, rfl, hf⟩ := c00
            obtain ⟨rfl, ⟨tb, htb⟩, g, rfl, hg⟩ := c11
            refine va_copyl hx hb (by rw [hml, r.size]) hown (hts _ (wu hw rfl)) (hts _ cpy_ok.1) (hts _ cpy_ok.2.1) (hts _ cpy_ok.2.2) hK hP hD hS k0 k1 ta tb g0 g1 hta htb rfl hsp hdp hz hb0 hb1 (fun _ _ => rfl) hroom.1 hnw hd (fun H1 locs1 hP1 hD1 hS1 => ?_)
            refine kk H1 locs1 sA _ tys (Ext.set g1) (r5.sto (Wr.upd r.1 g1 hP1 hD1 hk1 ⟨rfl, ⟨tb, htb⟩, _, rfl, fun j hj => ?_⟩ (fun _ _ => rfl) (fun _ _ => rfl) (fun q hq => cpyR_ne hq)) hS1 (Ext.set g1))
            unfold va_cpy cpyR
            by_cases hin : dp.toNatClampNeg ≤ j ∧ j < dp.toNatClampNeg + z.toNatClampNeg
            · rw [if_pos hin, if_pos ⟨rfl, hin⟩]
              exact hf _ (by omega)
            · rw [if_neg hin, if_neg (fun q => hin q.2)]
              exact hg _ hj
          | .inr _, _, c00, _, _, _ => exact c00.elim
          | .inl (_, _, _), _, _, .inr _, _, c11 => exact c11.elim
        · cases hst
      · cases hst
    · cases hst
end SNN
end
section
/-! Calls, and whole methods: what the small machine answers, the real one answers. -/
theorem good_all : ∀ w ∈ lw_gd, w ∈ lw_use ∧ ((w.onTables && w.keeps) = true ∨ ∃ ty, w = .arrayClass ty) := by
  intro w hw
  obtain ⟨h1, h2⟩ := List.mem_filter.mp hw
  refine ⟨List.mem_filter.mpr ⟨h1, by unfold useW; rw [h2]; rfl⟩, ?_⟩
  rcases Bool.or_eq_true _ _ ▸ h2 with h3 | h3
  · cases w <;> first | (simp [k2_isCode] at h3; done) | exact Or.inl rfl
  · exact good_of_word h3
def rmd (d mc ms : Nat) : Room := { frames := d + 1, cells := mc, slots := ms, locals := 60 + 60 * d }
def mW (mi : MI) : List Jvm.Cond := .code (mY mi) (mB mi) (mL mi) (mR mi) :: lw_gd
def Rr (ws : va_W) (cst : Nat → Value) (r r' : Option Value) : Prop := match r, r' with
  | none, none => True
  | some v, some v' => Vr ws cst v v'
  | _, _ => False
def xPc (X : Nat × (Nat → Int32)) (cst : Nat → Value) (base : Nat) (D : va_G) (w : XW) (ws : va_W) (tys : List (ClassId × FieldType)) (avs : List Value) : Array Value → State → Prop :=
  va_Pc avs (fun U => base ≤ U.heap.size ∧ Wr D U U.heap (xA base) w ws tys ∧ Gc X cst (xA base) U U.heap)
def xQc (cst : Nat → Value) (base : Nat) (D : va_G) (r : Option Value) (w' : XW) (ws : va_W) : Array Value → State → Outcome → State → Prop := fun _ st oc t =>
  (∃ r' ws' tys', oc = .returned r' ∧ Rr ws' cst r r' ∧ Ext ws ws' ∧ Wr D t t.heap (xA base) w' ws' tys') ∧ va_F (xA base) st t
theorem Wr.moved {D : va_G} {U U' : State} {H : Heap} {A : Nat → Prop} {w : XW} {ws : va_W} {tys : List (ClassId × FieldType)} (h : Wr D U H A w ws tys) (hv : U.vm.Alike U'.vm) : Wr D U' H A w ws tys := ⟨va_K.moved hv h.1, h.2⟩
/-- what is checked of a method of the table -/
theorem mok {mj : MI} (h : mOk mj = true) : Jvm.Cond.code (mY mj) (mB mj) (mL mj) (mR mj) ∈ lw_use ∧ Jvm.Cond.initialized (mY mj).cls ∈ lw_use ∧ ((mP mj)[3]? ≠ some 9999 → Jvm.Cond.instanceMethod (mY mj) ∈ lw_use ∧ Jvm.Cond.selects (mY mj).cls (mY mj) (mY mj) ∈ lw_use) ∧ mL mj ≤ 20 ∧ plainFor (mY mj) = true ∧ ((mY mj).cls ≠ "java/lang/invoke/MethodHandle" ∧ (mY mj).cls ≠ "java/lang/invoke/VarHandle") ∧ (parseMethodDescriptor (mY mj).desc).map (fun d => d.parameters.length) = some (mN mj) := by
  unfold mOk at h
  split at h
  · rename_i pc pi ps pv hp
    simp only [Bool.and_eq_true, decide_eq_true_eq] at h
    obtain ⟨h1, h2, h3, h4, h5, h6, h7⟩ := h
    refine ⟨wu h1 rfl, wu h2 rfl, fun hne => ?_, h4, h5, h6, h7⟩
    rw [hp] at hne
    rw [if_neg (fun z => hne (by rw [z]; rfl))] at h3
    simp only [Bool.and_eq_true] at h3
    exact ⟨wu h3.1 rfl, wu h3.2 rfl⟩
  · cases h
section SNC
variable {X : Nat × (Nat → Int32)} {cst : Nat → Value} {base : Nat} {D : va_G} {mi : MI} {p : Program} {l : Launch} {e : Env} {R : Room} {s : State} {m : MethodId} {args : Array Value} {below : List Frame} {meth : Method} {c : Code} {Q : State → Prop}
variable {w w' : XW} {ls ls' : XL} {st st' : List Value} {H : Heap} {locs : List Loc} {lsA : Array Slot} {stA : List Value} {ws : va_W} {tys : List (ClassId × FieldType)} {cells slots pc pc' : Nat}
theorem xcall {mc ms : Nat} {r : Option Value} {st0 rest : List Value} {a : Array Value} (hr : va_Run p l e R s m args below meth c H locs cells slots mc ms (F0 m pc lsA st0) rest (xQc cst base D r w' ws a) (xA base)) (hS : va_S (xA base) s.heap H locs)
    (kk : ∀ (r' : Option Value) (ws' : va_W) (tys' : List (ClassId × FieldType)) (H1 : Heap) (locs1 : List Loc), Rr ws' cst r r' → Ext ws ws' → Wr D s H1 (xA base) w' ws' tys' → va_S (xA base) s.heap H1 locs1 → W p l e R s m args below meth c H1 locs1 (cells + mc) (slots + ms) Q (F0 m (pc + 3) lsA (r'.toList ++ rest))) : W p l e R s m args below meth c H locs cells slots Q (F0 m pc lsA st0) := by
  intro T hT X1
  obtain ⟨v, st₀, t, T', L, h0, X', hL, e1, e2, ⟨⟨r', ws', tys', hv, hp, hE, hW⟩, hz, hk⟩, st⟩ := hr T hT X1
  cases hv
  rw [h0] at hz hk
  have hal : s.vm.Alike t.vm := by rw [← e2]; exact X'.warmed.alike
  obtain ⟨t2, a1, b1⟩ := kk v ws' tys' T'.heap (locs ++ L) hp hE (by rw [e1]; exact hW.moved hal.symm)
    ⟨Nat.le_trans hS.1 (by rw [e1]; exact hz), fun q h1 h2 => by rw [e1, hk q (Nat.lt_of_lt_of_le h1 hS.1) h2]; exact hS.2.1 q h1 h2, fun q hq => by
      rcases List.mem_append.mp hq with h | h
      · exact hS.2.2 q h
      · exact hL q h⟩ T' rfl X'
  exact ⟨t2, st t2 a1, b1⟩
/-- all runs of at most n steps, d calls deep -/
def Snd (X : Nat × (Nat → Int32)) (n d : Nat) : Prop :=
  ∀ (mi : MI) (pc : Nat) (ls : XL) (st : List Value) (w : XW) (r : Option Value) (w' : XW), exec X n d mi pc ls st w = some (r, w') →
  ∀ (cst : Nat → Value) (base : Nat) (D : va_G) (p : Program) (l : Launch) (e : Env) (R : Room) (s : State) (m : MethodId) (args : Array Value) (below : List Frame) (meth : Method) (c : Code) (Q : State → Prop) (H : Heap) (locs : List Loc) (lsA : Array Slot) (stA : List Value) (ws : va_W) (tys : List (ClassId × FieldType)) (cells slots dc ds : Nat),
  Fx X cst base mi p s m args meth c → FR cst base D mi s w ls st H locs lsA stA ws tys → d + 1 ≤ R.frames → 60 + 60 * d ≤ R.locals → w'.1.length = w.1.length + dc → sw w'.1 = sw w.1 + ds → cells + dc ≤ R.cells → slots + ds ≤ R.slots →
  (∀ (pc1 : Nat) (en : XE) (ls1 : XL) (st1 : List Value) (lsA1 : Array Slot) (stA1 : List Value) (H1 : Heap) (locs1 : List Loc) (ws1 : va_W) (tys1 : List (ClassId × FieldType)), cdx (mC mi) pc1 = some en → grp en = 5 → rtn (mR mi) en st1 = some r → Ext ws ws1 → FR cst base D mi s w' ls1 st1 H1 locs1 lsA1 stA1 ws1 tys1 → W p l e R s m args below meth c H1 locs1 (cells + dc) (slots + ds) Q (F0 m pc1 lsA1 stA1)) →
  W p l e R s m args below meth c H locs cells slots Q (F0 m pc lsA stA)
theorem fits_nar {ty : FieldType} {x : Int32} (h : fits ty (.int x) = true) : narrow ty (.int x) = .int x := by
  cases ty with
  | boolean => exact nar_int rfl h
  | byte =>
    simp only [fits, Bool.and_eq_true, decide_eq_true_eq] at h
    show Value.int _ = _
    rw [Value.int.injEq]
    exact Int32.toInt_inj.mp (by
      have h1 := Int32.le_iff_toInt_le.mp h.1
      have h2 := Int32.le_iff_toInt_le.mp h.2
      rw [Int8.toInt_toInt32, Int32.toInt_toInt8]
      have e1 : (-128 : Int32).toInt = -128 := by decide
      have e2 : (127 : Int32).toInt = 127 := by decide
      rw [e1] at h1
      rw [e2] at h2
      rw [Int.bmod_def]
      split <;> omega)
  | char =>
    simp only [fits, Bool.and_eq_true, decide_eq_true_eq] at h
    show Value.int _ = _
    rw [Value.int.injEq]
    have h1 := Int32.le_iff_toInt_le.mp h.1
    have h2 := Int32.le_iff_toInt_le.mp h.2
    have e1 : (0 : Int32).toInt = 0 := by decide
    have e2 : (65535 : Int32).toInt = 65535 := by decide
    rw [e1] at h1
    rw [e2] at h2
    obtain ⟨j, hj, rfl⟩ := nI_of (x := x) (by
      intro q
      have := Int32.lt_iff_toInt_lt.mp q
      rw [e1] at this
      omega)
    rw [nI_toInt hj] at h2
    have h3 := (pk_charN (q := j) (by omega)).1
    exact Value.int.inj h3
  | short =>
    simp only [fits, Bool.and_eq_true, decide_eq_true_eq] at h
    show Value.int _ = _
    rw [Value.int.injEq]
    exact Int32.toInt_inj.mp (by
      have h1 := Int32.le_iff_toInt_le.mp h.1
      have h2 := Int32.le_iff_toInt_le.mp h.2
      rw [Int16.toInt_toInt32, Int32.toInt_toInt16]
      have e1 : (-32768 : Int32).toInt = -32768 := by decide
      have e2 : (32767 : Int32).toInt = 32767 := by decide
      rw [e1] at h1
      rw [e2] at h2
      rw [Int.bmod_def]
      split <;> omega)
  | _ => first | rfl | (simp [fits] at h)
theorem blind (av : List Value) : FrameBlind (xPc X cst base D w ws tys av) := fun a U g mk q => by
  obtain ⟨q0, q1, q2, q3⟩ := q
  exact ⟨q0, q1, q2.moved (U' := U.calling g mk a) (Vm.Alike.refl U.vm), q3.same rfl⟩
theorem entL_len : ∀ (vs : List Value), (entL vs).length = (lg_sl vs).length
  | [] => rfl
  | v :: vs => by
    unfold entL lg_sl
    rw [List.flatMap_cons, List.length_append]
    have ih := entL_len vs
    unfold lg_sl at ih
    split <;> simp [ih] <;> omega
theorem ent_rel : ∀ (vs avs : List Value) (i : Nat), Sr ws cst vs avs → ∀ (j : Nat) (u : Value), (entL vs)[j]? = some (some u) → ∃ u', (i + j, u') ∈ lv_args i avs ∧ Vr ws cst u u'
  | [], [], _, _, j, u, h => by simp [entL] at h
  | v :: vs, v' :: avs, i, hs, j, u, h => by
    have hc := hs.1.cat
    unfold entL at h
    unfold lv_args
    by_cases h2 : v.category = 2
    · rw [if_pos h2] at h
      rw [if_pos (hc.trans h2)]
      match j, h with
      | 0, h => cases h; exact ⟨v', List.mem_cons_self, hs.1⟩
      | 1, h => cases h
      | j + 2, h =>
        obtain ⟨u', h3, h4⟩ := ent_rel vs avs (i + 2) hs.2 j u h
        exact ⟨u', List.mem_cons_of_mem _ (by rw [show i + (j + 2) = i + 2 + j by omega]; exact h3), h4⟩
    · rw [if_neg h2] at h
      rw [if_neg (fun z => h2 (hc.symm.trans z))]
      match j, h with
      | 0, h => cases h; exact ⟨v', List.mem_cons_self, hs.1⟩
      | j + 1, h =>
        obtain ⟨u', h3, h4⟩ := ent_rel vs avs (i + 1) hs.2 j u h
        exact ⟨u', List.mem_cons_of_mem _ (by rw [show i + (j + 1) = i + 1 + j by omega]; exact h3), h4⟩
theorem lg_len : ∀ {vs avs : List Value}, Sr ws cst vs avs → (lg_sl avs).length = (lg_sl vs).length
  | [], [], _ => rfl
  | v :: vs, v' :: avs, hs => by
    have ih := lg_len hs.2
    unfold lg_sl at ih ⊢
    rw [List.flatMap_cons, List.flatMap_cons, List.length_append, List.length_append, ih, hs.1.cat]
    split <;> rfl
theorem ent_Lr {n : Nat} {vs avs : List Value} (hs : Sr ws cst vs avs) (hn : (entL vs).length ≤ n) : Lr ws cst (entX n vs) ((lg_sl avs ++ List.replicate (n - (lg_sl avs).length) Slot.unset).toArray) ∧ (entX n vs).length = n := by
  have hlen : (entX n vs).length = n := by
    unfold entX
    rw [List.length_append, List.length_replicate]
    omega
  have h1 : (lg_sl avs).length ≤ n := by rw [lg_len hs, ← entL_len]; exact hn
  refine ⟨⟨lv_args 0 avs, by rw [hlen]; exact lv_entry avs h1, fun j u hj => ?_⟩, hlen⟩
  unfold entX at hj
  by_cases hjl : j < (entL vs).length
  · rw [List.getElem?_append_left hjl] at hj
    obtain ⟨u', h3, h4⟩ := ent_rel vs avs 0 hs j u hj
    rw [Nat.zero_add] at h3
    exact ⟨u', h3, h4⟩
  · rw [List.getElem?_append_right (by omega), List.getElem?_replicate] at hj
    split at hj <;> cases hj
set_option maxHeartbeats 4000000 in
theorem met_of {n d : Nat} (ih : Snd X n d) {mj : MI} (hok : (mOk mj && (mC mj).all (eOk (mY mj) (mB mj))) = true) (hgs : (mC mj).all gsOk = true) {vs avs : List Value} {r : Option Value} (hex : exec X n d mj 0 (entX (mL mj) vs) [] w = some (r, w')) (hlen : (entL vs).length ≤ mL mj) (hs : Sr ws cst vs avs) {dc ds : Nat} (hdc : w'.1.length = w.1.length + dc) (hds : sw w'.1 = sw w.1 + ds) :
    Met l (mY mj) (mW mj) (rmd d dc ds) (xPc X cst base D w ws tys avs) (xQc cst base D r w' ws) dc ds (xA base) := by
  rw [Bool.and_eq_true] at hok
  obtain ⟨m1, m2, m3, m4, m5, m6, m7⟩ := mok hok.1
  refine va_MetF (cc := mB mj) (maxL := mL mj) (ret := mR mj) m5 rfl ?_
  intro p e s m args below meth c s₁ B hml hv
  obtain ⟨rfl, hbase, hW, hG⟩ := hv
  have hts : ∀ w ∈ mW mj, w.before avs.toArray s = true := atoms_spec (ws := mW mj) B.pre
  have F : Fx X cst base mj p s m avs.toArray meth c := ⟨B.exec, B.bytes, B.returns, hml, findClass_of_methodNamed B.named, fun w hw => by
    obtain ⟨h1, h2⟩ := List.mem_filter.mp hw
    by_cases h3 : (k2_isCode w || goodWord w) = true
    · exact hts w (List.mem_cons_of_mem _ (List.mem_filter.mpr ⟨h1, h3⟩))
    · unfold useW at h2
      rw [Bool.not_eq_true] at h3
      rw [h3, Bool.false_or] at h2
      exact nest_args h2 (hG.2.2.2.2.2 w h1 h2), B.notSynchronized, hbase, hG, hok.2, fun h => by rw [← h]; exact (name_of_methodNamed B.named B.method).1, hgs⟩
  rw [lg_entry_eq]
  obtain ⟨h1, h2⟩ := ent_Lr (n := mL mj) hs hlen
  refine ih mj 0 _ [] w r w' hex cst base D p l e (rmd d dc ds) s m avs.toArray below meth c _ s.heap [] _ [] ws tys 0 0 dc ds F ⟨hW, va_S.rf, h1, trivial, h2⟩ (Nat.le_refl _) (Nat.le_refl _) hdc hds (Nat.le_of_eq (Nat.zero_add _)) (Nat.le_of_eq (Nat.zero_add _)) ?_
  intro pc1 en ls1 st1 lsA1 stA1 H1 locs1 ws1 tys1 hcd hg hrt hE r1
  rw [Nat.zero_add, Nat.zero_add]
  obtain ⟨h0, hd, hl⟩ := F.at hcd
  have hx := B.exec
  have hb := B.bytes
  have hr := B.returns
  have hlocks : meth.locks = false := B.notSynchronized
  have post : ∀ (r' : Option Value), Rr ws1 cst r r' → ∀ t : State, t.heap = H1 → s.WarmedH t.vm → xQc cst base D r w' ws avs.toArray s (.returned r') t := fun r' hr' t ht hWm => ⟨⟨r', ws1, tys1, rfl, hr', hE, by rw [ht]; exact r1.1.moved hWm.alike⟩, r1.2.1.F ht⟩
  obtain ⟨pc0, i, n0, a, b, c0, pp, t⟩ := en
  dsimp only at h0 hd
  subst h0
  unfold rtn at hrt
  dsimp only at hrt
  split at hrt
  · rename_i x hret
    cases hrt
    simp only [lnkOk, beq_iff_eq] at hl
    subst hl
    obtain ⟨sA, rfl, r2⟩ := r1.int
    cases r2.2.2.2.1.nil
    exact W.iret hx hb (by rw [hr, hret]) (post _ rfl) r1.2.1.2.2 hd hlocks
  · rename_i x ty hnot hret
    split at hrt
    · rename_i hf
      cases hrt
      simp only [lnkOk, beq_iff_eq] at hl
      subst hl
      obtain ⟨sA, rfl, r2⟩ := r1.int
      cases r2.2.2.2.1.nil
      exact W.zret hx hb (by rw [hr, hret]) (fits_nar hf) (post _ rfl) r1.2.1.2.2 hd hlocks
    · cases hrt
  · rename_i x hret
    cases hrt
    simp only [lnkOk, beq_iff_eq] at hl
    subst hl
    obtain ⟨sA, rfl, r2⟩ := r1.long
    cases r2.2.2.2.1.nil
    exact W.lret hx hb (by rw [hr, hret]) (post _ rfl) r1.2.1.2.2 hd hlocks
  · rename_i x C hret
    cases hrt
    simp only [lnkOk, beq_iff_eq] at hl
    subst hl
    obtain ⟨v, sA, rfl, hv, r2⟩ := r1.pop
    cases r2.2.2.2.1.nil
    have hq : v = .null ∨ ∃ a, v = .ref a := by
      rcases id hv with ⟨a1, e1, -, h⟩ | ⟨-, -, h⟩
      · exact Or.inr ⟨a1, h⟩
      · exact h
    exact W.aret hx hb (by rw [hr, hret]) (Or.inl ⟨C, rfl⟩) hq (post _ hv) r1.2.1.2.2 hd hlocks
  · rename_i C hret
    cases hrt
    simp only [lnkOk, beq_iff_eq] at hl
    subst hl
    obtain ⟨sA, rfl, r2⟩ := r1.null
    cases r2.2.2.2.1.nil
    exact W.aret hx hb (by rw [hr, hret]) (Or.inl ⟨C, rfl⟩) (Or.inl rfl) (post _ rfl) r1.2.1.2.2 hd hlocks
  · rename_i hret
    cases hrt
    simp only [lnkOk, beq_iff_eq] at hl
    subst hl
    cases r1.2.2.2.1.nil
    exact W.vret hx hb (by rw [hr, hret]) (post _ trivial) r1.2.1.2.2 hd hlocks
  · cases hrt
end SNC
end
section
/-! The whole: by the number of steps. -/
def KE (K K' : XK) : Prop := ∃ x, K' = K ++ x
theorem KE.rf {K : XK} : KE K K := ⟨[], by simp⟩
theorem KE.tr {a b c : XK} (h1 : KE a b) (h2 : KE b c) : KE a c := by
  obtain ⟨x, rfl⟩ := h1
  obtain ⟨y, rfl⟩ := h2
  exact ⟨x ++ y, by simp⟩
theorem stpJ_w {e : XE} {pc pc' : Nat} {ls ls' : XL} {st st' : List Value} {w w' : XW} (h : stpJ e pc ls st w = some (pc', ls', st', w')) : w' = w := by
  unfold stpJ at h
  dsimp only at h
  (repeat' split at h) <;> first | (cases h; done) | exact (xs_inj h).2.2.2.symm
theorem stpV_w {e : XE} {pc pc' : Nat} {ls ls' : XL} {st st' : List Value} {w w' : XW} (h : stpV e pc ls st w = some (pc', ls', st', w')) : w' = w := by
  unfold stpV at h
  dsimp only at h
  (repeat' split at h) <;> first | (cases h; done) | exact (xs_inj h).2.2.2.symm
theorem stpL_w {e : XE} {pc pc' : Nat} {ls ls' : XL} {st st' : List Value} {w w' : XW} (h : stpL e pc ls st w = some (pc', ls', st', w')) : w' = w := by
  unfold stpL at h
  dsimp only at h
  (repeat' split at h) <;> first | (cases h; done) | exact (xs_inj h).2.2.2.symm
theorem stpH_w {X : Nat × (Nat → Int32)} {e : XE} {pc pc' : Nat} {ls ls' : XL} {st st' : List Value} {w w' : XW} (h : stpH X e pc ls st w = some (pc', ls', st', w')) : w'.1 = w.1 := by
  obtain ⟨K, R, I, L⟩ := w
  unfold stpH at h
  dsimp only at h
  (repeat' split at h) <;> first | (cases h; done) | (rw [← (xs_inj h).2.2.2])
theorem stpN_w {e : XE} {pc pc' : Nat} {ls ls' : XL} {st st' : List Value} {w w' : XW} (h : stpN e pc ls st w = some (pc', ls', st', w')) : KE w.1 w'.1 := by
  obtain ⟨K, R, I, L⟩ := w
  unfold stpN at h
  dsimp only at h
  (repeat' split at h) <;> first | (cases h; done) | (rw [← (xs_inj h).2.2.2]; exact KE.rf) | (rw [← (xs_inj h).2.2.2]; exact ⟨_, rfl⟩)
theorem stp_w {X : Nat × (Nat → Int32)} {e : XE} {pc pc' : Nat} {ls ls' : XL} {st st' : List Value} {w w' : XW} (h : stp X e pc ls st w = some (pc', ls', st', w')) : KE w.1 w'.1 := by
  unfold stp at h
  split at h
  · rw [stpJ_w h]; exact KE.rf
  · rw [stpV_w h]; exact KE.rf
  · rw [stpL_w h]; exact KE.rf
  · rw [stpH_w h]; exact KE.rf
  · exact stpN_w h
  · cases h
theorem exec_grow {X : Nat × (Nat → Int32)} : ∀ {n d : Nat} {mi : MI} {pc : Nat} {ls : XL} {st : List Value} {w : XW} {r : Option Value} {w' : XW}, exec X n d mi pc ls st w = some (r, w') → KE w.1 w'.1 := by
  intro n
  induction n with
  | zero => intro d mi pc ls st w r w' h; cases h
  | succ n ih =>
    intro d mi pc ls st w r w' h
    unfold exec at h
    split at h
    · cases h
    · split at h
      · split at h
        · cases h; exact KE.rf
        · cases h
      · split at h
        · split at h
          · split at h
            · split at h
              · rename_i h1
                exact (ih h1).tr (ih h)
              · cases h
            · cases h
          · cases h
        · cases h
      · split at h
        · rename_i h1
          exact (stp_w h1).tr (ih h)
        · cases h
section SND2
variable {X : Nat × (Nat → Int32)} {cst : Nat → Value} {base : Nat} {D : va_G} {mi : MI} {p : Program} {l : Launch} {e : Env} {R : Room} {s : State} {m : MethodId} {args : Array Value} {below : List Frame} {meth : Method} {c : Code} {Q : State → Prop}
variable {w w' : XW} {ls ls' : XL} {st st' : List Value} {H : Heap} {locs : List Loc} {lsA : Array Slot} {stA : List Value} {ws : va_W} {tys : List (ClassId × FieldType)} {cells slots pc pc' : Nat}
theorem take_drop_rev {α : Type} (b : Nat) (l : List α) : l = ((l.take b).reverse).reverse ++ l.drop b := by
  rw [List.reverse_reverse, List.take_append_drop]
set_option maxHeartbeats 4000000 in
theorem xrun {en : XE} {a : Nat} {vs rest : List Value} {mj : MI} {d dc ds : Nat} {r1 : Option Value} {w1 : XW} (F : Fx X cst base mi p s m args meth c) (hcd : cdx (mC mi) pc = some en) (hg : grp en = 6) (hcl : cll en st w.1 = some (a, vs, rest)) (r0 : FR cst base D mi s w ls st H locs lsA stA ws tys) (hmj : mtab[a]? = some mj) (hok : mOk mj = true)
    (hMet : ∀ avs : List Value, Sr ws cst vs avs → Met l (mY mj) (mW mj) (rmd d dc ds) (xPc X cst base D w ws tys avs) (xQc cst base D r1 w1 ws) dc ds (xA base)) (hfr : d + 1 + 1 ≤ R.frames) (hlo : 60 + 60 * (d + 1) ≤ R.locals) (hc1 : cells + dc ≤ R.cells) (hc2 : slots + ds ≤ R.slots) :
    ∃ avs restA, Sr ws cst rest restA ∧ va_Run p l e R s m args below meth c H locs cells slots dc ds (F0 m pc lsA stA) restA (xQc cst base D r1 w1 ws (List.toArray avs)) (xA base) := by
  obtain ⟨h0, hd, hl⟩ := F.at hcd
  obtain ⟨hx, hb, -, hml, hown, hts, -, hbase, hG, -, hinit, hgs⟩ := id F
  have hgs := List.all_eq_true.mp hgs _ (cdx_mem hcd).2
  obtain ⟨m1, m2, m3, m4, m5, m6, m7⟩ := mok hok
  have hgood : GoodIn lw_use (mW mj) := fun w hw => by
    rcases List.mem_cons.mp hw with rfl | hw
    · exact ⟨m1, Or.inl rfl⟩
    · exact good_all w hw
  have hK := r0.1.1
  have hP := r0.1.2.1
  have hD := r0.1.2.2.1
  have hS := r0.2.1
  have hsz : lsA.size = mL mi := r0.size
  have hroom : (rmd d dc ds).frames + 1 ≤ R.frames ∧ 8 + (mL mj + 11) + (rmd d dc ds).locals ≤ R.locals := ⟨hfr, by show 8 + (mL mj + 11) + (60 + 60 * d) ≤ _; omega⟩
  have hpre : ∀ {avs : List Value}, ∀ U : State, U.heap = H → s.WarmedH U.vm → xPc X cst base D w ws tys avs avs.toArray U := fun U hU hW => ⟨rfl, by rw [hU]; exact Nat.le_trans hbase hS.1, by rw [hU]; exact r0.1.moved hW.alike, by rw [hU]; exact hG.go hW hS⟩
  have hfix : CallFix p m c (mB mi) (mL mi) s args lw_use (mY mi).cls := ⟨hx, hb, hml, hown, hts⟩
  have hnd : ∀ {n : Nat}, n = mN mj → (mY mj).cls ≠ "java/lang/invoke/MethodHandle" ∧ (mY mj).cls ≠ "java/lang/invoke/VarHandle" ∧ (parseMethodDescriptor (mY mj).desc).map (fun d => d.parameters.length) = some n := fun h => ⟨m6.1, m6.2, by rw [h]; exact m7⟩
  obtain ⟨pc0, i, n, a0, b, c0, pp, t⟩ := en
  dsimp only at h0 hd
  subst h0
  unfold cll at hcl
  dsimp only at hcl
  have hst := r0.2.2.2.1
  split at hcl
  · -- invokevirtual
    rename_i ix
    split at hcl
    · rename_i k rs hdrop
      split at hcl
      · rename_i hc
        obtain ⟨hbl, hsw, hrv⟩ := hc
        cases hcl
        have hdr := hst.drop b
        rw [hdrop] at hdr
        obtain ⟨v', restA, hdA, hv, hrest⟩ := hdr.cons
        have hta := (hst.take b).rev
        simp only [lnkOk, hmj, calOk, Bool.and_eq_true, beq_iff_eq, decide_eq_true_eq] at hl
        obtain ⟨rfl, hbn, hrc, hpv, hw⟩ := hl
        obtain ⟨hin, hse⟩ := m3 hpv
        have hrecv : ∃ a1, v' = .ref a1 ∧ ∃ cellB : Cell, H[a1]? = some cellB ∧ cellB.vm.isStatics = false ∧ s.vm.findClass (mY mj).cls = some cellB.cls := by
          unfold recvOk at hrv
          split at hrv
          · rename_i ci z y hk
            have hz : z = (ci : Int) := of_decide_eq_true hrv
            subst hz
            obtain ⟨a1, e1, g1, g2⟩ := r0.1.2.2.2.2.2 k _ hk
            obtain ⟨a2, e2, g3, rfl⟩ := r0.1.own (List.getElem?_eq_some_iff.mp hk).1 hv
            rw [g1] at g3
            cases g3
            match e1, g1, g2 with
            | .inr (ci', fs), g1, g2 =>
              obtain ⟨rfl, hci, -⟩ := g2
              obtain ⟨rc, hrc2⟩ := cls_ex hci
              have hq := (cls_ok hrc2).2.2.2.2.1
              obtain ⟨cell, f1, f2, f3⟩ := va_recv hK hP hrc2 g1
              refine ⟨a1, rfl, cell, f1, f2, ?_⟩
              have hrc : (decide ((ci' : Int) = 99) && decide ((mY mj).cls = "java/lang/String") || decide (0 ≤ (ci' : Int) ∧ (ci' : Int).toNat < 11) && decide (clR (ci' : Int).toNat = (mY mj).cls)) = true := hrc
              have hne : ¬ ((ci' : Int) = 99) := by omega
              simp only [hne, decide_false, Bool.false_and, Bool.false_or, Bool.and_eq_true, decide_eq_true_eq, Int.toNat_natCast] at hrc
              rw [← hrc.2, hq]
              exact f3
            | .inl _, g1, g2 => exact g2.elim
          · rename_i z y hk
            obtain ⟨hz, hk1, hk2⟩ := of_decide_eq_true hrv
            subst hz
            have hrc : (decide ((99 : Int) = 99) && decide ((mY mj).cls = "java/lang/String") || decide (0 ≤ (99 : Int) ∧ (99 : Int).toNat < 11) && decide (clR (99 : Int).toNat = (mY mj).cls)) = true := hrc
            have hcs : (mY mj).cls = "java/lang/String" := by
              simpa using hrc
            obtain ⟨i0, hi0, rfl⟩ := nat_off (c := 1000000) hk1 hk2
            obtain ⟨aK, aV, g1, g2, g3, g4, -⟩ := hG.2.2.2.1 i0 hi0
            have hvc := (r0.1.con hk hv).2.1
            refine ⟨aK, hvc.trans g1, ?_⟩
            rw [hcs]
            exact va_Orecv g4 hS
          · cases hrv
        obtain ⟨a1, rfl, hcellB⟩ := hrecv
        have hstack : stA = ((stA.take b).reverse).reverse ++ .ref a1 :: restA := by
          have := take_drop_rev b stA
          rw [hdA] at this
          exact this
        have hlenA : (stA.take b).reverse.length = b := by
          rw [List.length_reverse, List.length_take, hst.len]
          omega
        have hsum := of_decide_eq_true hsw
        rw [← hrest.sum] at hsum
        refine ⟨.ref a1 :: (stA.take b).reverse, restA, hrest, ?_⟩
        by_cases hc0 : c0 = 0
        · rw [if_pos hc0] at hw
          exact va_runV hfix (hMet (.ref a1 :: (stA.take b).reverse) ⟨hv, hta⟩) (C := (mY mj).cls) ⟨callB_of b hts hgood rfl rfl rfl (hts _ m2) (hts _ (wu hw rfl)) (hnd hbn) hroom, hts _ hin, hts _ hse⟩ ⟨blind _, hcellB, hpre⟩ rfl hlenA hsz hstack (lv_room hsum) hd ⟨hc1, hc2⟩
        · rw [if_neg hc0] at hw
          split at hw
          · exact va_runVN hfix (hMet (.ref a1 :: (stA.take b).reverse) ⟨hv, hta⟩) (C := (mY mj).cls) (host := "LeavesObject") ⟨va_cnB b hts hgood rfl rfl rfl (va_Nw.of rfl (hts _ (wu hw rfl))) (hts _ m2) (hnd hbn) hroom, hts _ hin, hts _ hse⟩ ⟨blind _, hcellB, hpre⟩ rfl hlenA hsz hstack (lv_room hsum) hd ⟨hc1, hc2⟩
          · cases hw
      · cases hcl
    · cases hcl
  · -- invokespecial
    rename_i ix
    have hc20 : c0 < 20 := by
      by_cases h : c0 < 20
      · exact h
      · simp [grp, h] at hg
    split at hcl
    · rename_i k rs hdrop
      split at hcl
      · rename_i hc
        obtain ⟨hbl, hsw, hkK⟩ := hc
        cases hcl
        have hdr := hst.drop b
        rw [hdrop] at hdr
        obtain ⟨v', restA, hdA, hv, hrest⟩ := hdr.cons
        have hta := (hst.take b).rev
        simp only [lnkOk, if_neg (show ¬ c0 = 99 by omega), if_neg (show ¬ c0 = 21 by omega), hmj, calOk, Bool.and_eq_true, beq_iff_eq, decide_eq_true_eq] at hl
        obtain ⟨rfl, hbn, hnm, hret, hw⟩ := hl
        simp only [gsOk, if_pos hc20, hmj] at hgs
        have hin := wu hgs rfl
        obtain ⟨a1, e1, g1, rfl⟩ := r0.1.own hkK hv
        have hstack : stA = ((stA.take b).reverse).reverse ++ .ref a1 :: restA := by
          have := take_drop_rev b stA
          rw [hdA] at this
          exact this
        have hlenA : (stA.take b).reverse.length = b := by
          rw [List.length_reverse, List.length_take, hst.len]
          omega
        have hsum := of_decide_eq_true hsw
        rw [← hrest.sum] at hsum
        have hWw : mW mj = Jvm.Cond.code (mY mj) (mB mj) (mL mj) none :: lw_gd := by
          unfold mW
          rw [hret]
        refine ⟨.ref a1 :: (stA.take b).reverse, restA, hrest, ?_⟩
        by_cases hc0 : c0 = 2
        · rw [if_pos hc0] at hw
          exact va_runI hfix (hMet (.ref a1 :: (stA.take b).reverse) ⟨hv, hta⟩) ⟨callB_of b hts hgood hWw rfl rfl (hts _ m2) (hts _ (wu hw rfl)) (hnd hbn) hroom, hnm, hts _ hin⟩ ⟨blind _, hpre⟩ rfl hlenA hsz hstack (lv_room hsum) hd ⟨hc1, hc2⟩
        · rw [if_neg hc0] at hw
          split at hw
          · exact va_runIN hfix (hMet (.ref a1 :: (stA.take b).reverse) ⟨hv, hta⟩) (host := "LeavesObject") ⟨va_cnB b hts hgood hWw rfl rfl (va_Nw.of rfl (hts _ (wu hw rfl))) (hts _ m2) (hnd hbn) hroom, hnm, hts _ hin⟩ ⟨blind _, hpre⟩ rfl hlenA hsz hstack (lv_room hsum) hd ⟨hc1, hc2⟩
          · cases hw
      · cases hcl
    · cases hcl
  · -- invokestatic
    rename_i ix
    have hc20 : c0 < 20 := by
      by_cases h : c0 < 20
      · exact h
      · simp [grp, h] at hg
    split at hcl
    · rename_i hc
      obtain ⟨hbl, hsw⟩ := hc
      cases hcl
      have hdr := hst.drop b
      have hta := (hst.take b).rev
      simp only [lnkOk, if_neg (show ¬ c0 = 99 by omega), if_neg (show ¬ c0 = 20 by omega), hmj, calOk, Bool.and_eq_true, beq_iff_eq, decide_eq_true_eq] at hl
      obtain ⟨rfl, hbn, hw⟩ := hl
      simp only [gsOk, if_pos hc20, hmj] at hgs
      have hstt := wu hgs rfl
      have hstack : stA = ((stA.take b).reverse).reverse ++ stA.drop b := take_drop_rev b stA
      have hlenA : (stA.take b).reverse.length = b := by
        rw [List.length_reverse, List.length_take, hst.len]
        omega
      have hsum := of_decide_eq_true hsw
      rw [← hdr.sum] at hsum
      refine ⟨(stA.take b).reverse, stA.drop b, hdr, ?_⟩
      have goS : wd pp (.methodLink (mY mi).cls ix (mY mj)) = true → va_Run p l e R s m args below meth c H locs cells slots dc ds (F0 m pc0 lsA stA) (stA.drop b) (xQc cst base D r1 w1 ws ((stA.take b).reverse).toArray) (xA base) := fun hw => va_runS hfix (hMet _ hta) ⟨callB_of b hts hgood rfl rfl rfl (hts _ m2) (hts _ (wu hw rfl)) (hnd hbn) hroom, hts _ hstt⟩ ⟨blind _, hpre⟩ rfl hlenA hsz hstack (lv_room hsum) hd ⟨hc1, hc2⟩
      split at hw
      · simp only [Bool.and_eq_true] at hw
        exact goS hw.2
      · split at hw
        · exact goS hw
        · split at hw
          · exact va_runSN hfix (hMet _ hta) (host := "LeavesObject") ⟨va_cnB b hts hgood rfl rfl rfl (va_Nw.of rfl (hts _ (wu hw rfl))) (hts _ m2) (hnd hbn) hroom, hts _ hstt, trivial⟩ ⟨blind _, hpre⟩ rfl hlenA hsz hstack (lv_room hsum) hd ⟨hc1, hc2⟩
          · cases hw
    · cases hcl
  · cases hcl
theorem sw_append (K x : XK) : sw (K ++ x) = sw K + sw x := by simp [sw]
set_option maxHeartbeats 4000000 in
theorem snd (hall : ∀ mj ∈ mtab, (mOk mj && (mC mj).all (eOk (mY mj) (mB mj))) = true ∧ (mC mj).all gsOk = true) : ∀ n d : Nat, Snd X n d := by
  intro n
  induction n with
  | zero => intro d mi pc ls st w r w' h; cases h
  | succ n ih =>
    intro d mi pc ls st w r w' hex cst base D p l e R s m args below meth c Q H locs lsA stA ws tys cells slots dc ds F r0 hfr hlo hdc hds hc1 hc2 kk
    unfold exec at hex
    split at hex
    · cases hex
    · rename_i en hcd
      split at hex
      · rename_i hg
        split at hex
        · rename_i r1 hrt
          cases hex
          have e1 : dc = 0 := by omega
          have e2 : ds = 0 := by omega
          subst e1
          subst e2
          exact kk pc en ls st lsA stA H locs ws tys hcd hg hrt Ext.rf r0
        · cases hex
      · rename_i hg
        split at hex
        · rename_i a vs rest d' hcl
          split at hex
          · rename_i mj hmj
            split at hex
            · rename_i hlen
              split at hex
              · rename_i r1 w1 hex1
                obtain ⟨x1, hx1⟩ := exec_grow hex1
                obtain ⟨x2, hx2⟩ := exec_grow hex
                have l1 : w1.1.length = w.1.length + x1.length := by rw [hx1, List.length_append]
                have l2 : w'.1.length = w1.1.length + x2.length := by rw [hx2, List.length_append]
                have s1 : sw w1.1 = sw w.1 + sw x1 := by rw [hx1, sw_append]
                have s2 : sw w'.1 = sw w1.1 + sw x2 := by rw [hx2, sw_append]
                have e1 : dc = x1.length + x2.length := by omega
                have e2 : ds = sw x1 + sw x2 := by omega
                subst e1
                subst e2
                obtain ⟨hk1, hk2⟩ := hall mj (List.mem_of_getElem? hmj)
                have hok : mOk mj = true := (Bool.and_eq_true _ _ ▸ hk1).1
                obtain ⟨avs, restA, hrest, hrun⟩ := xrun (l := l) (e := e) (below := below) (cells := cells) (slots := slots) (dc := x1.length) (ds := sw x1) F hcd hg hcl r0 hmj hok (fun avs hs => met_of (ih d') hk1 hk2 hex1 hlen hs l1 s1) hfr hlo (by omega) (by omega)
                refine xcall hrun r0.2.1 (fun r' ws' tys' H1 locs1 hR hE hW hS => ?_)
                have hrr : Sr ws' cst (r1.toList ++ rest) (r'.toList ++ restA) := by
                  refine Sr.app ?_ (hrest.mono hE)
                  match r1, r', hR with
                  | none, none, _ => trivial
                  | some v, some v', hR => exact ⟨hR, trivial⟩
                refine ih (d' + 1) mi (pc + 3) ls (r1.toList ++ rest) w1 r w' hex cst base D p l e R s m args below meth c Q H1 locs1 lsA (r'.toList ++ restA) ws' tys' (cells + x1.length) (slots + sw x1) x2.length (sw x2) F ⟨hW, hS, r0.2.2.1.mono hE, hrr, r0.2.2.2.2⟩ hfr hlo l2 s2 (by omega) (by omega) ?_
                intro pc1 en1 ls1 st1 lsA1 stA1 H2 locs2 ws2 tys2 q1 q2 q3 q4 q5
                rw [Nat.add_assoc, Nat.add_assoc]
                exact kk pc1 en1 ls1 st1 lsA1 stA1 H2 locs2 ws2 tys2 q1 q2 q3 (hE.tr q4) q5
              · cases hex
            · cases hex
          · cases hex
        · cases hex
      · rename_i hg1 hg2
        split at hex
        · rename_i pc' ls' st' w1 hst
          obtain ⟨x1, hx1⟩ := stp_w hst
          obtain ⟨x2, hx2⟩ := exec_grow hex
          have go : ∀ (dc2 ds2 : Nat), w'.1.length = w1.1.length + dc2 → sw w'.1 = sw w1.1 + ds2 → ∀ (cells2 slots2 : Nat), cells2 + dc2 = cells + dc → slots2 + ds2 = slots + ds → ∀ (H1 : Heap) (locs1 : List Loc) (lsA1 : Array Slot) (stA1 : List Value) (ws1 : va_W) (tys1 : List (ClassId × FieldType)), Ext ws ws1 → FR cst base D mi s w1 ls' st' H1 locs1 lsA1 stA1 ws1 tys1 → W p l e R s m args below meth c H1 locs1 cells2 slots2 Q (F0 m pc' lsA1 stA1) := by
            intro dc2 ds2 g1 g2 cells2 slots2 g3 g4 H1 locs1 lsA1 stA1 ws1 tys1 hE r1
            refine ih d mi pc' ls' st' w1 r w' hex cst base D p l e R s m args below meth c Q H1 locs1 lsA1 stA1 ws1 tys1 cells2 slots2 dc2 ds2 F r1 hfr hlo g1 g2 (by omega) (by omega) ?_
            intro pc1 en1 ls1 st1 lsA1 stA1 H2 locs2 ws2 tys2 q1 q2 q3 q4 q5
            rw [g3, g4]
            exact kk pc1 en1 ls1 st1 lsA1 stA1 H2 locs2 ws2 tys2 q1 q2 q3 (hE.tr q4) q5
          unfold stp at hst
          split at hst
          · have hw1 := stpJ_w hst
            subst hw1
            exact sJ F hcd hst r0 (fun stA' r1 => go dc ds hdc hds cells slots rfl rfl H locs lsA stA' ws tys Ext.rf r1)
          · have hw1 := stpV_w hst
            subst hw1
            exact sV F hcd hst r0 (fun lsA' stA' r1 => go dc ds hdc hds cells slots rfl rfl H locs lsA' stA' ws tys Ext.rf r1)
          · have hw1 := stpL_w hst
            subst hw1
            exact sL F hcd hst r0 (fun lsA' stA' r1 => go dc ds hdc hds cells slots rfl rfl H locs lsA' stA' ws tys Ext.rf r1)
          · have hw1 := stpH_w hst
            exact sH F hcd hst r0 (fun H1 locs1 stA' ws1 _ hE r1 => go dc ds (by rw [hw1]; exact hdc) (by rw [hw1]; exact hds) cells slots rfl rfl H1 locs1 lsA stA' ws1 tys hE r1)
          · obtain ⟨dc1, ds1, g1, g2, g3⟩ := sN (l := l) (e := e) (R := R) (below := below) (Q := Q) (cells := cells) (slots := slots) F hcd hst r0 ⟨by omega, by omega⟩
            have l2 : w'.1.length = w1.1.length + x2.length := by rw [hx2, List.length_append]
            have s2 : sw w'.1 = sw w1.1 + sw x2 := by rw [hx2, sw_append]
            exact g3 (by omega) (by omega) (fun H1 locs1 stA' ws1 tys1 hE r1 => go x2.length (sw x2) l2 s2 (cells + dc1) (slots + ds1) (by omega) (by omega) H1 locs1 lsA stA' ws1 tys1 hE r1)
          · cases hst
        · cases hex
end SND2
end
section
/-! What holds at the law's start: the rows up to lw_At are the skeleton's. -/
def R_law : String := "LeavesObjectLaw"
def lw_P (b : Addr) (xs : List Int32) (args : Array Value) (s : State) : Prop := args = #[.ref b] ∧ s.IntsAt b xs ∧ xs.length ≤ 3072 ∧ (Jvm.Cond.and given_1 narrow_1).before args s = true
def lw_Q (_ : Array Value) (s : State) (o : Outcome) (t : State) : Prop := o = .returned (some (.int 1)) ∧ Framed s o t [] 600000 7302250
def lw_Z (below : List Frame) (a : Array Value) (s : State) : State → Prop := fun t => ∃ o, t.status = .running ∧ Ended t below o ∧ lw_Q a s o t
/-- the law's own end, with 1 on the stack, nothing written that was there before, its room as the claim has it -/
theorem lw_ret {p : Program} {l : Launch} {e : Env} {s : State} {m : MethodId} {below : List Frame} {meth : Method} {c : Code} {b : Nat} (hx : p.tables.exec = Jvm.exec) (hb : c.code = code) (hr : meth.sig.returnType = ret) (hlocks : meth.locks = false) {pc : Nat} {H : Heap} {ls : Array Slot} (hdg : decode code pc = .ok (.ireturn, 1)) : W p l e room_1 s m #[Value.ref b] below meth c H [] 600000 7302250 (lw_Z below #[Value.ref b] s) (F0 m pc ls [.int 1]) := by
  intro T hT X
  obtain ⟨fs, hret, hrun, hended, hW, hframe⟩ := X.leave (v := some (.int 1)) (hlocks := hlocks) (fun h => by rw [hr] at h; cases h)
  have hmeth' : T.vm.method? m = some meth := X.method'
  refine ⟨T.setFrames fs, ?_, .returned (some (.int 1)), hrun, hended, rfl, ⟨_, rfl⟩, hW, hframe⟩
  jvm_step X.here [X.here.top, hx, hb, hdg, hmeth', hr, ret, narrow_b1]
  (try refine ⟨rfl, ?_⟩); (try refine ⟨rfl, ?_⟩)
  first | (intro acts; rw [hret _ acts rfl rfl rfl]) | rw [hret _ _ rfl rfl rfl]
  exact Steps.refl _
/-- what holds at the law's entry: the machine, the code, the tables' words (any of lw_tbl by 'hts w (by decide +kernel)'), the script of L ints xs at the cell b, what the Statement gives of the start (any of its parts by flat_of_before) -/
def lw_At (p : Program) (s : State) (m : MethodId) (meth : Method) (c : Code) (b L : Nat) (xs : Nat → Int32) : Prop :=
  p.tables.exec = Jvm.exec ∧ c.code = code ∧ meth.sig.returnType = ret ∧ c.maxLocals = 4 ∧ s.vm.findClass R_law = some m.cls ∧ (∀ w ∈ lw_tbl, w.before #[Value.ref b] s = true) ∧ va_X b L xs s s.heap ∧ b < s.heap.size ∧ meth.locks = false ∧ (Jvm.Cond.and given_1 narrow_1).before #[Value.ref b] s = true
theorem str_of {args : Array Value} {s : State} {A : Nat → Prop} {tm : Term} {n : Nat} {byt : List Int32} (hn : n < 2 ^ 31) (hex : (Cond.exactly tm "java/lang/String").before args s = true) (hco : (Cond.eq (.field tm "java/lang/String" "coder" "B") (.int 0)).before args s = true)
    (har : (Cond.arrayOf (.field tm "java/lang/String" "value" "[B") .byte).before args s = true) (hle : (Cond.eq (.length (.field tm "java/lang/String" "value" "[B")) (.int (Int32.ofNat n))).before args s = true) (hel : ∀ j : Nat, j < n → (Cond.eq (.elem (.field tm "java/lang/String" "value" "[B") (.int (Int32.ofNat j))) (.int (byt.getD j 0))).before args s = true) (hA : ∀ a : Nat, a < s.heap.size → ¬ A a) :
    ∃ aK aV, tm.eval args s none [] s = some (.ref aK) ∧ va_O "java/lang/String" aK A s s.heap ∧ va_OF "java/lang/String" "coder" "B" (.int 0) aK A s s.heap ∧ va_OF "java/lang/String" "value" "[B" (.ref aV) aK A s s.heap ∧ va_T .byte aV n (fun j => .int (byt.getD j 0)) A s s.heap := by
  have z : ∀ {i : Nat}, i < 1 → i = 0 := fun h => by omega
  obtain ⟨adK, adV, h, ht⟩ := vk_Sof (args := args) (s := s) (N := 1) (tm := fun _ => tm) (len := [n]) (byt := [byt]) (A := A) (fun i hi => by rw [z hi]; exact hn) (fun _ _ => hex) (fun _ _ => hco) (fun _ _ => har) (fun i hi => by rw [z hi]; exact hle) (fun i hi j hj => by
    rw [z hi] at hj ⊢
    exact hel j hj) (fun i j hi hj hij => absurd ((z hi).trans (z hj).symm) hij) hA
  obtain ⟨h1, h2, h3, h4⟩ := h.1 0 (by decide)
  exact ⟨adK 0, adV 0, ht 0 (by decide), h1, h2, h3, h4⟩
set_option maxRecDepth 100000 in
theorem str_0 {args : Array Value} {s : State} {A : Nat → Prop} (hs : ∀ c ∈ flatC (Jvm.Cond.and given_1 narrow_1), c.before args s = true) (hA : ∀ a : Nat, a < s.heap.size → ¬ A a) : ∃ aK aV, (Jvm.Term.string "LeavesObject$Text" (strK 0)).eval args s none [] s = some (.ref aK) ∧ va_O "java/lang/String" aK A s s.heap ∧ va_OF "java/lang/String" "coder" "B" (.int 0) aK A s s.heap ∧ va_OF "java/lang/String" "value" "[B" (.ref aV) aK A s s.heap ∧ va_T .byte aV (strLen.getD 0 0) (fun j => .int ((strByt.getD 0 []).getD j 0)) A s s.heap := by
  refine str_of (n := 4) (byt := [98, 97, 108, 107]) (by decide) (hs _ (List.mem_of_getElem? (i := 82) (by decide +kernel))) (hs _ (List.mem_of_getElem? (i := 83) (by decide +kernel))) (hs _ (List.mem_of_getElem? (i := 84) (by decide +kernel))) (hs _ (List.mem_of_getElem? (i := 85) (by decide +kernel))) (fun j hj => ?_) hA
  match j, hj with
  | 0, _ => exact (hs _ (List.mem_of_getElem? (i := 86) (by decide +kernel)))
  | 1, _ => exact (hs _ (List.mem_of_getElem? (i := 87) (by decide +kernel)))
  | 2, _ => exact (hs _ (List.mem_of_getElem? (i := 88) (by decide +kernel)))
  | 3, _ => exact (hs _ (List.mem_of_getElem? (i := 89) (by decide +kernel)))
  | j + 4, hj => omega
set_option maxRecDepth 100000 in
theorem str_1 {args : Array Value} {s : State} {A : Nat → Prop} (hs : ∀ c ∈ flatC (Jvm.Cond.and given_1 narrow_1), c.before args s = true) (hA : ∀ a : Nat, a < s.heap.size → ¬ A a) : ∃ aK aV, (Jvm.Term.string "LeavesObject$Text" (strK 1)).eval args s none [] s = some (.ref aK) ∧ va_O "java/lang/String" aK A s s.heap ∧ va_OF "java/lang/String" "coder" "B" (.int 0) aK A s s.heap ∧ va_OF "java/lang/String" "value" "[B" (.ref aV) aK A s s.heap ∧ va_T .byte aV (strLen.getD 1 0) (fun j => .int ((strByt.getD 1 []).getD j 0)) A s s.heap := by
  refine str_of (n := 4) (byt := [114, 105, 115, 101]) (by decide) (hs _ (List.mem_of_getElem? (i := 90) (by decide +kernel))) (hs _ (List.mem_of_getElem? (i := 91) (by decide +kernel))) (hs _ (List.mem_of_getElem? (i := 92) (by decide +kernel))) (hs _ (List.mem_of_getElem? (i := 93) (by decide +kernel))) (fun j hj => ?_) hA
  match j, hj with
  | 0, _ => exact (hs _ (List.mem_of_getElem? (i := 94) (by decide +kernel)))
  | 1, _ => exact (hs _ (List.mem_of_getElem? (i := 95) (by decide +kernel)))
  | 2, _ => exact (hs _ (List.mem_of_getElem? (i := 96) (by decide +kernel)))
  | 3, _ => exact (hs _ (List.mem_of_getElem? (i := 97) (by decide +kernel)))
  | j + 4, hj => omega
set_option maxRecDepth 100000 in
theorem str_2 {args : Array Value} {s : State} {A : Nat → Prop} (hs : ∀ c ∈ flatC (Jvm.Cond.and given_1 narrow_1), c.before args s = true) (hA : ∀ a : Nat, a < s.heap.size → ¬ A a) : ∃ aK aV, (Jvm.Term.string "LeavesObject$Text" (strK 2)).eval args s none [] s = some (.ref aK) ∧ va_O "java/lang/String" aK A s s.heap ∧ va_OF "java/lang/String" "coder" "B" (.int 0) aK A s s.heap ∧ va_OF "java/lang/String" "value" "[B" (.ref aV) aK A s s.heap ∧ va_T .byte aV (strLen.getD 2 0) (fun j => .int ((strByt.getD 2 []).getD j 0)) A s s.heap := by
  refine str_of (n := 4) (byt := [102, 97, 108, 108]) (by decide) (hs _ (List.mem_of_getElem? (i := 99) (by decide +kernel))) (hs _ (List.mem_of_getElem? (i := 100) (by decide +kernel))) (hs _ (List.mem_of_getElem? (i := 101) (by decide +kernel))) (hs _ (List.mem_of_getElem? (i := 102) (by decide +kernel))) (fun j hj => ?_) hA
  match j, hj with
  | 0, _ => exact (hs _ (List.mem_of_getElem? (i := 103) (by decide +kernel)))
  | 1, _ => exact (hs _ (List.mem_of_getElem? (i := 104) (by decide +kernel)))
  | 2, _ => exact (hs _ (List.mem_of_getElem? (i := 105) (by decide +kernel)))
  | 3, _ => exact (hs _ (List.mem_of_getElem? (i := 106) (by decide +kernel)))
  | j + 4, hj => omega
set_option maxRecDepth 100000 in
theorem str_3 {args : Array Value} {s : State} {A : Nat → Prop} (hs : ∀ c ∈ flatC (Jvm.Cond.and given_1 narrow_1), c.before args s = true) (hA : ∀ a : Nat, a < s.heap.size → ¬ A a) : ∃ aK aV, (Jvm.Term.string "LeavesObject$Text" (strK 3)).eval args s none [] s = some (.ref aK) ∧ va_O "java/lang/String" aK A s s.heap ∧ va_OF "java/lang/String" "coder" "B" (.int 0) aK A s s.heap ∧ va_OF "java/lang/String" "value" "[B" (.ref aV) aK A s s.heap ∧ va_T .byte aV (strLen.getD 3 0) (fun j => .int ((strByt.getD 3 []).getD j 0)) A s s.heap := by
  refine str_of (n := 4) (byt := [119, 105, 108, 108]) (by decide) (hs _ (List.mem_of_getElem? (i := 109) (by decide +kernel))) (hs _ (List.mem_of_getElem? (i := 110) (by decide +kernel))) (hs _ (List.mem_of_getElem? (i := 111) (by decide +kernel))) (hs _ (List.mem_of_getElem? (i := 112) (by decide +kernel))) (fun j hj => ?_) hA
  match j, hj with
  | 0, _ => exact (hs _ (List.mem_of_getElem? (i := 113) (by decide +kernel)))
  | 1, _ => exact (hs _ (List.mem_of_getElem? (i := 114) (by decide +kernel)))
  | 2, _ => exact (hs _ (List.mem_of_getElem? (i := 115) (by decide +kernel)))
  | 3, _ => exact (hs _ (List.mem_of_getElem? (i := 116) (by decide +kernel)))
  | j + 4, hj => omega
set_option maxRecDepth 100000 in
theorem str_4 {args : Array Value} {s : State} {A : Nat → Prop} (hs : ∀ c ∈ flatC (Jvm.Cond.and given_1 narrow_1), c.before args s = true) (hA : ∀ a : Nat, a < s.heap.size → ¬ A a) : ∃ aK aV, (Jvm.Term.string "LeavesObject$Text" (strK 4)).eval args s none [] s = some (.ref aK) ∧ va_O "java/lang/String" aK A s s.heap ∧ va_OF "java/lang/String" "coder" "B" (.int 0) aK A s s.heap ∧ va_OF "java/lang/String" "value" "[B" (.ref aV) aK A s s.heap ∧ va_T .byte aV (strLen.getD 4 0) (fun j => .int ((strByt.getD 4 []).getD j 0)) A s s.heap := by
  refine str_of (n := 1) (byt := [32]) (by decide) (hs _ (List.mem_of_getElem? (i := 120) (by decide +kernel))) (hs _ (List.mem_of_getElem? (i := 121) (by decide +kernel))) (hs _ (List.mem_of_getElem? (i := 122) (by decide +kernel))) (hs _ (List.mem_of_getElem? (i := 123) (by decide +kernel))) (fun j hj => ?_) hA
  match j, hj with
  | 0, _ => exact (hs _ (List.mem_of_getElem? (i := 124) (by decide +kernel)))
  | j + 1, hj => omega
set_option maxRecDepth 100000 in
theorem str_5 {args : Array Value} {s : State} {A : Nat → Prop} (hs : ∀ c ∈ flatC (Jvm.Cond.and given_1 narrow_1), c.before args s = true) (hA : ∀ a : Nat, a < s.heap.size → ¬ A a) : ∃ aK aV, (Jvm.Term.string "LeavesObject$Text" (strK 5)).eval args s none [] s = some (.ref aK) ∧ va_O "java/lang/String" aK A s s.heap ∧ va_OF "java/lang/String" "coder" "B" (.int 0) aK A s s.heap ∧ va_OF "java/lang/String" "value" "[B" (.ref aV) aK A s s.heap ∧ va_T .byte aV (strLen.getD 5 0) (fun j => .int ((strByt.getD 5 []).getD j 0)) A s s.heap := by
  refine str_of (n := 6) (byt := [99, 119, 107, 118, 108, 110]) (by decide) (hs _ (List.mem_of_getElem? (i := 129) (by decide +kernel))) (hs _ (List.mem_of_getElem? (i := 130) (by decide +kernel))) (hs _ (List.mem_of_getElem? (i := 131) (by decide +kernel))) (hs _ (List.mem_of_getElem? (i := 132) (by decide +kernel))) (fun j hj => ?_) hA
  match j, hj with
  | 0, _ => exact (hs _ (List.mem_of_getElem? (i := 133) (by decide +kernel)))
  | 1, _ => exact (hs _ (List.mem_of_getElem? (i := 134) (by decide +kernel)))
  | 2, _ => exact (hs _ (List.mem_of_getElem? (i := 135) (by decide +kernel)))
  | 3, _ => exact (hs _ (List.mem_of_getElem? (i := 136) (by decide +kernel)))
  | 4, _ => exact (hs _ (List.mem_of_getElem? (i := 137) (by decide +kernel)))
  | 5, _ => exact (hs _ (List.mem_of_getElem? (i := 138) (by decide +kernel)))
  | j + 6, hj => omega
set_option maxRecDepth 100000 in
theorem str_6 {args : Array Value} {s : State} {A : Nat → Prop} (hs : ∀ c ∈ flatC (Jvm.Cond.and given_1 narrow_1), c.before args s = true) (hA : ∀ a : Nat, a < s.heap.size → ¬ A a) : ∃ aK aV, (Jvm.Term.string "LeavesObject$Text" (strK 6)).eval args s none [] s = some (.ref aK) ∧ va_O "java/lang/String" aK A s s.heap ∧ va_OF "java/lang/String" "coder" "B" (.int 0) aK A s s.heap ∧ va_OF "java/lang/String" "value" "[B" (.ref aV) aK A s s.heap ∧ va_T .byte aV (strLen.getD 6 0) (fun j => .int ((strByt.getD 6 []).getD j 0)) A s s.heap := by
  refine str_of (n := 3) (byt := [60, 61, 62]) (by decide) (hs _ (List.mem_of_getElem? (i := 144) (by decide +kernel))) (hs _ (List.mem_of_getElem? (i := 145) (by decide +kernel))) (hs _ (List.mem_of_getElem? (i := 146) (by decide +kernel))) (hs _ (List.mem_of_getElem? (i := 147) (by decide +kernel))) (fun j hj => ?_) hA
  match j, hj with
  | 0, _ => exact (hs _ (List.mem_of_getElem? (i := 148) (by decide +kernel)))
  | 1, _ => exact (hs _ (List.mem_of_getElem? (i := 149) (by decide +kernel)))
  | 2, _ => exact (hs _ (List.mem_of_getElem? (i := 150) (by decide +kernel)))
  | j + 3, hj => omega
set_option maxRecDepth 100000 in
theorem str_7 {args : Array Value} {s : State} {A : Nat → Prop} (hs : ∀ c ∈ flatC (Jvm.Cond.and given_1 narrow_1), c.before args s = true) (hA : ∀ a : Nat, a < s.heap.size → ¬ A a) : ∃ aK aV, (Jvm.Term.string "LeavesObject$Text" (strK 7)).eval args s none [] s = some (.ref aK) ∧ va_O "java/lang/String" aK A s s.heap ∧ va_OF "java/lang/String" "coder" "B" (.int 0) aK A s s.heap ∧ va_OF "java/lang/String" "value" "[B" (.ref aV) aK A s s.heap ∧ va_T .byte aV (strLen.getD 7 0) (fun j => .int ((strByt.getD 7 []).getD j 0)) A s s.heap := by
  refine str_of (n := 1) (byt := [41]) (by decide) (hs _ (List.mem_of_getElem? (i := 157) (by decide +kernel))) (hs _ (List.mem_of_getElem? (i := 158) (by decide +kernel))) (hs _ (List.mem_of_getElem? (i := 159) (by decide +kernel))) (hs _ (List.mem_of_getElem? (i := 160) (by decide +kernel))) (fun j hj => ?_) hA
  match j, hj with
  | 0, _ => exact (hs _ (List.mem_of_getElem? (i := 161) (by decide +kernel)))
  | j + 1, hj => omega
set_option maxRecDepth 100000 in
theorem tab_0 {args : Array Value} {s : State} {A : Nat → Prop} (hs : ∀ c ∈ flatC (Jvm.Cond.and given_1 narrow_1), c.before args s = true) (hA : ∀ a : Nat, a < s.heap.size → ¬ A a) : ∃ t : Nat, (Jvm.Term.static (sttT 0).1 (sttT 0).2.1 (sttT 0).2.2).eval args s none [] s = some (.ref t) ∧ va_T .int t 7 (fun j => .int (([-1, 0, 0, 0, 1, 2, 3] : List Int32).getD j 0)) A s s.heap := by
  refine va_Tof (by decide) (hs _ (List.mem_of_getElem? (i := 19) (by decide +kernel))) (va_eqt (hs _ (List.mem_of_getElem? (i := 20) (by decide +kernel)))) (fun j hj => ?_) hA
  match j, hj with
  | 0, _ => exact va_eqt (hs _ (List.mem_of_getElem? (i := 21) (by decide +kernel)))
  | 1, _ => exact va_eqt (hs _ (List.mem_of_getElem? (i := 22) (by decide +kernel)))
  | 2, _ => exact va_eqt (hs _ (List.mem_of_getElem? (i := 23) (by decide +kernel)))
  | 3, _ => exact va_eqt (hs _ (List.mem_of_getElem? (i := 24) (by decide +kernel)))
  | 4, _ => exact va_eqt (hs _ (List.mem_of_getElem? (i := 25) (by decide +kernel)))
  | 5, _ => exact va_eqt (hs _ (List.mem_of_getElem? (i := 26) (by decide +kernel)))
  | 6, _ => exact va_eqt (hs _ (List.mem_of_getElem? (i := 27) (by decide +kernel)))
  | j + 7, hj => omega
set_option maxRecDepth 100000 in
theorem tab_1 {args : Array Value} {s : State} {A : Nat → Prop} (hs : ∀ c ∈ flatC (Jvm.Cond.and given_1 narrow_1), c.before args s = true) (hA : ∀ a : Nat, a < s.heap.size → ¬ A a) : ∃ t : Nat, (Jvm.Term.static (sttT 1).1 (sttT 1).2.1 (sttT 1).2.2).eval args s none [] s = some (.ref t) ∧ va_T .int t 21 (fun j => .int (([10, 11, 12, 0, 20, 0, 30, 0, 0, 0, 0, 40, 50, 51, 0, 0, 0, 60, 71, 70, 0] : List Int32).getD j 0)) A s s.heap := by
  refine va_Tof (by decide) (hs _ (List.mem_of_getElem? (i := 29) (by decide +kernel))) (va_eqt (hs _ (List.mem_of_getElem? (i := 30) (by decide +kernel)))) (fun j hj => ?_) hA
  match j, hj with
  | 0, _ => exact va_eqt (hs _ (List.mem_of_getElem? (i := 31) (by decide +kernel)))
  | 1, _ => exact va_eqt (hs _ (List.mem_of_getElem? (i := 32) (by decide +kernel)))
  | 2, _ => exact va_eqt (hs _ (List.mem_of_getElem? (i := 33) (by decide +kernel)))
  | 3, _ => exact va_eqt (hs _ (List.mem_of_getElem? (i := 34) (by decide +kernel)))
  | 4, _ => exact va_eqt (hs _ (List.mem_of_getElem? (i := 35) (by decide +kernel)))
  | 5, _ => exact va_eqt (hs _ (List.mem_of_getElem? (i := 36) (by decide +kernel)))
  | 6, _ => exact va_eqt (hs _ (List.mem_of_getElem? (i := 37) (by decide +kernel)))
  | 7, _ => exact va_eqt (hs _ (List.mem_of_getElem? (i := 38) (by decide +kernel)))
  | 8, _ => exact va_eqt (hs _ (List.mem_of_getElem? (i := 39) (by decide +kernel)))
  | 9, _ => exact va_eqt (hs _ (List.mem_of_getElem? (i := 40) (by decide +kernel)))
  | 10, _ => exact va_eqt (hs _ (List.mem_of_getElem? (i := 41) (by decide +kernel)))
  | 11, _ => exact va_eqt (hs _ (List.mem_of_getElem? (i := 42) (by decide +kernel)))
  | 12, _ => exact va_eqt (hs _ (List.mem_of_getElem? (i := 43) (by decide +kernel)))
  | 13, _ => exact va_eqt (hs _ (List.mem_of_getElem? (i := 44) (by decide +kernel)))
  | 14, _ => exact va_eqt (hs _ (List.mem_of_getElem? (i := 45) (by decide +kernel)))
  | 15, _ => exact va_eqt (hs _ (List.mem_of_getElem? (i := 46) (by decide +kernel)))
  | 16, _ => exact va_eqt (hs _ (List.mem_of_getElem? (i := 47) (by decide +kernel)))
  | 17, _ => exact va_eqt (hs _ (List.mem_of_getElem? (i := 48) (by decide +kernel)))
  | 18, _ => exact va_eqt (hs _ (List.mem_of_getElem? (i := 49) (by decide +kernel)))
  | 19, _ => exact va_eqt (hs _ (List.mem_of_getElem? (i := 50) (by decide +kernel)))
  | 20, _ => exact va_eqt (hs _ (List.mem_of_getElem? (i := 51) (by decide +kernel)))
  | j + 21, hj => omega
set_option maxRecDepth 100000 in
theorem tab_2 {args : Array Value} {s : State} {A : Nat → Prop} (hs : ∀ c ∈ flatC (Jvm.Cond.and given_1 narrow_1), c.before args s = true) (hA : ∀ a : Nat, a < s.heap.size → ¬ A a) : ∃ t : Nat, (Jvm.Term.static (sttT 2).1 (sttT 2).2.1 (sttT 2).2.2).eval args s none [] s = some (.ref t) ∧ va_T .int t 6 (fun j => .int (([0, 1, 5, 21, 85, 341] : List Int32).getD j 0)) A s s.heap := by
  refine va_Tof (by decide) (hs _ (List.mem_of_getElem? (i := 10) (by decide +kernel))) (va_eqt (hs _ (List.mem_of_getElem? (i := 11) (by decide +kernel)))) (fun j hj => ?_) hA
  match j, hj with
  | 0, _ => exact va_eqt (hs _ (List.mem_of_getElem? (i := 12) (by decide +kernel)))
  | 1, _ => exact va_eqt (hs _ (List.mem_of_getElem? (i := 13) (by decide +kernel)))
  | 2, _ => exact va_eqt (hs _ (List.mem_of_getElem? (i := 14) (by decide +kernel)))
  | 3, _ => exact va_eqt (hs _ (List.mem_of_getElem? (i := 15) (by decide +kernel)))
  | 4, _ => exact va_eqt (hs _ (List.mem_of_getElem? (i := 16) (by decide +kernel)))
  | 5, _ => exact va_eqt (hs _ (List.mem_of_getElem? (i := 17) (by decide +kernel)))
  | j + 6, hj => omega
set_option maxRecDepth 100000 in
theorem gc_start {p : Program} {s : State} {m : MethodId} {meth : Method} {c : Code} {b L : Nat} {xs : Nat → Int32} (C0 : lw_At p s m meth c b L xs) : ∃ cst : Nat → Value, cst 1000050 = .ref b ∧ Gc (L + 1, xs) cst (xA s.heap.size) s s.heap := by
  obtain ⟨hx, hb, hr, hml, hown, hts, hX, hbl, hlocks, hgv⟩ := C0
  have hA : ∀ a : Nat, a < s.heap.size → ¬ xA s.heap.size a := fun a h => Nat.not_le.mpr h
  have hs := flat_of_before _ hgv
  have hstr : ∀ i : Nat, ∃ q : Nat × Nat, i < 8 → (Jvm.Term.string "LeavesObject$Text" (strK i)).eval #[Value.ref b] s none [] s = some (.ref q.1) ∧ va_O "java/lang/String" q.1 (xA s.heap.size) s s.heap ∧ va_OF "java/lang/String" "coder" "B" (.int 0) q.1 (xA s.heap.size) s s.heap ∧ va_OF "java/lang/String" "value" "[B" (.ref q.2) q.1 (xA s.heap.size) s s.heap ∧ va_T .byte q.2 (strLen.getD i 0) (fun j => .int ((strByt.getD i []).getD j 0)) (xA s.heap.size) s s.heap := by
    intro i
    match i with
    | 0 => obtain ⟨a1, a2, h⟩ := str_0 hs hA; exact ⟨(a1, a2), fun _ => h⟩
    | 1 => obtain ⟨a1, a2, h⟩ := str_1 hs hA; exact ⟨(a1, a2), fun _ => h⟩
    | 2 => obtain ⟨a1, a2, h⟩ := str_2 hs hA; exact ⟨(a1, a2), fun _ => h⟩
    | 3 => obtain ⟨a1, a2, h⟩ := str_3 hs hA; exact ⟨(a1, a2), fun _ => h⟩
    | 4 => obtain ⟨a1, a2, h⟩ := str_4 hs hA; exact ⟨(a1, a2), fun _ => h⟩
    | 5 => obtain ⟨a1, a2, h⟩ := str_5 hs hA; exact ⟨(a1, a2), fun _ => h⟩
    | 6 => obtain ⟨a1, a2, h⟩ := str_6 hs hA; exact ⟨(a1, a2), fun _ => h⟩
    | 7 => obtain ⟨a1, a2, h⟩ := str_7 hs hA; exact ⟨(a1, a2), fun _ => h⟩
    | i + 8 => exact ⟨(0, 0), fun h => absurd h (by omega)⟩
  obtain ⟨ad, had⟩ := Classical.axiomOfChoice hstr
  obtain ⟨t0, e0, f0⟩ := tab_0 hs hA
  obtain ⟨t1, e1, f1⟩ := tab_1 hs hA
  obtain ⟨t2, e2, f2⟩ := tab_2 hs hA
  have hfo : ∃ v : Value, (v = .null ∨ ∃ t, v = .ref t) ∧ va_Z (sttT 20).1 (sttT 20).2.1 (sttT 20).2.2 v (xA s.heap.size) s s.heap := by
    rcases va_Zqof (C := "jdk/internal/util/Preconditions") (n := "SIOOBE_FORMATTER") (d := "Ljava/util/function/BiFunction;") (hts _ (wd_in (p := 2206) (by decide +kernel))) (hts _ (wd_in (p := 1017) (by decide +kernel))) (hs _ (List.mem_of_getElem? (i := 5) (by decide +kernel))) hA with h | ⟨t, h⟩
    · exact ⟨_, Or.inl rfl, h⟩
    · exact ⟨_, Or.inr ⟨t, rfl⟩, h⟩
  obtain ⟨fo, hfo1, hfo2⟩ := hfo
  refine ⟨fun n => if n = 1000050 then .ref b else if n = 1000060 then fo else if n = 1000040 then .ref t0 else if n = 1000041 then .ref t1 else if n = 1000042 then .ref t2 else if 1000020 ≤ n then .ref (ad (n - 1000020)).2 else .ref (ad (n - 1000000)).1, rfl, ?_, ?_, ⟨hfo1, hfo2⟩, ?_, Or.inr ⟨b, rfl, hX, hbl, hA b hbl⟩, ?_⟩
  · intro q hq
    match q, hq with
    | 0, _ => exact ⟨t0, rfl, va_Zref (hts _ (wd_in (p := 4056) (by decide +kernel))) (hts _ (wd_in (p := 1001) (by decide +kernel))) e0 hA, _, _, rfl, f0⟩
    | 1, _ => exact ⟨t1, rfl, va_Zref (hts _ (wd_in (p := 4061) (by decide +kernel))) (hts _ (wd_in (p := 1001) (by decide +kernel))) e1 hA, _, _, rfl, f1⟩
    | 2, _ => exact ⟨t2, rfl, va_Zref (hts _ (wd_in (p := 3119) (by decide +kernel))) (hts _ (wd_in (p := 1001) (by decide +kernel))) e2 hA, _, _, rfl, f2⟩
    | q + 3, hq => omega
  · exact va_Zof (hts _ (wd_in (p := 2190) (by decide +kernel))) (hts _ (wd_in (p := 1015) (by decide +kernel))) (va_eqi (hs _ (List.mem_of_getElem? (i := 4) (by decide +kernel)))) hA
  · intro i hi
    obtain ⟨g1, g2, g3, g4, g5⟩ := had i hi
    have r1 : vk_R "LeavesObject$Text" (strK i) (strT i) (ad i).1 s := by
      refine vk_R.of (A := #[Value.ref b]) ?_ g1
      match i, hi with
      | 0, _ => exact hts _ (wd_in (p := 2173) (by decide +kernel))
      | 1, _ => exact hts _ (wd_in (p := 2174) (by decide +kernel))
      | 2, _ => exact hts _ (wd_in (p := 2175) (by decide +kernel))
      | 3, _ => exact hts _ (wd_in (p := 2176) (by decide +kernel))
      | 4, _ => exact hts _ (wd_in (p := 2229) (by decide +kernel))
      | 5, _ => exact hts _ (wd_in (p := 3012) (by decide +kernel))
      | 6, _ => exact hts _ (wd_in (p := 3017) (by decide +kernel))
      | 7, _ => exact hts _ (wd_in (p := 3026) (by decide +kernel))
      | i + 8, hi => omega
    refine ⟨(ad i).1, (ad i).2, ?_, ?_, r1, g2, g3, g4, g5⟩
    · dsimp only
      rw [if_neg (by omega), if_neg (by omega), if_neg (by omega), if_neg (by omega), if_neg (by omega), if_neg (by omega), Nat.add_sub_cancel_left]
    · dsimp only
      rw [if_neg (by omega), if_neg (by omega), if_neg (by omega), if_neg (by omega), if_neg (by omega), if_pos (by omega), Nat.add_sub_cancel_left]
  · intro w hw hn
    have h1 := hts w hw
    unfold isNest at hn
    split at hn
    · exact va_Nw.of rfl h1
    · exact va_Nw.of rfl h1
    · exact h1
    · cases hn
set_option maxRecDepth 100000 in
theorem va_K_start {args : Array Value} {s : State} (hts : ∀ w ∈ lw_tbl, w.before args s = true) : ∃ D : va_G, va_K D classes [] s := by
  obtain ⟨c0, i0, h0⟩ := u_known (C := RX0) (T := TX0) (N := 2) (n := 2) hts inX0 (hts (.instantiable RX0 2) (wd_in (p := 1206) (by decide +kernel)))
  obtain ⟨c1, i1, h1⟩ := u_known (C := RX1) (T := TX1) (N := 7) (n := 7) hts inX1 (hts (.instantiable RX1 7) (wd_in (p := 1057) (by decide +kernel)))
  obtain ⟨c2, i2, h2⟩ := u_known (C := RX2) (T := TX2) (N := 8) (n := 8) hts inX2 (hts (.instantiable RX2 8) (wd_in (p := 1149) (by decide +kernel)))
  obtain ⟨c4, i4, h4⟩ := u_known (C := RX4) (T := TX4) (N := 3) (n := 3) hts inX4 (hts (.instantiable RX4 3) (wd_in (p := 1037) (by decide +kernel)))
  obtain ⟨c5, i5, h5⟩ := u_known (C := RX5) (T := TX5) (N := 7) (n := 7) hts inX5 (hts (.instantiable RX5 7) (wd_in (p := 1029) (by decide +kernel)))
  obtain ⟨c6, i6, h6⟩ := u_known (C := RX6) (T := TX6) (N := 3) (n := 3) hts inX6 (hts (.instantiable RX6 3) (wd_in (p := 1221) (by decide +kernel)))
  obtain ⟨c7, i7, h7⟩ := u_known (C := RX7) (T := TX7) (N := 3) (n := 3) hts inX7 (hts (.instantiable RX7 3) (wd_in (p := 1130) (by decide +kernel)))
  obtain ⟨c8, i8, h8⟩ := u_known (C := RX8) (T := TX8) (N := 3) (n := 3) hts inX8 (hts (.instantiable RX8 3) (wd_in (p := 1188) (by decide +kernel)))
  obtain ⟨c9, i9, h9⟩ := u_known (C := RX9) (T := TX9) (N := 12) (n := 12) hts inX9 (hts (.instantiable RX9 12) (wd_in (p := 1021) (by decide +kernel)))
  obtain ⟨c10, i10, h10⟩ := u_known (C := RX10) (T := TX10) (N := 65) (n := 65) hts inX10 (hts (.instantiable RX10 65) (wd_in (p := 4125) (by decide +kernel)))
  refine ⟨(fun k => if k = 0 then c0 else if k = 1 then c1 else if k = 2 then c2 else if k = 3 then c4 else if k = 4 then c4 else if k = 5 then c5 else if k = 6 then c6 else if k = 7 then c7 else if k = 8 then c8 else if k = 9 then c9 else c10, fun k => if k = 0 then i0 else if k = 1 then i1 else if k = 2 then i2 else if k = 3 then i4 else if k = 4 then i4 else if k = 5 then i5 else if k = 6 then i6 else if k = 7 then i7 else if k = 8 then i8 else if k = 9 then i9 else i10), ?_, fun k q h => by simp at h⟩
  intro k q hq
  match k, hq with
  | 0, hq => cases hq; exact h0
  | 1, hq => cases hq; exact h1
  | 2, hq => cases hq; exact h2
  | 3, hq => cases hq; exact h4
  | 4, hq => cases hq; exact h4
  | 5, hq => cases hq; exact h5
  | 6, hq => cases hq; exact h6
  | 7, hq => cases hq; exact h7
  | 8, hq => cases hq; exact h8
  | 9, hq => cases hq; exact h9
  | 10, hq => cases hq; exact h10
  | k + 11, hq => simp [classes] at hq
/-- the law as a method of the small machine -/
def mLaw : MI := (x, code, 4, ret, kLaw, 1, [])
theorem gs_all : ∀ mj ∈ mtab, (mC mj).all gsOk = true := List.all_eq_true.mp (by decide +kernel : mtab.all (fun mj => (mC mj).all gsOk) = true)
theorem gs_law : kLaw.all gsOk = true := by decide +kernel
theorem mt_0 : ∀ mj ∈ [m0, m1, m2, m3, m4, m5, m6, m7, m8, m9, m10, m11, m12, m13, m14, m15], (mOk mj && (mC mj).all (eOk (mY mj) (mB mj))) = true := List.forall_mem_cons.mpr ⟨ok0, List.forall_mem_cons.mpr ⟨ok1, List.forall_mem_cons.mpr ⟨ok2, List.forall_mem_cons.mpr ⟨ok3, List.forall_mem_cons.mpr ⟨ok4, List.forall_mem_cons.mpr ⟨ok5, List.forall_mem_cons.mpr ⟨ok6, List.forall_mem_cons.mpr ⟨ok7, List.forall_mem_cons.mpr ⟨ok8, List.forall_mem_cons.mpr ⟨ok9, List.forall_mem_cons.mpr ⟨ok10, List.forall_mem_cons.mpr ⟨ok11, List.forall_mem_cons.mpr ⟨ok12, List.forall_mem_cons.mpr ⟨ok13, List.forall_mem_cons.mpr ⟨ok14, List.forall_mem_cons.mpr ⟨ok15, fun _ h => absurd h List.not_mem_nil⟩⟩⟩⟩⟩⟩⟩⟩⟩⟩⟩⟩⟩⟩⟩⟩
theorem mt_1 : ∀ mj ∈ [m16, m17, m18, m19, m20, m21, m22, m23, m24, m25, m26, m27, m28, m29, m30, m31], (mOk mj && (mC mj).all (eOk (mY mj) (mB mj))) = true := List.forall_mem_cons.mpr ⟨ok16, List.forall_mem_cons.mpr ⟨ok17, List.forall_mem_cons.mpr ⟨ok18, List.forall_mem_cons.mpr ⟨ok19, List.forall_mem_cons.mpr ⟨ok20, List.forall_mem_cons.mpr ⟨ok21, List.forall_mem_cons.mpr ⟨ok22, List.forall_mem_cons.mpr ⟨ok23, List.forall_mem_cons.mpr ⟨ok24, List.forall_mem_cons.mpr ⟨ok25, List.forall_mem_cons.mpr ⟨ok26, List.forall_mem_cons.mpr ⟨ok27, List.forall_mem_cons.mpr ⟨ok28, List.forall_mem_cons.mpr ⟨ok29, List.forall_mem_cons.mpr ⟨ok30, List.forall_mem_cons.mpr ⟨ok31, fun _ h => absurd h List.not_mem_nil⟩⟩⟩⟩⟩⟩⟩⟩⟩⟩⟩⟩⟩⟩⟩⟩
theorem mt_2 : ∀ mj ∈ [m32, m33, m34, m35, m36, m37, m38, m39, m40, m41, m42, m43, m44, m45, m46, m47], (mOk mj && (mC mj).all (eOk (mY mj) (mB mj))) = true := List.forall_mem_cons.mpr ⟨ok32, List.forall_mem_cons.mpr ⟨ok33, List.forall_mem_cons.mpr ⟨ok34, List.forall_mem_cons.mpr ⟨ok35, List.forall_mem_cons.mpr ⟨ok36, List.forall_mem_cons.mpr ⟨ok37, List.forall_mem_cons.mpr ⟨ok38, List.forall_mem_cons.mpr ⟨ok39, List.forall_mem_cons.mpr ⟨ok40, List.forall_mem_cons.mpr ⟨ok41, List.forall_mem_cons.mpr ⟨ok42, List.forall_mem_cons.mpr ⟨ok43, List.forall_mem_cons.mpr ⟨ok44, List.forall_mem_cons.mpr ⟨ok45, List.forall_mem_cons.mpr ⟨ok46, List.forall_mem_cons.mpr ⟨ok47, fun _ h => absurd h List.not_mem_nil⟩⟩⟩⟩⟩⟩⟩⟩⟩⟩⟩⟩⟩⟩⟩⟩
theorem mt_3 : ∀ mj ∈ [m48, m49, m50, m51, m52, m53, m54, m55, m56, m57, m58, m59, m60, m61, m62, m63], (mOk mj && (mC mj).all (eOk (mY mj) (mB mj))) = true := List.forall_mem_cons.mpr ⟨ok48, List.forall_mem_cons.mpr ⟨ok49, List.forall_mem_cons.mpr ⟨ok50, List.forall_mem_cons.mpr ⟨ok51, List.forall_mem_cons.mpr ⟨ok52, List.forall_mem_cons.mpr ⟨ok53, List.forall_mem_cons.mpr ⟨ok54, List.forall_mem_cons.mpr ⟨ok55, List.forall_mem_cons.mpr ⟨ok56, List.forall_mem_cons.mpr ⟨ok57, List.forall_mem_cons.mpr ⟨ok58, List.forall_mem_cons.mpr ⟨ok59, List.forall_mem_cons.mpr ⟨ok60, List.forall_mem_cons.mpr ⟨ok61, List.forall_mem_cons.mpr ⟨ok62, List.forall_mem_cons.mpr ⟨ok63, fun _ h => absurd h List.not_mem_nil⟩⟩⟩⟩⟩⟩⟩⟩⟩⟩⟩⟩⟩⟩⟩⟩
theorem mt_4 : ∀ mj ∈ [m64, m65, m66, m67, m68, m69, m70, m71, m72, m73, m74, m75, m76, m77, m78, m79], (mOk mj && (mC mj).all (eOk (mY mj) (mB mj))) = true := List.forall_mem_cons.mpr ⟨ok64, List.forall_mem_cons.mpr ⟨ok65, List.forall_mem_cons.mpr ⟨ok66, List.forall_mem_cons.mpr ⟨ok67, List.forall_mem_cons.mpr ⟨ok68, List.forall_mem_cons.mpr ⟨ok69, List.forall_mem_cons.mpr ⟨ok70, List.forall_mem_cons.mpr ⟨ok71, List.forall_mem_cons.mpr ⟨ok72, List.forall_mem_cons.mpr ⟨ok73, List.forall_mem_cons.mpr ⟨ok74, List.forall_mem_cons.mpr ⟨ok75, List.forall_mem_cons.mpr ⟨ok76, List.forall_mem_cons.mpr ⟨ok77, List.forall_mem_cons.mpr ⟨ok78, List.forall_mem_cons.mpr ⟨ok79, fun _ h => absurd h List.not_mem_nil⟩⟩⟩⟩⟩⟩⟩⟩⟩⟩⟩⟩⟩⟩⟩⟩
theorem mt_5 : ∀ mj ∈ [m80, m81, m82, m83, m84, m85, m86, m87, m88, m89, m90, m91, m92, m93, m94, m95], (mOk mj && (mC mj).all (eOk (mY mj) (mB mj))) = true := List.forall_mem_cons.mpr ⟨ok80, List.forall_mem_cons.mpr ⟨ok81, List.forall_mem_cons.mpr ⟨ok82, List.forall_mem_cons.mpr ⟨ok83, List.forall_mem_cons.mpr ⟨ok84, List.forall_mem_cons.mpr ⟨ok85, List.forall_mem_cons.mpr ⟨ok86, List.forall_mem_cons.mpr ⟨ok87, List.forall_mem_cons.mpr ⟨ok88, List.forall_mem_cons.mpr ⟨ok89, List.forall_mem_cons.mpr ⟨ok90, List.forall_mem_cons.mpr ⟨ok91, List.forall_mem_cons.mpr ⟨ok92, List.forall_mem_cons.mpr ⟨ok93, List.forall_mem_cons.mpr ⟨ok94, List.forall_mem_cons.mpr ⟨ok95, fun _ h => absurd h List.not_mem_nil⟩⟩⟩⟩⟩⟩⟩⟩⟩⟩⟩⟩⟩⟩⟩⟩
theorem mt_6 : ∀ mj ∈ [m96, m97, m98, m99, m100, m101, m102, m103, m104, m105, m106, m107, m108, m109, m110, m111], (mOk mj && (mC mj).all (eOk (mY mj) (mB mj))) = true := List.forall_mem_cons.mpr ⟨ok96, List.forall_mem_cons.mpr ⟨ok97, List.forall_mem_cons.mpr ⟨ok98, List.forall_mem_cons.mpr ⟨ok99, List.forall_mem_cons.mpr ⟨ok100, List.forall_mem_cons.mpr ⟨ok101, List.forall_mem_cons.mpr ⟨ok102, List.forall_mem_cons.mpr ⟨ok103, List.forall_mem_cons.mpr ⟨ok104, List.forall_mem_cons.mpr ⟨ok105, List.forall_mem_cons.mpr ⟨ok106, List.forall_mem_cons.mpr ⟨ok107, List.forall_mem_cons.mpr ⟨ok108, List.forall_mem_cons.mpr ⟨ok109, List.forall_mem_cons.mpr ⟨ok110, List.forall_mem_cons.mpr ⟨ok111, fun _ h => absurd h List.not_mem_nil⟩⟩⟩⟩⟩⟩⟩⟩⟩⟩⟩⟩⟩⟩⟩⟩
theorem mt_7 : ∀ mj ∈ [m112, m113, m114, m115, m116, m117, m118, m119, m120, m121, m122, m123, m124, m125, m126, m127], (mOk mj && (mC mj).all (eOk (mY mj) (mB mj))) = true := List.forall_mem_cons.mpr ⟨ok112, List.forall_mem_cons.mpr ⟨ok113, List.forall_mem_cons.mpr ⟨ok114, List.forall_mem_cons.mpr ⟨ok115, List.forall_mem_cons.mpr ⟨ok116, List.forall_mem_cons.mpr ⟨ok117, List.forall_mem_cons.mpr ⟨ok118, List.forall_mem_cons.mpr ⟨ok119, List.forall_mem_cons.mpr ⟨ok120, List.forall_mem_cons.mpr ⟨ok121, List.forall_mem_cons.mpr ⟨ok122, List.forall_mem_cons.mpr ⟨ok123, List.forall_mem_cons.mpr ⟨ok124, List.forall_mem_cons.mpr ⟨ok125, List.forall_mem_cons.mpr ⟨ok126, List.forall_mem_cons.mpr ⟨ok127, fun _ h => absurd h List.not_mem_nil⟩⟩⟩⟩⟩⟩⟩⟩⟩⟩⟩⟩⟩⟩⟩⟩
theorem mt_8 : ∀ mj ∈ [m128, m129, m130, m131, m132, m133, m134, m135, m136, m137, m138, m139, m140, m141, m142, m143], (mOk mj && (mC mj).all (eOk (mY mj) (mB mj))) = true := List.forall_mem_cons.mpr ⟨ok128, List.forall_mem_cons.mpr ⟨ok129, List.forall_mem_cons.mpr ⟨ok130, List.forall_mem_cons.mpr ⟨ok131, List.forall_mem_cons.mpr ⟨ok132, List.forall_mem_cons.mpr ⟨ok133, List.forall_mem_cons.mpr ⟨ok134, List.forall_mem_cons.mpr ⟨ok135, List.forall_mem_cons.mpr ⟨ok136, List.forall_mem_cons.mpr ⟨ok137, List.forall_mem_cons.mpr ⟨ok138, List.forall_mem_cons.mpr ⟨ok139, List.forall_mem_cons.mpr ⟨ok140, List.forall_mem_cons.mpr ⟨ok141, List.forall_mem_cons.mpr ⟨ok142, List.forall_mem_cons.mpr ⟨ok143, fun _ h => absurd h List.not_mem_nil⟩⟩⟩⟩⟩⟩⟩⟩⟩⟩⟩⟩⟩⟩⟩⟩
theorem mt_9 : ∀ mj ∈ [m144, m145, m146, m147, m148, m149, m150, m151, m152, m153, m154, m155, m156, m157, m158, m159], (mOk mj && (mC mj).all (eOk (mY mj) (mB mj))) = true := List.forall_mem_cons.mpr ⟨ok144, List.forall_mem_cons.mpr ⟨ok145, List.forall_mem_cons.mpr ⟨ok146, List.forall_mem_cons.mpr ⟨ok147, List.forall_mem_cons.mpr ⟨ok148, List.forall_mem_cons.mpr ⟨ok149, List.forall_mem_cons.mpr ⟨ok150, List.forall_mem_cons.mpr ⟨ok151, List.forall_mem_cons.mpr ⟨ok152, List.forall_mem_cons.mpr ⟨ok153, List.forall_mem_cons.mpr ⟨ok154, List.forall_mem_cons.mpr ⟨ok155, List.forall_mem_cons.mpr ⟨ok156, List.forall_mem_cons.mpr ⟨ok157, List.forall_mem_cons.mpr ⟨ok158, List.forall_mem_cons.mpr ⟨ok159, fun _ h => absurd h List.not_mem_nil⟩⟩⟩⟩⟩⟩⟩⟩⟩⟩⟩⟩⟩⟩⟩⟩
theorem mt_10 : ∀ mj ∈ [m160, m161, m162, m163, m164, m165, m166, m167, m168, m169, m170, m171, m172, m173, m174, m175], (mOk mj && (mC mj).all (eOk (mY mj) (mB mj))) = true := List.forall_mem_cons.mpr ⟨ok160, List.forall_mem_cons.mpr ⟨ok161, List.forall_mem_cons.mpr ⟨ok162, List.forall_mem_cons.mpr ⟨ok163, List.forall_mem_cons.mpr ⟨ok164, List.forall_mem_cons.mpr ⟨ok165, List.forall_mem_cons.mpr ⟨ok166, List.forall_mem_cons.mpr ⟨ok167, List.forall_mem_cons.mpr ⟨ok168, List.forall_mem_cons.mpr ⟨ok169, List.forall_mem_cons.mpr ⟨ok170, List.forall_mem_cons.mpr ⟨ok171, List.forall_mem_cons.mpr ⟨ok172, List.forall_mem_cons.mpr ⟨ok173, List.forall_mem_cons.mpr ⟨ok174, List.forall_mem_cons.mpr ⟨ok175, fun _ h => absurd h List.not_mem_nil⟩⟩⟩⟩⟩⟩⟩⟩⟩⟩⟩⟩⟩⟩⟩⟩
theorem mt_11 : ∀ mj ∈ [m176, m177, m178, m179, m180, m181, m182, m183, m184, m185, m186, m187, m188, m189, m190, m191], (mOk mj && (mC mj).all (eOk (mY mj) (mB mj))) = true := List.forall_mem_cons.mpr ⟨ok176, List.forall_mem_cons.mpr ⟨ok177, List.forall_mem_cons.mpr ⟨ok178, List.forall_mem_cons.mpr ⟨ok179, List.forall_mem_cons.mpr ⟨ok180, List.forall_mem_cons.mpr ⟨ok181, List.forall_mem_cons.mpr ⟨ok182, List.forall_mem_cons.mpr ⟨ok183, List.forall_mem_cons.mpr ⟨ok184, List.forall_mem_cons.mpr ⟨ok185, List.forall_mem_cons.mpr ⟨ok186, List.forall_mem_cons.mpr ⟨ok187, List.forall_mem_cons.mpr ⟨ok188, List.forall_mem_cons.mpr ⟨ok189, List.forall_mem_cons.mpr ⟨ok190, List.forall_mem_cons.mpr ⟨ok191, fun _ h => absurd h List.not_mem_nil⟩⟩⟩⟩⟩⟩⟩⟩⟩⟩⟩⟩⟩⟩⟩⟩
theorem mt_12 : ∀ mj ∈ [m192, m193, m194, m195, m196, m197, m198, m199, m200, m201, m202, m203, m204, m205, m206, m207], (mOk mj && (mC mj).all (eOk (mY mj) (mB mj))) = true := List.forall_mem_cons.mpr ⟨ok192, List.forall_mem_cons.mpr ⟨ok193, List.forall_mem_cons.mpr ⟨ok194, List.forall_mem_cons.mpr ⟨ok195, List.forall_mem_cons.mpr ⟨ok196, List.forall_mem_cons.mpr ⟨ok197, List.forall_mem_cons.mpr ⟨ok198, List.forall_mem_cons.mpr ⟨ok199, List.forall_mem_cons.mpr ⟨ok200, List.forall_mem_cons.mpr ⟨ok201, List.forall_mem_cons.mpr ⟨ok202, List.forall_mem_cons.mpr ⟨ok203, List.forall_mem_cons.mpr ⟨ok204, List.forall_mem_cons.mpr ⟨ok205, List.forall_mem_cons.mpr ⟨ok206, List.forall_mem_cons.mpr ⟨ok207, fun _ h => absurd h List.not_mem_nil⟩⟩⟩⟩⟩⟩⟩⟩⟩⟩⟩⟩⟩⟩⟩⟩
theorem mt_13 : ∀ mj ∈ [m208, m209, m210, m211, m212, m213, m214, m215, m216, m217, m218, m219, m220, m221, m222, m223], (mOk mj && (mC mj).all (eOk (mY mj) (mB mj))) = true := List.forall_mem_cons.mpr ⟨ok208, List.forall_mem_cons.mpr ⟨ok209, List.forall_mem_cons.mpr ⟨ok210, List.forall_mem_cons.mpr ⟨ok211, List.forall_mem_cons.mpr ⟨ok212, List.forall_mem_cons.mpr ⟨ok213, List.forall_mem_cons.mpr ⟨ok214, List.forall_mem_cons.mpr ⟨ok215, List.forall_mem_cons.mpr ⟨ok216, List.forall_mem_cons.mpr ⟨ok217, List.forall_mem_cons.mpr ⟨ok218, List.forall_mem_cons.mpr ⟨ok219, List.forall_mem_cons.mpr ⟨ok220, List.forall_mem_cons.mpr ⟨ok221, List.forall_mem_cons.mpr ⟨ok222, List.forall_mem_cons.mpr ⟨ok223, fun _ h => absurd h List.not_mem_nil⟩⟩⟩⟩⟩⟩⟩⟩⟩⟩⟩⟩⟩⟩⟩⟩
theorem mt_14 : ∀ mj ∈ [m224, m225, m226, m227, m228, m229, m230, m231, m232, m233, m234, m235, m236], (mOk mj && (mC mj).all (eOk (mY mj) (mB mj))) = true := List.forall_mem_cons.mpr ⟨ok224, List.forall_mem_cons.mpr ⟨ok225, List.forall_mem_cons.mpr ⟨ok226, List.forall_mem_cons.mpr ⟨ok227, List.forall_mem_cons.mpr ⟨ok228, List.forall_mem_cons.mpr ⟨ok229, List.forall_mem_cons.mpr ⟨ok230, List.forall_mem_cons.mpr ⟨ok231, List.forall_mem_cons.mpr ⟨ok232, List.forall_mem_cons.mpr ⟨ok233, List.forall_mem_cons.mpr ⟨ok234, List.forall_mem_cons.mpr ⟨ok235, List.forall_mem_cons.mpr ⟨ok236, fun _ h => absurd h List.not_mem_nil⟩⟩⟩⟩⟩⟩⟩⟩⟩⟩⟩⟩⟩
set_option maxRecDepth 100000 in
theorem mt_ok : ∀ mj ∈ mtab, (mOk mj && (mC mj).all (eOk (mY mj) (mB mj))) = true := by
  show ∀ mj ∈ [m0, m1, m2, m3, m4, m5, m6, m7, m8, m9, m10, m11, m12, m13, m14, m15] ++ ([m16, m17, m18, m19, m20, m21, m22, m23, m24, m25, m26, m27, m28, m29, m30, m31] ++ ([m32, m33, m34, m35, m36, m37, m38, m39, m40, m41, m42, m43, m44, m45, m46, m47] ++ ([m48, m49, m50, m51, m52, m53, m54, m55, m56, m57, m58, m59, m60, m61, m62, m63] ++ ([m64, m65, m66, m67, m68, m69, m70, m71, m72, m73, m74, m75, m76, m77, m78, m79] ++ ([m80, m81, m82, m83, m84, m85, m86, m87, m88, m89, m90, m91, m92, m93, m94, m95] ++ ([m96, m97, m98, m99, m100, m101, m102, m103, m104, m105, m106, m107, m108, m109, m110, m111] ++ ([m112, m113, m114, m115, m116, m117, m118, m119, m120, m121, m122, m123, m124, m125, m126, m127] ++ ([m128, m129, m130, m131, m132, m133, m134, m135, m136, m137, m138, m139, m140, m141, m142, m143] ++ ([m144, m145, m146, m147, m148, m149, m150, m151, m152, m153, m154, m155, m156, m157, m158, m159] ++ ([m160, m161, m162, m163, m164, m165, m166, m167, m168, m169, m170, m171, m172, m173, m174, m175] ++ ([m176, m177, m178, m179, m180, m181, m182, m183, m184, m185, m186, m187, m188, m189, m190, m191] ++ ([m192, m193, m194, m195, m196, m197, m198, m199, m200, m201, m202, m203, m204, m205, m206, m207] ++ ([m208, m209, m210, m211, m212, m213, m214, m215, m216, m217, m218, m219, m220, m221, m222, m223] ++ ([m224, m225, m226, m227, m228, m229, m230, m231, m232, m233, m234, m235, m236])))))))))))))), (mOk mj && (mC mj).all (eOk (mY mj) (mB mj))) = true
  exact List.forall_mem_append.mpr ⟨mt_0, List.forall_mem_append.mpr ⟨mt_1, List.forall_mem_append.mpr ⟨mt_2, List.forall_mem_append.mpr ⟨mt_3, List.forall_mem_append.mpr ⟨mt_4, List.forall_mem_append.mpr ⟨mt_5, List.forall_mem_append.mpr ⟨mt_6, List.forall_mem_append.mpr ⟨mt_7, List.forall_mem_append.mpr ⟨mt_8, List.forall_mem_append.mpr ⟨mt_9, List.forall_mem_append.mpr ⟨mt_10, List.forall_mem_append.mpr ⟨mt_11, List.forall_mem_append.mpr ⟨mt_12, List.forall_mem_append.mpr ⟨mt_13, mt_14⟩⟩⟩⟩⟩⟩⟩⟩⟩⟩⟩⟩⟩⟩
def w00 : XW := ([], fun _ _ => none, fun _ _ => 0, fun _ _ => 0)
/-- the claim comes down to the small machine's run of the law -/
theorem whole_of {p : Program} {e : Env} {s : State} {m : MethodId} {below : List Frame} {meth : Method} {c : Code} (l : Launch) {b L : Nat} {xs : Nat → Int32} (C0 : lw_At p s m meth c b L xs) {n : Nat} {w' : XW} (hex : exec (L + 1, xs) n 1000 mLaw 0 (entX 4 [.ref 1000050]) [] w00 = some (some (.int 1), w')) (hc : w'.1.length ≤ 600000) (hw : sw w'.1 ≤ 7302250) : W p l e room_1 s m #[Value.ref b] below meth c s.heap [] 0 0 (lw_Z below #[Value.ref b] s) (entryFrame m ([Value.ref b] : List Value).toArray 4) := by
  obtain ⟨hx, hb, hr, hml, hown, hts, hX, hbl, hlocks, hgv⟩ := id C0
  obtain ⟨cst, hcst, hG⟩ := gc_start C0
  obtain ⟨D, hK⟩ := va_K_start hts
  have F : Fx (L + 1, xs) cst s.heap.size mLaw p s m #[Value.ref b] meth c := ⟨hx, hb, hr, hml, hown, fun w hw => hts w (List.mem_filter.mp hw).1, hlocks, Nat.le_refl _, hG, okLaw, fun h => absurd h (by decide +kernel), gs_law⟩
  have hs : Sr [] cst [.ref 1000050] [.ref b] := ⟨Or.inr ⟨Nat.le.intro (k := 50) rfl, hcst.symm, Or.inr ⟨b, rfl⟩⟩, trivial⟩
  obtain ⟨h1, h2⟩ := ent_Lr (n := 4) hs (by decide)
  have hW : Wr D s s.heap (xA s.heap.size) w00 [] [] := ⟨hK, fun k q h => by simp at h, ⟨fun i j p q h => by simp at h, fun k q h => by simp at h⟩, rfl, Nat.zero_le _, fun k kd h => by simp [w00] at h⟩
  rw [lg_entry_eq]
  refine snd (fun mj hm => ⟨mt_ok mj hm, gs_all mj hm⟩) n 1000 mLaw 0 _ [] w00 _ w' hex cst s.heap.size D p l e room_1 s m #[Value.ref b] below meth c _ s.heap [] _ [] [] [] 0 0 w'.1.length (sw w'.1) F ⟨hW, va_S.rf, h1, trivial, h2⟩ (Nat.le_of_ble_eq_true rfl) (Nat.le_of_ble_eq_true rfl) (Nat.zero_add _).symm (Nat.zero_add _).symm (by rw [Nat.zero_add]; exact hc) (by rw [Nat.zero_add]; exact hw) ?_
  intro pc1 en ls1 st1 lsA1 stA1 H1 locs1 ws1 tys1 hcd hg hrt hE r1
  obtain ⟨h0, hd, hl⟩ := F.at hcd
  obtain ⟨pc0, i, n0, a, b0, c0, pp, t⟩ := en
  dsimp only at h0 hd
  subst h0
  refine va_forget r1.2.1.2.2 ?_
  refine W.widen (k := 600000) (n := 7302250) (by rw [Nat.zero_add]; exact hc) (by rw [Nat.zero_add]; exact hw) ?_
  have hmr : mR mLaw = some .boolean := rfl
  rw [hmr] at hrt
  unfold rtn at hrt
  dsimp only at hrt
  split at hrt
  · rename_i hq
    cases hq
  · split at hrt
    · cases hrt
      simp only [lnkOk, beq_iff_eq] at hl
      subst hl
      obtain ⟨sA, rfl, r2⟩ := r1.int
      cases r2.2.2.2.1.nil
      exact lw_ret hx hb hr hlocks hd
    · cases hrt
  · cases hrt
  · cases hrt
  · cases hrt
  · cases hrt
  · cases hrt
end
section
/-! Runs of the small machine as statements that a program can rewrite. -/
theorem exec_up {X : Nat × (Nat → Int32)} : ∀ {n d : Nat} {mi : MI} {pc : Nat} {ls : XL} {st : List Value} {w : XW} {x : Option Value × XW}, exec X n d mi pc ls st w = some x → ∀ {n' d' : Nat}, n ≤ n' → d ≤ d' → exec X n' d' mi pc ls st w = some x := by
  intro n
  induction n with
  | zero => intro d mi pc ls st w x h; cases h
  | succ n ih =>
    intro d mi pc ls st w x h n' d' hn hd
    obtain ⟨n', rfl⟩ : ∃ k, n' = k + 1 := ⟨n' - 1, by omega⟩
    have hn : n ≤ n' := by omega
    unfold exec at h ⊢
    split at h
    · cases h
    · split at h
      · exact h
      · split at h
        · rename_i a vs rest d1 hcl
          obtain ⟨d', rfl⟩ : ∃ k, d' = k + 1 := ⟨d' - 1, by omega⟩
          split at h
          · rename_i mj hmj
            rw [hcl]
            dsimp only
            rw [hmj]
            dsimp only
            split at h
            · rename_i hle
              rw [if_pos hle]
              split at h
              · rename_i r w1 h1
                rw [ih h1 hn (by omega)]
                exact ih h hn hd
              · cases h
            · cases h
          · cases h
        · cases h
      · split at h
        · rename_i h1
          exact ih h hn hd
        · cases h
def wp (X : Nat × (Nat → Int32)) (d : Nat) (mi : MI) (pc : Nat) (ls : XL) (st : List Value) (w : XW) (Q : Option Value → XW → Prop) : Prop := ∃ n r w', exec X n d mi pc ls st w = some (r, w') ∧ Q r w'
section WP
variable {X : Nat × (Nat → Int32)} {d : Nat} {mi : MI} {pc pc' : Nat} {ls ls' : XL} {st st' : List Value} {w w' : XW} {Q : Option Value → XW → Prop}
theorem wp_stp {e : XE} (he : cdx (mC mi) pc = some e) (hg : grp e < 5) (hs : stp X e pc ls st w = some (pc', ls', st', w')) : wp X d mi pc ls st w Q ↔ wp X d mi pc' ls' st' w' Q := by
  have key : ∀ n, exec X (n + 1) d mi pc ls st w = exec X n d mi pc' ls' st' w' := by
    intro n
    rw [exec, he]
    dsimp only
    split
    · omega
    · omega
    · rw [hs]
  refine ⟨fun ⟨n, r, w1, h, hq⟩ => ?_, fun ⟨n, r, w1, h, hq⟩ => ⟨n + 1, r, w1, (key n).trans h, hq⟩⟩
  cases n with
  | zero => cases h
  | succ n => exact ⟨n, r, w1, (key n).symm.trans h, hq⟩
theorem wp_ret {e : XE} {r : Option Value} (he : cdx (mC mi) pc = some e) (hg : grp e = 5) (hs : rtn (mR mi) e st = some r) : wp X d mi pc ls st w Q ↔ Q r w := by
  have key : ∀ n, exec X (n + 1) d mi pc ls st w = some (r, w) := by
    intro n
    rw [exec, he]
    dsimp only
    rw [hg, hs]
    rfl
  refine ⟨fun ⟨n, r1, w1, h, hq⟩ => ?_, fun hq => ⟨1, r, w, key 0, hq⟩⟩
  cases n with
  | zero => cases h
  | succ n =>
    rw [key n] at h
    cases h
    exact hq
theorem wp_call {e : XE} {a : Nat} {vs rest : List Value} {mj : MI} (he : cdx (mC mi) pc = some e) (hg : grp e = 6) (hc : cll e st w.1 = some (a, vs, rest)) (hm : mtab[a]? = some mj) (hl : (entL vs).length ≤ mL mj) : wp X (d + 1) mi pc ls st w Q ↔ wp X d mj 0 (entX (mL mj) vs) [] w (fun r w1 => wp X (d + 1) mi (pc + 3) ls (r.toList ++ rest) w1 Q) := by
  have key : ∀ n, exec X (n + 1) (d + 1) mi pc ls st w = (match exec X n d mj 0 (entX (mL mj) vs) [] w with
      | some (r, w1) => exec X n (d + 1) mi (pc + 3) ls (r.toList ++ rest) w1
      | none => none) := by
    intro n
    rw [exec, he]
    dsimp only
    rw [hg, hc]
    dsimp only
    rw [hm]
    dsimp only
    rw [if_pos hl]
    rfl
  refine ⟨fun ⟨n, r, w1, h, hq⟩ => ?_, fun ⟨n1, r, w1, h1, n2, r2, w2, h2, hq⟩ => ?_⟩
  · cases n with
    | zero => cases h
    | succ n =>
      rw [key n] at h
      split at h
      · rename_i r2 w2 h2
        exact ⟨n, r2, w2, h2, n, r, w1, h, hq⟩
      · cases h
  · refine ⟨n1 + n2 + 1, r2, w2, ?_, hq⟩
    rw [key, exec_up h1 (by omega) (Nat.le_refl _)]
    exact exec_up h2 (by omega) (Nat.le_refl _)
/-- what a run answers is one thing: a statement for one is a rewriting rule for all -/
theorem wp_iff {r : Option Value} (h : wp X d mi pc ls st w (fun r1 w1 => r1 = r ∧ w1 = w')) : wp X d mi pc ls st w Q ↔ Q r w' := by
  obtain ⟨n, r1, w1, h1, rfl, rfl⟩ := h
  refine ⟨fun ⟨m, r2, w2, h2, hq⟩ => ?_, fun hq => ⟨n, r1, w1, h1, hq⟩⟩
  have a := exec_up h1 (Nat.le_max_left n m) (Nat.le_refl d)
  have b := exec_up h2 (Nat.le_max_right n m) (Nat.le_refl d)
  rw [a] at b
  cases b
  exact hq
theorem wp_mono {Q' : Option Value → XW → Prop} (h : wp X d mi pc ls st w Q) (k : ∀ r w1, Q r w1 → Q' r w1) : wp X d mi pc ls st w Q' := by
  obtain ⟨n, r, w1, h1, hq⟩ := h
  exact ⟨n, r, w1, h1, k r w1 hq⟩
theorem wp_up {d' : Nat} (h : wp X d mi pc ls st w Q) (hd : d ≤ d') : wp X d' mi pc ls st w Q := by
  obtain ⟨n, r, w1, h1, hq⟩ := h
  exact ⟨n, r, w1, exec_up h1 (Nat.le_refl n) hd, hq⟩
theorem ite_iff {c A B A' B' : Prop} [Decidable c] (h1 : A ↔ A') (h2 : B ↔ B') : (if c then A else B) ↔ (if c then A' else B') := by
  split
  · exact h1
  · exact h2
theorem wp_if {c : Prop} [Decidable c] {a b : Nat} : wp X d mi (if c then a else b) ls st w Q ↔ (if c then wp X d mi a ls st w Q else wp X d mi b ls st w Q) := by
  split <;> exact Iff.rfl
end WP
/-! Locals that are not read again may be forgotten. -/
def sucs (e : XE) : List Nat := match e with
  | (pc, i, n, a, _, c, _, t) => match i with
    | .goto _ => [a]
    | .ifCond _ _ => [a, pc + 3]
    | .if_icmp _ _ => [a, pc + 3]
    | .ifnull _ => [a, pc + 3]
    | .ifnonnull _ => [a, pc + 3]
    | .tableswitch _ _ _ _ => a :: t.map (fun q => q.2)
    | .lookupswitch _ _ => a :: t.map (fun q => q.2)
    | .ireturn => []
    | .lreturn => []
    | .areturn => []
    | .return_ => []
    | .invokevirtual _ => [pc + 3]
    | .invokespecial _ => [pc + 3, pc + n]
    | .invokestatic _ => [pc + 3, pc + n]
    | _ => [pc + n]
/-- the slot that is read, the slot that is written -/
def rdL (e : XE) : Option Nat := match e with
  | (_, i, _, a, _) => match i with
    | .iload_n _ => some a
    | .iload _ => some a
    | .lload_n _ => some a
    | .aload_n _ => some a
    | .aload _ => some a
    | .iinc _ _ => some a
    | _ => none
def wrL (e : XE) : Option Nat := match e with
  | (_, i, _, a, _) => match i with
    | .istore_n _ => some a
    | .istore _ => some a
    | .lstore_n _ => some a
    | .astore_n _ => some a
    | .astore _ => some a
    | .iinc _ _ => some a
    | _ => none
def lvAt (lv : List (Nat × List Nat)) (pc : Nat) : List Nat := match lv with
  | [] => []
  | q :: lv => if q.1 = pc then q.2 else lvAt lv pc
def lvOk (cd : List XE) (lv : List (Nat × List Nat)) : Bool := cd.all (fun e => (sucs e).all (fun q => (lvAt lv q).all (fun j => decide (wrL e = some j) || (lvAt lv e.1).contains j)) && (match rdL e with
  | some a => (lvAt lv e.1).contains a
  | none => true))
def agL (l : List Nat) (a b : XL) : Prop := a.length = b.length ∧ ∀ j ∈ l, a[j]? = b[j]?
theorem swT_in {t : List (Int × Nat)} {d : Nat} {x : Int} : swT t d x ∈ d :: t.map (fun q => q.2) := by
  induction t with
  | nil => exact List.mem_cons_self
  | cons q t ih =>
    unfold swT
    split
    · exact List.mem_cons_of_mem _ (List.mem_map.mpr ⟨q, List.mem_cons_self, rfl⟩)
    · rcases List.mem_cons.mp ih with h | h
      · rw [h]; exact List.mem_cons_self
      · exact List.mem_cons_of_mem _ (List.mem_cons_of_mem _ h)
theorem ite_in {c : Prop} [Decidable c] {a b : Nat} : (if c then a else b) ∈ [a, b] := by
  split <;> simp
theorem ite_in' {c : Prop} [Decidable c] {a b : Nat} : (if c then b else a) ∈ [a, b] := by
  split <;> simp
section LIVE
variable {X : Nat × (Nat → Int32)} {e : XE} {pc pc' : Nat} {ls ls' ls2 : XL} {st st' : List Value} {w w' : XW}
set_option maxHeartbeats 4000000 in
theorem stpJ_l (h : stpJ e pc ls st w = some (pc', ls', st', w')) (hp : e.1 = pc) : ls' = ls ∧ pc' ∈ sucs e ∧ stpJ e pc ls2 st w = some (pc', ls2, st', w') := by
  obtain ⟨pc0, i, n, a, b, c0, pp, t⟩ := e
  dsimp only at hp
  subst hp
  unfold stpJ at h
  dsimp only at h
  split at h
  all_goals try (cases h; done)
  all_goals first
    | (obtain ⟨rfl, rfl, rfl, rfl⟩ := xs_inj h; exact ⟨rfl, List.mem_cons_self, rfl⟩)
    | (obtain ⟨rfl, rfl, rfl, rfl⟩ := xs_inj h; exact ⟨rfl, ite_in, rfl⟩)
    | (obtain ⟨rfl, rfl, rfl, rfl⟩ := xs_inj h; exact ⟨rfl, ite_in', rfl⟩)
    | (obtain ⟨rfl, rfl, rfl, rfl⟩ := xs_inj h; exact ⟨rfl, List.mem_cons_of_mem _ List.mem_cons_self, rfl⟩)
    | (obtain ⟨rfl, rfl, rfl, rfl⟩ := xs_inj h; exact ⟨rfl, swT_in, rfl⟩)
    | (split at h
       · rename_i hk
         obtain ⟨rfl, rfl, rfl, rfl⟩ := xs_inj h
         exact ⟨rfl, by first | exact List.mem_cons_self | exact List.mem_cons_of_mem _ List.mem_cons_self, by simp only [stpJ, hk, if_true]⟩
       · cases h)
theorem sucs_n {pc0 n a b c0 pp : Nat} {i : Instr} {t : List (Int × Nat)} (hg : grp (pc0, i, n, a, b, c0, pp, t) ≠ 0) (hg2 : grp (pc0, i, n, a, b, c0, pp, t) ≠ 5) (hg3 : grp (pc0, i, n, a, b, c0, pp, t) ≠ 6) : pc0 + n ∈ sucs (pc0, i, n, a, b, c0, pp, t) := by
  unfold sucs
  dsimp only
  split <;> first | exact List.mem_cons_self | exact List.mem_cons_of_mem _ List.mem_cons_self | exact absurd rfl hg | exact absurd rfl hg2 | exact absurd rfl hg3
set_option maxHeartbeats 4000000 in
theorem stpV_l (h : stpV e pc ls st w = some (pc', ls', st', w')) : ls' = ls ∧ pc' = pc + e.2.2.1 ∧ stpV e pc ls2 st w = some (pc', ls2, st', w') := by
  obtain ⟨pc0, i, n, a, b, c0, pp, t⟩ := e
  unfold stpV at h
  dsimp only at h
  (repeat' split at h) <;> first
    | (cases h; done)
    | (obtain ⟨rfl, rfl, rfl, rfl⟩ := xs_inj h; exact ⟨rfl, rfl, rfl⟩)
    | (obtain ⟨rfl, rfl, rfl, rfl⟩ := xs_inj h; refine ⟨rfl, rfl, ?_⟩; simp only [stpV, *, if_true, if_false])
set_option maxHeartbeats 4000000 in
theorem stpH_l (h : stpH X e pc ls st w = some (pc', ls', st', w')) : ls' = ls ∧ pc' = pc + e.2.2.1 ∧ stpH X e pc ls2 st w = some (pc', ls2, st', w') := by
  obtain ⟨pc0, i, n, a, b, c0, pp, t⟩ := e
  obtain ⟨K, R, I, L⟩ := w
  unfold stpH at h
  dsimp only at h
  (repeat' split at h) <;> first
    | (cases h; done)
    | (obtain ⟨rfl, rfl, rfl, rfl⟩ := xs_inj h; exact ⟨rfl, rfl, rfl⟩)
    | (obtain ⟨rfl, rfl, rfl, rfl⟩ := xs_inj h; refine ⟨rfl, rfl, ?_⟩; simp only [stpH, *, if_true, if_false, and_self])
set_option maxHeartbeats 4000000 in
theorem stpN_l (h : stpN e pc ls st w = some (pc', ls', st', w')) : ls' = ls ∧ pc' = pc + e.2.2.1 ∧ stpN e pc ls2 st w = some (pc', ls2, st', w') := by
  obtain ⟨pc0, i, n, a, b, c0, pp, t⟩ := e
  obtain ⟨K, R, I, L⟩ := w
  unfold stpN at h
  dsimp only at h
  (repeat' split at h) <;> first
    | (cases h; done)
    | (obtain ⟨rfl, rfl, rfl, rfl⟩ := xs_inj h; refine ⟨rfl, rfl, ?_⟩; simp only [stpN, *, if_true, if_false, and_self, not_false_eq_true]; done)
    | (rename_i hk0 hk1 hc z1; obtain ⟨g1, g2, g3, g4, g5, g6, g7, g8⟩ := hc; subst g3; obtain ⟨rfl, rfl, rfl, rfl⟩ := xs_inj h; refine ⟨rfl, rfl, ?_⟩; simp only [stpN, hk0, hk1, g1, g2, g4, g5, g6, g7, g8, and_self, not_false_eq_true, if_true])
    | (rename_i hk1 z1 hk0 hc; obtain ⟨g1, g2, g3, g4, g5, g6, g7, g8⟩ := hc; subst g3; obtain ⟨rfl, rfl, rfl, rfl⟩ := xs_inj h; refine ⟨rfl, rfl, ?_⟩; simp only [stpN, hk0, hk1, g1, g2, g4, g5, g6, g7, g8, and_self, not_false_eq_true, if_true])
theorem lget_eq {l1 l2 : XL} {a : Nat} (h : l1[a]? = l2[a]?) : lget l1 a = lget l2 a := by
  unfold lget
  rw [h]
theorem lclr_eq {l1 l2 : XL} {a j : Nat} (hl : l1.length = l2.length) (h : l1[j]? = l2[j]?) : (lclr l1 a)[j]? = (lclr l2 a)[j]? ∧ (lclr l1 a).length = (lclr l2 a).length := by
  refine ⟨?_, by rw [lclr_len, lclr_len, hl]⟩
  cases a with
  | zero => exact h
  | succ i =>
    by_cases hj : j = i
    · subst hj
      simp only [lclr]
      rw [h]
      split <;> first | exact h | (rw [List.getElem?_set, List.getElem?_set, hl, h])
    · have e : ∀ (z y : XL), z = y ∨ z = y.set i none → z[j]? = y[j]? := by
        intro z y hz
        rcases hz with rfl | rfl
        · rfl
        · exact List.getElem?_set_ne (fun q => hj q.symm)
      have g : ∀ y : XL, lclr y (i + 1) = y ∨ lclr y (i + 1) = y.set i none := by
        intro y
        simp only [lclr]
        split
        · exact Or.inr rfl
        · exact Or.inr rfl
        · exact Or.inl rfl
      rw [e _ _ (g l1), e _ _ (g l2), h]
theorem lset1_eq {l1 l2 : XL} {a j : Nat} {v : Value} (hl : l1.length = l2.length) (h : j = a ∨ l1[j]? = l2[j]?) : (lset1 l1 a v)[j]? = (lset1 l2 a v)[j]? := by
  unfold lset1
  rw [List.getElem?_set, List.getElem?_set, lclr_len, lclr_len, hl]
  by_cases hj : a = j
  · rw [if_pos hj, if_pos hj]
  · rw [if_neg hj, if_neg hj]
    rcases h with h | h
    · exact absurd h.symm hj
    · exact (lclr_eq hl h).1
theorem lset1_len {l : XL} {a : Nat} {v : Value} : (lset1 l a v).length = l.length := by
  unfold lset1
  rw [List.length_set, lclr_len]
theorem lset2_eq {l1 l2 : XL} {a j : Nat} {v : Value} (hl : l1.length = l2.length) (h : j = a ∨ l1[j]? = l2[j]?) : (lset2 l1 a v)[j]? = (lset2 l2 a v)[j]? := by
  have e := lset1_eq (v := v) hl h
  show ((lset1 l1 a v).set (a + 1) none)[j]? = ((lset1 l2 a v).set (a + 1) none)[j]?
  rw [List.getElem?_set, List.getElem?_set, lset1_len, lset1_len, hl, e]
theorem lset2_len {l : XL} {a : Nat} {v : Value} : (lset2 l a v).length = l.length := by
  unfold lset2
  rw [List.length_set, List.length_set, lclr_len]
set_option maxHeartbeats 4000000 in
theorem stpL_l {S T : List Nat} (h : stpL e pc ls st w = some (pc', ls', st', w')) (ha : agL S ls ls2) (hr : ∀ a, rdL e = some a → a ∈ S) (hT : ∀ j ∈ T, wrL e = some j ∨ j ∈ S) : pc' = pc + e.2.2.1 ∧ ∃ ls3, stpL e pc ls2 st w = some (pc', ls3, st', w') ∧ agL T ls' ls3 := by
  obtain ⟨pc0, i, n, a, b, c0, pp, t⟩ := e
  have hT0 : wrL (pc0, i, n, a, b, c0, pp, t) = none → agL T ls ls2 := fun hw => ⟨ha.1, fun j hj => by
    rcases hT j hj with h1 | h1
    · rw [hw] at h1; cases h1
    · exact ha.2 j h1⟩
  have hg : rdL (pc0, i, n, a, b, c0, pp, t) = some a → lget ls2 a = lget ls a := fun h1 => lget_eq (ha.2 a (hr a h1)).symm
  have h1 : ∀ v : Value, wrL (pc0, i, n, a, b, c0, pp, t) = some a → agL T (lset1 ls a v) (lset1 ls2 a v) := fun v hw => ⟨by rw [lset1_len, lset1_len, ha.1], fun j hj => lset1_eq ha.1 (by
    rcases hT j hj with h2 | h2
    · rw [hw] at h2; cases h2; exact Or.inl rfl
    · exact Or.inr (ha.2 j h2))⟩
  have h2 : ∀ v : Value, wrL (pc0, i, n, a, b, c0, pp, t) = some a → agL T (lset2 ls a v) (lset2 ls2 a v) := fun v hw => ⟨by rw [lset2_len, lset2_len, ha.1], fun j hj => lset2_eq ha.1 (by
    rcases hT j hj with h3 | h3
    · rw [hw] at h3; cases h3; exact Or.inl rfl
    · exact Or.inr (ha.2 j h3))⟩
  have hlen := ha.1
  unfold stpL at h
  dsimp only at h
  (repeat' split at h) <;> first
    | (cases h; done)
    | (rename_i hq
       obtain ⟨rfl, rfl, rfl, rfl⟩ := xs_inj h
       refine ⟨rfl, ls2, ?_, hT0 rfl⟩
       simp only [stpL, hg rfl, hq])
    | (rename_i hq
       obtain ⟨rfl, rfl, rfl, rfl⟩ := xs_inj h
       rw [hlen] at hq
       exact ⟨rfl, _, by simp only [stpL, hq, if_true], h1 _ rfl⟩)
    | (rename_i hq
       obtain ⟨rfl, rfl, rfl, rfl⟩ := xs_inj h
       rw [hlen] at hq
       exact ⟨rfl, _, by simp only [stpL, hq, if_true], h2 _ rfl⟩)
    | (rename_i hq z1 z2 hq2
       obtain ⟨rfl, rfl, rfl, rfl⟩ := xs_inj h
       rw [hlen] at hq
       exact ⟨rfl, _, by simp only [stpL, hq, if_true, hg rfl, hq2], h1 _ rfl⟩)
theorem agL_sub {S T : List Nat} (h : agL S ls ls2) (hs : ∀ j ∈ T, j ∈ S) : agL T ls ls2 := ⟨h.1, fun j hj => h.2 j (hs j hj)⟩
theorem wrL_none (h : grp e ≠ 2) : wrL e = none := by
  obtain ⟨pc0, i, n, a, b, c0, pp, t⟩ := e
  unfold wrL
  dsimp only
  split <;> first | rfl | exact absurd rfl h
theorem stp_live {lv : List (Nat × List Nat)} (hp : e.1 = pc) (h5 : grp e ≠ 5) (h6 : grp e ≠ 6) (h : stp X e pc ls st w = some (pc', ls', st', w')) (ha : agL (lvAt lv pc) ls ls2) (hr : ∀ a, rdL e = some a → a ∈ lvAt lv pc) (hT : ∀ q ∈ sucs e, ∀ j ∈ lvAt lv q, wrL e = some j ∨ j ∈ lvAt lv pc) : ∃ ls3, stp X e pc ls2 st w = some (pc', ls3, st', w') ∧ agL (lvAt lv pc') ls' ls3 := by
  have go : grp e ≠ 2 → pc' ∈ sucs e → agL (lvAt lv pc') ls ls2 := fun h2 hin => agL_sub ha (fun j hj => by
    rcases hT pc' hin j hj with h1 | h1
    · rw [wrL_none h2] at h1; cases h1
    · exact h1)
  have hsn : grp e ≠ 0 → pc' = pc + e.2.2.1 → pc' ∈ sucs e := fun h0 hq => by
    obtain ⟨pc0, i, n, a, b, c0, pp, t⟩ := e
    rw [hq, ← hp]
    exact sucs_n h0 h5 h6
  unfold stp at h ⊢
  split at h
  · rename_i hg
    obtain ⟨rfl, q2, q3⟩ := stpJ_l (ls2 := ls2) h hp
    exact ⟨ls2, q3, go (by rw [hg]; decide) q2⟩
  · rename_i hg
    obtain ⟨rfl, q2, q3⟩ := stpV_l (ls2 := ls2) h
    exact ⟨ls2, q3, go (by rw [hg]; decide) (hsn (by rw [hg]; decide) q2)⟩
  · rename_i hg
    have q2 : pc' = pc + e.2.2.1 := (stpL_l (T := []) h ha hr (fun j hj => by cases hj)).1
    have q3 := hsn (by rw [hg]; decide) q2
    exact (stpL_l h ha hr (hT pc' q3)).2
  · rename_i hg
    obtain ⟨rfl, q2, q3⟩ := stpH_l (ls2 := ls2) h
    exact ⟨ls2, q3, go (by rw [hg]; decide) (hsn (by rw [hg]; decide) q2)⟩
  · rename_i hg
    obtain ⟨rfl, q2, q3⟩ := stpN_l (ls2 := ls2) h
    exact ⟨ls2, q3, go (by rw [hg]; decide) (hsn (by rw [hg]; decide) q2)⟩
  · cases h
theorem exec_live {mi : MI} {lv : List (Nat × List Nat)} (hok : lvOk (mC mi) lv = true) : ∀ {n d pc : Nat} {ls ls2 : XL} {st : List Value} {w : XW} {x : Option Value × XW}, agL (lvAt lv pc) ls ls2 → exec X n d mi pc ls st w = some x → exec X n d mi pc ls2 st w = some x := by
  intro n
  induction n with
  | zero => intro d pc ls ls2 st w x _ h; cases h
  | succ n ih =>
    intro d pc ls ls2 st w x ha h
    unfold exec at h ⊢
    split at h
    · cases h
    · rename_i e he
      obtain ⟨hp, hin⟩ := cdx_mem he
      have hk := List.all_eq_true.mp hok e hin
      rw [Bool.and_eq_true] at hk
      have hT : ∀ q ∈ sucs e, ∀ j ∈ lvAt lv q, wrL e = some j ∨ j ∈ lvAt lv pc := by
        intro q hq j hj
        have h1 := List.all_eq_true.mp (List.all_eq_true.mp hk.1 q hq) j hj
        rw [hp] at h1
        simpa using h1
      have hr : ∀ a, rdL e = some a → a ∈ lvAt lv pc := by
        intro a hq
        have h1 := hk.2
        rw [hq, hp] at h1
        simpa using h1
      split at h
      · exact h
      · rename_i hg
        have h3 : pc + 3 ∈ sucs e := by
          obtain ⟨pc0, i, n0, a, b, c0, pp, t⟩ := e
          dsimp only at hp
          subst hp
          unfold grp at hg
          dsimp only at hg
          split at hg <;> first | (cases hg; done) | exact List.mem_cons_self
        have hw : wrL e = none := wrL_none (by rw [hg]; decide)
        split at h
        · split at h
          · rename_i mj hmj
            split at h
            · rename_i hle
              rw [if_pos hle]
              split at h
              · rename_i r w1 h1
                exact ih (agL_sub ha (fun j hj => by
                  rcases hT _ h3 j hj with q | q
                  · rw [hw] at q; cases q
                  · exact q)) h
              · cases h
            · cases h
          · cases h
        · cases h
      · rename_i h5 h6
        split at h
        · rename_i pc' ls' st' w' hst
          obtain ⟨ls3, q1, q2⟩ := stp_live hp h5 h6 hst ha hr hT
          rw [q1]
          exact ih q2 h
        · cases h
def mskF (l : List Nat) : Nat → XL → XL
  | _, [] => []
  | i, v :: t => (if l.contains i then v else none) :: mskF l (i + 1) t
theorem mskF_len {l : List Nat} : ∀ {i : Nat} {ls : XL}, (mskF l i ls).length = ls.length
  | _, [] => rfl
  | i, v :: t => by simp only [mskF, List.length_cons, mskF_len]
theorem mskF_at {l : List Nat} : ∀ {i j : Nat} {ls : XL}, i + j ∈ l → (mskF l i ls)[j]? = ls[j]?
  | _, _, [], _ => rfl
  | i, 0, v :: t, h => by
    have h1 : l.contains i = true := by simpa using h
    simp only [mskF, h1, if_true]
    rfl
  | i, j + 1, v :: t, h => by
    simp only [mskF, List.getElem?_cons_succ]
    exact mskF_at (by rw [show i + 1 + j = i + (j + 1) by omega]; exact h)
theorem wp_msk {mi : MI} {d : Nat} {Q : Option Value → XW → Prop} {lv : List (Nat × List Nat)} (hok : lvOk (mC mi) lv = true) (hl : mskF (lvAt lv pc) 0 ls = ls') : wp X d mi pc ls st w Q ↔ wp X d mi pc ls' st w Q := by
  subst hl
  have h1 : agL (lvAt lv pc) ls (mskF (lvAt lv pc) 0 ls) := ⟨mskF_len.symm, fun j hj => (mskF_at (by rw [Nat.zero_add]; exact hj)).symm⟩
  have h2 : agL (lvAt lv pc) (mskF (lvAt lv pc) 0 ls) ls := ⟨mskF_len, fun j hj => mskF_at (by rw [Nat.zero_add]; exact hj)⟩
  exact ⟨fun ⟨n, r, w1, h, q⟩ => ⟨n, r, w1, exec_live hok h1 h, q⟩, fun ⟨n, r, w1, h, q⟩ => ⟨n, r, w1, exec_live hok h2 h, q⟩⟩
end LIVE
end
section
/-! The layout behind the two constructors (printed by a program of ours), and the rules of the small machine. -/
def K0 : XK := [.inr 9, .inr 5, .inl (.object "LeavesObject$Cup", 5), .inr 4, .inl (.int, 5), .inl (.int, 5), .inr 4, .inl (.int, 10), .inl (.int, 10), .inr 4, .inl (.int, 8), .inl (.int, 8), .inr 1, .inl (.int, 4), .inr 1, .inl (.int, 4), .inr 1, .inl (.int, 4), .inr 1, .inl (.int, 4), .inr 1, .inl (.int, 4), .inr 5, .inl (.object "LeavesObject$Cup", 5), .inr 4, .inl (.int, 5), .inl (.int, 5), .inr 4, .inl (.int, 10), .inl (.int, 10), .inr 4, .inl (.int, 8), .inl (.int, 8), .inr 1, .inl (.int, 4), .inr 1, .inl (.int, 4), .inr 1, .inl (.int, 4), .inr 1, .inl (.int, 4), .inr 1, .inl (.int, 4), .inr 5, .inl (.object "LeavesObject$Cup", 5), .inr 4, .inl (.int, 5), .inl (.int, 5), .inr 4, .inl (.int, 10), .inl (.int, 10), .inr 4, .inl (.int, 8), .inl (.int, 8), .inr 1, .inl (.int, 4), .inr 1, .inl (.int, 4), .inr 1, .inl (.int, 4), .inr 1, .inl (.int, 4), .inr 1, .inl (.int, 4), .inr 7, .inl (.int, 100), .inl (.object "LeavesObject$Inn", 6), .inr 2, .inl (.int, 10), .inl (.int, 10), .inl (.int, 100), .inl (.int, 6), .inr 1, .inl (.int, 4), .inr 8, .inl (.int, 341), .inl (.int, 341), .inr 1, .inl (.int, 4), .inr 0, .inl (.int, 20), .inl (.object "LeavesObject$Tape", 6), .inr 2, .inl (.int, 10), .inl (.int, 10), .inl (.int, 100), .inl (.int, 6), .inr 2, .inl (.int, 10), .inl (.int, 10), .inl (.int, 100), .inl (.int, 6), .inr 2, .inl (.int, 10), .inl (.int, 10), .inl (.int, 100), .inl (.int, 6), .inr 2, .inl (.int, 10), .inl (.int, 10), .inl (.int, 100), .inl (.int, 6), .inr 2, .inl (.int, 10), .inl (.int, 10), .inl (.int, 100), .inl (.int, 6), .inr 2, .inl (.int, 10), .inl (.int, 10), .inl (.int, 100), .inl (.int, 6), .inr 6, .inl (.long, 60), .inr 6, .inl (.long, 60), .inr 6, .inl (.long, 60), .inr 6, .inl (.long, 60), .inr 6, .inl (.long, 60), .inr 6, .inl (.long, 60), .inr 10, .inl (.int, 5), .inl (.int, 5), .inl (.int, 5), .inl (.int, 5), .inl (.int, 5), .inl (.int, 20), .inl (.int, 100), .inl (.int, 6), .inl (.int, 60), .inl (.int, 60), .inl (.int, 60), .inl (.int, 60), .inl (.int, 600), .inl (.int, 101), .inl (.int, 16), .inl (.boolean, 100), .inl (.int, 5), .inl (.int, 5), .inl (.int, 5), .inl (.int, 5), .inl (.int, 5), .inl (.int, 10), .inl (.int, 10), .inl (.int, 8), .inl (.int, 8), .inl (.int, 5), .inl (.int, 5), .inl (.int, 5), .inl (.int, 5), .inl (.int, 5), .inl (.int, 20), .inl (.int, 5), .inl (.int, 5), .inl (.int, 10), .inl (.int, 10), .inl (.int, 8), .inl (.int, 8), .inl (.int, 20), .inl (.int, 6), .inl (.int, 6), .inl (.long, 360), .inl (.long, 60)]
def refT : List (List (Nat × Nat)) := [[(0, 1), (1, 22), (2, 43), (4, 64), (5, 66), (7, 67), (8, 72), (9, 74), (10, 79), (11, 81)], [(0, 2), (4, 3), (5, 6), (6, 9)], [(0, 12), (1, 14), (2, 16), (3, 18), (4, 20)], [(0, 4), (1, 5)], [], [], [(0, 7), (1, 8)], [], [], [(0, 10), (1, 11)], [], [], [(6, 13)], [], [(6, 15)], [], [(6, 17)], [], [(6, 19)], [], [(6, 21)], [], [(0, 23), (4, 24), (5, 27), (6, 30)], [(0, 33), (1, 35), (2, 37), (3, 39), (4, 41)], [(0, 25), (1, 26)], [], [], [(0, 28), (1, 29)], [], [], [(0, 31), (1, 32)], [], [], [(6, 34)], [], [(6, 36)], [], [(6, 38)], [], [(6, 40)], [], [(6, 42)], [], [(0, 44), (4, 45), (5, 48), (6, 51)], [(0, 54), (1, 56), (2, 58), (3, 60), (4, 62)], [(0, 46), (1, 47)], [], [], [(0, 49), (1, 50)], [], [], [(0, 52), (1, 53)], [], [], [(6, 55)], [], [(6, 57)], [], [(6, 59)], [], [(6, 61)], [], [(6, 63)], [], [(0, 65)], [], [(0, 82), (1, 87), (2, 92), (3, 97), (4, 102), (5, 107)], [(3, 68), (4, 69), (6, 70), (7, 71)], [], [], [], [], [(6, 73)], [], [(0, 75), (1, 76), (2, 77)], [], [], [(6, 78)], [], [(0, 80)], [], [(0, 112), (1, 114), (2, 116), (3, 118), (4, 120), (5, 122)], [(3, 83), (4, 84), (6, 85), (7, 86)], [], [], [], [], [(3, 88), (4, 89), (6, 90), (7, 91)], [], [], [], [], [(3, 93), (4, 94), (6, 95), (7, 96)], [], [], [], [], [(3, 98), (4, 99), (6, 100), (7, 101)], [], [], [], [], [(3, 103), (4, 104), (6, 105), (7, 106)], [], [], [], [], [(3, 108), (4, 109), (6, 110), (7, 111)], [], [], [], [], [(2, 113)], [], [(2, 115)], [], [(2, 117)], [], [(2, 119)], [], [(2, 121)], [], [(2, 123)], [], [(2, 125), (3, 126), (4, 127), (5, 128), (6, 129), (7, 130), (13, 131), (14, 132), (15, 133), (16, 134), (17, 135), (18, 136), (19, 137), (20, 138), (24, 139), (25, 140), (28, 141), (29, 142), (30, 143), (32, 144), (33, 145), (36, 146), (37, 147), (38, 148), (39, 149), (47, 150), (48, 151), (49, 152), (50, 153), (51, 154), (52, 155), (53, 156), (54, 157), (55, 158), (56, 159), (57, 160), (58, 161), (60, 162), (61, 163), (62, 164), (63, 165), (64, 166)], [], [], [], [], [], [], [], [], [], [], [], [], [], [], [], [], [], [], [], [], [], [], [], [], [], [], [], [], [], [], [], [], [], [], [], [], [], [], [], [], [], []]
def R0 (k j : Nat) : Option Nat := match refT[k]? with
  | some l => l.lookup j
  | none => none
def iniT : List (List (Nat × Int32)) := [[], [(3, (-1))], [], [], [], [], [], [], [], [], [], [], [], [], [], [], [], [], [], [], [], [], [(3, (-1))], [], [], [], [], [], [], [], [], [], [], [], [], [], [], [], [], [], [], [], [], [(3, (-1))], [], [], [], [], [], [], [], [], [], [], [], [], [], [], [], [], [], [], [], [], [], [], [], [(0, 2), (1, 1)], [], [], [], [], [], [], [], [], [], [], [], [], [], [], [(0, 2), (1, 1)], [], [], [], [], [(0, 2), (1, 1)], [], [], [], [], [(0, 2), (1, 1)], [], [], [], [], [(0, 2), (1, 1)], [], [], [], [], [(0, 2), (1, 1)], [], [], [], [], [(0, 2), (1, 1)], [], [], [], [], [(0, (-1))], [], [(0, (-1))], [], [(0, (-1))], [], [(0, (-1))], [], [(0, (-1))], [], [(0, (-1))], [], [(9, (-1)), (26, 9999), (41, (-1))], [], [], [], [], [], [], [], [], [], [], [], [], [], [], [(0, 119), (1, 105), (2, 108), (3, 108), (4, 98), (5, 97), (6, 108), (7, 107), (8, 114), (9, 105), (10, 115), (11, 101), (12, 102), (13, 97), (14, 108), (15, 108)], [], [], [], [], [], [], [], [], [], [], [], [], [], [], [], [], [], [], [], [], [], [], [], [(0, (-1)), (1, (-1)), (2, (-1)), (3, (-1)), (4, (-1)), (5, (-1))], [], [], []]
def I0 (k j : Nat) : Int32 := match iniT[k]? with
  | some l => match l.lookup j with
    | some v => v
    | none => 0
  | none => 0
def L0 (_ _ : Nat) : Int64 := 0
theorem K0_len : K0.length = 167 := rfl
/-- the shapes of objects, by their numbers -/
def isCup (c : Nat) : Prop := K0[c]? = some (.inr 1) ∧ R0 c 6 = some (c + 1) ∧ K0[c + 1]? = some (.inl (.int, 4))
def isRows (r n : Nat) : Prop := K0[r]? = some (.inr 4) ∧ R0 r 0 = some (r + 1) ∧ R0 r 1 = some (r + 2) ∧ K0[r + 1]? = some (.inl (.int, n)) ∧ K0[r + 2]? = some (.inl (.int, n))
def isInn (q : Nat) : Prop := K0[q]? = some (.inr 2) ∧ R0 q 3 = some (q + 1) ∧ R0 q 4 = some (q + 2) ∧ R0 q 6 = some (q + 3) ∧ R0 q 7 = some (q + 4) ∧ K0[q + 1]? = some (.inl (.int, 10)) ∧ K0[q + 2]? = some (.inl (.int, 10)) ∧ K0[q + 3]? = some (.inl (.int, 100)) ∧ K0[q + 4]? = some (.inl (.int, 6))
def isTape (p : Nat) : Prop := K0[p]? = some (.inr 6) ∧ R0 p 2 = some (p + 1) ∧ K0[p + 1]? = some (.inl (.long, 60))
def isTable (t : Nat) : Prop := K0[t]? = some (.inr 5) ∧ R0 t 0 = some (t + 1) ∧ R0 t 4 = some (t + 2) ∧ R0 t 5 = some (t + 5) ∧ R0 t 6 = some (t + 8) ∧ K0[t + 1]? = some (.inl (.object "LeavesObject$Cup", 5)) ∧ isRows (t + 2) 5 ∧ isRows (t + 5) 10 ∧ isRows (t + 8) 8 ∧ ∀ i, i < 5 → R0 (t + 1) i = some (t + 11 + 2 * i) ∧ isCup (t + 11 + 2 * i)
def isStr (s n : Nat) (f : Nat → Int32) : Prop := K0[s]? = none ∧ (1000000 ≤ s ∧ s < 1000008) ∧ K0[s + 20]? = none ∧ cInts (0, fun _ => 0) (s + 20) = none ∧ cByts (s + 20) = some (n, f)
theorem tab_1 : isTable 1 := ⟨rfl, rfl, rfl, rfl, rfl, rfl, ⟨rfl, rfl, rfl, rfl, rfl⟩, ⟨rfl, rfl, rfl, rfl, rfl⟩, ⟨rfl, rfl, rfl, rfl, rfl⟩, fun i hi => match i, hi with
  | 0, _ => ⟨rfl, rfl, rfl, rfl⟩
  | 1, _ => ⟨rfl, rfl, rfl, rfl⟩
  | 2, _ => ⟨rfl, rfl, rfl, rfl⟩
  | 3, _ => ⟨rfl, rfl, rfl, rfl⟩
  | 4, _ => ⟨rfl, rfl, rfl, rfl⟩⟩
theorem tab_22 : isTable 22 := ⟨rfl, rfl, rfl, rfl, rfl, rfl, ⟨rfl, rfl, rfl, rfl, rfl⟩, ⟨rfl, rfl, rfl, rfl, rfl⟩, ⟨rfl, rfl, rfl, rfl, rfl⟩, fun i hi => match i, hi with
  | 0, _ => ⟨rfl, rfl, rfl, rfl⟩
  | 1, _ => ⟨rfl, rfl, rfl, rfl⟩
  | 2, _ => ⟨rfl, rfl, rfl, rfl⟩
  | 3, _ => ⟨rfl, rfl, rfl, rfl⟩
  | 4, _ => ⟨rfl, rfl, rfl, rfl⟩⟩
theorem tab_43 : isTable 43 := ⟨rfl, rfl, rfl, rfl, rfl, rfl, ⟨rfl, rfl, rfl, rfl, rfl⟩, ⟨rfl, rfl, rfl, rfl, rfl⟩, ⟨rfl, rfl, rfl, rfl, rfl⟩, fun i hi => match i, hi with
  | 0, _ => ⟨rfl, rfl, rfl, rfl⟩
  | 1, _ => ⟨rfl, rfl, rfl, rfl⟩
  | 2, _ => ⟨rfl, rfl, rfl, rfl⟩
  | 3, _ => ⟨rfl, rfl, rfl, rfl⟩
  | 4, _ => ⟨rfl, rfl, rfl, rfl⟩⟩
theorem inn_67 : isInn 67 := ⟨rfl, rfl, rfl, rfl, rfl, rfl, rfl, rfl, rfl⟩
theorem inn_82 : isInn 82 := ⟨rfl, rfl, rfl, rfl, rfl, rfl, rfl, rfl, rfl⟩
theorem inn_87 : isInn 87 := ⟨rfl, rfl, rfl, rfl, rfl, rfl, rfl, rfl, rfl⟩
theorem inn_92 : isInn 92 := ⟨rfl, rfl, rfl, rfl, rfl, rfl, rfl, rfl, rfl⟩
theorem inn_97 : isInn 97 := ⟨rfl, rfl, rfl, rfl, rfl, rfl, rfl, rfl, rfl⟩
theorem inn_102 : isInn 102 := ⟨rfl, rfl, rfl, rfl, rfl, rfl, rfl, rfl, rfl⟩
theorem inn_107 : isInn 107 := ⟨rfl, rfl, rfl, rfl, rfl, rfl, rfl, rfl, rfl⟩
theorem cup_72 : isCup 72 := ⟨rfl, rfl, rfl⟩
theorem cup_77 : isCup 77 := ⟨rfl, rfl, rfl⟩
theorem tape_112 : isTape 112 := ⟨rfl, rfl, rfl⟩
theorem tape_114 : isTape 114 := ⟨rfl, rfl, rfl⟩
theorem tape_116 : isTape 116 := ⟨rfl, rfl, rfl⟩
theorem tape_118 : isTape 118 := ⟨rfl, rfl, rfl⟩
theorem tape_120 : isTape 120 := ⟨rfl, rfl, rfl⟩
theorem tape_122 : isTape 122 := ⟨rfl, rfl, rfl⟩
theorem inns_ok : ∀ i, i < 6 → R0 66 i = some (82 + 5 * i) ∧ isInn (82 + 5 * i) := fun i hi => match i, hi with
  | 0, _ => ⟨rfl, inn_82⟩
  | 1, _ => ⟨rfl, inn_87⟩
  | 2, _ => ⟨rfl, inn_92⟩
  | 3, _ => ⟨rfl, inn_97⟩
  | 4, _ => ⟨rfl, inn_102⟩
  | 5, _ => ⟨rfl, inn_107⟩
theorem tapes_ok : ∀ i, i < 6 → R0 81 i = some (112 + 2 * i) ∧ isTape (112 + 2 * i) := fun i hi => match i, hi with
  | 0, _ => ⟨rfl, tape_112⟩
  | 1, _ => ⟨rfl, tape_114⟩
  | 2, _ => ⟨rfl, tape_116⟩
  | 3, _ => ⟨rfl, tape_118⟩
  | 4, _ => ⟨rfl, tape_120⟩
  | 5, _ => ⟨rfl, tape_122⟩
theorem k_lt {k : Nat} {q : (FieldType × Nat) ⊕ Nat} (h : K0[k]? = some q) : k < K0.length := (List.getElem?_eq_some_iff.mp h).1
section RULES
variable {X : Nat × (Nat → Int32)} {d : Nat} {mi : MI} {pc pc' : Nat} {ls ls' : XL} {st : List Value} {w : XW} {K : XK} {R : Nat → Nat → Option Nat} {I : Nat → Nat → Int32} {L : Nat → Nat → Int64} {Q : Option Value → XW → Prop} {pc0 n a b c p : Nat} {t : List (Int × Nat)}
theorem wp_stuck {e : XE} (he : cdx (mC mi) pc = some e) (hg : grp e < 5) (hs : stp X e pc ls st w = none) : ¬ wp X d mi pc ls st w Q := by
  rintro ⟨n, r, w1, h, hq⟩
  cases n with
  | zero => cases h
  | succ n =>
    rw [exec, he] at h
    dsimp only at h
    split at h
    · omega
    · omega
    · rw [hs] at h
      cases h
theorem w_iconst {z : Int} {v : Int32} (he : cdx (mC mi) pc = some (pc0, .iconst z, n, a, b, c, p, t)) (hv : Int32.ofInt z = v) (hp : pc + n = pc') : wp X d mi pc ls (st) w Q ↔ wp X d mi pc' ls (.int v :: st) w Q := by
  subst hp
  exact wp_stp he (Nat.le_of_ble_eq_true rfl) (by subst hv; rfl)
theorem w_bipush {z : Int} {v : Int32} (he : cdx (mC mi) pc = some (pc0, .bipush z, n, a, b, c, p, t)) (hv : (Int8.ofInt z).toInt32 = v) (hp : pc + n = pc') : wp X d mi pc ls (st) w Q ↔ wp X d mi pc' ls (.int v :: st) w Q := by
  subst hp
  exact wp_stp he (Nat.le_of_ble_eq_true rfl) (by subst hv; rfl)
theorem w_sipush {z : Int} {v : Int32} (he : cdx (mC mi) pc = some (pc0, .sipush z, n, a, b, c, p, t)) (hv : (Int16.ofInt z).toInt32 = v) (hp : pc + n = pc') : wp X d mi pc ls (st) w Q ↔ wp X d mi pc' ls (.int v :: st) w Q := by
  subst hp
  exact wp_stp he (Nat.le_of_ble_eq_true rfl) (by subst hv; rfl)
theorem w_lconst {z : Fin 2} {v : Int64} (he : cdx (mC mi) pc = some (pc0, .lconst z, n, a, b, c, p, t)) (hv : Int64.ofNat z = v) (hp : pc + n = pc') : wp X d mi pc ls (st) w Q ↔ wp X d mi pc' ls (.long v :: st) w Q := by
  subst hp
  exact wp_stp he (Nat.le_of_ble_eq_true rfl) (by subst hv; rfl)
theorem w_ldc_w {ix : Nat} {z : Int} {y : Nat} {v : Int32} (he : cdx (mC mi) pc = some (pc0, .ldc_w ix, n, a, b, c, p, [(z, y)])) (hv : Int32.ofInt z = v) (hp : pc + n = pc') : wp X d mi pc ls st w Q ↔ wp X d mi pc' ls (.int v :: st) w Q := by
  subst hp; subst hv
  exact wp_stp he (Nat.le_of_ble_eq_true rfl) rfl
theorem w_ldc2_w {ix : Nat} {z : Int} {y : Nat} {v : Int64} (he : cdx (mC mi) pc = some (pc0, .ldc2_w ix, n, a, b, c, p, [(z, y)])) (hv : Int64.ofInt z = v) (hp : pc + n = pc') : wp X d mi pc ls st w Q ↔ wp X d mi pc' ls (.long v :: st) w Q := by
  subst hp; subst hv
  exact wp_stp he (Nat.le_of_ble_eq_true rfl) rfl
theorem w_aconst_null  (he : cdx (mC mi) pc = some (pc0, .aconst_null, n, a, b, c, p, t)) (hp : pc + n = pc') : wp X d mi pc ls (st) w Q ↔ wp X d mi pc' ls (.null :: st) w Q := by
  subst hp
  exact wp_stp he (Nat.le_of_ble_eq_true rfl) (by rfl)
theorem w_dup {v : Value} (he : cdx (mC mi) pc = some (pc0, .dup, n, a, b, c, p, t)) (hc : v.category = 1) (hp : pc + n = pc') : wp X d mi pc ls (v :: st) w Q ↔ wp X d mi pc' ls (v :: v :: st) w Q := by
  subst hp
  exact wp_stp he (Nat.le_of_ble_eq_true rfl) (by simp only [stp, grp, stpV, hc, if_true])
theorem w_pop {v : Value} (he : cdx (mC mi) pc = some (pc0, .pop, n, a, b, c, p, t)) (hc : v.category = 1) (hp : pc + n = pc') : wp X d mi pc ls (v :: st) w Q ↔ wp X d mi pc' ls (st) w Q := by
  subst hp
  exact wp_stp he (Nat.le_of_ble_eq_true rfl) (by simp only [stp, grp, stpV, hc, if_true])
theorem w_iadd {x y : Int32} (he : cdx (mC mi) pc = some (pc0, .iadd, n, a, b, c, p, t)) (hp : pc + n = pc') : wp X d mi pc ls (.int y :: .int x :: st) w Q ↔ wp X d mi pc' ls (.int (x + y) :: st) w Q := by
  subst hp
  exact wp_stp he (Nat.le_of_ble_eq_true rfl) (by rfl)
theorem w_isub {x y : Int32} (he : cdx (mC mi) pc = some (pc0, .isub, n, a, b, c, p, t)) (hp : pc + n = pc') : wp X d mi pc ls (.int y :: .int x :: st) w Q ↔ wp X d mi pc' ls (.int (x - y) :: st) w Q := by
  subst hp
  exact wp_stp he (Nat.le_of_ble_eq_true rfl) (by rfl)
theorem w_imul {x y : Int32} (he : cdx (mC mi) pc = some (pc0, .imul, n, a, b, c, p, t)) (hp : pc + n = pc') : wp X d mi pc ls (.int y :: .int x :: st) w Q ↔ wp X d mi pc' ls (.int (x * y) :: st) w Q := by
  subst hp
  exact wp_stp he (Nat.le_of_ble_eq_true rfl) (by rfl)
theorem w_iand {x y : Int32} (he : cdx (mC mi) pc = some (pc0, .iand, n, a, b, c, p, t)) (hp : pc + n = pc') : wp X d mi pc ls (.int y :: .int x :: st) w Q ↔ wp X d mi pc' ls (.int (x &&& y) :: st) w Q := by
  subst hp
  exact wp_stp he (Nat.le_of_ble_eq_true rfl) (by rfl)
theorem w_ior {x y : Int32} (he : cdx (mC mi) pc = some (pc0, .ior, n, a, b, c, p, t)) (hp : pc + n = pc') : wp X d mi pc ls (.int y :: .int x :: st) w Q ↔ wp X d mi pc' ls (.int (x ||| y) :: st) w Q := by
  subst hp
  exact wp_stp he (Nat.le_of_ble_eq_true rfl) (by rfl)
theorem w_ixor {x y : Int32} (he : cdx (mC mi) pc = some (pc0, .ixor, n, a, b, c, p, t)) (hp : pc + n = pc') : wp X d mi pc ls (.int y :: .int x :: st) w Q ↔ wp X d mi pc' ls (.int (x ^^^ y) :: st) w Q := by
  subst hp
  exact wp_stp he (Nat.le_of_ble_eq_true rfl) (by rfl)
theorem w_ishl {x y : Int32} (he : cdx (mC mi) pc = some (pc0, .ishl, n, a, b, c, p, t)) (hp : pc + n = pc') : wp X d mi pc ls (.int y :: .int x :: st) w Q ↔ wp X d mi pc' ls (.int (x <<< (y &&& 31)) :: st) w Q := by
  subst hp
  exact wp_stp he (Nat.le_of_ble_eq_true rfl) (by rfl)
theorem w_ishr {x y : Int32} (he : cdx (mC mi) pc = some (pc0, .ishr, n, a, b, c, p, t)) (hp : pc + n = pc') : wp X d mi pc ls (.int y :: .int x :: st) w Q ↔ wp X d mi pc' ls (.int (x >>> (y &&& 31)) :: st) w Q := by
  subst hp
  exact wp_stp he (Nat.le_of_ble_eq_true rfl) (by rfl)
theorem w_iushr {x y : Int32} (he : cdx (mC mi) pc = some (pc0, .iushr, n, a, b, c, p, t)) (hp : pc + n = pc') : wp X d mi pc ls (.int y :: .int x :: st) w Q ↔ wp X d mi pc' ls (.int ((x.toUInt32 >>> (y.toUInt32 &&& Int32.toUInt32 31)).toInt32) :: st) w Q := by
  subst hp
  exact wp_stp he (Nat.le_of_ble_eq_true rfl) (by rfl)
theorem w_idiv {x y : Int32} (he : cdx (mC mi) pc = some (pc0, .idiv, n, a, b, c, p, t)) (hp : pc + n = pc') : wp X d mi pc ls (.int y :: .int x :: st) w Q ↔ (¬ y = 0 ∧ wp X d mi pc' ls (.int (x / y) :: st) w Q) := by
  subst hp
  by_cases h : y = 0
  · exact ⟨fun q => absurd q (wp_stuck he (Nat.le_of_ble_eq_true rfl) (by simp only [stp, grp, stpV, h, if_true])), fun q => absurd h q.1⟩
  · rw [wp_stp he (Nat.le_of_ble_eq_true rfl) (show stp X _ pc ls _ w = some (pc + n, ls, .int (x / y) :: st, w) by simp only [stp, grp, stpV, h, if_false])]
    exact ⟨fun q => ⟨h, q⟩, fun q => q.2⟩
theorem w_irem {x y : Int32} (he : cdx (mC mi) pc = some (pc0, .irem, n, a, b, c, p, t)) (hp : pc + n = pc') : wp X d mi pc ls (.int y :: .int x :: st) w Q ↔ (¬ y = 0 ∧ wp X d mi pc' ls (.int (x - x / y * y) :: st) w Q) := by
  subst hp
  by_cases h : y = 0
  · exact ⟨fun q => absurd q (wp_stuck he (Nat.le_of_ble_eq_true rfl) (by simp only [stp, grp, stpV, h, if_true])), fun q => absurd h q.1⟩
  · rw [wp_stp he (Nat.le_of_ble_eq_true rfl) (show stp X _ pc ls _ w = some (pc + n, ls, .int (x - x / y * y) :: st, w) by simp only [stp, grp, stpV, h, if_false])]
    exact ⟨fun q => ⟨h, q⟩, fun q => q.2⟩
theorem w_ineg {x : Int32} (he : cdx (mC mi) pc = some (pc0, .ineg, n, a, b, c, p, t)) (hp : pc + n = pc') : wp X d mi pc ls (.int x :: st) w Q ↔ wp X d mi pc' ls (.int (-x) :: st) w Q := by
  subst hp
  exact wp_stp he (Nat.le_of_ble_eq_true rfl) (by rfl)
theorem w_i2l {x : Int32} (he : cdx (mC mi) pc = some (pc0, .i2l, n, a, b, c, p, t)) (hp : pc + n = pc') : wp X d mi pc ls (.int x :: st) w Q ↔ wp X d mi pc' ls (.long x.toInt64 :: st) w Q := by
  subst hp
  exact wp_stp he (Nat.le_of_ble_eq_true rfl) (by rfl)
theorem w_i2b {x : Int32} (he : cdx (mC mi) pc = some (pc0, .i2b, n, a, b, c, p, t)) (hp : pc + n = pc') : wp X d mi pc ls (.int x :: st) w Q ↔ wp X d mi pc' ls (.int x.toInt8.toInt32 :: st) w Q := by
  subst hp
  exact wp_stp he (Nat.le_of_ble_eq_true rfl) (by rfl)
theorem w_i2s {x : Int32} (he : cdx (mC mi) pc = some (pc0, .i2s, n, a, b, c, p, t)) (hp : pc + n = pc') : wp X d mi pc ls (.int x :: st) w Q ↔ wp X d mi pc' ls (.int x.toInt16.toInt32 :: st) w Q := by
  subst hp
  exact wp_stp he (Nat.le_of_ble_eq_true rfl) (by rfl)
theorem w_i2c {x : Int32} (he : cdx (mC mi) pc = some (pc0, .i2c, n, a, b, c, p, t)) (hp : pc + n = pc') : wp X d mi pc ls (.int x :: st) w Q ↔ wp X d mi pc' ls (.int (x.toUInt32 % 65536).toInt32 :: st) w Q := by
  subst hp
  exact wp_stp he (Nat.le_of_ble_eq_true rfl) (by rfl)
theorem w_l2i {x : Int64} (he : cdx (mC mi) pc = some (pc0, .l2i, n, a, b, c, p, t)) (hp : pc + n = pc') : wp X d mi pc ls (.long x :: st) w Q ↔ wp X d mi pc' ls (.int x.toInt32 :: st) w Q := by
  subst hp
  exact wp_stp he (Nat.le_of_ble_eq_true rfl) (by rfl)
theorem w_lcmp {x y : Int64} (he : cdx (mC mi) pc = some (pc0, .lcmp, n, a, b, c, p, t)) (hp : pc + n = pc') : wp X d mi pc ls (.long y :: .long x :: st) w Q ↔ wp X d mi pc' ls (.int (lg_cmp x y) :: st) w Q := by
  subst hp
  exact wp_stp he (Nat.le_of_ble_eq_true rfl) (by rfl)
theorem w_lshl {x : Int64} {y : Int32} (he : cdx (mC mi) pc = some (pc0, .lshl, n, a, b, c, p, t)) (hp : pc + n = pc') : wp X d mi pc ls (.int y :: .long x :: st) w Q ↔ wp X d mi pc' ls (.long (x <<< (y.toInt64 &&& 63)) :: st) w Q := by
  subst hp
  exact wp_stp he (Nat.le_of_ble_eq_true rfl) (by rfl)
theorem w_land {x y : Int64} (he : cdx (mC mi) pc = some (pc0, .land, n, a, b, c, p, t)) (hp : pc + n = pc') : wp X d mi pc ls (.long y :: .long x :: st) w Q ↔ wp X d mi pc' ls (.long (x &&& y) :: st) w Q := by
  subst hp
  exact wp_stp he (Nat.le_of_ble_eq_true rfl) (by rfl)
theorem w_lor {x y : Int64} (he : cdx (mC mi) pc = some (pc0, .lor, n, a, b, c, p, t)) (hp : pc + n = pc') : wp X d mi pc ls (.long y :: .long x :: st) w Q ↔ wp X d mi pc' ls (.long (x ||| y) :: st) w Q := by
  subst hp
  exact wp_stp he (Nat.le_of_ble_eq_true rfl) (by rfl)
theorem w_iload_n {k : Fin 4} {x : Int32} (he : cdx (mC mi) pc = some (pc0, .iload_n k, n, a, b, c, p, t)) (hl : lget ls a = some (.int x)) (hp : pc + n = pc') : wp X d mi pc ls (st) w Q ↔ wp X d mi pc' ls (.int x :: st) w Q := by
  subst hp
  exact wp_stp he (Nat.le_of_ble_eq_true rfl) (by simp only [stp, grp, stpL, hl])
theorem w_iload {k : Nat} {x : Int32} (he : cdx (mC mi) pc = some (pc0, .iload k, n, a, b, c, p, t)) (hl : lget ls a = some (.int x)) (hp : pc + n = pc') : wp X d mi pc ls (st) w Q ↔ wp X d mi pc' ls (.int x :: st) w Q := by
  subst hp
  exact wp_stp he (Nat.le_of_ble_eq_true rfl) (by simp only [stp, grp, stpL, hl])
theorem w_lload_n {k : Fin 4} {x : Int64} (he : cdx (mC mi) pc = some (pc0, .lload_n k, n, a, b, c, p, t)) (hl : lget ls a = some (.long x)) (hp : pc + n = pc') : wp X d mi pc ls (st) w Q ↔ wp X d mi pc' ls (.long x :: st) w Q := by
  subst hp
  exact wp_stp he (Nat.le_of_ble_eq_true rfl) (by simp only [stp, grp, stpL, hl])
theorem w_aload_n {k : Fin 4} {x : Nat} (he : cdx (mC mi) pc = some (pc0, .aload_n k, n, a, b, c, p, t)) (hl : lget ls a = some (.ref x)) (hp : pc + n = pc') : wp X d mi pc ls (st) w Q ↔ wp X d mi pc' ls (.ref x :: st) w Q := by
  subst hp
  exact wp_stp he (Nat.le_of_ble_eq_true rfl) (by simp only [stp, grp, stpL, hl])
theorem w_aload {k : Nat} {x : Nat} (he : cdx (mC mi) pc = some (pc0, .aload k, n, a, b, c, p, t)) (hl : lget ls a = some (.ref x)) (hp : pc + n = pc') : wp X d mi pc ls (st) w Q ↔ wp X d mi pc' ls (.ref x :: st) w Q := by
  subst hp
  exact wp_stp he (Nat.le_of_ble_eq_true rfl) (by simp only [stp, grp, stpL, hl])
theorem w_aload_nN {k : Fin 4} (he : cdx (mC mi) pc = some (pc0, .aload_n k, n, a, b, c, p, t)) (hl : lget ls a = some (.null)) (hp : pc + n = pc') : wp X d mi pc ls (st) w Q ↔ wp X d mi pc' ls (.null :: st) w Q := by
  subst hp
  exact wp_stp he (Nat.le_of_ble_eq_true rfl) (by simp only [stp, grp, stpL, hl])
theorem w_aloadN {k : Nat} (he : cdx (mC mi) pc = some (pc0, .aload k, n, a, b, c, p, t)) (hl : lget ls a = some (.null)) (hp : pc + n = pc') : wp X d mi pc ls (st) w Q ↔ wp X d mi pc' ls (.null :: st) w Q := by
  subst hp
  exact wp_stp he (Nat.le_of_ble_eq_true rfl) (by simp only [stp, grp, stpL, hl])
theorem w_istore_n {k : Fin 4} {x : Int32} (he : cdx (mC mi) pc = some (pc0, .istore_n k, n, a, b, c, p, t)) (hi : a < ls.length) (hl : lset1 ls a (.int x) = ls') (hp : pc + n = pc') : wp X d mi pc ls (.int x :: st) w Q ↔ wp X d mi pc' ls' st w Q := by
  subst hp; subst hl
  exact wp_stp he (Nat.le_of_ble_eq_true rfl) (by simp only [stp, grp, stpL, hi, if_true])
theorem w_istore {k : Nat} {x : Int32} (he : cdx (mC mi) pc = some (pc0, .istore k, n, a, b, c, p, t)) (hi : a < ls.length) (hl : lset1 ls a (.int x) = ls') (hp : pc + n = pc') : wp X d mi pc ls (.int x :: st) w Q ↔ wp X d mi pc' ls' st w Q := by
  subst hp; subst hl
  exact wp_stp he (Nat.le_of_ble_eq_true rfl) (by simp only [stp, grp, stpL, hi, if_true])
theorem w_astore_n {k : Fin 4} {x : Nat} (he : cdx (mC mi) pc = some (pc0, .astore_n k, n, a, b, c, p, t)) (hi : a < ls.length) (hl : lset1 ls a (.ref x) = ls') (hp : pc + n = pc') : wp X d mi pc ls (.ref x :: st) w Q ↔ wp X d mi pc' ls' st w Q := by
  subst hp; subst hl
  exact wp_stp he (Nat.le_of_ble_eq_true rfl) (by simp only [stp, grp, stpL, hi, if_true])
theorem w_astore {k : Nat} {x : Nat} (he : cdx (mC mi) pc = some (pc0, .astore k, n, a, b, c, p, t)) (hi : a < ls.length) (hl : lset1 ls a (.ref x) = ls') (hp : pc + n = pc') : wp X d mi pc ls (.ref x :: st) w Q ↔ wp X d mi pc' ls' st w Q := by
  subst hp; subst hl
  exact wp_stp he (Nat.le_of_ble_eq_true rfl) (by simp only [stp, grp, stpL, hi, if_true])
theorem w_astore_nN {k : Fin 4} (he : cdx (mC mi) pc = some (pc0, .astore_n k, n, a, b, c, p, t)) (hi : a < ls.length) (hl : lset1 ls a (.null) = ls') (hp : pc + n = pc') : wp X d mi pc ls (.null :: st) w Q ↔ wp X d mi pc' ls' st w Q := by
  subst hp; subst hl
  exact wp_stp he (Nat.le_of_ble_eq_true rfl) (by simp only [stp, grp, stpL, hi, if_true])
theorem w_astoreN {k : Nat} (he : cdx (mC mi) pc = some (pc0, .astore k, n, a, b, c, p, t)) (hi : a < ls.length) (hl : lset1 ls a (.null) = ls') (hp : pc + n = pc') : wp X d mi pc ls (.null :: st) w Q ↔ wp X d mi pc' ls' st w Q := by
  subst hp; subst hl
  exact wp_stp he (Nat.le_of_ble_eq_true rfl) (by simp only [stp, grp, stpL, hi, if_true])
theorem w_lstore_n {k : Fin 4} {x : Int64} (he : cdx (mC mi) pc = some (pc0, .lstore_n k, n, a, b, c, p, t)) (hi : a + 1 < ls.length) (hl : lset2 ls a (.long x) = ls') (hp : pc + n = pc') : wp X d mi pc ls (.long x :: st) w Q ↔ wp X d mi pc' ls' st w Q := by
  subst hp; subst hl
  exact wp_stp he (Nat.le_of_ble_eq_true rfl) (by simp only [stp, grp, stpL, hi, if_true])
theorem w_iinc {k : Nat} {z : Int} {x v : Int32} (he : cdx (mC mi) pc = some (pc0, .iinc k z, n, a, b, c, p, t)) (hi : a < ls.length) (hg : lget ls a = some (.int x)) (hv : x + Int32.ofInt z = v) (hl : lset1 ls a (.int v) = ls') (hp : pc + n = pc') : wp X d mi pc ls st w Q ↔ wp X d mi pc' ls' st w Q := by
  subst hp; subst hl; subst hv
  exact wp_stp he (Nat.le_of_ble_eq_true rfl) (by simp only [stp, grp, stpL, hi, hg, if_true])
theorem w_goto {k : Int} (he : cdx (mC mi) pc = some (pc0, .goto k, n, a, b, c, p, t)) : wp X d mi pc ls st w Q ↔ wp X d mi a ls st w Q := wp_stp he (Nat.le_of_ble_eq_true rfl) rfl
theorem w_if_eq {x : Int32} {k : Int} (he : cdx (mC mi) pc = some (pc0, .ifCond .eq k, n, a, b, c, p, t)) (hp : pc + 3 = pc') : wp X d mi pc ls (.int x :: st) w Q ↔ (if x = 0 then wp X d mi a ls st w Q else wp X d mi pc' ls st w Q) := by
  subst hp
  rw [wp_stp he (Nat.le_of_ble_eq_true rfl) (show stp X _ pc ls _ w = some (if x = 0 then a else pc + 3, ls, st, w) from rfl)]
  exact wp_if
theorem w_if_ne {x : Int32} {k : Int} (he : cdx (mC mi) pc = some (pc0, .ifCond .ne k, n, a, b, c, p, t)) (hp : pc + 3 = pc') : wp X d mi pc ls (.int x :: st) w Q ↔ (if x = 0 then wp X d mi pc' ls st w Q else wp X d mi a ls st w Q) := by
  subst hp
  rw [wp_stp he (Nat.le_of_ble_eq_true rfl) (show stp X _ pc ls _ w = some (if x = 0 then pc + 3 else a, ls, st, w) from rfl)]
  exact wp_if
theorem w_if_lt {x : Int32} {k : Int} (he : cdx (mC mi) pc = some (pc0, .ifCond .lt k, n, a, b, c, p, t)) (hp : pc + 3 = pc') : wp X d mi pc ls (.int x :: st) w Q ↔ (if x < 0 then wp X d mi a ls st w Q else wp X d mi pc' ls st w Q) := by
  subst hp
  rw [wp_stp he (Nat.le_of_ble_eq_true rfl) (show stp X _ pc ls _ w = some (if x < 0 then a else pc + 3, ls, st, w) from rfl)]
  exact wp_if
theorem w_if_ge {x : Int32} {k : Int} (he : cdx (mC mi) pc = some (pc0, .ifCond .ge k, n, a, b, c, p, t)) (hp : pc + 3 = pc') : wp X d mi pc ls (.int x :: st) w Q ↔ (if x < 0 then wp X d mi pc' ls st w Q else wp X d mi a ls st w Q) := by
  subst hp
  rw [wp_stp he (Nat.le_of_ble_eq_true rfl) (show stp X _ pc ls _ w = some (if x < 0 then pc + 3 else a, ls, st, w) from rfl)]
  exact wp_if
theorem w_if_gt {x : Int32} {k : Int} (he : cdx (mC mi) pc = some (pc0, .ifCond .gt k, n, a, b, c, p, t)) (hp : pc + 3 = pc') : wp X d mi pc ls (.int x :: st) w Q ↔ (if 0 < x then wp X d mi a ls st w Q else wp X d mi pc' ls st w Q) := by
  subst hp
  rw [wp_stp he (Nat.le_of_ble_eq_true rfl) (show stp X _ pc ls _ w = some (if 0 < x then a else pc + 3, ls, st, w) from rfl)]
  exact wp_if
theorem w_if_le {x : Int32} {k : Int} (he : cdx (mC mi) pc = some (pc0, .ifCond .le k, n, a, b, c, p, t)) (hp : pc + 3 = pc') : wp X d mi pc ls (.int x :: st) w Q ↔ (if 0 < x then wp X d mi pc' ls st w Q else wp X d mi a ls st w Q) := by
  subst hp
  rw [wp_stp he (Nat.le_of_ble_eq_true rfl) (show stp X _ pc ls _ w = some (if 0 < x then pc + 3 else a, ls, st, w) from rfl)]
  exact wp_if
theorem w_icmp_eq {x y : Int32} {k : Int} (he : cdx (mC mi) pc = some (pc0, .if_icmp .eq k, n, a, b, c, p, t)) (hp : pc + 3 = pc') : wp X d mi pc ls (.int y :: .int x :: st) w Q ↔ (if x = y then wp X d mi a ls st w Q else wp X d mi pc' ls st w Q) := by
  subst hp
  rw [wp_stp he (Nat.le_of_ble_eq_true rfl) (show stp X _ pc ls _ w = some (if x = y then a else pc + 3, ls, st, w) from rfl)]
  exact wp_if
theorem w_icmp_ne {x y : Int32} {k : Int} (he : cdx (mC mi) pc = some (pc0, .if_icmp .ne k, n, a, b, c, p, t)) (hp : pc + 3 = pc') : wp X d mi pc ls (.int y :: .int x :: st) w Q ↔ (if x = y then wp X d mi pc' ls st w Q else wp X d mi a ls st w Q) := by
  subst hp
  rw [wp_stp he (Nat.le_of_ble_eq_true rfl) (show stp X _ pc ls _ w = some (if x = y then pc + 3 else a, ls, st, w) from rfl)]
  exact wp_if
theorem w_icmp_lt {x y : Int32} {k : Int} (he : cdx (mC mi) pc = some (pc0, .if_icmp .lt k, n, a, b, c, p, t)) (hp : pc + 3 = pc') : wp X d mi pc ls (.int y :: .int x :: st) w Q ↔ (if x < y then wp X d mi a ls st w Q else wp X d mi pc' ls st w Q) := by
  subst hp
  rw [wp_stp he (Nat.le_of_ble_eq_true rfl) (show stp X _ pc ls _ w = some (if x < y then a else pc + 3, ls, st, w) from rfl)]
  exact wp_if
theorem w_icmp_ge {x y : Int32} {k : Int} (he : cdx (mC mi) pc = some (pc0, .if_icmp .ge k, n, a, b, c, p, t)) (hp : pc + 3 = pc') : wp X d mi pc ls (.int y :: .int x :: st) w Q ↔ (if x < y then wp X d mi pc' ls st w Q else wp X d mi a ls st w Q) := by
  subst hp
  rw [wp_stp he (Nat.le_of_ble_eq_true rfl) (show stp X _ pc ls _ w = some (if x < y then pc + 3 else a, ls, st, w) from rfl)]
  exact wp_if
theorem w_icmp_gt {x y : Int32} {k : Int} (he : cdx (mC mi) pc = some (pc0, .if_icmp .gt k, n, a, b, c, p, t)) (hp : pc + 3 = pc') : wp X d mi pc ls (.int y :: .int x :: st) w Q ↔ (if y < x then wp X d mi a ls st w Q else wp X d mi pc' ls st w Q) := by
  subst hp
  rw [wp_stp he (Nat.le_of_ble_eq_true rfl) (show stp X _ pc ls _ w = some (if y < x then a else pc + 3, ls, st, w) from rfl)]
  exact wp_if
theorem w_icmp_le {x y : Int32} {k : Int} (he : cdx (mC mi) pc = some (pc0, .if_icmp .le k, n, a, b, c, p, t)) (hp : pc + 3 = pc') : wp X d mi pc ls (.int y :: .int x :: st) w Q ↔ (if y < x then wp X d mi pc' ls st w Q else wp X d mi a ls st w Q) := by
  subst hp
  rw [wp_stp he (Nat.le_of_ble_eq_true rfl) (show stp X _ pc ls _ w = some (if y < x then pc + 3 else a, ls, st, w) from rfl)]
  exact wp_if
theorem w_ifnullN {k : Int} (he : cdx (mC mi) pc = some (pc0, .ifnull k, n, a, b, c, p, t)) : wp X d mi pc ls (.null :: st) w Q ↔ wp X d mi a ls st w Q := wp_stp he (Nat.le_of_ble_eq_true rfl) rfl
theorem w_ifnonnullN {k : Int} (he : cdx (mC mi) pc = some (pc0, .ifnonnull k, n, a, b, c, p, t)) (hp : pc + 3 = pc') : wp X d mi pc ls (.null :: st) w Q ↔ wp X d mi pc' ls st w Q := by
  subst hp
  exact wp_stp he (Nat.le_of_ble_eq_true rfl) rfl
theorem w_ifnull {k : Int} {x : Nat} (he : cdx (mC mi) pc = some (pc0, .ifnull k, n, a, b, c, p, t)) (hx : x < w.1.length) (hp : pc + 3 = pc') : wp X d mi pc ls (.ref x :: st) w Q ↔ wp X d mi pc' ls st w Q := by
  subst hp
  exact wp_stp he (Nat.le_of_ble_eq_true rfl) (by simp only [stp, grp, stpJ, hx, if_true])
theorem w_ifnonnull {k : Int} {x : Nat} (he : cdx (mC mi) pc = some (pc0, .ifnonnull k, n, a, b, c, p, t)) (hx : x < w.1.length) : wp X d mi pc ls (.ref x :: st) w Q ↔ wp X d mi a ls st w Q := wp_stp he (Nat.le_of_ble_eq_true rfl) (by simp only [stp, grp, stpJ, hx, if_true])
theorem w_swcons {k : Int} {x v : Int32} {q g : Nat} (hv : v.toInt = k) : wp X d mi (swT ((k, g) :: t) q x.toInt) ls st w Q ↔ (if x = v then wp X d mi g ls st w Q else wp X d mi (swT t q x.toInt) ls st w Q) := by
  unfold swT
  by_cases h : x = v
  · subst h
    rw [if_pos hv, if_pos rfl]
  · rw [if_neg h, if_neg (fun z => h (Int32.toInt_inj.mp (z.trans hv.symm)))]
theorem w_swnil {x : Int32} {q : Nat} : wp X d mi (swT [] q x.toInt) ls st w Q ↔ wp X d mi q ls st w Q := Iff.rfl
theorem w_tswitch {df lo hi : Int} {offs : Array Int} {x : Int32} (he : cdx (mC mi) pc = some (pc0, .tableswitch df lo hi offs, n, a, b, c, p, t)) : wp X d mi pc ls (.int x :: st) w Q ↔ wp X d mi (swT t a x.toInt) ls st w Q := wp_stp he (Nat.le_of_ble_eq_true rfl) rfl
theorem w_lswitch {df : Int} {ps : Array (Int × Int)} {x : Int32} (he : cdx (mC mi) pc = some (pc0, .lookupswitch df ps, n, a, b, c, p, t)) : wp X d mi pc ls (.int x :: st) w Q ↔ wp X d mi (swT t a x.toInt) ls st w Q := wp_stp he (Nat.le_of_ble_eq_true rfl) rfl
theorem w_getI {ix k : Nat} (he : cdx (mC mi) pc = some (pc0, .getfield ix, n, a, b, 0, p, t)) (hk : K[k]? = some (.inr a)) (hb : b < clN a) (ht : isIntT (clT a b) = true) (hp : pc + n = pc') : wp X d mi pc ls (.ref k :: st) (K, R, I, L) Q ↔ wp X d mi pc' ls (.int (I k b) :: st) (K, R, I, L) Q := by
  subst hp
  exact wp_stp he (Nat.le_of_ble_eq_true rfl) (by simp only [stp, grp, stpH, hk, hb, and_self, if_true, fval_int ht])
theorem w_getR {ix k q : Nat} (he : cdx (mC mi) pc = some (pc0, .getfield ix, n, a, b, 0, p, t)) (hk : K[k]? = some (.inr a)) (hb : b < clN a) (ht : isRefT (clT a b) = true) (hr : R k b = some q) (hp : pc + n = pc') : wp X d mi pc ls (.ref k :: st) (K, R, I, L) Q ↔ wp X d mi pc' ls (.ref q :: st) (K, R, I, L) Q := by
  subst hp
  exact wp_stp he (Nat.le_of_ble_eq_true rfl) (by simp only [stp, grp, stpH, hk, hb, and_self, if_true, fval_ref ht, hr, rfv])
theorem w_getS0 {ix k : Nat} (he : cdx (mC mi) pc = some (pc0, .getfield ix, n, a, b, 1, p, t)) (hk : K[k]? = none) (hr : 1000000 ≤ k ∧ k < 1000008) (hb : b = 0) (hp : pc + n = pc') : wp X d mi pc ls (.ref k :: st) (K, R, I, L) Q ↔ wp X d mi pc' ls (.int 0 :: st) (K, R, I, L) Q := by
  subst hp
  exact wp_stp he (Nat.le_of_ble_eq_true rfl) (by simp only [stp, grp, stpH, hk, hr.1, hr.2, hb, and_self, if_true])
theorem w_getS1 {ix k : Nat} (he : cdx (mC mi) pc = some (pc0, .getfield ix, n, a, b, 1, p, t)) (hk : K[k]? = none) (hr : 1000000 ≤ k ∧ k < 1000008) (hb : b = 1) (hp : pc + n = pc') : wp X d mi pc ls (.ref k :: st) (K, R, I, L) Q ↔ wp X d mi pc' ls (.ref (k + 20) :: st) (K, R, I, L) Q := by
  subst hp
  exact wp_stp he (Nat.le_of_ble_eq_true rfl) (by simp only [stp, grp, stpH, hk, hr.1, hr.2, hb, and_self, if_true, if_neg (show ¬ (1 : Nat) = 0 by decide)])
theorem w_putI {ix k : Nat} {x : Int32} (he : cdx (mC mi) pc = some (pc0, .putfield ix, n, a, b, c, p, t)) (hk : K[k]? = some (.inr a)) (hb : b < clN a) (ht : isIntT (clT a b) = true) (hf : fits (clT a b) (.int x) = true) (hp : pc + n = pc') : wp X d mi pc ls (.int x :: .ref k :: st) (K, R, I, L) Q ↔ wp X d mi pc' ls (st) (K, R, updR I k b x, L) Q := by
  subst hp
  exact wp_stp he (Nat.le_of_ble_eq_true rfl) (by simp only [stp, grp, stpH, hk, hb, ht, hf, and_self, if_true])
theorem w_gets_i {ix : Nat} {v : Int32} (he : cdx (mC mi) pc = some (pc0, .getstatic ix, n, a, b, 1, p, t)) (hv : Int32.ofNat b = v) (hp : pc + n = pc') : wp X d mi pc ls (st) (K, R, I, L) Q ↔ wp X d mi pc' ls (.int v :: st) (K, R, I, L) Q := by
  subst hp
  exact wp_stp he (Nat.le_of_ble_eq_true rfl) (by simp only [stp, grp, stpH, hv, if_true])
theorem w_gets_r {ix q : Nat} (he : cdx (mC mi) pc = some (pc0, .getstatic ix, n, a, b, 0, p, t)) (hv : 1000040 + b = q) (hp : pc + n = pc') : wp X d mi pc ls (st) (K, R, I, L) Q ↔ wp X d mi pc' ls (.ref q :: st) (K, R, I, L) Q := by
  subst hp
  exact wp_stp he (Nat.le_of_ble_eq_true rfl) (by simp only [stp, grp, stpH, hv, if_neg (show ¬ (0 : Nat) = 1 by decide)])
theorem w_ldc {ix q : Nat} (he : cdx (mC mi) pc = some (pc0, .ldc ix, n, a, b, c, p, t)) (hv : 1000000 + a = q) (hp : pc + n = pc') : wp X d mi pc ls (st) (K, R, I, L) Q ↔ wp X d mi pc' ls (.ref q :: st) (K, R, I, L) Q := by
  subst hp
  exact wp_stp he (Nat.le_of_ble_eq_true rfl) (by simp only [stp, grp, stpH, hv])
theorem w_iald {i : Int32} {k m : Nat} (he : cdx (mC mi) pc = some (pc0, .iaload, n, a, b, c, p, t)) (hk : K[k]? = some (.inl (.int, m))) (hp : pc + n = pc') : wp X d mi pc ls (.int i :: .ref k :: st) (K, R, I, L) Q ↔ (inA i m = true ∧ wp X d mi pc' ls (.int (I k i.toNatClampNeg) :: st) (K, R, I, L) Q) := by
  subst hp
  by_cases h : inA i m = true
  · rw [wp_stp he (Nat.le_of_ble_eq_true rfl) (show stp X _ pc ls _ (K, R, I, L) = some (pc + n, ls, .int (I k i.toNatClampNeg) :: st, (K, R, I, L)) by simp only [stp, grp, stpH, hk, h, if_true])]
    exact ⟨fun q => ⟨h, q⟩, fun q => q.2⟩
  · exact ⟨fun q => absurd q (wp_stuck he (Nat.le_of_ble_eq_true rfl) (by simp only [stp, grp, stpH, hk, h, if_false, Bool.false_eq_true])), fun q => absurd q.1 h⟩
theorem w_zald {i : Int32} {k m : Nat} (he : cdx (mC mi) pc = some (pc0, .baload, n, a, b, c, p, t)) (hk : K[k]? = some (.inl (.boolean, m))) (hp : pc + n = pc') : wp X d mi pc ls (.int i :: .ref k :: st) (K, R, I, L) Q ↔ (inA i m = true ∧ wp X d mi pc' ls (.int (I k i.toNatClampNeg) :: st) (K, R, I, L) Q) := by
  subst hp
  by_cases h : inA i m = true
  · rw [wp_stp he (Nat.le_of_ble_eq_true rfl) (show stp X _ pc ls _ (K, R, I, L) = some (pc + n, ls, .int (I k i.toNatClampNeg) :: st, (K, R, I, L)) by simp only [stp, grp, stpH, hk, h, if_true])]
    exact ⟨fun q => ⟨h, q⟩, fun q => q.2⟩
  · exact ⟨fun q => absurd q (wp_stuck he (Nat.le_of_ble_eq_true rfl) (by simp only [stp, grp, stpH, hk, h, if_false, Bool.false_eq_true])), fun q => absurd q.1 h⟩
theorem w_lald {i : Int32} {k m : Nat} (he : cdx (mC mi) pc = some (pc0, .laload, n, a, b, c, p, t)) (hk : K[k]? = some (.inl (.long, m))) (hp : pc + n = pc') : wp X d mi pc ls (.int i :: .ref k :: st) (K, R, I, L) Q ↔ (inA i m = true ∧ wp X d mi pc' ls (.long (L k i.toNatClampNeg) :: st) (K, R, I, L) Q) := by
  subst hp
  by_cases h : inA i m = true
  · rw [wp_stp he (Nat.le_of_ble_eq_true rfl) (show stp X _ pc ls _ (K, R, I, L) = some (pc + n, ls, .long (L k i.toNatClampNeg) :: st, (K, R, I, L)) by simp only [stp, grp, stpH, hk, h, if_true])]
    exact ⟨fun q => ⟨h, q⟩, fun q => q.2⟩
  · exact ⟨fun q => absurd q (wp_stuck he (Nat.le_of_ble_eq_true rfl) (by simp only [stp, grp, stpH, hk, h, if_false, Bool.false_eq_true])), fun q => absurd q.1 h⟩
theorem w_iald_c {i : Int32} {k m : Nat} {f : Nat → Int32} (he : cdx (mC mi) pc = some (pc0, .iaload, n, a, b, c, p, t)) (hk : K[k]? = none) (hc : cInts X k = some (m, f)) (hp : pc + n = pc') : wp X d mi pc ls (.int i :: .ref k :: st) (K, R, I, L) Q ↔ (inA i m = true ∧ wp X d mi pc' ls (.int (f i.toNatClampNeg) :: st) (K, R, I, L) Q) := by
  subst hp
  by_cases h : inA i m = true
  · rw [wp_stp he (Nat.le_of_ble_eq_true rfl) (show stp X _ pc ls _ (K, R, I, L) = some (pc + n, ls, .int (f i.toNatClampNeg) :: st, (K, R, I, L)) by simp only [stp, grp, stpH, hk, hc, h, if_true])]
    exact ⟨fun q => ⟨h, q⟩, fun q => q.2⟩
  · exact ⟨fun q => absurd q (wp_stuck he (Nat.le_of_ble_eq_true rfl) (by simp only [stp, grp, stpH, hk, hc, h, if_false, Bool.false_eq_true])), fun q => absurd q.1 h⟩
theorem w_bald_c {i : Int32} {k m : Nat} {f : Nat → Int32} (he : cdx (mC mi) pc = some (pc0, .baload, n, a, b, c, p, t)) (hk : K[k]? = none) (hc : cByts k = some (m, f)) (hp : pc + n = pc') : wp X d mi pc ls (.int i :: .ref k :: st) (K, R, I, L) Q ↔ (inA i m = true ∧ wp X d mi pc' ls (.int (f i.toNatClampNeg) :: st) (K, R, I, L) Q) := by
  subst hp
  by_cases h : inA i m = true
  · rw [wp_stp he (Nat.le_of_ble_eq_true rfl) (show stp X _ pc ls _ (K, R, I, L) = some (pc + n, ls, .int (f i.toNatClampNeg) :: st, (K, R, I, L)) by simp only [stp, grp, stpH, hk, hc, h, if_true])]
    exact ⟨fun q => ⟨h, q⟩, fun q => q.2⟩
  · exact ⟨fun q => absurd q (wp_stuck he (Nat.le_of_ble_eq_true rfl) (by simp only [stp, grp, stpH, hk, hc, h, if_false, Bool.false_eq_true])), fun q => absurd q.1 h⟩
theorem w_aald {i : Int32} {k m : Nat} {C : String} (he : cdx (mC mi) pc = some (pc0, .aaload, n, a, b, c, p, t)) (hk : K[k]? = some (.inl (.object C, m))) (hp : pc + n = pc') : wp X d mi pc ls (.int i :: .ref k :: st) (K, R, I, L) Q ↔ (inA i m = true ∧ wp X d mi pc' ls (rfv (R k i.toNatClampNeg) :: st) (K, R, I, L) Q) := by
  subst hp
  by_cases h : inA i m = true
  · rw [wp_stp he (Nat.le_of_ble_eq_true rfl) (show stp X _ pc ls _ (K, R, I, L) = some (pc + n, ls, rfv (R k i.toNatClampNeg) :: st, (K, R, I, L)) by simp only [stp, grp, stpH, hk, h, if_true])]
    exact ⟨fun q => ⟨h, q⟩, fun q => q.2⟩
  · exact ⟨fun q => absurd q (wp_stuck he (Nat.le_of_ble_eq_true rfl) (by simp only [stp, grp, stpH, hk, h, if_false, Bool.false_eq_true])), fun q => absurd q.1 h⟩
theorem w_iast {i x : Int32} {k m : Nat} (he : cdx (mC mi) pc = some (pc0, .iastore, n, a, b, c, p, t)) (hk : K[k]? = some (.inl (.int, m))) (hp : pc + n = pc') : wp X d mi pc ls (.int x :: .int i :: .ref k :: st) (K, R, I, L) Q ↔ (inA i m = true ∧ wp X d mi pc' ls (st) (K, R, updR I k i.toNatClampNeg x, L) Q) := by
  subst hp
  by_cases h : inA i m = true
  · rw [wp_stp he (Nat.le_of_ble_eq_true rfl) (show stp X _ pc ls _ (K, R, I, L) = some (pc + n, ls, st, (K, R, updR I k i.toNatClampNeg x, L)) by simp only [stp, grp, stpH, hk, h, if_true])]
    exact ⟨fun q => ⟨h, q⟩, fun q => q.2⟩
  · exact ⟨fun q => absurd q (wp_stuck he (Nat.le_of_ble_eq_true rfl) (by simp only [stp, grp, stpH, hk, h, if_false, Bool.false_eq_true])), fun q => absurd q.1 h⟩
theorem w_zast {i x : Int32} {k m : Nat} (he : cdx (mC mi) pc = some (pc0, .bastore, n, a, b, c, p, t)) (hk : K[k]? = some (.inl (.boolean, m))) (hp : pc + n = pc') : wp X d mi pc ls (.int x :: .int i :: .ref k :: st) (K, R, I, L) Q ↔ ((inA i m = true ∧ fits .boolean (.int x) = true) ∧ wp X d mi pc' ls (st) (K, R, updR I k i.toNatClampNeg x, L) Q) := by
  subst hp
  by_cases h : (inA i m = true ∧ fits .boolean (.int x) = true)
  · rw [wp_stp he (Nat.le_of_ble_eq_true rfl) (show stp X _ pc ls _ (K, R, I, L) = some (pc + n, ls, st, (K, R, updR I k i.toNatClampNeg x, L)) by simp only [stp, grp, stpH, hk, h, and_self, if_true])]
    exact ⟨fun q => ⟨h, q⟩, fun q => q.2⟩
  · exact ⟨fun q => absurd q (wp_stuck he (Nat.le_of_ble_eq_true rfl) (by simp only [stp, grp, stpH, hk, h, if_false])), fun q => absurd q.1 h⟩
theorem w_last {i : Int32} {x : Int64} {k m : Nat} (he : cdx (mC mi) pc = some (pc0, .lastore, n, a, b, c, p, t)) (hk : K[k]? = some (.inl (.long, m))) (hp : pc + n = pc') : wp X d mi pc ls (.long x :: .int i :: .ref k :: st) (K, R, I, L) Q ↔ (inA i m = true ∧ wp X d mi pc' ls (st) (K, R, I, updR L k i.toNatClampNeg x) Q) := by
  subst hp
  by_cases h : inA i m = true
  · rw [wp_stp he (Nat.le_of_ble_eq_true rfl) (show stp X _ pc ls _ (K, R, I, L) = some (pc + n, ls, st, (K, R, I, updR L k i.toNatClampNeg x)) by simp only [stp, grp, stpH, hk, h, if_true])]
    exact ⟨fun q => ⟨h, q⟩, fun q => q.2⟩
  · exact ⟨fun q => absurd q (wp_stuck he (Nat.le_of_ble_eq_true rfl) (by simp only [stp, grp, stpH, hk, h, if_false, Bool.false_eq_true])), fun q => absurd q.1 h⟩
theorem w_alen {k m : Nat} {ty : FieldType} {v : Int32} (he : cdx (mC mi) pc = some (pc0, .arraylength, n, a, b, c, p, t)) (hk : K[k]? = some (.inl (ty, m))) (hv : Int32.ofNat m = v) (hp : pc + n = pc') : wp X d mi pc ls (.ref k :: st) (K, R, I, L) Q ↔ wp X d mi pc' ls (.int v :: st) (K, R, I, L) Q := by
  subst hp
  exact wp_stp he (Nat.le_of_ble_eq_true rfl) (by simp only [stp, grp, stpH, hk, hv])
theorem w_alen_c {k m : Nat} {f : Nat → Int32} {v : Int32} (he : cdx (mC mi) pc = some (pc0, .arraylength, n, a, b, c, p, t)) (hk : K[k]? = none) (hc : cInts X k = some (m, f)) (hv : Int32.ofNat m = v) (hp : pc + n = pc') : wp X d mi pc ls (.ref k :: st) (K, R, I, L) Q ↔ wp X d mi pc' ls (.int v :: st) (K, R, I, L) Q := by
  subst hp
  exact wp_stp he (Nat.le_of_ble_eq_true rfl) (by simp only [stp, grp, stpH, hk, hc, hv])
theorem w_alen_b {k m : Nat} {f : Nat → Int32} {v : Int32} (he : cdx (mC mi) pc = some (pc0, .arraylength, n, a, b, c, p, t)) (hk : K[k]? = none) (hi : cInts X k = none) (hc : cByts k = some (m, f)) (hv : Int32.ofNat m = v) (hp : pc + n = pc') : wp X d mi pc ls (.ref k :: st) (K, R, I, L) Q ↔ wp X d mi pc' ls (.int v :: st) (K, R, I, L) Q := by
  subst hp
  exact wp_stp he (Nat.le_of_ble_eq_true rfl) (by simp only [stp, grp, stpH, hk, hi, hc, hv])
theorem w_copy_i {ix k0 k1 m0 m1 : Nat} {sp dp z : Int32} (he : cdx (mC mi) pc = some (pc0, .invokestatic ix, n, a, b, 20, p, t)) (hk0 : K[k0]? = some (.inl (.int, m0))) (hk1 : K[k1]? = some (.inl (.int, m1))) (hs : sWord st = true) (hp : pc + n = pc') : wp X d mi pc ls (.int z :: .int dp :: .ref k1 :: .int sp :: .ref k0 :: st) (K, R, I, L) Q ↔ ((¬ sp < 0 ∧ ¬ dp < 0 ∧ ¬ z < 0 ∧ sp.toNatClampNeg + z.toNatClampNeg ≤ m0 ∧ dp.toNatClampNeg + z.toNatClampNeg ≤ m1) ∧ wp X d mi pc' ls st (K, R, cpyR I k0 sp.toNatClampNeg k1 dp.toNatClampNeg z.toNatClampNeg, L) Q) := by
  subst hp
  by_cases h : (¬ sp < 0 ∧ ¬ dp < 0 ∧ ¬ z < 0 ∧ sp.toNatClampNeg + z.toNatClampNeg ≤ m0 ∧ dp.toNatClampNeg + z.toNatClampNeg ≤ m1)
  · rw [wp_stp he (Nat.le_of_ble_eq_true rfl) (show stp X _ pc ls _ (K, R, I, L) = some (pc + n, ls, st, (K, R, cpyR I k0 sp.toNatClampNeg k1 dp.toNatClampNeg z.toNatClampNeg, L)) by simp only [stp, grp, stpN, if_neg (show ¬ (20 : Nat) < 20 by decide), hk0, hk1, hs, h, and_self, not_false_eq_true, if_true])]
    exact ⟨fun q => ⟨h, q⟩, fun q => q.2⟩
  · exact ⟨fun q => absurd q (wp_stuck he (Nat.le_of_ble_eq_true rfl) (by simp only [stp, grp, stpN, if_neg (show ¬ (20 : Nat) < 20 by decide), hk0, hk1, hs, h, true_and, if_false])), fun q => absurd q.1 h⟩
theorem w_copy_l {ix k0 k1 m0 m1 : Nat} {sp dp z : Int32} (he : cdx (mC mi) pc = some (pc0, .invokestatic ix, n, a, b, 20, p, t)) (hk0 : K[k0]? = some (.inl (.long, m0))) (hk1 : K[k1]? = some (.inl (.long, m1))) (hs : sWord st = true) (hp : pc + n = pc') : wp X d mi pc ls (.int z :: .int dp :: .ref k1 :: .int sp :: .ref k0 :: st) (K, R, I, L) Q ↔ ((¬ sp < 0 ∧ ¬ dp < 0 ∧ ¬ z < 0 ∧ sp.toNatClampNeg + z.toNatClampNeg ≤ m0 ∧ dp.toNatClampNeg + z.toNatClampNeg ≤ m1) ∧ wp X d mi pc' ls st (K, R, I, cpyR L k0 sp.toNatClampNeg k1 dp.toNatClampNeg z.toNatClampNeg) Q) := by
  subst hp
  by_cases h : (¬ sp < 0 ∧ ¬ dp < 0 ∧ ¬ z < 0 ∧ sp.toNatClampNeg + z.toNatClampNeg ≤ m0 ∧ dp.toNatClampNeg + z.toNatClampNeg ≤ m1)
  · rw [wp_stp he (Nat.le_of_ble_eq_true rfl) (show stp X _ pc ls _ (K, R, I, L) = some (pc + n, ls, st, (K, R, I, cpyR L k0 sp.toNatClampNeg k1 dp.toNatClampNeg z.toNatClampNeg)) by simp only [stp, grp, stpN, if_neg (show ¬ (20 : Nat) < 20 by decide), hk0, hk1, hs, h, and_self, not_false_eq_true, if_true])]
    exact ⟨fun q => ⟨h, q⟩, fun q => q.2⟩
  · exact ⟨fun q => absurd q (wp_stuck he (Nat.le_of_ble_eq_true rfl) (by simp only [stp, grp, stpN, if_neg (show ¬ (20 : Nat) < 20 by decide), hk0, hk1, hs, h, true_and, if_false])), fun q => absurd q.1 h⟩
theorem w_callv {ix k ci y : Nat} {z : Int} {vs rest : List Value} {mj : MI} {ls0 : XL} (he : cdx (mC mi) pc = some (pc0, .invokevirtual ix, n, a, b, c, p, [(z, y)])) (hm : mtab[a]? = some mj) (hd : st.drop b = .ref k :: rest) (hb : b < st.length) (hw : sWord rest = true) (hk : w.1[k]? = some (.inr ci)) (hz : z = (ci : Int)) (hv : .ref k :: (st.take b).reverse = vs) (hl : (entL vs).length ≤ mL mj) (h0 : entX (mL mj) vs = ls0) (hp : pc + 3 = pc') : wp X (d + 1) mi pc ls st w Q ↔ wp X d mj 0 ls0 [] w (fun r w1 => wp X (d + 1) mi pc' ls (r.toList ++ rest) w1 Q) := by
  subst hp; subst h0; subst hv
  exact wp_call he rfl (by simp only [cll, hd, hb, hw, recvOk, hk, hz, decide_true, and_self, if_true]) hm hl
theorem w_calls {ix k y : Nat} {vs rest : List Value} {mj : MI} {ls0 : XL} (he : cdx (mC mi) pc = some (pc0, .invokevirtual ix, n, a, b, c, p, [(99, y)])) (hm : mtab[a]? = some mj) (hd : st.drop b = .ref k :: rest) (hb : b < st.length) (hw : sWord rest = true) (hk : w.1[k]? = none) (hr : 1000000 ≤ k ∧ k < 1000008) (hv : .ref k :: (st.take b).reverse = vs) (hl : (entL vs).length ≤ mL mj) (h0 : entX (mL mj) vs = ls0) (hp : pc + 3 = pc') : wp X (d + 1) mi pc ls st w Q ↔ wp X d mj 0 ls0 [] w (fun r w1 => wp X (d + 1) mi pc' ls (r.toList ++ rest) w1 Q) := by
  subst hp; subst h0; subst hv
  exact wp_call he rfl (by simp only [cll, hd, hb, hw, recvOk, hk, hr.1, hr.2, decide_true, and_self, if_true]) hm hl
theorem w_callst {ix : Nat} {vs rest : List Value} {mj : MI} {ls0 : XL} (he : cdx (mC mi) pc = some (pc0, .invokestatic ix, n, a, b, c, p, t)) (hc : c < 20) (hm : mtab[a]? = some mj) (hd : st.drop b = rest) (hb : b ≤ st.length) (hw : sWord rest = true) (hv : (st.take b).reverse = vs) (hl : (entL vs).length ≤ mL mj) (h0 : entX (mL mj) vs = ls0) (hp : pc + 3 = pc') : wp X (d + 1) mi pc ls st w Q ↔ wp X d mj 0 ls0 [] w (fun r w1 => wp X (d + 1) mi pc' ls (r.toList ++ rest) w1 Q) := by
  subst hp; subst h0; subst hv; subst hd
  exact wp_call he (by simp only [grp, hc, if_true]) (by simp only [cll, hb, hw, and_self, if_true]) hm hl
theorem w_iret {x : Int32} (he : cdx (mC mi) pc = some (pc0, .ireturn, n, a, b, c, p, t)) (hr : mR mi = some .int) : wp X d mi pc ls [.int x] w Q ↔ Q (some (.int x)) w := wp_ret he rfl (by simp only [rtn, hr])
theorem w_zret {x : Int32} {ty : FieldType} (he : cdx (mC mi) pc = some (pc0, .ireturn, n, a, b, c, p, t)) (hr : mR mi = some ty) (hi : ty ≠ .int) : wp X d mi pc ls [.int x] w Q ↔ (fits ty (.int x) = true ∧ Q (some (.int x)) w) := by
  have hq : rtn (mR mi) (pc0, .ireturn, n, a, b, c, p, t) [.int x] = if fits ty (.int x) = true then some (some (.int x)) else none := by
    rw [hr]
    cases ty <;> first | rfl | exact absurd rfl hi
  by_cases h : fits ty (.int x) = true
  · rw [if_pos h] at hq
    rw [wp_ret he rfl hq]
    exact ⟨fun q => ⟨h, q⟩, fun q => q.2⟩
  · rw [if_neg h] at hq
    refine ⟨fun ⟨n1, r, w1, h1, h2⟩ => ?_, fun q => absurd q.1 h⟩
    cases n1 with
    | zero => cases h1
    | succ n1 =>
      rw [exec, he] at h1
      dsimp only at h1
      rw [show grp (pc0, Instr.ireturn, n, a, b, c, p, t) = 5 from rfl, hq] at h1
      cases h1
theorem w_lret {x : Int64} (he : cdx (mC mi) pc = some (pc0, .lreturn, n, a, b, c, p, t)) (hr : mR mi = some .long) : wp X d mi pc ls [.long x] w Q ↔ Q (some (.long x)) w := wp_ret he rfl (by simp only [rtn, hr])
theorem w_aret {x : Nat} {C : String} (he : cdx (mC mi) pc = some (pc0, .areturn, n, a, b, c, p, t)) (hr : mR mi = some (.object C)) : wp X d mi pc ls [.ref x] w Q ↔ Q (some (.ref x)) w := wp_ret he rfl (by simp only [rtn, hr])
theorem w_aretN {C : String} (he : cdx (mC mi) pc = some (pc0, .areturn, n, a, b, c, p, t)) (hr : mR mi = some (.object C)) : wp X d mi pc ls [.null] w Q ↔ Q (some .null) w := wp_ret he rfl (by simp only [rtn, hr])
theorem w_vret (he : cdx (mC mi) pc = some (pc0, .return_, n, a, b, c, p, t)) (hr : mR mi = none) : wp X d mi pc ls [] w Q ↔ Q none w := wp_ret he rfl (by simp only [rtn, hr])
end RULES
end
