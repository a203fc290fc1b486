section
-- ===== PART A: goes FIRST, ahead of the names: the tables' words, and 'selects' of the private methods out of them =====
/-- a private method of a class that the tables say can be made, by its rows of tables_1 -/
def lw_okq (q : MethodName × Nat) : Prop := (q.1.cls ≠ "java/lang/invoke/MethodHandle" ∧ q.1.cls ≠ "java/lang/invoke/VarHandle") ∧ Cond.instantiable q.1.cls q.2 ∈ tables_1 ∧ Cond.privateMethod q.1 ∈ tables_1 ∧ Cond.instanceMethod q.1 ∈ tables_1
theorem lw_p0 : lw_okq (⟨"OfficeLadder$Republic", "tie", "(II)V"⟩, 9) := ⟨⟨by decide +kernel, by decide +kernel⟩, List.mem_of_getElem? (i := 28) (by decide +kernel), List.mem_of_getElem? (i := 353) (by decide +kernel), List.mem_of_getElem? (i := 354) (by decide +kernel)⟩
theorem lw_p1 : lw_okq (⟨"OfficeLadder$Filler", "addSlots", "(LOfficeLadder$Office;II)V"⟩, 15) := ⟨⟨by decide +kernel, by decide +kernel⟩, List.mem_of_getElem? (i := 103) (by decide +kernel), List.mem_of_getElem? (i := 564) (by decide +kernel), List.mem_of_getElem? (i := 565) (by decide +kernel)⟩
theorem lw_p2 : lw_okq (⟨"OfficeLadder$Filler", "place", "(LOfficeLadder$Republic;I)V"⟩, 15) := ⟨⟨by decide +kernel, by decide +kernel⟩, List.mem_of_getElem? (i := 103) (by decide +kernel), List.mem_of_getElem? (i := 578) (by decide +kernel), List.mem_of_getElem? (i := 579) (by decide +kernel)⟩
theorem lw_p3 : lw_okq (⟨"OfficeLadder$Filler", "tellFound", "()V"⟩, 15) := ⟨⟨by decide +kernel, by decide +kernel⟩, List.mem_of_getElem? (i := 103) (by decide +kernel), List.mem_of_getElem? (i := 582) (by decide +kernel), List.mem_of_getElem? (i := 583) (by decide +kernel)⟩
theorem lw_p4 : lw_okq (⟨"OfficeLadder$Filler", "isOver", "()Z"⟩, 15) := ⟨⟨by decide +kernel, by decide +kernel⟩, List.mem_of_getElem? (i := 103) (by decide +kernel), List.mem_of_getElem? (i := 586) (by decide +kernel), List.mem_of_getElem? (i := 587) (by decide +kernel)⟩
theorem lw_p5 : lw_okq (⟨"OfficeLadder$Filler", "fits", "(LOfficeLadder$Republic;II)Z"⟩, 15) := ⟨⟨by decide +kernel, by decide +kernel⟩, List.mem_of_getElem? (i := 103) (by decide +kernel), List.mem_of_getElem? (i := 590) (by decide +kernel), List.mem_of_getElem? (i := 591) (by decide +kernel)⟩
theorem lw_p6 : lw_okq (⟨"OfficeLadder$Filler", "takeAndGoOn", "(LOfficeLadder$Republic;II)V"⟩, 15) := ⟨⟨by decide +kernel, by decide +kernel⟩, List.mem_of_getElem? (i := 103) (by decide +kernel), List.mem_of_getElem? (i := 594) (by decide +kernel), List.mem_of_getElem? (i := 595) (by decide +kernel)⟩
theorem lw_p7 : lw_okq (⟨"OfficeLadder$Election", "begin", "(J)V"⟩, 11) := ⟨⟨by decide +kernel, by decide +kernel⟩, List.mem_of_getElem? (i := 161) (by decide +kernel), List.mem_of_getElem? (i := 648) (by decide +kernel), List.mem_of_getElem? (i := 649) (by decide +kernel)⟩
theorem lw_p8 : lw_okq (⟨"OfficeLadder$Election", "countUnit", "(I)V"⟩, 11) := ⟨⟨by decide +kernel, by decide +kernel⟩, List.mem_of_getElem? (i := 161) (by decide +kernel), List.mem_of_getElem? (i := 655) (by decide +kernel), List.mem_of_getElem? (i := 656) (by decide +kernel)⟩
theorem lw_p9 : lw_okq (⟨"OfficeLadder$Election", "elect", "(II)V"⟩, 11) := ⟨⟨by decide +kernel, by decide +kernel⟩, List.mem_of_getElem? (i := 161) (by decide +kernel), List.mem_of_getElem? (i := 659) (by decide +kernel), List.mem_of_getElem? (i := 660) (by decide +kernel)⟩
theorem lw_p10 : lw_okq (⟨"OfficeLadder$Election", "electRest", "()V"⟩, 11) := ⟨⟨by decide +kernel, by decide +kernel⟩, List.mem_of_getElem? (i := 161) (by decide +kernel), List.mem_of_getElem? (i := 663) (by decide +kernel), List.mem_of_getElem? (i := 664) (by decide +kernel)⟩
theorem lw_p11 : lw_okq (⟨"OfficeLadder$Election", "bestOfRest", "()I"⟩, 11) := ⟨⟨by decide +kernel, by decide +kernel⟩, List.mem_of_getElem? (i := 161) (by decide +kernel), List.mem_of_getElem? (i := 667) (by decide +kernel), List.mem_of_getElem? (i := 668) (by decide +kernel)⟩
theorem lw_p12 : lw_okq (⟨"OfficeLadder$Election", "isElected", "(I)Z"⟩, 11) := ⟨⟨by decide +kernel, by decide +kernel⟩, List.mem_of_getElem? (i := 161) (by decide +kernel), List.mem_of_getElem? (i := 671) (by decide +kernel), List.mem_of_getElem? (i := 672) (by decide +kernel)⟩
theorem lw_p13 : lw_okq (⟨"OfficeLadder$Election", "isAhead", "(II)Z"⟩, 11) := ⟨⟨by decide +kernel, by decide +kernel⟩, List.mem_of_getElem? (i := 161) (by decide +kernel), List.mem_of_getElem? (i := 675) (by decide +kernel), List.mem_of_getElem? (i := 676) (by decide +kernel)⟩
theorem lw_p14 : lw_okq (⟨"OfficeLadder$Election", "lead", "()I"⟩, 11) := ⟨⟨by decide +kernel, by decide +kernel⟩, List.mem_of_getElem? (i := 161) (by decide +kernel), List.mem_of_getElem? (i := 687) (by decide +kernel), List.mem_of_getElem? (i := 688) (by decide +kernel)⟩
theorem lw_p15 : lw_okq (⟨"OfficeLadder$Shelf", "become", "(II)V"⟩, 5) := ⟨⟨by decide +kernel, by decide +kernel⟩, List.mem_of_getElem? (i := 206) (by decide +kernel), List.mem_of_getElem? (i := 719) (by decide +kernel), List.mem_of_getElem? (i := 720) (by decide +kernel)⟩
def lw_privs_1 : List (MethodName × Nat) := [(⟨"OfficeLadder$Republic", "tie", "(II)V"⟩, 9), (⟨"OfficeLadder$Filler", "addSlots", "(LOfficeLadder$Office;II)V"⟩, 15), (⟨"OfficeLadder$Filler", "place", "(LOfficeLadder$Republic;I)V"⟩, 15), (⟨"OfficeLadder$Filler", "tellFound", "()V"⟩, 15), (⟨"OfficeLadder$Filler", "isOver", "()Z"⟩, 15), (⟨"OfficeLadder$Filler", "fits", "(LOfficeLadder$Republic;II)Z"⟩, 15), (⟨"OfficeLadder$Filler", "takeAndGoOn", "(LOfficeLadder$Republic;II)V"⟩, 15), (⟨"OfficeLadder$Election", "begin", "(J)V"⟩, 11), (⟨"OfficeLadder$Election", "countUnit", "(I)V"⟩, 11), (⟨"OfficeLadder$Election", "elect", "(II)V"⟩, 11), (⟨"OfficeLadder$Election", "electRest", "()V"⟩, 11), (⟨"OfficeLadder$Election", "bestOfRest", "()I"⟩, 11), (⟨"OfficeLadder$Election", "isElected", "(I)Z"⟩, 11), (⟨"OfficeLadder$Election", "isAhead", "(II)Z"⟩, 11), (⟨"OfficeLadder$Election", "lead", "()I"⟩, 11), (⟨"OfficeLadder$Shelf", "become", "(II)V"⟩, 5)]
theorem lw_r1 : ∀ q ∈ lw_privs_1, lw_okq q := List.forall_mem_cons.mpr ⟨lw_p0, List.forall_mem_cons.mpr ⟨lw_p1, List.forall_mem_cons.mpr ⟨lw_p2, List.forall_mem_cons.mpr ⟨lw_p3, List.forall_mem_cons.mpr ⟨lw_p4, List.forall_mem_cons.mpr ⟨lw_p5, List.forall_mem_cons.mpr ⟨lw_p6, List.forall_mem_cons.mpr ⟨lw_p7, List.forall_mem_cons.mpr ⟨lw_p8, List.forall_mem_cons.mpr ⟨lw_p9, List.forall_mem_cons.mpr ⟨lw_p10, List.forall_mem_cons.mpr ⟨lw_p11, List.forall_mem_cons.mpr ⟨lw_p12, List.forall_mem_cons.mpr ⟨lw_p13, List.forall_mem_cons.mpr ⟨lw_p14, List.forall_mem_cons.mpr ⟨lw_p15, fun _ h => absurd h List.not_mem_nil⟩⟩⟩⟩⟩⟩⟩⟩⟩⟩⟩⟩⟩⟩⟩⟩
theorem lw_p16 : lw_okq (⟨"OfficeLadder", "refusalOfLaw", "(I)I"⟩, 5) := ⟨⟨by decide +kernel, by decide +kernel⟩, List.mem_of_getElem? (i := 20) (by decide +kernel), List.mem_of_getElem? (i := 769) (by decide +kernel), List.mem_of_getElem? (i := 770) (by decide +kernel)⟩
theorem lw_p17 : lw_okq (⟨"java/lang/Throwable", "fillInStackTrace", "(I)Ljava/lang/Throwable;"⟩, 6) := ⟨⟨by decide +kernel, by decide +kernel⟩, List.mem_of_getElem? (i := 827) (by decide +kernel), List.mem_of_getElem? (i := 825) (by decide +kernel), List.mem_of_getElem? (i := 826) (by decide +kernel)⟩
theorem lw_p18 : lw_okq (⟨"OfficeLadderModel", "in", "(III)Z"⟩, 45) := ⟨⟨by decide +kernel, by decide +kernel⟩, List.mem_of_getElem? (i := 892) (by decide +kernel), List.mem_of_getElem? (i := 1038) (by decide +kernel), List.mem_of_getElem? (i := 1039) (by decide +kernel)⟩
theorem lw_p19 : lw_okq (⟨"OfficeLadderModel", "isSpan", "(II)Z"⟩, 45) := ⟨⟨by decide +kernel, by decide +kernel⟩, List.mem_of_getElem? (i := 892) (by decide +kernel), List.mem_of_getElem? (i := 1046) (by decide +kernel), List.mem_of_getElem? (i := 1047) (by decide +kernel)⟩
theorem lw_p20 : lw_okq (⟨"OfficeLadderModel", "isPerson", "(I)Z"⟩, 45) := ⟨⟨by decide +kernel, by decide +kernel⟩, List.mem_of_getElem? (i := 892) (by decide +kernel), List.mem_of_getElem? (i := 1054) (by decide +kernel), List.mem_of_getElem? (i := 1055) (by decide +kernel)⟩
theorem lw_p21 : lw_okq (⟨"OfficeLadderModel", "isYear", "(I)Z"⟩, 45) := ⟨⟨by decide +kernel, by decide +kernel⟩, List.mem_of_getElem? (i := 892) (by decide +kernel), List.mem_of_getElem? (i := 1062) (by decide +kernel), List.mem_of_getElem? (i := 1063) (by decide +kernel)⟩
theorem lw_p22 : lw_okq (⟨"OfficeLadderModel", "isOffice", "(I)Z"⟩, 45) := ⟨⟨by decide +kernel, by decide +kernel⟩, List.mem_of_getElem? (i := 892) (by decide +kernel), List.mem_of_getElem? (i := 1074) (by decide +kernel), List.mem_of_getElem? (i := 1075) (by decide +kernel)⟩
theorem lw_p23 : lw_okq (⟨"OfficeLadderModel", "at", "(III)I"⟩, 45) := ⟨⟨by decide +kernel, by decide +kernel⟩, List.mem_of_getElem? (i := 892) (by decide +kernel), List.mem_of_getElem? (i := 1086) (by decide +kernel), List.mem_of_getElem? (i := 1087) (by decide +kernel)⟩
theorem lw_p24 : lw_okq (⟨"OfficeLadderModel", "put", "(III)V"⟩, 45) := ⟨⟨by decide +kernel, by decide +kernel⟩, List.mem_of_getElem? (i := 892) (by decide +kernel), List.mem_of_getElem? (i := 1090) (by decide +kernel), List.mem_of_getElem? (i := 1091) (by decide +kernel)⟩
theorem lw_p25 : lw_okq (⟨"OfficeLadderModel", "isSeat", "(III)Z"⟩, 45) := ⟨⟨by decide +kernel, by decide +kernel⟩, List.mem_of_getElem? (i := 892) (by decide +kernel), List.mem_of_getElem? (i := 1098) (by decide +kernel), List.mem_of_getElem? (i := 1099) (by decide +kernel)⟩
theorem lw_p26 : lw_okq (⟨"OfficeLadderModel", "clear", "(II)I"⟩, 45) := ⟨⟨by decide +kernel, by decide +kernel⟩, List.mem_of_getElem? (i := 892) (by decide +kernel), List.mem_of_getElem? (i := 1102) (by decide +kernel), List.mem_of_getElem? (i := 1103) (by decide +kernel)⟩
theorem lw_p27 : lw_okq (⟨"OfficeLadderModel", "officeAt", "(I)I"⟩, 45) := ⟨⟨by decide +kernel, by decide +kernel⟩, List.mem_of_getElem? (i := 892) (by decide +kernel), List.mem_of_getElem? (i := 1118) (by decide +kernel), List.mem_of_getElem? (i := 1119) (by decide +kernel)⟩
theorem lw_p28 : lw_okq (⟨"OfficeLadderModel", "hasHeld", "(III)Z"⟩, 45) := ⟨⟨by decide +kernel, by decide +kernel⟩, List.mem_of_getElem? (i := 892) (by decide +kernel), List.mem_of_getElem? (i := 1126) (by decide +kernel), List.mem_of_getElem? (i := 1127) (by decide +kernel)⟩
theorem lw_p29 : lw_okq (⟨"OfficeLadderModel", "couldBe", "(III)I"⟩, 45) := ⟨⟨by decide +kernel, by decide +kernel⟩, List.mem_of_getElem? (i := 892) (by decide +kernel), List.mem_of_getElem? (i := 1134) (by decide +kernel), List.mem_of_getElem? (i := 1135) (by decide +kernel)⟩
theorem lw_p30 : lw_okq (⟨"OfficeLadderModel", "barOf", "(III)I"⟩, 45) := ⟨⟨by decide +kernel, by decide +kernel⟩, List.mem_of_getElem? (i := 892) (by decide +kernel), List.mem_of_getElem? (i := 1138) (by decide +kernel), List.mem_of_getElem? (i := 1139) (by decide +kernel)⟩
theorem lw_p31 : lw_okq (⟨"OfficeLadderModel", "isInForce", "(III)Z"⟩, 45) := ⟨⟨by decide +kernel, by decide +kernel⟩, List.mem_of_getElem? (i := 892) (by decide +kernel), List.mem_of_getElem? (i := 1142) (by decide +kernel), List.mem_of_getElem? (i := 1143) (by decide +kernel)⟩
def lw_privs_2 : List (MethodName × Nat) := [(⟨"OfficeLadder", "refusalOfLaw", "(I)I"⟩, 5), (⟨"java/lang/Throwable", "fillInStackTrace", "(I)Ljava/lang/Throwable;"⟩, 6), (⟨"OfficeLadderModel", "in", "(III)Z"⟩, 45), (⟨"OfficeLadderModel", "isSpan", "(II)Z"⟩, 45), (⟨"OfficeLadderModel", "isPerson", "(I)Z"⟩, 45), (⟨"OfficeLadderModel", "isYear", "(I)Z"⟩, 45), (⟨"OfficeLadderModel", "isOffice", "(I)Z"⟩, 45), (⟨"OfficeLadderModel", "at", "(III)I"⟩, 45), (⟨"OfficeLadderModel", "put", "(III)V"⟩, 45), (⟨"OfficeLadderModel", "isSeat", "(III)Z"⟩, 45), (⟨"OfficeLadderModel", "clear", "(II)I"⟩, 45), (⟨"OfficeLadderModel", "officeAt", "(I)I"⟩, 45), (⟨"OfficeLadderModel", "hasHeld", "(III)Z"⟩, 45), (⟨"OfficeLadderModel", "couldBe", "(III)I"⟩, 45), (⟨"OfficeLadderModel", "barOf", "(III)I"⟩, 45), (⟨"OfficeLadderModel", "isInForce", "(III)Z"⟩, 45)]
theorem lw_r2 : ∀ q ∈ lw_privs_2, lw_okq q := List.forall_mem_cons.mpr ⟨lw_p16, List.forall_mem_cons.mpr ⟨lw_p17, List.forall_mem_cons.mpr ⟨lw_p18, List.forall_mem_cons.mpr ⟨lw_p19, List.forall_mem_cons.mpr ⟨lw_p20, List.forall_mem_cons.mpr ⟨lw_p21, List.forall_mem_cons.mpr ⟨lw_p22, List.forall_mem_cons.mpr ⟨lw_p23, List.forall_mem_cons.mpr ⟨lw_p24, List.forall_mem_cons.mpr ⟨lw_p25, List.forall_mem_cons.mpr ⟨lw_p26, List.forall_mem_cons.mpr ⟨lw_p27, List.forall_mem_cons.mpr ⟨lw_p28, List.forall_mem_cons.mpr ⟨lw_p29, List.forall_mem_cons.mpr ⟨lw_p30, List.forall_mem_cons.mpr ⟨lw_p31, fun _ h => absurd h List.not_mem_nil⟩⟩⟩⟩⟩⟩⟩⟩⟩⟩⟩⟩⟩⟩⟩⟩
theorem lw_p32 : lw_okq (⟨"OfficeLadderModel", "bars", "(IIII)Z"⟩, 45) := ⟨⟨by decide +kernel, by decide +kernel⟩, List.mem_of_getElem? (i := 892) (by decide +kernel), List.mem_of_getElem? (i := 1146) (by decide +kernel), List.mem_of_getElem? (i := 1147) (by decide +kernel)⟩
theorem lw_p33 : lw_okq (⟨"OfficeLadderModel", "heldWithin", "(IIII)Z"⟩, 45) := ⟨⟨by decide +kernel, by decide +kernel⟩, List.mem_of_getElem? (i := 892) (by decide +kernel), List.mem_of_getElem? (i := 1150) (by decide +kernel), List.mem_of_getElem? (i := 1151) (by decide +kernel)⟩
theorem lw_p34 : lw_okq (⟨"OfficeLadderModel", "hasKin", "(III)Z"⟩, 45) := ⟨⟨by decide +kernel, by decide +kernel⟩, List.mem_of_getElem? (i := 892) (by decide +kernel), List.mem_of_getElem? (i := 1154) (by decide +kernel), List.mem_of_getElem? (i := 1155) (by decide +kernel)⟩
theorem lw_p35 : lw_okq (⟨"OfficeLadderModel", "isKin", "(II)Z"⟩, 45) := ⟨⟨by decide +kernel, by decide +kernel⟩, List.mem_of_getElem? (i := 892) (by decide +kernel), List.mem_of_getElem? (i := 1158) (by decide +kernel), List.mem_of_getElem? (i := 1159) (by decide +kernel)⟩
theorem lw_p36 : lw_okq (⟨"OfficeLadderModel", "goThrough", "(I)I"⟩, 45) := ⟨⟨by decide +kernel, by decide +kernel⟩, List.mem_of_getElem? (i := 892) (by decide +kernel), List.mem_of_getElem? (i := 1174) (by decide +kernel), List.mem_of_getElem? (i := 1175) (by decide +kernel)⟩
theorem lw_p37 : lw_okq (⟨"OfficeLadderModel", "isRight", "(III)Z"⟩, 45) := ⟨⟨by decide +kernel, by decide +kernel⟩, List.mem_of_getElem? (i := 892) (by decide +kernel), List.mem_of_getElem? (i := 1178) (by decide +kernel), List.mem_of_getElem? (i := 1179) (by decide +kernel)⟩
theorem lw_p38 : lw_okq (⟨"OfficeLadderModel", "fillYear", "(IZ)I"⟩, 45) := ⟨⟨by decide +kernel, by decide +kernel⟩, List.mem_of_getElem? (i := 892) (by decide +kernel), List.mem_of_getElem? (i := 1190) (by decide +kernel), List.mem_of_getElem? (i := 1191) (by decide +kernel)⟩
theorem lw_p39 : lw_okq (⟨"OfficeLadderModel", "areAllRight", "(I)Z"⟩, 45) := ⟨⟨by decide +kernel, by decide +kernel⟩, List.mem_of_getElem? (i := 892) (by decide +kernel), List.mem_of_getElem? (i := 1194) (by decide +kernel), List.mem_of_getElem? (i := 1195) (by decide +kernel)⟩
theorem lw_p40 : lw_okq (⟨"OfficeLadderModel", "isAmong", "()Z"⟩, 45) := ⟨⟨by decide +kernel, by decide +kernel⟩, List.mem_of_getElem? (i := 892) (by decide +kernel), List.mem_of_getElem? (i := 1198) (by decide +kernel), List.mem_of_getElem? (i := 1199) (by decide +kernel)⟩
theorem lw_p41 : lw_okq (⟨"OfficeLadderModel", "takeBack", "(II)V"⟩, 45) := ⟨⟨by decide +kernel, by decide +kernel⟩, List.mem_of_getElem? (i := 892) (by decide +kernel), List.mem_of_getElem? (i := 1202) (by decide +kernel), List.mem_of_getElem? (i := 1203) (by decide +kernel)⟩
theorem lw_p42 : lw_okq (⟨"OfficeLadderModel", "voted", "()I"⟩, 45) := ⟨⟨by decide +kernel, by decide +kernel⟩, List.mem_of_getElem? (i := 892) (by decide +kernel), List.mem_of_getElem? (i := 1218) (by decide +kernel), List.mem_of_getElem? (i := 1219) (by decide +kernel)⟩
theorem lw_p43 : lw_okq (⟨"OfficeLadderModel", "ones", "(I)I"⟩, 45) := ⟨⟨by decide +kernel, by decide +kernel⟩, List.mem_of_getElem? (i := 892) (by decide +kernel), List.mem_of_getElem? (i := 1226) (by decide +kernel), List.mem_of_getElem? (i := 1227) (by decide +kernel)⟩
theorem lw_p44 : lw_okq (⟨"OfficeLadderModel", "elect", "(J)V"⟩, 45) := ⟨⟨by decide +kernel, by decide +kernel⟩, List.mem_of_getElem? (i := 892) (by decide +kernel), List.mem_of_getElem? (i := 1234) (by decide +kernel), List.mem_of_getElem? (i := 1235) (by decide +kernel)⟩
theorem lw_p45 : lw_okq (⟨"OfficeLadderModel", "draw", "(IJ)V"⟩, 45) := ⟨⟨by decide +kernel, by decide +kernel⟩, List.mem_of_getElem? (i := 892) (by decide +kernel), List.mem_of_getElem? (i := 1238) (by decide +kernel), List.mem_of_getElem? (i := 1239) (by decide +kernel)⟩
theorem lw_p46 : lw_okq (⟨"OfficeLadderModel", "beginVotes", "()V"⟩, 45) := ⟨⟨by decide +kernel, by decide +kernel⟩, List.mem_of_getElem? (i := 892) (by decide +kernel), List.mem_of_getElem? (i := 1242) (by decide +kernel), List.mem_of_getElem? (i := 1243) (by decide +kernel)⟩
theorem lw_p47 : lw_okq (⟨"OfficeLadderModel", "unitVotes", "(I)V"⟩, 45) := ⟨⟨by decide +kernel, by decide +kernel⟩, List.mem_of_getElem? (i := 892) (by decide +kernel), List.mem_of_getElem? (i := 1246) (by decide +kernel), List.mem_of_getElem? (i := 1247) (by decide +kernel)⟩
def lw_privs_3 : List (MethodName × Nat) := [(⟨"OfficeLadderModel", "bars", "(IIII)Z"⟩, 45), (⟨"OfficeLadderModel", "heldWithin", "(IIII)Z"⟩, 45), (⟨"OfficeLadderModel", "hasKin", "(III)Z"⟩, 45), (⟨"OfficeLadderModel", "isKin", "(II)Z"⟩, 45), (⟨"OfficeLadderModel", "goThrough", "(I)I"⟩, 45), (⟨"OfficeLadderModel", "isRight", "(III)Z"⟩, 45), (⟨"OfficeLadderModel", "fillYear", "(IZ)I"⟩, 45), (⟨"OfficeLadderModel", "areAllRight", "(I)Z"⟩, 45), (⟨"OfficeLadderModel", "isAmong", "()Z"⟩, 45), (⟨"OfficeLadderModel", "takeBack", "(II)V"⟩, 45), (⟨"OfficeLadderModel", "voted", "()I"⟩, 45), (⟨"OfficeLadderModel", "ones", "(I)I"⟩, 45), (⟨"OfficeLadderModel", "elect", "(J)V"⟩, 45), (⟨"OfficeLadderModel", "draw", "(IJ)V"⟩, 45), (⟨"OfficeLadderModel", "beginVotes", "()V"⟩, 45), (⟨"OfficeLadderModel", "unitVotes", "(I)V"⟩, 45)]
theorem lw_r3 : ∀ q ∈ lw_privs_3, lw_okq q := List.forall_mem_cons.mpr ⟨lw_p32, List.forall_mem_cons.mpr ⟨lw_p33, List.forall_mem_cons.mpr ⟨lw_p34, List.forall_mem_cons.mpr ⟨lw_p35, List.forall_mem_cons.mpr ⟨lw_p36, List.forall_mem_cons.mpr ⟨lw_p37, List.forall_mem_cons.mpr ⟨lw_p38, List.forall_mem_cons.mpr ⟨lw_p39, List.forall_mem_cons.mpr ⟨lw_p40, List.forall_mem_cons.mpr ⟨lw_p41, List.forall_mem_cons.mpr ⟨lw_p42, List.forall_mem_cons.mpr ⟨lw_p43, List.forall_mem_cons.mpr ⟨lw_p44, List.forall_mem_cons.mpr ⟨lw_p45, List.forall_mem_cons.mpr ⟨lw_p46, List.forall_mem_cons.mpr ⟨lw_p47, fun _ h => absurd h List.not_mem_nil⟩⟩⟩⟩⟩⟩⟩⟩⟩⟩⟩⟩⟩⟩⟩⟩
theorem lw_p48 : lw_okq (⟨"OfficeLadderModel", "choose", "(II)V"⟩, 45) := ⟨⟨by decide +kernel, by decide +kernel⟩, List.mem_of_getElem? (i := 892) (by decide +kernel), List.mem_of_getElem? (i := 1250) (by decide +kernel), List.mem_of_getElem? (i := 1251) (by decide +kernel)⟩
theorem lw_p49 : lw_okq (⟨"OfficeLadderModel", "ahead", "()I"⟩, 45) := ⟨⟨by decide +kernel, by decide +kernel⟩, List.mem_of_getElem? (i := 892) (by decide +kernel), List.mem_of_getElem? (i := 1258) (by decide +kernel), List.mem_of_getElem? (i := 1259) (by decide +kernel)⟩
theorem lw_p50 : lw_okq (⟨"OfficeLadderModel", "isShelf", "(I)Z"⟩, 45) := ⟨⟨by decide +kernel, by decide +kernel⟩, List.mem_of_getElem? (i := 892) (by decide +kernel), List.mem_of_getElem? (i := 1278) (by decide +kernel), List.mem_of_getElem? (i := 1279) (by decide +kernel)⟩
theorem lw_p51 : lw_okq (⟨"OfficeLadderModel", "wipe", "(I)V"⟩, 45) := ⟨⟨by decide +kernel, by decide +kernel⟩, List.mem_of_getElem? (i := 892) (by decide +kernel), List.mem_of_getElem? (i := 1282) (by decide +kernel), List.mem_of_getElem? (i := 1283) (by decide +kernel)⟩
theorem lw_p52 : lw_okq (⟨"OfficeLadderModel", "lacksLaw", "(I)I"⟩, 45) := ⟨⟨by decide +kernel, by decide +kernel⟩, List.mem_of_getElem? (i := 892) (by decide +kernel), List.mem_of_getElem? (i := 1302) (by decide +kernel), List.mem_of_getElem? (i := 1303) (by decide +kernel)⟩
def lw_privs_4 : List (MethodName × Nat) := [(⟨"OfficeLadderModel", "choose", "(II)V"⟩, 45), (⟨"OfficeLadderModel", "ahead", "()I"⟩, 45), (⟨"OfficeLadderModel", "isShelf", "(I)Z"⟩, 45), (⟨"OfficeLadderModel", "wipe", "(I)V"⟩, 45), (⟨"OfficeLadderModel", "lacksLaw", "(I)I"⟩, 45)]
theorem lw_r4 : ∀ q ∈ lw_privs_4, lw_okq q := List.forall_mem_cons.mpr ⟨lw_p48, List.forall_mem_cons.mpr ⟨lw_p49, List.forall_mem_cons.mpr ⟨lw_p50, List.forall_mem_cons.mpr ⟨lw_p51, List.forall_mem_cons.mpr ⟨lw_p52, fun _ h => absurd h List.not_mem_nil⟩⟩⟩⟩⟩
def lw_privs : List (MethodName × Nat) := lw_privs_1 ++ (lw_privs_2 ++ (lw_privs_3 ++ (lw_privs_4)))
def lw_tbl : List Cond := k2_sels lw_privs ++ tables_1
theorem lw_privs_ok : ∀ q ∈ lw_privs, lw_okq q := by
  show ∀ q ∈ lw_privs_1 ++ (lw_privs_2 ++ (lw_privs_3 ++ (lw_privs_4))), lw_okq q
  exact List.forall_mem_append.mpr ⟨lw_r1, List.forall_mem_append.mpr ⟨lw_r2, List.forall_mem_append.mpr ⟨lw_r3, lw_r4⟩⟩⟩
-- ===== end of PART A; then your names; then what follows =====
end
section
-- names of the program, printed by program
def RX0 : String := "OfficeLadder$Election"
def TX0 : u_T := fun k => match k with
  | 0 => ("OfficeLadder$Election", "candidates", "I", false)
  | 1 => ("OfficeLadder$Election", "seats", "I", false)
  | 2 => ("OfficeLadder$Election", "voted", "I", false)
  | 3 => ("OfficeLadder$Election", "winners", "[I", true)
  | 4 => ("OfficeLadder$Election", "after", "[I", true)
  | 5 => ("OfficeLadder$Election", "electedCount", "I", false)
  | 6 => ("OfficeLadder$Election", "ballots", "[I", true)
  | 7 => ("OfficeLadder$Election", "order", "[I", true)
  | 8 => ("OfficeLadder$Election", "votes", "[I", true)
  | 9 => ("OfficeLadder$Election", "reachedAt", "[I", true)
  | _ => ("OfficeLadder$Election", "ranked", "[I", true)
def tyX0 : Nat → FieldType := fun k => match k with
  | 0 => .int
  | 1 => .int
  | 2 => .int
  | 3 => .array .int
  | 4 => .array .int
  | 5 => .int
  | 6 => .array .int
  | 7 => .array .int
  | 8 => .array .int
  | 9 => .array .int
  | _ => .array .int
theorem nmX0 : ∀ a, a < 11 → ∀ b, b < 11 → a ≠ b → (TX0 a).2.1 ≠ (TX0 b).2.1 := by decide +kernel
theorem tyX0_ok : ∀ k, k < 11 → parseFieldDescriptor (TX0 k).2.2.1 = some (tyX0 k) := by decide +kernel
abbrev cX0_init : ByteArray := prog_2_method_1_code
def yX0_init : MethodName := ⟨RX0, "<init>", "()V"⟩
abbrev cX0_open : ByteArray := prog_2_method_2_code
def yX0_open : MethodName := ⟨RX0, "open", "(II)V"⟩
abbrev cX0_isBallot : ByteArray := prog_2_method_3_code
def yX0_isBallot : MethodName := ⟨RX0, "isBallot", "(I)Z"⟩
abbrev cX0_take : ByteArray := prog_2_method_4_code
def yX0_take : MethodName := ⟨RX0, "take", "(II)Z"⟩
abbrev cX0_run : ByteArray := prog_2_method_5_code
def yX0_run : MethodName := ⟨RX0, "run", "(J)V"⟩
abbrev cX0_sureAfter : ByteArray := prog_2_method_6_code
def yX0_sureAfter : MethodName := ⟨RX0, "sureAfter", "(J)I"⟩
abbrev cX0_begin : ByteArray := prog_2_method_7_code
def yX0_begin : MethodName := ⟨RX0, "begin", "(J)V"⟩
abbrev cX0_countUnit : ByteArray := prog_2_method_8_code
def yX0_countUnit : MethodName := ⟨RX0, "countUnit", "(I)V"⟩
abbrev cX0_elect : ByteArray := prog_2_method_9_code
def yX0_elect : MethodName := ⟨RX0, "elect", "(II)V"⟩
abbrev cX0_electRest : ByteArray := prog_2_method_10_code
def yX0_electRest : MethodName := ⟨RX0, "electRest", "()V"⟩
abbrev cX0_bestOfRest : ByteArray := prog_2_method_11_code
def yX0_bestOfRest : MethodName := ⟨RX0, "bestOfRest", "()I"⟩
abbrev cX0_isElected : ByteArray := prog_2_method_12_code
def yX0_isElected : MethodName := ⟨RX0, "isElected", "(I)Z"⟩
abbrev cX0_isAhead : ByteArray := prog_2_method_13_code
def yX0_isAhead : MethodName := ⟨RX0, "isAhead", "(II)Z"⟩
abbrev cX0_lead : ByteArray := prog_2_method_14_code
def yX0_lead : MethodName := ⟨RX0, "lead", "()I"⟩
def RX1 : String := "OfficeLadder$Filler"
def TX1 : u_T := fun k => match k with
  | 0 => ("OfficeLadder$Filler", "slots", "I", false)
  | 1 => ("OfficeLadder$Filler", "found", "I", false)
  | 2 => ("OfficeLadder$Filler", "hits", "I", false)
  | 3 => ("OfficeLadder$Filler", "spent", "Z", false)
  | 4 => ("OfficeLadder$Filler", "tries", "I", false)
  | 5 => ("OfficeLadder$Filler", "onlyFirst", "Z", false)
  | 6 => ("OfficeLadder$Filler", "askedPerson", "I", false)
  | 7 => ("OfficeLadder$Filler", "askedOffice", "I", false)
  | 8 => ("OfficeLadder$Filler", "seated", "I", false)
  | 9 => ("OfficeLadder$Filler", "slotOffice", "[I", true)
  | 10 => ("OfficeLadder$Filler", "slotSeat", "[I", true)
  | 11 => ("OfficeLadder$Filler", "chosen", "[I", true)
  | 12 => ("OfficeLadder$Filler", "able", "[I", true)
  | 13 => ("OfficeLadder$Filler", "kinBound", "[Z", true)
  | _ => ("OfficeLadder$Filler", "putInto", "[I", true)
def tyX1 : Nat → FieldType := fun k => match k with
  | 0 => .int
  | 1 => .int
  | 2 => .int
  | 3 => .boolean
  | 4 => .int
  | 5 => .boolean
  | 6 => .int
  | 7 => .int
  | 8 => .int
  | 9 => .array .int
  | 10 => .array .int
  | 11 => .array .int
  | 12 => .array .int
  | 13 => .array .boolean
  | _ => .array .int
theorem nmX1 : ∀ a, a < 15 → ∀ b, b < 15 → a ≠ b → (TX1 a).2.1 ≠ (TX1 b).2.1 := by decide +kernel
theorem tyX1_ok : ∀ k, k < 15 → parseFieldDescriptor (TX1 k).2.2.1 = some (tyX1 k) := by decide +kernel
abbrev cX1_init : ByteArray := prog_3_method_1_code
def yX1_init : MethodName := ⟨RX1, "<init>", "()V"⟩
abbrev cX1_search : ByteArray := prog_3_method_2_code
def yX1_search : MethodName := ⟨RX1, "search", "(LOfficeLadder$Republic;IIIZ)V"⟩
abbrev cX1_putIn : ByteArray := prog_3_method_3_code
def yX1_putIn : MethodName := ⟨RX1, "putIn", "(LOfficeLadder$Republic;I)V"⟩
abbrev cX1_addSlots : ByteArray := prog_3_method_4_code
def yX1_addSlots : MethodName := ⟨RX1, "addSlots", "(LOfficeLadder$Office;II)V"⟩
abbrev cX1_ableIn : ByteArray := prog_3_method_5_code
def yX1_ableIn : MethodName := ⟨RX1, "ableIn", "(LOfficeLadder$Republic;II)I"⟩
abbrev cX1_place : ByteArray := prog_3_method_6_code
def yX1_place : MethodName := ⟨RX1, "place", "(LOfficeLadder$Republic;I)V"⟩
abbrev cX1_takeAndGoOn : ByteArray := prog_3_method_7_code
def yX1_takeAndGoOn : MethodName := ⟨RX1, "takeAndGoOn", "(LOfficeLadder$Republic;II)V"⟩
abbrev cX1_isOver : ByteArray := prog_3_method_8_code
def yX1_isOver : MethodName := ⟨RX1, "isOver", "()Z"⟩
abbrev cX1_fits : ByteArray := prog_3_method_9_code
def yX1_fits : MethodName := ⟨RX1, "fits", "(LOfficeLadder$Republic;II)Z"⟩
abbrev cX1_tellFound : ByteArray := prog_3_method_10_code
def yX1_tellFound : MethodName := ⟨RX1, "tellFound", "()V"⟩
def RX2 : String := "OfficeLadder$Law"
def TX2 : u_T := fun k => match k with
  | 0 => ("OfficeLadder$Law", "number", "I", true)
  | 1 => ("OfficeLadder$Law", "kind", "I", true)
  | 2 => ("OfficeLadder$Law", "office", "I", true)
  | 3 => ("OfficeLadder$Law", "n", "I", true)
  | 4 => ("OfficeLadder$Law", "from", "I", true)
  | _ => ("OfficeLadder$Law", "to", "I", false)
def tyX2 : Nat → FieldType := fun k => match k with
  | 0 => .int
  | 1 => .int
  | 2 => .int
  | 3 => .int
  | 4 => .int
  | _ => .int
theorem nmX2 : ∀ a, a < 6 → ∀ b, b < 6 → a ≠ b → (TX2 a).2.1 ≠ (TX2 b).2.1 := by decide +kernel
theorem tyX2_ok : ∀ k, k < 6 → parseFieldDescriptor (TX2 k).2.2.1 = some (tyX2 k) := by decide +kernel
abbrev cX2_init : ByteArray := prog_4_method_1_code
def yX2_init : MethodName := ⟨RX2, "<init>", "(IIIIII)V"⟩
abbrev cX2_binds : ByteArray := prog_4_method_2_code
def yX2_binds : MethodName := ⟨RX2, "binds", "(II)Z"⟩
abbrev cX2_bars : ByteArray := prog_4_method_3_code
def yX2_bars : MethodName := ⟨RX2, "bars", "(LOfficeLadder$Person;ILOfficeLadder$Past;)Z"⟩
abbrev cX2_leavesDoubt : ByteArray := prog_4_method_4_code
def yX2_leavesDoubt : MethodName := ⟨RX2, "leavesDoubt", "(LOfficeLadder$Person;I)Z"⟩
abbrev cX2_looksAtLists : ByteArray := prog_4_method_5_code
def yX2_looksAtLists : MethodName := ⟨RX2, "looksAtLists", "()Z"⟩
abbrev cX2_heft : ByteArray := prog_4_method_6_code
def yX2_heft : MethodName := ⟨RX2, "heft", "()I"⟩
abbrev cX2_fail : ByteArray := prog_4_method_7_code
def yX2_fail : MethodName := ⟨RX2, "fail", "()V"⟩
def RX3 : String := "OfficeLadder$Office"
def TX3 : u_T := fun k => match k with
  | 0 => ("OfficeLadder$Office", "seats", "I", true)
  | 1 => ("OfficeLadder$Office", "free", "Z", true)
  | _ => ("OfficeLadder$Office", "codes", "[B", true)
def tyX3 : Nat → FieldType := fun k => match k with
  | 0 => .int
  | 1 => .boolean
  | _ => .array .byte
theorem nmX3 : ∀ a, a < 3 → ∀ b, b < 3 → a ≠ b → (TX3 a).2.1 ≠ (TX3 b).2.1 := by decide +kernel
theorem tyX3_ok : ∀ k, k < 3 → parseFieldDescriptor (TX3 k).2.2.1 = some (tyX3 k) := by decide +kernel
abbrev cX3_init : ByteArray := prog_5_method_1_code
def yX3_init : MethodName := ⟨RX3, "<init>", "(IZ)V"⟩
abbrev cX3_code : ByteArray := prog_5_method_2_code
def yX3_code : MethodName := ⟨RX3, "code", "(II)I"⟩
abbrev cX3_setCode : ByteArray := prog_5_method_3_code
def yX3_setCode : MethodName := ⟨RX3, "setCode", "(III)V"⟩
abbrev cX3_holder : ByteArray := prog_5_method_4_code
def yX3_holder : MethodName := ⟨RX3, "holder", "(II)I"⟩
abbrev cX3_isVoid : ByteArray := prog_5_method_5_code
def yX3_isVoid : MethodName := ⟨RX3, "isVoid", "(II)Z"⟩
abbrev cX3_firstEmpty : ByteArray := prog_5_method_6_code
def yX3_firstEmpty : MethodName := ⟨RX3, "firstEmpty", "(I)I"⟩
abbrev cX3_heldAhead : ByteArray := prog_5_method_7_code
def yX3_heldAhead : MethodName := ⟨RX3, "heldAhead", "(II)I"⟩
abbrev cX3_holders : ByteArray := prog_5_method_8_code
def yX3_holders : MethodName := ⟨RX3, "holders", "(I)I"⟩
def RX4 : String := "OfficeLadder$Past"
def TX4 : u_T := fun k => match k with
  | 0 => ("OfficeLadder$Past", "officesHeld", "I", false)
  | 1 => ("OfficeLadder$Past", "lastHeld", "I", false)
  | 2 => ("OfficeLadder$Past", "lastHeldHere", "I", false)
  | _ => ("OfficeLadder$Past", "kinHolds", "Z", false)
def tyX4 : Nat → FieldType := fun k => match k with
  | 0 => .int
  | 1 => .int
  | 2 => .int
  | _ => .boolean
theorem nmX4 : ∀ a, a < 4 → ∀ b, b < 4 → a ≠ b → (TX4 a).2.1 ≠ (TX4 b).2.1 := by decide +kernel
theorem tyX4_ok : ∀ k, k < 4 → parseFieldDescriptor (TX4 k).2.2.1 = some (tyX4 k) := by decide +kernel
abbrev cX4_init : ByteArray := prog_6_method_1_code
def yX4_init : MethodName := ⟨RX4, "<init>", "()V"⟩
abbrev cX4_look : ByteArray := prog_6_method_2_code
def yX4_look : MethodName := ⟨RX4, "look", "(LOfficeLadder$Person;LOfficeLadder$Office;II)V"⟩
def RX5 : String := "OfficeLadder$Person"
def TX5 : u_T := fun k => match k with
  | 0 => ("OfficeLadder$Person", "order", "I", true)
  | 1 => ("OfficeLadder$Person", "father", "I", true)
  | 2 => ("OfficeLadder$Person", "posts", "[B", true)
  | 3 => ("OfficeLadder$Person", "first", "I", false)
  | 4 => ("OfficeLadder$Person", "last", "I", false)
  | 5 => ("OfficeLadder$Person", "death", "I", false)
  | 6 => ("OfficeLadder$Person", "exileFrom", "I", false)
  | 7 => ("OfficeLadder$Person", "exileTo", "I", false)
  | _ => ("OfficeLadder$Person", "kin", "I", false)
def tyX5 : Nat → FieldType := fun k => match k with
  | 0 => .int
  | 1 => .int
  | 2 => .array .byte
  | 3 => .int
  | 4 => .int
  | 5 => .int
  | 6 => .int
  | 7 => .int
  | _ => .int
theorem nmX5 : ∀ a, a < 9 → ∀ b, b < 9 → a ≠ b → (TX5 a).2.1 ≠ (TX5 b).2.1 := by decide +kernel
theorem tyX5_ok : ∀ k, k < 9 → parseFieldDescriptor (TX5 k).2.2.1 = some (tyX5 k) := by decide +kernel
abbrev cX5_init : ByteArray := prog_7_method_1_code
def yX5_init : MethodName := ⟨RX5, "<init>", "(IIII)V"⟩
abbrev cX5_hasExile : ByteArray := prog_7_method_2_code
def yX5_hasExile : MethodName := ⟨RX5, "hasExile", "()Z"⟩
abbrev cX5_setExile : ByteArray := prog_7_method_3_code
def yX5_setExile : MethodName := ⟨RX5, "setExile", "(II)V"⟩
abbrev cX5_yearsHeld : ByteArray := prog_7_method_4_code
def yX5_yearsHeld : MethodName := ⟨RX5, "yearsHeld", "(II)I"⟩
def RX6 : String := "OfficeLadder$Republic"
def TX6 : u_T := fun k => match k with
  | 0 => ("OfficeLadder$Republic", "offices", "[LOfficeLadder$Office;", true)
  | 1 => ("OfficeLadder$Republic", "people", "[LOfficeLadder$Person;", true)
  | 2 => ("OfficeLadder$Republic", "laws", "[LOfficeLadder$Law;", true)
  | 3 => ("OfficeLadder$Republic", "officeCount", "I", false)
  | 4 => ("OfficeLadder$Republic", "personCount", "I", false)
  | 5 => ("OfficeLadder$Republic", "lawCount", "I", false)
  | 6 => ("OfficeLadder$Republic", "heldSeats", "I", false)
  | 7 => ("OfficeLadder$Republic", "voidSeats", "I", false)
  | _ => ("OfficeLadder$Republic", "past", "LOfficeLadder$Past;", true)
def tyX6 : Nat → FieldType := fun k => match k with
  | 0 => .array (.object "OfficeLadder$Office")
  | 1 => .array (.object "OfficeLadder$Person")
  | 2 => .array (.object "OfficeLadder$Law")
  | 3 => .int
  | 4 => .int
  | 5 => .int
  | 6 => .int
  | 7 => .int
  | _ => .object "OfficeLadder$Past"
theorem nmX6 : ∀ a, a < 9 → ∀ b, b < 9 → a ≠ b → (TX6 a).2.1 ≠ (TX6 b).2.1 := by decide +kernel
theorem tyX6_ok : ∀ k, k < 9 → parseFieldDescriptor (TX6 k).2.2.1 = some (tyX6 k) := by decide +kernel
abbrev cX6_init : ByteArray := prog_8_method_1_code
def yX6_init : MethodName := ⟨RX6, "<init>", "()V"⟩
abbrev cX6_hasOffice : ByteArray := prog_8_method_2_code
def yX6_hasOffice : MethodName := ⟨RX6, "hasOffice", "(I)Z"⟩
abbrev cX6_hasPerson : ByteArray := prog_8_method_3_code
def yX6_hasPerson : MethodName := ⟨RX6, "hasPerson", "(I)Z"⟩
abbrev cX6_hasLaw : ByteArray := prog_8_method_4_code
def yX6_hasLaw : MethodName := ⟨RX6, "hasLaw", "(I)Z"⟩
abbrev cX6_hasSeat : ByteArray := prog_8_method_5_code
def yX6_hasSeat : MethodName := ⟨RX6, "hasSeat", "(III)Z"⟩
abbrev cX6_isNumberOf : ByteArray := prog_8_method_6_code
def yX6_isNumberOf : MethodName := ⟨RX6, "isNumberOf", "(II)Z"⟩
abbrev cX6_addOffice : ByteArray := prog_8_method_7_code
def yX6_addOffice : MethodName := ⟨RX6, "addOffice", "(LOfficeLadder$Office;)I"⟩
abbrev cX6_addLaw : ByteArray := prog_8_method_8_code
def yX6_addLaw : MethodName := ⟨RX6, "addLaw", "(LOfficeLadder$Law;)I"⟩
abbrev cX6_addPerson : ByteArray := prog_8_method_9_code
def yX6_addPerson : MethodName := ⟨RX6, "addPerson", "(LOfficeLadder$Person;)I"⟩
abbrev cX6_tie : ByteArray := prog_8_method_10_code
def yX6_tie : MethodName := ⟨RX6, "tie", "(II)V"⟩
abbrev cX6_put : ByteArray := prog_8_method_11_code
def yX6_put : MethodName := ⟨RX6, "put", "(IIII)V"⟩
abbrev cX6_vacate : ByteArray := prog_8_method_12_code
def yX6_vacate : MethodName := ⟨RX6, "vacate", "(IIII)V"⟩
abbrev cX6_mark : ByteArray := prog_8_method_13_code
def yX6_mark : MethodName := ⟨RX6, "mark", "(IIIIZ)V"⟩
abbrev cX6_firstBar : ByteArray := prog_8_method_14_code
def yX6_firstBar : MethodName := ⟨RX6, "firstBar", "(IIIZ)I"⟩
abbrev cX6_level : ByteArray := prog_8_method_15_code
def yX6_level : MethodName := ⟨RX6, "level", "(III)I"⟩
abbrev cX6_breachesIn : ByteArray := prog_8_method_16_code
def yX6_breachesIn : MethodName := ⟨RX6, "breachesIn", "(II)I"⟩
abbrev cX6_kinLawBinds : ByteArray := prog_8_method_17_code
def yX6_kinLawBinds : MethodName := ⟨RX6, "kinLawBinds", "(II)Z"⟩
def RX7 : String := "OfficeLadder$Shelf"
def TX7 : u_T := fun k => match k with
  | 0 => ("OfficeLadder$Shelf", "kind", "I", false)
  | 1 => ("OfficeLadder$Shelf", "law", "LOfficeLadder$Law;", false)
  | 2 => ("OfficeLadder$Shelf", "length", "I", false)
  | 3 => ("OfficeLadder$Shelf", "bytes", "[B", true)
  | _ => ("OfficeLadder$Shelf", "ints", "[I", true)
def tyX7 : Nat → FieldType := fun k => match k with
  | 0 => .int
  | 1 => .object "OfficeLadder$Law"
  | 2 => .int
  | 3 => .array .byte
  | _ => .array .int
theorem nmX7 : ∀ a, a < 5 → ∀ b, b < 5 → a ≠ b → (TX7 a).2.1 ≠ (TX7 b).2.1 := by decide +kernel
theorem tyX7_ok : ∀ k, k < 5 → parseFieldDescriptor (TX7 k).2.2.1 = some (tyX7 k) := by decide +kernel
abbrev cX7_init : ByteArray := prog_9_method_1_code
def yX7_init : MethodName := ⟨RX7, "<init>", "()V"⟩
abbrev cX7_isRow : ByteArray := prog_9_method_2_code
def yX7_isRow : MethodName := ⟨RX7, "isRow", "()Z"⟩
abbrev cX7_hasSpan : ByteArray := prog_9_method_3_code
def yX7_hasSpan : MethodName := ⟨RX7, "hasSpan", "(II)Z"⟩
abbrev cX7_at : ByteArray := prog_9_method_4_code
def yX7_at : MethodName := ⟨RX7, "at", "(I)J"⟩
abbrev cX7_clear : ByteArray := prog_9_method_5_code
def yX7_clear : MethodName := ⟨RX7, "clear", "()V"⟩
abbrev cX7_keepLaw : ByteArray := prog_9_method_6_code
def yX7_keepLaw : MethodName := ⟨RX7, "keepLaw", "(LOfficeLadder$Law;)V"⟩
abbrev cX7_keepHolders : ByteArray := prog_9_method_7_code
def yX7_keepHolders : MethodName := ⟨RX7, "keepHolders", "(LOfficeLadder$Office;)V"⟩
abbrev cX7_keepLife : ByteArray := prog_9_method_8_code
def yX7_keepLife : MethodName := ⟨RX7, "keepLife", "(LOfficeLadder$Person;)V"⟩
abbrev cX7_keepZeros : ByteArray := prog_9_method_9_code
def yX7_keepZeros : MethodName := ⟨RX7, "keepZeros", "(II)V"⟩
abbrev cX7_copyTo : ByteArray := prog_9_method_10_code
def yX7_copyTo : MethodName := ⟨RX7, "copyTo", "(LOfficeLadder$Shelf;III)V"⟩
abbrev cX7_become : ByteArray := prog_9_method_11_code
def yX7_become : MethodName := ⟨RX7, "become", "(II)V"⟩
def RX8 : String := "OfficeLadder"
def TX8 : u_T := fun k => match k with
  | 0 => ("OfficeLadder", "republic", "LOfficeLadder$Republic;", true)
  | 1 => ("OfficeLadder", "filler", "LOfficeLadder$Filler;", true)
  | 2 => ("OfficeLadder", "poll", "LOfficeLadder$Election;", true)
  | 3 => ("OfficeLadder", "shelves", "[LOfficeLadder$Shelf;", true)
  | _ => ("OfficeLadder", "lots", "[I", true)
def tyX8 : Nat → FieldType := fun k => match k with
  | 0 => .object "OfficeLadder$Republic"
  | 1 => .object "OfficeLadder$Filler"
  | 2 => .object "OfficeLadder$Election"
  | 3 => .array (.object "OfficeLadder$Shelf")
  | _ => .array .int
theorem nmX8 : ∀ a, a < 5 → ∀ b, b < 5 → a ≠ b → (TX8 a).2.1 ≠ (TX8 b).2.1 := by decide +kernel
theorem tyX8_ok : ∀ k, k < 5 → parseFieldDescriptor (TX8 k).2.2.1 = some (tyX8 k) := by decide +kernel
abbrev cX8_init : ByteArray := prog_1_method_1_code
def yX8_init : MethodName := ⟨RX8, "<init>", "()V"⟩
abbrev cX8_office : ByteArray := prog_1_method_2_code
def yX8_office : MethodName := ⟨RX8, "office", "(IZ)I"⟩
abbrev cX8_person : ByteArray := prog_1_method_3_code
def yX8_person : MethodName := ⟨RX8, "person", "(IIII)I"⟩
abbrev cX8_death : ByteArray := prog_1_method_4_code
def yX8_death : MethodName := ⟨RX8, "death", "(II)I"⟩
abbrev cX8_exile : ByteArray := prog_1_method_5_code
def yX8_exile : MethodName := ⟨RX8, "exile", "(III)I"⟩
abbrev cX8_birth : ByteArray := prog_1_method_6_code
def yX8_birth : MethodName := ⟨RX8, "birth", "(III)I"⟩
abbrev cX8_law : ByteArray := prog_1_method_7_code
def yX8_law : MethodName := ⟨RX8, "law", "(IIII)I"⟩
abbrev cX8_repeal : ByteArray := prog_1_method_8_code
def yX8_repeal : MethodName := ⟨RX8, "repeal", "(II)I"⟩
abbrev cX8_stone : ByteArray := prog_1_method_9_code
def yX8_stone : MethodName := ⟨RX8, "stone", "(III)I"⟩
abbrev cX8_empty : ByteArray := prog_1_method_10_code
def yX8_empty : MethodName := ⟨RX8, "empty", "(III)I"⟩
abbrev cX8_annul : ByteArray := prog_1_method_11_code
def yX8_annul : MethodName := ⟨RX8, "annul", "(IIIZ)I"⟩
abbrev cX8_seat : ByteArray := prog_1_method_12_code
def yX8_seat : MethodName := ⟨RX8, "seat", "(III)I"⟩
abbrev cX8_holds : ByteArray := prog_1_method_13_code
def yX8_holds : MethodName := ⟨RX8, "holds", "(II)I"⟩
abbrev cX8_held : ByteArray := prog_1_method_14_code
def yX8_held : MethodName := ⟨RX8, "held", "(III)I"⟩
abbrev cX8_could : ByteArray := prog_1_method_15_code
def yX8_could : MethodName := ⟨RX8, "could", "(IIII)I"⟩
abbrev cX8_first : ByteArray := prog_1_method_16_code
def yX8_first : MethodName := ⟨RX8, "first", "(IIIZ)I"⟩
abbrev cX8_who : ByteArray := prog_1_method_17_code
def yX8_who : MethodName := ⟨RX8, "who", "(IIZ)I"⟩
abbrev cX8_breaches : ByteArray := prog_1_method_18_code
def yX8_breaches : MethodName := ⟨RX8, "breaches", "()I"⟩
abbrev cX8_breach : ByteArray := prog_1_method_19_code
def yX8_breach : MethodName := ⟨RX8, "breach", "(I)I"⟩
abbrev cX8_fillings : ByteArray := prog_1_method_20_code
def yX8_fillings : MethodName := ⟨RX8, "fillings", "(I)I"⟩
abbrev cX8_fill : ByteArray := prog_1_method_21_code
def yX8_fill : MethodName := ⟨RX8, "fill", "(I)I"⟩
abbrev cX8_among : ByteArray := prog_1_method_22_code
def yX8_among : MethodName := ⟨RX8, "among", "(III)I"⟩
abbrev cX8_election : ByteArray := prog_1_method_23_code
def yX8_election : MethodName := ⟨RX8, "election", "(II)I"⟩
abbrev cX8_vote : ByteArray := prog_1_method_24_code
def yX8_vote : MethodName := ⟨RX8, "vote", "(II)I"⟩
abbrev cX8_elected : ByteArray := prog_1_method_25_code
def yX8_elected : MethodName := ⟨RX8, "elected", "(JII)I"⟩
abbrev cX8_sure : ByteArray := prog_1_method_26_code
def yX8_sure : MethodName := ⟨RX8, "sure", "(J)I"⟩
abbrev cX8_drawn : ByteArray := prog_1_method_27_code
def yX8_drawn : MethodName := ⟨RX8, "drawn", "(IJI)I"⟩
abbrev cX8_province : ByteArray := prog_1_method_28_code
def yX8_province : MethodName := ⟨RX8, "province", "(IIIIJ)I"⟩
abbrev cX8_count : ByteArray := prog_1_method_29_code
def yX8_count : MethodName := ⟨RX8, "count", "(I)I"⟩
abbrev cX8_keep : ByteArray := prog_1_method_30_code
def yX8_keep : MethodName := ⟨RX8, "keep", "(III)I"⟩
abbrev cX8_make : ByteArray := prog_1_method_31_code
def yX8_make : MethodName := ⟨RX8, "make", "(III)I"⟩
abbrev cX8_element : ByteArray := prog_1_method_32_code
def yX8_element : MethodName := ⟨RX8, "element", "(II)J"⟩
abbrev cX8_copy : ByteArray := prog_1_method_33_code
def yX8_copy : MethodName := ⟨RX8, "copy", "(IIIII)I"⟩
abbrev cX8_weight : ByteArray := prog_1_method_34_code
def yX8_weight : MethodName := ⟨RX8, "weight", "(I)I"⟩
abbrev cX8_toss : ByteArray := prog_1_method_35_code
def yX8_toss : MethodName := ⟨RX8, "toss", "(I)I"⟩
abbrev cX8_refusalOfLaw : ByteArray := prog_1_method_36_code
def yX8_refusalOfLaw : MethodName := ⟨RX8, "refusalOfLaw", "(I)I"⟩
abbrev cX8_isYear : ByteArray := prog_1_method_37_code
def yX8_isYear : MethodName := ⟨RX8, "isYear", "(I)Z"⟩
abbrev cX8_isOrder : ByteArray := prog_1_method_38_code
def yX8_isOrder : MethodName := ⟨RX8, "isOrder", "(I)Z"⟩
abbrev cX8_isBirth : ByteArray := prog_1_method_39_code
def yX8_isBirth : MethodName := ⟨RX8, "isBirth", "(II)Z"⟩
abbrev cX8_isShelf : ByteArray := prog_1_method_40_code
def yX8_isShelf : MethodName := ⟨RX8, "isShelf", "(I)Z"⟩
abbrev cX8_draw : ByteArray := prog_1_method_41_code
def yX8_draw : MethodName := ⟨RX8, "draw", "([IIJ)V"⟩
def RX9 : String := "OfficeLadderModel"
def TX9 : u_T := fun k => match k with
  | 0 => ("OfficeLadderModel", "thrown", "I", false)
  | 1 => ("OfficeLadderModel", "offices", "I", false)
  | 2 => ("OfficeLadderModel", "people", "I", false)
  | 3 => ("OfficeLadderModel", "laws", "I", false)
  | 4 => ("OfficeLadderModel", "seats", "[I", true)
  | 5 => ("OfficeLadderModel", "isFree", "[Z", true)
  | 6 => ("OfficeLadderModel", "order", "[I", true)
  | 7 => ("OfficeLadderModel", "born0", "[I", true)
  | 8 => ("OfficeLadderModel", "born1", "[I", true)
  | 9 => ("OfficeLadderModel", "father", "[I", true)
  | 10 => ("OfficeLadderModel", "died", "[I", true)
  | 11 => ("OfficeLadderModel", "away0", "[I", true)
  | 12 => ("OfficeLadderModel", "away1", "[I", true)
  | 13 => ("OfficeLadderModel", "kind", "[I", true)
  | 14 => ("OfficeLadderModel", "of", "[I", true)
  | 15 => ("OfficeLadderModel", "number", "[I", true)
  | 16 => ("OfficeLadderModel", "since", "[I", true)
  | 17 => ("OfficeLadderModel", "until", "[I", true)
  | 18 => ("OfficeLadderModel", "list", "[I", true)
  | 19 => ("OfficeLadderModel", "isVoid", "[Z", true)
  | 20 => ("OfficeLadderModel", "place", "[I", true)
  | 21 => ("OfficeLadderModel", "breaches", "I", false)
  | 22 => ("OfficeLadderModel", "gaps", "I", false)
  | 23 => ("OfficeLadderModel", "tries", "I", false)
  | 24 => ("OfficeLadderModel", "whose", "I", false)
  | 25 => ("OfficeLadderModel", "where", "I", false)
  | 26 => ("OfficeLadderModel", "amongMany", "I", false)
  | 27 => ("OfficeLadderModel", "gap", "[I", true)
  | 28 => ("OfficeLadderModel", "tried", "[I", true)
  | 29 => ("OfficeLadderModel", "candidates", "I", false)
  | 30 => ("OfficeLadderModel", "chairs", "I", false)
  | 31 => ("OfficeLadderModel", "ballot", "[I", true)
  | 32 => ("OfficeLadderModel", "drawn", "[I", true)
  | 33 => ("OfficeLadderModel", "left", "[I", true)
  | 34 => ("OfficeLadderModel", "votes", "[I", true)
  | 35 => ("OfficeLadderModel", "cameAt", "[I", true)
  | 36 => ("OfficeLadderModel", "chosen", "[I", true)
  | 37 => ("OfficeLadderModel", "chosenAt", "[I", true)
  | 38 => ("OfficeLadderModel", "chosenMany", "I", false)
  | 39 => ("OfficeLadderModel", "isChosen", "[Z", true)
  | 40 => ("OfficeLadderModel", "held0", "[I", true)
  | 41 => ("OfficeLadderModel", "heldLaw", "[I", true)
  | 42 => ("OfficeLadderModel", "size", "[I", true)
  | 43 => ("OfficeLadderModel", "item", "[I", true)
  | _ => ("OfficeLadderModel", "aside", "[I", true)
def tyX9 : Nat → FieldType := fun k => match k with
  | 0 => .int
  | 1 => .int
  | 2 => .int
  | 3 => .int
  | 4 => .array .int
  | 5 => .array .boolean
  | 6 => .array .int
  | 7 => .array .int
  | 8 => .array .int
  | 9 => .array .int
  | 10 => .array .int
  | 11 => .array .int
  | 12 => .array .int
  | 13 => .array .int
  | 14 => .array .int
  | 15 => .array .int
  | 16 => .array .int
  | 17 => .array .int
  | 18 => .array .int
  | 19 => .array .boolean
  | 20 => .array .int
  | 21 => .int
  | 22 => .int
  | 23 => .int
  | 24 => .int
  | 25 => .int
  | 26 => .int
  | 27 => .array .int
  | 28 => .array .int
  | 29 => .int
  | 30 => .int
  | 31 => .array .int
  | 32 => .array .int
  | 33 => .array .int
  | 34 => .array .int
  | 35 => .array .int
  | 36 => .array .int
  | 37 => .array .int
  | 38 => .int
  | 39 => .array .boolean
  | 40 => .array .int
  | 41 => .array .int
  | 42 => .array .int
  | 43 => .array .int
  | _ => .array .int
theorem nmX9 : ∀ a, a < 45 → ∀ b, b < 45 → a ≠ b → (TX9 a).2.1 ≠ (TX9 b).2.1 := by decide +kernel
theorem tyX9_ok : ∀ k, k < 45 → parseFieldDescriptor (TX9 k).2.2.1 = some (tyX9 k) := by decide +kernel
abbrev cX9_thrown : ByteArray := prog_11_method_1_code
def yX9_thrown : MethodName := ⟨RX9, "thrown", "()I"⟩
abbrev cX9_in : ByteArray := prog_11_method_2_code
def yX9_in : MethodName := ⟨RX9, "in", "(III)Z"⟩
abbrev cX9_init : ByteArray := prog_11_method_3_code
def yX9_init : MethodName := ⟨RX9, "<init>", "()V"⟩
abbrev cX9_isOffice : ByteArray := prog_11_method_4_code
def yX9_isOffice : MethodName := ⟨RX9, "isOffice", "(I)Z"⟩
abbrev cX9_isPerson : ByteArray := prog_11_method_5_code
def yX9_isPerson : MethodName := ⟨RX9, "isPerson", "(I)Z"⟩
abbrev cX9_isYear : ByteArray := prog_11_method_6_code
def yX9_isYear : MethodName := ⟨RX9, "isYear", "(I)Z"⟩
abbrev cX9_at : ByteArray := prog_11_method_7_code
def yX9_at : MethodName := ⟨RX9, "at", "(III)I"⟩
abbrev cX9_office : ByteArray := prog_11_method_8_code
def yX9_office : MethodName := ⟨RX9, "office", "(IZ)I"⟩
abbrev cX9_isSpan : ByteArray := prog_11_method_9_code
def yX9_isSpan : MethodName := ⟨RX9, "isSpan", "(II)Z"⟩
abbrev cX9_person : ByteArray := prog_11_method_10_code
def yX9_person : MethodName := ⟨RX9, "person", "(IIII)I"⟩
abbrev cX9_death : ByteArray := prog_11_method_11_code
def yX9_death : MethodName := ⟨RX9, "death", "(II)I"⟩
abbrev cX9_exile : ByteArray := prog_11_method_12_code
def yX9_exile : MethodName := ⟨RX9, "exile", "(III)I"⟩
abbrev cX9_birth : ByteArray := prog_11_method_13_code
def yX9_birth : MethodName := ⟨RX9, "birth", "(III)I"⟩
abbrev cX9_law : ByteArray := prog_11_method_14_code
def yX9_law : MethodName := ⟨RX9, "law", "(IIII)I"⟩
abbrev cX9_repeal : ByteArray := prog_11_method_15_code
def yX9_repeal : MethodName := ⟨RX9, "repeal", "(II)I"⟩
abbrev cX9_put : ByteArray := prog_11_method_16_code
def yX9_put : MethodName := ⟨RX9, "put", "(III)V"⟩
abbrev cX9_clear : ByteArray := prog_11_method_17_code
def yX9_clear : MethodName := ⟨RX9, "clear", "(II)I"⟩
abbrev cX9_stone : ByteArray := prog_11_method_18_code
def yX9_stone : MethodName := ⟨RX9, "stone", "(III)I"⟩
abbrev cX9_isSeat : ByteArray := prog_11_method_19_code
def yX9_isSeat : MethodName := ⟨RX9, "isSeat", "(III)Z"⟩
abbrev cX9_empty : ByteArray := prog_11_method_20_code
def yX9_empty : MethodName := ⟨RX9, "empty", "(III)I"⟩
abbrev cX9_annul : ByteArray := prog_11_method_21_code
def yX9_annul : MethodName := ⟨RX9, "annul", "(IIIZ)I"⟩
abbrev cX9_seat : ByteArray := prog_11_method_22_code
def yX9_seat : MethodName := ⟨RX9, "seat", "(III)I"⟩
abbrev cX9_officeAt : ByteArray := prog_11_method_23_code
def yX9_officeAt : MethodName := ⟨RX9, "officeAt", "(I)I"⟩
abbrev cX9_holds : ByteArray := prog_11_method_24_code
def yX9_holds : MethodName := ⟨RX9, "holds", "(II)I"⟩
abbrev cX9_hasHeld : ByteArray := prog_11_method_25_code
def yX9_hasHeld : MethodName := ⟨RX9, "hasHeld", "(III)Z"⟩
abbrev cX9_held : ByteArray := prog_11_method_26_code
def yX9_held : MethodName := ⟨RX9, "held", "(III)I"⟩
abbrev cX9_isKin : ByteArray := prog_11_method_27_code
def yX9_isKin : MethodName := ⟨RX9, "isKin", "(II)Z"⟩
abbrev cX9_hasKin : ByteArray := prog_11_method_28_code
def yX9_hasKin : MethodName := ⟨RX9, "hasKin", "(III)Z"⟩
abbrev cX9_isInForce : ByteArray := prog_11_method_29_code
def yX9_isInForce : MethodName := ⟨RX9, "isInForce", "(III)Z"⟩
abbrev cX9_heldWithin : ByteArray := prog_11_method_30_code
def yX9_heldWithin : MethodName := ⟨RX9, "heldWithin", "(IIII)Z"⟩
abbrev cX9_bars : ByteArray := prog_11_method_31_code
def yX9_bars : MethodName := ⟨RX9, "bars", "(IIII)Z"⟩
abbrev cX9_barOf : ByteArray := prog_11_method_32_code
def yX9_barOf : MethodName := ⟨RX9, "barOf", "(III)I"⟩
abbrev cX9_couldBe : ByteArray := prog_11_method_33_code
def yX9_couldBe : MethodName := ⟨RX9, "couldBe", "(III)I"⟩
abbrev cX9_could : ByteArray := prog_11_method_34_code
def yX9_could : MethodName := ⟨RX9, "could", "(IIII)I"⟩
abbrev cX9_first : ByteArray := prog_11_method_35_code
def yX9_first : MethodName := ⟨RX9, "first", "(IIIZ)I"⟩
abbrev cX9_who : ByteArray := prog_11_method_36_code
def yX9_who : MethodName := ⟨RX9, "who", "(IIZ)I"⟩
abbrev cX9_isRight : ByteArray := prog_11_method_37_code
def yX9_isRight : MethodName := ⟨RX9, "isRight", "(III)Z"⟩
abbrev cX9_goThrough : ByteArray := prog_11_method_38_code
def yX9_goThrough : MethodName := ⟨RX9, "goThrough", "(I)I"⟩
abbrev cX9_breaches : ByteArray := prog_11_method_39_code
def yX9_breaches : MethodName := ⟨RX9, "breaches", "()I"⟩
abbrev cX9_breach : ByteArray := prog_11_method_40_code
def yX9_breach : MethodName := ⟨RX9, "breach", "(I)I"⟩
abbrev cX9_areAllRight : ByteArray := prog_11_method_41_code
def yX9_areAllRight : MethodName := ⟨RX9, "areAllRight", "(I)Z"⟩
abbrev cX9_takeBack : ByteArray := prog_11_method_42_code
def yX9_takeBack : MethodName := ⟨RX9, "takeBack", "(II)V"⟩
abbrev cX9_isAmong : ByteArray := prog_11_method_43_code
def yX9_isAmong : MethodName := ⟨RX9, "isAmong", "()Z"⟩
abbrev cX9_fillYear : ByteArray := prog_11_method_44_code
def yX9_fillYear : MethodName := ⟨RX9, "fillYear", "(IZ)I"⟩
abbrev cX9_fillings : ByteArray := prog_11_method_45_code
def yX9_fillings : MethodName := ⟨RX9, "fillings", "(I)I"⟩
abbrev cX9_fill : ByteArray := prog_11_method_46_code
def yX9_fill : MethodName := ⟨RX9, "fill", "(I)I"⟩
abbrev cX9_among : ByteArray := prog_11_method_47_code
def yX9_among : MethodName := ⟨RX9, "among", "(III)I"⟩
abbrev cX9_draw : ByteArray := prog_11_method_48_code
def yX9_draw : MethodName := ⟨RX9, "draw", "(IJ)V"⟩
abbrev cX9_election : ByteArray := prog_11_method_49_code
def yX9_election : MethodName := ⟨RX9, "election", "(II)I"⟩
abbrev cX9_voted : ByteArray := prog_11_method_50_code
def yX9_voted : MethodName := ⟨RX9, "voted", "()I"⟩
abbrev cX9_ones : ByteArray := prog_11_method_51_code
def yX9_ones : MethodName := ⟨RX9, "ones", "(I)I"⟩
abbrev cX9_vote : ByteArray := prog_11_method_52_code
def yX9_vote : MethodName := ⟨RX9, "vote", "(II)I"⟩
abbrev cX9_choose : ByteArray := prog_11_method_53_code
def yX9_choose : MethodName := ⟨RX9, "choose", "(II)V"⟩
abbrev cX9_beginVotes : ByteArray := prog_11_method_54_code
def yX9_beginVotes : MethodName := ⟨RX9, "beginVotes", "()V"⟩
abbrev cX9_unitVotes : ByteArray := prog_11_method_55_code
def yX9_unitVotes : MethodName := ⟨RX9, "unitVotes", "(I)V"⟩
abbrev cX9_elect : ByteArray := prog_11_method_56_code
def yX9_elect : MethodName := ⟨RX9, "elect", "(J)V"⟩
abbrev cX9_elected : ByteArray := prog_11_method_57_code
def yX9_elected : MethodName := ⟨RX9, "elected", "(JII)I"⟩
abbrev cX9_ahead : ByteArray := prog_11_method_58_code
def yX9_ahead : MethodName := ⟨RX9, "ahead", "()I"⟩
abbrev cX9_sure : ByteArray := prog_11_method_59_code
def yX9_sure : MethodName := ⟨RX9, "sure", "(J)I"⟩
abbrev cX9_drawn : ByteArray := prog_11_method_60_code
def yX9_drawn : MethodName := ⟨RX9, "drawn", "(IJI)I"⟩
abbrev cX9_province : ByteArray := prog_11_method_61_code
def yX9_province : MethodName := ⟨RX9, "province", "(IIIIJ)I"⟩
abbrev cX9_count : ByteArray := prog_11_method_62_code
def yX9_count : MethodName := ⟨RX9, "count", "(I)I"⟩
abbrev cX9_isShelf : ByteArray := prog_11_method_63_code
def yX9_isShelf : MethodName := ⟨RX9, "isShelf", "(I)Z"⟩
abbrev cX9_wipe : ByteArray := prog_11_method_64_code
def yX9_wipe : MethodName := ⟨RX9, "wipe", "(I)V"⟩
abbrev cX9_keep : ByteArray := prog_11_method_65_code
def yX9_keep : MethodName := ⟨RX9, "keep", "(III)I"⟩
abbrev cX9_make : ByteArray := prog_11_method_66_code
def yX9_make : MethodName := ⟨RX9, "make", "(III)I"⟩
abbrev cX9_element : ByteArray := prog_11_method_67_code
def yX9_element : MethodName := ⟨RX9, "element", "(II)J"⟩
abbrev cX9_copy : ByteArray := prog_11_method_68_code
def yX9_copy : MethodName := ⟨RX9, "copy", "(IIIII)I"⟩
abbrev cX9_lacksLaw : ByteArray := prog_11_method_69_code
def yX9_lacksLaw : MethodName := ⟨RX9, "lacksLaw", "(I)I"⟩
abbrev cX9_weight : ByteArray := prog_11_method_70_code
def yX9_weight : MethodName := ⟨RX9, "weight", "(I)I"⟩
abbrev cX9_toss : ByteArray := prog_11_method_71_code
def yX9_toss : MethodName := ⟨RX9, "toss", "(I)I"⟩
def RJ6 : String := "java/lang/Integer"
def TJ6 : u_T := fun k => match k with
  | _ => ("", "", "", false)
def tyJ6 : Nat → FieldType := fun k => match k with
  | _ => .int
theorem nmJ6 : ∀ a, a < 0 → ∀ b, b < 0 → a ≠ b → (TJ6 a).2.1 ≠ (TJ6 b).2.1 := by decide +kernel
theorem tyJ6_ok : ∀ k, k < 0 → parseFieldDescriptor (TJ6 k).2.2.1 = some (tyJ6 k) := by decide +kernel
abbrev cJ6_bitCount_0f7a4 : ByteArray := prog_15_method_49_code
def yJ6_bitCount_0f7a4 : MethodName := ⟨RJ6, "bitCount", "(I)I"⟩
def RJ0 : String := "java/lang/String"
def TJ0 : u_T := fun k => match k with
  | _ => ("", "", "", false)
def tyJ0 : Nat → FieldType := fun k => match k with
  | _ => .int
theorem nmJ0 : ∀ a, a < 0 → ∀ b, b < 0 → a ≠ b → (TJ0 a).2.1 ≠ (TJ0 b).2.1 := by decide +kernel
theorem tyJ0_ok : ∀ k, k < 0 → parseFieldDescriptor (TJ0 k).2.2.1 = some (tyJ0 k) := by decide +kernel
def RJ10 : String := "java/lang/System"
def TJ10 : u_T := fun k => match k with
  | _ => ("", "", "", false)
def tyJ10 : Nat → FieldType := fun k => match k with
  | _ => .int
theorem nmJ10 : ∀ a, a < 0 → ∀ b, b < 0 → a ≠ b → (TJ10 a).2.1 ≠ (TJ10 b).2.1 := by decide +kernel
theorem tyJ10_ok : ∀ k, k < 0 → parseFieldDescriptor (TJ10 k).2.2.1 = some (tyJ10 k) := by decide +kernel
def RJ7 : String := "java/util/Arrays"
def TJ7 : u_T := fun k => match k with
  | _ => ("", "", "", false)
def tyJ7 : Nat → FieldType := fun k => match k with
  | _ => .int
theorem nmJ7 : ∀ a, a < 0 → ∀ b, b < 0 → a ≠ b → (TJ7 a).2.1 ≠ (TJ7 b).2.1 := by decide +kernel
theorem tyJ7_ok : ∀ k, k < 0 → parseFieldDescriptor (TJ7 k).2.2.1 = some (tyJ7 k) := by decide +kernel
abbrev cJ7_fill_53178 : ByteArray := prog_20_method_103_code
def yJ7_fill_53178 : MethodName := ⟨RJ7, "fill", "([II)V"⟩
abbrev cJ7_fill_031fb : ByteArray := prog_20_method_109_code
def yJ7_fill_031fb : MethodName := ⟨RJ7, "fill", "([BB)V"⟩
def RL : String := "OfficeLadderLaw"
abbrev cL_element : ByteArray := method_3_code
def yL_element : MethodName := ⟨RL, "element", "(LOfficeLadder;II[J)I"⟩
abbrev cL_law : ByteArray := code
def yL_law : MethodName := ⟨RL, "law", "([I)Z"⟩
abbrev vwCl : List vw_C := [(RX0, TX0, 11), (RX1, TX1, 15), (RX2, TX2, 6), (RX3, TX3, 3), (RX4, TX4, 4), (RX5, TX5, 9), (RX6, TX6, 9), (RX7, TX7, 5), (RX8, TX8, 5), (RX9, TX9, 45)]
end
section
def lw_good : List Cond := lw_tbl.filter goodWord
theorem g_tw {w : Cond} (n : Nat) (h : lw_tbl[n]? = some w) (hg : goodWord w = true) : w ∈ lw_good := List.mem_filter.mpr ⟨List.mem_of_getElem? h, hg⟩
theorem g_tw_tbl {w : Cond} (h : w ∈ lw_good) : w ∈ lw_tbl := (List.mem_filter.mp h).1
theorem g_in {ws : List Cond} (ns : List Nat) (h : ws.map some = ns.map (fun i => lw_tbl[i]?)) (hg : ws.all goodWord = true) : ∀ w ∈ ws, w ∈ lw_good := by
  intro w hw
  have h1 : some w ∈ ns.map (fun i => lw_tbl[i]?) := h ▸ List.mem_map.mpr ⟨w, hw, rfl⟩
  obtain ⟨i, -, hi⟩ := List.mem_map.mp h1
  exact g_tw i hi (List.all_eq_true.mp hg w hw)
theorem g_good {y y' : MethodName} {cc cc' : ByteArray} {n n' : Nat} {r r' : Option FieldType} (h : Cond.code y' cc' n' r' ∈ lw_good) : GoodIn lw_good (Cond.code y' cc' n' r' :: lw_good) := by
  have key : ∀ w ∈ lw_good, w ∈ lw_good ∧ ((w.onTables && w.keeps) = true ∨ ∃ ty, w = .arrayClass ty) := fun w hw => ⟨hw, good_of_word (List.mem_filter.mp hw).2⟩
  intro w hw
  rcases List.mem_cons.mp hw with rfl | hw
  · exact key _ h
  · exact key _ hw
theorem tw0 : (Jvm.Cond.selects "OfficeLadder$Republic" ({ cls := "OfficeLadder$Republic", name := "tie", desc := "(II)V" } : Jvm.MethodName) ({ cls := "OfficeLadder$Republic", name := "tie", desc := "(II)V" } : Jvm.MethodName)) ∈ lw_good := g_tw 0 (by decide +kernel) (by decide +kernel)
theorem tw1 : (Jvm.Cond.selects "OfficeLadder$Filler" ({ cls := "OfficeLadder$Filler", name := "addSlots", desc := "(LOfficeLadder$Office;II)V" } : Jvm.MethodName) ({ cls := "OfficeLadder$Filler", name := "addSlots", desc := "(LOfficeLadder$Office;II)V" } : Jvm.MethodName)) ∈ lw_good := g_tw 1 (by decide +kernel) (by decide +kernel)
theorem tw2 : (Jvm.Cond.selects "OfficeLadder$Filler" ({ cls := "OfficeLadder$Filler", name := "place", desc := "(LOfficeLadder$Republic;I)V" } : Jvm.MethodName) ({ cls := "OfficeLadder$Filler", name := "place", desc := "(LOfficeLadder$Republic;I)V" } : Jvm.MethodName)) ∈ lw_good := g_tw 2 (by decide +kernel) (by decide +kernel)
theorem tw3 : (Jvm.Cond.selects "OfficeLadder$Filler" ({ cls := "OfficeLadder$Filler", name := "tellFound", desc := "()V" } : Jvm.MethodName) ({ cls := "OfficeLadder$Filler", name := "tellFound", desc := "()V" } : Jvm.MethodName)) ∈ lw_good := g_tw 3 (by decide +kernel) (by decide +kernel)
theorem tw4 : (Jvm.Cond.selects "OfficeLadder$Filler" ({ cls := "OfficeLadder$Filler", name := "isOver", desc := "()Z" } : Jvm.MethodName) ({ cls := "OfficeLadder$Filler", name := "isOver", desc := "()Z" } : Jvm.MethodName)) ∈ lw_good := g_tw 4 (by decide +kernel) (by decide +kernel)
theorem tw5 : (Jvm.Cond.selects "OfficeLadder$Filler" ({ cls := "OfficeLadder$Filler", name := "fits", desc := "(LOfficeLadder$Republic;II)Z" } : Jvm.MethodName) ({ cls := "OfficeLadder$Filler", name := "fits", desc := "(LOfficeLadder$Republic;II)Z" } : Jvm.MethodName)) ∈ lw_good := g_tw 5 (by decide +kernel) (by decide +kernel)
theorem tw6 : (Jvm.Cond.selects "OfficeLadder$Filler" ({ cls := "OfficeLadder$Filler", name := "takeAndGoOn", desc := "(LOfficeLadder$Republic;II)V" } : Jvm.MethodName) ({ cls := "OfficeLadder$Filler", name := "takeAndGoOn", desc := "(LOfficeLadder$Republic;II)V" } : Jvm.MethodName)) ∈ lw_good := g_tw 6 (by decide +kernel) (by decide +kernel)
theorem tw7 : (Jvm.Cond.selects "OfficeLadder$Election" ({ cls := "OfficeLadder$Election", name := "begin", desc := "(J)V" } : Jvm.MethodName) ({ cls := "OfficeLadder$Election", name := "begin", desc := "(J)V" } : Jvm.MethodName)) ∈ lw_good := g_tw 7 (by decide +kernel) (by decide +kernel)
theorem tw8 : (Jvm.Cond.selects "OfficeLadder$Election" ({ cls := "OfficeLadder$Election", name := "countUnit", desc := "(I)V" } : Jvm.MethodName) ({ cls := "OfficeLadder$Election", name := "countUnit", desc := "(I)V" } : Jvm.MethodName)) ∈ lw_good := g_tw 8 (by decide +kernel) (by decide +kernel)
theorem tw9 : (Jvm.Cond.selects "OfficeLadder$Election" ({ cls := "OfficeLadder$Election", name := "elect", desc := "(II)V" } : Jvm.MethodName) ({ cls := "OfficeLadder$Election", name := "elect", desc := "(II)V" } : Jvm.MethodName)) ∈ lw_good := g_tw 9 (by decide +kernel) (by decide +kernel)
theorem tw10 : (Jvm.Cond.selects "OfficeLadder$Election" ({ cls := "OfficeLadder$Election", name := "electRest", desc := "()V" } : Jvm.MethodName) ({ cls := "OfficeLadder$Election", name := "electRest", desc := "()V" } : Jvm.MethodName)) ∈ lw_good := g_tw 10 (by decide +kernel) (by decide +kernel)
theorem tw11 : (Jvm.Cond.selects "OfficeLadder$Election" ({ cls := "OfficeLadder$Election", name := "bestOfRest", desc := "()I" } : Jvm.MethodName) ({ cls := "OfficeLadder$Election", name := "bestOfRest", desc := "()I" } : Jvm.MethodName)) ∈ lw_good := g_tw 11 (by decide +kernel) (by decide +kernel)
theorem tw12 : (Jvm.Cond.selects "OfficeLadder$Election" ({ cls := "OfficeLadder$Election", name := "isElected", desc := "(I)Z" } : Jvm.MethodName) ({ cls := "OfficeLadder$Election", name := "isElected", desc := "(I)Z" } : Jvm.MethodName)) ∈ lw_good := g_tw 12 (by decide +kernel) (by decide +kernel)
theorem tw13 : (Jvm.Cond.selects "OfficeLadder$Election" ({ cls := "OfficeLadder$Election", name := "isAhead", desc := "(II)Z" } : Jvm.MethodName) ({ cls := "OfficeLadder$Election", name := "isAhead", desc := "(II)Z" } : Jvm.MethodName)) ∈ lw_good := g_tw 13 (by decide +kernel) (by decide +kernel)
theorem tw14 : (Jvm.Cond.selects "OfficeLadder$Election" ({ cls := "OfficeLadder$Election", name := "lead", desc := "()I" } : Jvm.MethodName) ({ cls := "OfficeLadder$Election", name := "lead", desc := "()I" } : Jvm.MethodName)) ∈ lw_good := g_tw 14 (by decide +kernel) (by decide +kernel)
theorem tw15 : (Jvm.Cond.selects "OfficeLadder$Shelf" ({ cls := "OfficeLadder$Shelf", name := "become", desc := "(II)V" } : Jvm.MethodName) ({ cls := "OfficeLadder$Shelf", name := "become", desc := "(II)V" } : Jvm.MethodName)) ∈ lw_good := g_tw 15 (by decide +kernel) (by decide +kernel)
theorem tw16 : (Jvm.Cond.selects "OfficeLadder" ({ cls := "OfficeLadder", name := "refusalOfLaw", desc := "(I)I" } : Jvm.MethodName) ({ cls := "OfficeLadder", name := "refusalOfLaw", desc := "(I)I" } : Jvm.MethodName)) ∈ lw_good := g_tw 16 (by decide +kernel) (by decide +kernel)
theorem tw17 : (Jvm.Cond.selects "java/lang/Throwable" ({ cls := "java/lang/Throwable", name := "fillInStackTrace", desc := "(I)Ljava/lang/Throwable;" } : Jvm.MethodName) ({ cls := "java/lang/Throwable", name := "fillInStackTrace", desc := "(I)Ljava/lang/Throwable;" } : Jvm.MethodName)) ∈ lw_good := g_tw 17 (by decide +kernel) (by decide +kernel)
theorem tw18 : (Jvm.Cond.selects "OfficeLadderModel" ({ cls := "OfficeLadderModel", name := "in", desc := "(III)Z" } : Jvm.MethodName) ({ cls := "OfficeLadderModel", name := "in", desc := "(III)Z" } : Jvm.MethodName)) ∈ lw_good := g_tw 18 (by decide +kernel) (by decide +kernel)
theorem tw19 : (Jvm.Cond.selects "OfficeLadderModel" ({ cls := "OfficeLadderModel", name := "isSpan", desc := "(II)Z" } : Jvm.MethodName) ({ cls := "OfficeLadderModel", name := "isSpan", desc := "(II)Z" } : Jvm.MethodName)) ∈ lw_good := g_tw 19 (by decide +kernel) (by decide +kernel)
theorem tw20 : (Jvm.Cond.selects "OfficeLadderModel" ({ cls := "OfficeLadderModel", name := "isPerson", desc := "(I)Z" } : Jvm.MethodName) ({ cls := "OfficeLadderModel", name := "isPerson", desc := "(I)Z" } : Jvm.MethodName)) ∈ lw_good := g_tw 20 (by decide +kernel) (by decide +kernel)
theorem tw21 : (Jvm.Cond.selects "OfficeLadderModel" ({ cls := "OfficeLadderModel", name := "isYear", desc := "(I)Z" } : Jvm.MethodName) ({ cls := "OfficeLadderModel", name := "isYear", desc := "(I)Z" } : Jvm.MethodName)) ∈ lw_good := g_tw 21 (by decide +kernel) (by decide +kernel)
theorem tw22 : (Jvm.Cond.selects "OfficeLadderModel" ({ cls := "OfficeLadderModel", name := "isOffice", desc := "(I)Z" } : Jvm.MethodName) ({ cls := "OfficeLadderModel", name := "isOffice", desc := "(I)Z" } : Jvm.MethodName)) ∈ lw_good := g_tw 22 (by decide +kernel) (by decide +kernel)
theorem tw23 : (Jvm.Cond.selects "OfficeLadderModel" ({ cls := "OfficeLadderModel", name := "at", desc := "(III)I" } : Jvm.MethodName) ({ cls := "OfficeLadderModel", name := "at", desc := "(III)I" } : Jvm.MethodName)) ∈ lw_good := g_tw 23 (by decide +kernel) (by decide +kernel)
theorem tw24 : (Jvm.Cond.selects "OfficeLadderModel" ({ cls := "OfficeLadderModel", name := "put", desc := "(III)V" } : Jvm.MethodName) ({ cls := "OfficeLadderModel", name := "put", desc := "(III)V" } : Jvm.MethodName)) ∈ lw_good := g_tw 24 (by decide +kernel) (by decide +kernel)
theorem tw25 : (Jvm.Cond.selects "OfficeLadderModel" ({ cls := "OfficeLadderModel", name := "isSeat", desc := "(III)Z" } : Jvm.MethodName) ({ cls := "OfficeLadderModel", name := "isSeat", desc := "(III)Z" } : Jvm.MethodName)) ∈ lw_good := g_tw 25 (by decide +kernel) (by decide +kernel)
theorem tw26 : (Jvm.Cond.selects "OfficeLadderModel" ({ cls := "OfficeLadderModel", name := "clear", desc := "(II)I" } : Jvm.MethodName) ({ cls := "OfficeLadderModel", name := "clear", desc := "(II)I" } : Jvm.MethodName)) ∈ lw_good := g_tw 26 (by decide +kernel) (by decide +kernel)
theorem tw27 : (Jvm.Cond.selects "OfficeLadderModel" ({ cls := "OfficeLadderModel", name := "officeAt", desc := "(I)I" } : Jvm.MethodName) ({ cls := "OfficeLadderModel", name := "officeAt", desc := "(I)I" } : Jvm.MethodName)) ∈ lw_good := g_tw 27 (by decide +kernel) (by decide +kernel)
theorem tw28 : (Jvm.Cond.selects "OfficeLadderModel" ({ cls := "OfficeLadderModel", name := "hasHeld", desc := "(III)Z" } : Jvm.MethodName) ({ cls := "OfficeLadderModel", name := "hasHeld", desc := "(III)Z" } : Jvm.MethodName)) ∈ lw_good := g_tw 28 (by decide +kernel) (by decide +kernel)
theorem tw29 : (Jvm.Cond.selects "OfficeLadderModel" ({ cls := "OfficeLadderModel", name := "couldBe", desc := "(III)I" } : Jvm.MethodName) ({ cls := "OfficeLadderModel", name := "couldBe", desc := "(III)I" } : Jvm.MethodName)) ∈ lw_good := g_tw 29 (by decide +kernel) (by decide +kernel)
theorem tw30 : (Jvm.Cond.selects "OfficeLadderModel" ({ cls := "OfficeLadderModel", name := "barOf", desc := "(III)I" } : Jvm.MethodName) ({ cls := "OfficeLadderModel", name := "barOf", desc := "(III)I" } : Jvm.MethodName)) ∈ lw_good := g_tw 30 (by decide +kernel) (by decide +kernel)
theorem tw31 : (Jvm.Cond.selects "OfficeLadderModel" ({ cls := "OfficeLadderModel", name := "isInForce", desc := "(III)Z" } : Jvm.MethodName) ({ cls := "OfficeLadderModel", name := "isInForce", desc := "(III)Z" } : Jvm.MethodName)) ∈ lw_good := g_tw 31 (by decide +kernel) (by decide +kernel)
theorem tw32 : (Jvm.Cond.selects "OfficeLadderModel" ({ cls := "OfficeLadderModel", name := "bars", desc := "(IIII)Z" } : Jvm.MethodName) ({ cls := "OfficeLadderModel", name := "bars", desc := "(IIII)Z" } : Jvm.MethodName)) ∈ lw_good := g_tw 32 (by decide +kernel) (by decide +kernel)
theorem tw33 : (Jvm.Cond.selects "OfficeLadderModel" ({ cls := "OfficeLadderModel", name := "heldWithin", desc := "(IIII)Z" } : Jvm.MethodName) ({ cls := "OfficeLadderModel", name := "heldWithin", desc := "(IIII)Z" } : Jvm.MethodName)) ∈ lw_good := g_tw 33 (by decide +kernel) (by decide +kernel)
theorem tw34 : (Jvm.Cond.selects "OfficeLadderModel" ({ cls := "OfficeLadderModel", name := "hasKin", desc := "(III)Z" } : Jvm.MethodName) ({ cls := "OfficeLadderModel", name := "hasKin", desc := "(III)Z" } : Jvm.MethodName)) ∈ lw_good := g_tw 34 (by decide +kernel) (by decide +kernel)
theorem tw35 : (Jvm.Cond.selects "OfficeLadderModel" ({ cls := "OfficeLadderModel", name := "isKin", desc := "(II)Z" } : Jvm.MethodName) ({ cls := "OfficeLadderModel", name := "isKin", desc := "(II)Z" } : Jvm.MethodName)) ∈ lw_good := g_tw 35 (by decide +kernel) (by decide +kernel)
theorem tw36 : (Jvm.Cond.selects "OfficeLadderModel" ({ cls := "OfficeLadderModel", name := "goThrough", desc := "(I)I" } : Jvm.MethodName) ({ cls := "OfficeLadderModel", name := "goThrough", desc := "(I)I" } : Jvm.MethodName)) ∈ lw_good := g_tw 36 (by decide +kernel) (by decide +kernel)
theorem tw37 : (Jvm.Cond.selects "OfficeLadderModel" ({ cls := "OfficeLadderModel", name := "isRight", desc := "(III)Z" } : Jvm.MethodName) ({ cls := "OfficeLadderModel", name := "isRight", desc := "(III)Z" } : Jvm.MethodName)) ∈ lw_good := g_tw 37 (by decide +kernel) (by decide +kernel)
theorem tw38 : (Jvm.Cond.selects "OfficeLadderModel" ({ cls := "OfficeLadderModel", name := "fillYear", desc := "(IZ)I" } : Jvm.MethodName) ({ cls := "OfficeLadderModel", name := "fillYear", desc := "(IZ)I" } : Jvm.MethodName)) ∈ lw_good := g_tw 38 (by decide +kernel) (by decide +kernel)
theorem tw39 : (Jvm.Cond.selects "OfficeLadderModel" ({ cls := "OfficeLadderModel", name := "areAllRight", desc := "(I)Z" } : Jvm.MethodName) ({ cls := "OfficeLadderModel", name := "areAllRight", desc := "(I)Z" } : Jvm.MethodName)) ∈ lw_good := g_tw 39 (by decide +kernel) (by decide +kernel)
theorem tw40 : (Jvm.Cond.selects "OfficeLadderModel" ({ cls := "OfficeLadderModel", name := "isAmong", desc := "()Z" } : Jvm.MethodName) ({ cls := "OfficeLadderModel", name := "isAmong", desc := "()Z" } : Jvm.MethodName)) ∈ lw_good := g_tw 40 (by decide +kernel) (by decide +kernel)
theorem tw41 : (Jvm.Cond.selects "OfficeLadderModel" ({ cls := "OfficeLadderModel", name := "takeBack", desc := "(II)V" } : Jvm.MethodName) ({ cls := "OfficeLadderModel", name := "takeBack", desc := "(II)V" } : Jvm.MethodName)) ∈ lw_good := g_tw 41 (by decide +kernel) (by decide +kernel)
theorem tw42 : (Jvm.Cond.selects "OfficeLadderModel" ({ cls := "OfficeLadderModel", name := "voted", desc := "()I" } : Jvm.MethodName) ({ cls := "OfficeLadderModel", name := "voted", desc := "()I" } : Jvm.MethodName)) ∈ lw_good := g_tw 42 (by decide +kernel) (by decide +kernel)
theorem tw43 : (Jvm.Cond.selects "OfficeLadderModel" ({ cls := "OfficeLadderModel", name := "ones", desc := "(I)I" } : Jvm.MethodName) ({ cls := "OfficeLadderModel", name := "ones", desc := "(I)I" } : Jvm.MethodName)) ∈ lw_good := g_tw 43 (by decide +kernel) (by decide +kernel)
theorem tw44 : (Jvm.Cond.selects "OfficeLadderModel" ({ cls := "OfficeLadderModel", name := "elect", desc := "(J)V" } : Jvm.MethodName) ({ cls := "OfficeLadderModel", name := "elect", desc := "(J)V" } : Jvm.MethodName)) ∈ lw_good := g_tw 44 (by decide +kernel) (by decide +kernel)
theorem tw45 : (Jvm.Cond.selects "OfficeLadderModel" ({ cls := "OfficeLadderModel", name := "draw", desc := "(IJ)V" } : Jvm.MethodName) ({ cls := "OfficeLadderModel", name := "draw", desc := "(IJ)V" } : Jvm.MethodName)) ∈ lw_good := g_tw 45 (by decide +kernel) (by decide +kernel)
theorem tw46 : (Jvm.Cond.selects "OfficeLadderModel" ({ cls := "OfficeLadderModel", name := "beginVotes", desc := "()V" } : Jvm.MethodName) ({ cls := "OfficeLadderModel", name := "beginVotes", desc := "()V" } : Jvm.MethodName)) ∈ lw_good := g_tw 46 (by decide +kernel) (by decide +kernel)
theorem tw47 : (Jvm.Cond.selects "OfficeLadderModel" ({ cls := "OfficeLadderModel", name := "unitVotes", desc := "(I)V" } : Jvm.MethodName) ({ cls := "OfficeLadderModel", name := "unitVotes", desc := "(I)V" } : Jvm.MethodName)) ∈ lw_good := g_tw 47 (by decide +kernel) (by decide +kernel)
theorem tw48 : (Jvm.Cond.selects "OfficeLadderModel" ({ cls := "OfficeLadderModel", name := "choose", desc := "(II)V" } : Jvm.MethodName) ({ cls := "OfficeLadderModel", name := "choose", desc := "(II)V" } : Jvm.MethodName)) ∈ lw_good := g_tw 48 (by decide +kernel) (by decide +kernel)
theorem tw49 : (Jvm.Cond.selects "OfficeLadderModel" ({ cls := "OfficeLadderModel", name := "ahead", desc := "()I" } : Jvm.MethodName) ({ cls := "OfficeLadderModel", name := "ahead", desc := "()I" } : Jvm.MethodName)) ∈ lw_good := g_tw 49 (by decide +kernel) (by decide +kernel)
theorem tw50 : (Jvm.Cond.selects "OfficeLadderModel" ({ cls := "OfficeLadderModel", name := "isShelf", desc := "(I)Z" } : Jvm.MethodName) ({ cls := "OfficeLadderModel", name := "isShelf", desc := "(I)Z" } : Jvm.MethodName)) ∈ lw_good := g_tw 50 (by decide +kernel) (by decide +kernel)
theorem tw51 : (Jvm.Cond.selects "OfficeLadderModel" ({ cls := "OfficeLadderModel", name := "wipe", desc := "(I)V" } : Jvm.MethodName) ({ cls := "OfficeLadderModel", name := "wipe", desc := "(I)V" } : Jvm.MethodName)) ∈ lw_good := g_tw 51 (by decide +kernel) (by decide +kernel)
theorem tw52 : (Jvm.Cond.selects "OfficeLadderModel" ({ cls := "OfficeLadderModel", name := "lacksLaw", desc := "(I)I" } : Jvm.MethodName) ({ cls := "OfficeLadderModel", name := "lacksLaw", desc := "(I)I" } : Jvm.MethodName)) ∈ lw_good := g_tw 52 (by decide +kernel) (by decide +kernel)
theorem tw53 : (Jvm.Cond.initialized "OfficeLadderLaw") ∈ lw_good := g_tw 53 (by decide +kernel) (by decide +kernel)
theorem tw54 : (Jvm.Cond.initialized "OfficeLadder") ∈ lw_good := g_tw 54 (by decide +kernel) (by decide +kernel)
theorem tw55 : (Jvm.Cond.initialized "OfficeLadder$Republic") ∈ lw_good := g_tw 55 (by decide +kernel) (by decide +kernel)
theorem tw56 : (Jvm.Cond.initialized "OfficeLadder$Past") ∈ lw_good := g_tw 56 (by decide +kernel) (by decide +kernel)
theorem tw57 : (Jvm.Cond.initialized "OfficeLadder$Filler") ∈ lw_good := g_tw 57 (by decide +kernel) (by decide +kernel)
theorem tw58 : (Jvm.Cond.initialized "OfficeLadder$Election") ∈ lw_good := g_tw 58 (by decide +kernel) (by decide +kernel)
theorem tw59 : (Jvm.Cond.initialized "OfficeLadder$Shelf") ∈ lw_good := g_tw 59 (by decide +kernel) (by decide +kernel)
theorem tw60 : (Jvm.Cond.initialized "OfficeLadderModel") ∈ lw_good := g_tw 60 (by decide +kernel) (by decide +kernel)
theorem tw61 : (Jvm.Cond.initialized "OfficeLadder$Office") ∈ lw_good := g_tw 61 (by decide +kernel) (by decide +kernel)
theorem tw62 : (Jvm.Cond.initialized "java/util/Arrays") ∈ lw_good := g_tw 62 (by decide +kernel) (by decide +kernel)
theorem tw63 : (Jvm.Cond.initialized "OfficeLadder$Person") ∈ lw_good := g_tw 63 (by decide +kernel) (by decide +kernel)
theorem tw64 : (Jvm.Cond.initialized "OfficeLadder$Law") ∈ lw_good := g_tw 64 (by decide +kernel) (by decide +kernel)
theorem tw65 : (Jvm.Cond.initialized "java/lang/Integer") ∈ lw_good := g_tw 65 (by decide +kernel) (by decide +kernel)
theorem tw66 : (Jvm.Cond.initialized "java/lang/Throwable") ∈ lw_good := g_tw 66 (by decide +kernel) (by decide +kernel)
theorem tw67 : (Jvm.Cond.initialized "java/lang/Exception") ∈ lw_good := g_tw 67 (by decide +kernel) (by decide +kernel)
theorem tw68 : (Jvm.Cond.initialized "java/lang/RuntimeException") ∈ lw_good := g_tw 68 (by decide +kernel) (by decide +kernel)
theorem tw69 : (Jvm.Cond.initialized "java/lang/IllegalArgumentException") ∈ lw_good := g_tw 69 (by decide +kernel) (by decide +kernel)
theorem tw70 : (Jvm.Cond.initialized "java/lang/IllegalStateException") ∈ lw_good := g_tw 70 (by decide +kernel) (by decide +kernel)
theorem tw71 : (Jvm.Cond.initialized "java/lang/System") ∈ lw_good := g_tw 71 (by decide +kernel) (by decide +kernel)
theorem tw72 : (Jvm.Cond.classLink "OfficeLadderLaw" (8 : Nat) "OfficeLadder") ∈ lw_good := g_tw 72 (by decide +kernel) (by decide +kernel)
theorem tw73 : (Jvm.Cond.instantiable "OfficeLadder" (5 : Nat)) ∈ lw_good := g_tw 73 (by decide +kernel) (by decide +kernel)
theorem tw74 : (Jvm.Cond.methodLink "OfficeLadderLaw" (17 : Nat) ({ cls := "OfficeLadder", name := "<init>", desc := "()V" } : Jvm.MethodName)) ∈ lw_good := g_tw 74 (by decide +kernel) (by decide +kernel)
theorem tw75 : (Jvm.Cond.instanceMethod ({ cls := "OfficeLadder", name := "<init>", desc := "()V" } : Jvm.MethodName)) ∈ lw_good := g_tw 75 (by decide +kernel) (by decide +kernel)
theorem tw76 : (Jvm.Cond.code ({ cls := "OfficeLadder", name := "<init>", desc := "()V" } : Jvm.MethodName) prog_1_method_1_code (2 : Nat) (Option.none : Option Jvm.ClassFile.FieldType)) ∈ lw_good := g_tw 76 (by decide +kernel) (by decide +kernel)
theorem tw77 : (Jvm.Cond.methodLink "OfficeLadder" (3 : Nat) ({ cls := "java/lang/Object", name := "<init>", desc := "()V" } : Jvm.MethodName)) ∈ lw_good := g_tw 77 (by decide +kernel) (by decide +kernel)
theorem tw78 : (Jvm.Cond.instanceMethod ({ cls := "java/lang/Object", name := "<init>", desc := "()V" } : Jvm.MethodName)) ∈ lw_good := g_tw 78 (by decide +kernel) (by decide +kernel)
theorem tw79 : (Jvm.Cond.code ({ cls := "java/lang/Object", name := "<init>", desc := "()V" } : Jvm.MethodName) object_method_1_code (1 : Nat) (Option.none : Option Jvm.ClassFile.FieldType)) ∈ lw_good := g_tw 79 (by decide +kernel) (by decide +kernel)
theorem tw80 : (Jvm.Cond.classLink "OfficeLadder" (9 : Nat) "OfficeLadder$Republic") ∈ lw_good := g_tw 80 (by decide +kernel) (by decide +kernel)
theorem tw81 : (Jvm.Cond.instantiable "OfficeLadder$Republic" (9 : Nat)) ∈ lw_good := g_tw 81 (by decide +kernel) (by decide +kernel)
theorem tw83 : (Jvm.Cond.instanceMethod ({ cls := "OfficeLadder$Republic", name := "<init>", desc := "()V" } : Jvm.MethodName)) ∈ lw_good := g_tw 83 (by decide +kernel) (by decide +kernel)
theorem tw84 : (Jvm.Cond.code ({ cls := "OfficeLadder$Republic", name := "<init>", desc := "()V" } : Jvm.MethodName) prog_8_method_1_code (1 : Nat) (Option.none : Option Jvm.ClassFile.FieldType)) ∈ lw_good := g_tw 84 (by decide +kernel) (by decide +kernel)
theorem tw85 : (Jvm.Cond.methodLink "OfficeLadder$Republic" (3 : Nat) ({ cls := "java/lang/Object", name := "<init>", desc := "()V" } : Jvm.MethodName)) ∈ lw_good := g_tw 85 (by decide +kernel) (by decide +kernel)
theorem tw86 : (Jvm.Cond.classLink "OfficeLadder$Republic" (9 : Nat) "OfficeLadder$Office") ∈ lw_good := g_tw 86 (by decide +kernel) (by decide +kernel)
theorem tw88 : (Jvm.Cond.classLink "OfficeLadder$Republic" (17 : Nat) "OfficeLadder$Person") ∈ lw_good := g_tw 88 (by decide +kernel) (by decide +kernel)
theorem tw90 : (Jvm.Cond.classLink "OfficeLadder$Republic" (23 : Nat) "OfficeLadder$Law") ∈ lw_good := g_tw 90 (by decide +kernel) (by decide +kernel)
theorem tw92 : (Jvm.Cond.classLink "OfficeLadder$Republic" (45 : Nat) "OfficeLadder$Past") ∈ lw_good := g_tw 92 (by decide +kernel) (by decide +kernel)
theorem tw93 : (Jvm.Cond.instantiable "OfficeLadder$Past" (4 : Nat)) ∈ lw_good := g_tw 93 (by decide +kernel) (by decide +kernel)
theorem tw95 : (Jvm.Cond.instanceMethod ({ cls := "OfficeLadder$Past", name := "<init>", desc := "()V" } : Jvm.MethodName)) ∈ lw_good := g_tw 95 (by decide +kernel) (by decide +kernel)
theorem tw96 : (Jvm.Cond.code ({ cls := "OfficeLadder$Past", name := "<init>", desc := "()V" } : Jvm.MethodName) prog_6_method_1_code (1 : Nat) (Option.none : Option Jvm.ClassFile.FieldType)) ∈ lw_good := g_tw 96 (by decide +kernel) (by decide +kernel)
theorem tw97 : (Jvm.Cond.methodLink "OfficeLadder$Past" (3 : Nat) ({ cls := "java/lang/Object", name := "<init>", desc := "()V" } : Jvm.MethodName)) ∈ lw_good := g_tw 97 (by decide +kernel) (by decide +kernel)
theorem tw98 : (Jvm.Cond.fieldLink "OfficeLadder$Past" (9 : Nat) "OfficeLadder$Past" "officesHeld" "I") ∈ lw_good := g_tw 98 (by decide +kernel) (by decide +kernel)
theorem tw99 : (Jvm.Cond.fieldLink "OfficeLadder$Law" (35 : Nat) "OfficeLadder$Past" "officesHeld" "I") ∈ lw_good := g_tw 99 (by decide +kernel) (by decide +kernel)
theorem tw100 : (Jvm.Cond.fieldLink "OfficeLadder$Past" (15 : Nat) "OfficeLadder$Past" "lastHeld" "I") ∈ lw_good := g_tw 100 (by decide +kernel) (by decide +kernel)
theorem tw101 : (Jvm.Cond.fieldLink "OfficeLadder$Law" (40 : Nat) "OfficeLadder$Past" "lastHeld" "I") ∈ lw_good := g_tw 101 (by decide +kernel) (by decide +kernel)
theorem tw102 : (Jvm.Cond.fieldLink "OfficeLadder$Past" (18 : Nat) "OfficeLadder$Past" "lastHeldHere" "I") ∈ lw_good := g_tw 102 (by decide +kernel) (by decide +kernel)
theorem tw103 : (Jvm.Cond.fieldLink "OfficeLadder$Law" (43 : Nat) "OfficeLadder$Past" "lastHeldHere" "I") ∈ lw_good := g_tw 103 (by decide +kernel) (by decide +kernel)
theorem tw104 : (Jvm.Cond.fieldLink "OfficeLadder$Past" (36 : Nat) "OfficeLadder$Past" "kinHolds" "Z") ∈ lw_good := g_tw 104 (by decide +kernel) (by decide +kernel)
theorem tw105 : (Jvm.Cond.fieldLink "OfficeLadder$Law" (49 : Nat) "OfficeLadder$Past" "kinHolds" "Z") ∈ lw_good := g_tw 105 (by decide +kernel) (by decide +kernel)
theorem tw115 : (Jvm.Cond.fieldLink "OfficeLadder$Republic" (11 : Nat) "OfficeLadder$Republic" "offices" "[LOfficeLadder$Office;") ∈ lw_good := g_tw 115 (by decide +kernel) (by decide +kernel)
theorem tw116 : (Jvm.Cond.fieldLink "OfficeLadder$Filler" (65 : Nat) "OfficeLadder$Republic" "offices" "[LOfficeLadder$Office;") ∈ lw_good := g_tw 116 (by decide +kernel) (by decide +kernel)
theorem tw117 : (Jvm.Cond.fieldLink "OfficeLadder" (132 : Nat) "OfficeLadder$Republic" "offices" "[LOfficeLadder$Office;") ∈ lw_good := g_tw 117 (by decide +kernel) (by decide +kernel)
theorem tw118 : (Jvm.Cond.fieldLink "OfficeLadder$Republic" (19 : Nat) "OfficeLadder$Republic" "people" "[LOfficeLadder$Person;") ∈ lw_good := g_tw 118 (by decide +kernel) (by decide +kernel)
theorem tw119 : (Jvm.Cond.fieldLink "OfficeLadder" (77 : Nat) "OfficeLadder$Republic" "people" "[LOfficeLadder$Person;") ∈ lw_good := g_tw 119 (by decide +kernel) (by decide +kernel)
theorem tw120 : (Jvm.Cond.fieldLink "OfficeLadder$Filler" (124 : Nat) "OfficeLadder$Republic" "people" "[LOfficeLadder$Person;") ∈ lw_good := g_tw 120 (by decide +kernel) (by decide +kernel)
theorem tw121 : (Jvm.Cond.fieldLink "OfficeLadder$Republic" (25 : Nat) "OfficeLadder$Republic" "laws" "[LOfficeLadder$Law;") ∈ lw_good := g_tw 121 (by decide +kernel) (by decide +kernel)
theorem tw122 : (Jvm.Cond.fieldLink "OfficeLadder" (122 : Nat) "OfficeLadder$Republic" "laws" "[LOfficeLadder$Law;") ∈ lw_good := g_tw 122 (by decide +kernel) (by decide +kernel)
theorem tw123 : (Jvm.Cond.fieldLink "OfficeLadder$Republic" (29 : Nat) "OfficeLadder$Republic" "officeCount" "I") ∈ lw_good := g_tw 123 (by decide +kernel) (by decide +kernel)
theorem tw124 : (Jvm.Cond.fieldLink "OfficeLadder" (41 : Nat) "OfficeLadder$Republic" "officeCount" "I") ∈ lw_good := g_tw 124 (by decide +kernel) (by decide +kernel)
theorem tw125 : (Jvm.Cond.fieldLink "OfficeLadder$Filler" (60 : Nat) "OfficeLadder$Republic" "officeCount" "I") ∈ lw_good := g_tw 125 (by decide +kernel) (by decide +kernel)
theorem tw126 : (Jvm.Cond.fieldLink "OfficeLadder$Republic" (33 : Nat) "OfficeLadder$Republic" "personCount" "I") ∈ lw_good := g_tw 126 (by decide +kernel) (by decide +kernel)
theorem tw127 : (Jvm.Cond.fieldLink "OfficeLadder" (65 : Nat) "OfficeLadder$Republic" "personCount" "I") ∈ lw_good := g_tw 127 (by decide +kernel) (by decide +kernel)
theorem tw128 : (Jvm.Cond.fieldLink "OfficeLadder$Filler" (102 : Nat) "OfficeLadder$Republic" "personCount" "I") ∈ lw_good := g_tw 128 (by decide +kernel) (by decide +kernel)
theorem tw129 : (Jvm.Cond.fieldLink "OfficeLadder$Republic" (36 : Nat) "OfficeLadder$Republic" "lawCount" "I") ∈ lw_good := g_tw 129 (by decide +kernel) (by decide +kernel)
theorem tw130 : (Jvm.Cond.fieldLink "OfficeLadder" (107 : Nat) "OfficeLadder$Republic" "lawCount" "I") ∈ lw_good := g_tw 130 (by decide +kernel) (by decide +kernel)
theorem tw131 : (Jvm.Cond.fieldLink "OfficeLadder$Republic" (39 : Nat) "OfficeLadder$Republic" "heldSeats" "I") ∈ lw_good := g_tw 131 (by decide +kernel) (by decide +kernel)
theorem tw132 : (Jvm.Cond.fieldLink "OfficeLadder" (239 : Nat) "OfficeLadder$Republic" "heldSeats" "I") ∈ lw_good := g_tw 132 (by decide +kernel) (by decide +kernel)
theorem tw133 : (Jvm.Cond.fieldLink "OfficeLadder$Republic" (42 : Nat) "OfficeLadder$Republic" "voidSeats" "I") ∈ lw_good := g_tw 133 (by decide +kernel) (by decide +kernel)
theorem tw134 : (Jvm.Cond.fieldLink "OfficeLadder" (242 : Nat) "OfficeLadder$Republic" "voidSeats" "I") ∈ lw_good := g_tw 134 (by decide +kernel) (by decide +kernel)
theorem tw135 : (Jvm.Cond.fieldLink "OfficeLadder$Republic" (48 : Nat) "OfficeLadder$Republic" "past" "LOfficeLadder$Past;") ∈ lw_good := g_tw 135 (by decide +kernel) (by decide +kernel)
theorem tw155 : (Jvm.Cond.classLink "OfficeLadder" (16 : Nat) "OfficeLadder$Filler") ∈ lw_good := g_tw 155 (by decide +kernel) (by decide +kernel)
theorem tw156 : (Jvm.Cond.instantiable "OfficeLadder$Filler" (15 : Nat)) ∈ lw_good := g_tw 156 (by decide +kernel) (by decide +kernel)
theorem tw158 : (Jvm.Cond.instanceMethod ({ cls := "OfficeLadder$Filler", name := "<init>", desc := "()V" } : Jvm.MethodName)) ∈ lw_good := g_tw 158 (by decide +kernel) (by decide +kernel)
theorem tw159 : (Jvm.Cond.code ({ cls := "OfficeLadder$Filler", name := "<init>", desc := "()V" } : Jvm.MethodName) prog_3_method_1_code (1 : Nat) (Option.none : Option Jvm.ClassFile.FieldType)) ∈ lw_good := g_tw 159 (by decide +kernel) (by decide +kernel)
theorem tw160 : (Jvm.Cond.methodLink "OfficeLadder$Filler" (3 : Nat) ({ cls := "java/lang/Object", name := "<init>", desc := "()V" } : Jvm.MethodName)) ∈ lw_good := g_tw 160 (by decide +kernel) (by decide +kernel)
theorem tw161 : (Jvm.Cond.fieldLink "OfficeLadder$Filler" (57 : Nat) "OfficeLadder$Filler" "slots" "I") ∈ lw_good := g_tw 161 (by decide +kernel) (by decide +kernel)
theorem tw162 : (Jvm.Cond.fieldLink "OfficeLadder" (197 : Nat) "OfficeLadder$Filler" "slots" "I") ∈ lw_good := g_tw 162 (by decide +kernel) (by decide +kernel)
theorem tw163 : (Jvm.Cond.fieldLink "OfficeLadder$Filler" (42 : Nat) "OfficeLadder$Filler" "found" "I") ∈ lw_good := g_tw 163 (by decide +kernel) (by decide +kernel)
theorem tw164 : (Jvm.Cond.fieldLink "OfficeLadder" (190 : Nat) "OfficeLadder$Filler" "found" "I") ∈ lw_good := g_tw 164 (by decide +kernel) (by decide +kernel)
theorem tw165 : (Jvm.Cond.fieldLink "OfficeLadder$Filler" (45 : Nat) "OfficeLadder$Filler" "hits" "I") ∈ lw_good := g_tw 165 (by decide +kernel) (by decide +kernel)
theorem tw166 : (Jvm.Cond.fieldLink "OfficeLadder" (200 : Nat) "OfficeLadder$Filler" "hits" "I") ∈ lw_good := g_tw 166 (by decide +kernel) (by decide +kernel)
theorem tw167 : (Jvm.Cond.fieldLink "OfficeLadder$Filler" (51 : Nat) "OfficeLadder$Filler" "spent" "Z") ∈ lw_good := g_tw 167 (by decide +kernel) (by decide +kernel)
theorem tw168 : (Jvm.Cond.fieldLink "OfficeLadder" (186 : Nat) "OfficeLadder$Filler" "spent" "Z") ∈ lw_good := g_tw 168 (by decide +kernel) (by decide +kernel)
theorem tw169 : (Jvm.Cond.fieldLink "OfficeLadder$Filler" (48 : Nat) "OfficeLadder$Filler" "tries" "I") ∈ lw_good := g_tw 169 (by decide +kernel) (by decide +kernel)
theorem tw170 : (Jvm.Cond.fieldLink "OfficeLadder$Filler" (38 : Nat) "OfficeLadder$Filler" "onlyFirst" "Z") ∈ lw_good := g_tw 170 (by decide +kernel) (by decide +kernel)
theorem tw171 : (Jvm.Cond.fieldLink "OfficeLadder$Filler" (31 : Nat) "OfficeLadder$Filler" "askedPerson" "I") ∈ lw_good := g_tw 171 (by decide +kernel) (by decide +kernel)
theorem tw172 : (Jvm.Cond.fieldLink "OfficeLadder$Filler" (35 : Nat) "OfficeLadder$Filler" "askedOffice" "I") ∈ lw_good := g_tw 172 (by decide +kernel) (by decide +kernel)
theorem tw173 : (Jvm.Cond.fieldLink "OfficeLadder$Filler" (54 : Nat) "OfficeLadder$Filler" "seated" "I") ∈ lw_good := g_tw 173 (by decide +kernel) (by decide +kernel)
theorem tw174 : (Jvm.Cond.fieldLink "OfficeLadder$Filler" (9 : Nat) "OfficeLadder$Filler" "slotOffice" "[I") ∈ lw_good := g_tw 174 (by decide +kernel) (by decide +kernel)
theorem tw175 : (Jvm.Cond.fieldLink "OfficeLadder$Filler" (15 : Nat) "OfficeLadder$Filler" "slotSeat" "[I") ∈ lw_good := g_tw 175 (by decide +kernel) (by decide +kernel)
theorem tw176 : (Jvm.Cond.fieldLink "OfficeLadder$Filler" (18 : Nat) "OfficeLadder$Filler" "chosen" "[I") ∈ lw_good := g_tw 176 (by decide +kernel) (by decide +kernel)
theorem tw177 : (Jvm.Cond.fieldLink "OfficeLadder$Filler" (21 : Nat) "OfficeLadder$Filler" "able" "[I") ∈ lw_good := g_tw 177 (by decide +kernel) (by decide +kernel)
theorem tw178 : (Jvm.Cond.fieldLink "OfficeLadder$Filler" (24 : Nat) "OfficeLadder$Filler" "kinBound" "[Z") ∈ lw_good := g_tw 178 (by decide +kernel) (by decide +kernel)
theorem tw179 : (Jvm.Cond.fieldLink "OfficeLadder$Filler" (28 : Nat) "OfficeLadder$Filler" "putInto" "[I") ∈ lw_good := g_tw 179 (by decide +kernel) (by decide +kernel)
theorem tw211 : (Jvm.Cond.arrayClass Jvm.ClassFile.FieldType.int) ∈ lw_good := g_tw 211 (by decide +kernel) (by decide +kernel)
theorem tw212 : (Jvm.Cond.arrayClass Jvm.ClassFile.FieldType.boolean) ∈ lw_good := g_tw 212 (by decide +kernel) (by decide +kernel)
theorem tw213 : (Jvm.Cond.classLink "OfficeLadder" (23 : Nat) "OfficeLadder$Election") ∈ lw_good := g_tw 213 (by decide +kernel) (by decide +kernel)
theorem tw214 : (Jvm.Cond.instantiable "OfficeLadder$Election" (11 : Nat)) ∈ lw_good := g_tw 214 (by decide +kernel) (by decide +kernel)
theorem tw216 : (Jvm.Cond.instanceMethod ({ cls := "OfficeLadder$Election", name := "<init>", desc := "()V" } : Jvm.MethodName)) ∈ lw_good := g_tw 216 (by decide +kernel) (by decide +kernel)
theorem tw217 : (Jvm.Cond.code ({ cls := "OfficeLadder$Election", name := "<init>", desc := "()V" } : Jvm.MethodName) prog_2_method_1_code (1 : Nat) (Option.none : Option Jvm.ClassFile.FieldType)) ∈ lw_good := g_tw 217 (by decide +kernel) (by decide +kernel)
theorem tw218 : (Jvm.Cond.methodLink "OfficeLadder$Election" (3 : Nat) ({ cls := "java/lang/Object", name := "<init>", desc := "()V" } : Jvm.MethodName)) ∈ lw_good := g_tw 218 (by decide +kernel) (by decide +kernel)
theorem tw219 : (Jvm.Cond.fieldLink "OfficeLadder$Election" (9 : Nat) "OfficeLadder$Election" "candidates" "I") ∈ lw_good := g_tw 219 (by decide +kernel) (by decide +kernel)
theorem tw220 : (Jvm.Cond.fieldLink "OfficeLadder$Election" (15 : Nat) "OfficeLadder$Election" "seats" "I") ∈ lw_good := g_tw 220 (by decide +kernel) (by decide +kernel)
theorem tw221 : (Jvm.Cond.fieldLink "OfficeLadder" (215 : Nat) "OfficeLadder$Election" "seats" "I") ∈ lw_good := g_tw 221 (by decide +kernel) (by decide +kernel)
theorem tw222 : (Jvm.Cond.fieldLink "OfficeLadder$Election" (18 : Nat) "OfficeLadder$Election" "voted" "I") ∈ lw_good := g_tw 222 (by decide +kernel) (by decide +kernel)
theorem tw223 : (Jvm.Cond.fieldLink "OfficeLadder" (203 : Nat) "OfficeLadder$Election" "voted" "I") ∈ lw_good := g_tw 223 (by decide +kernel) (by decide +kernel)
theorem tw224 : (Jvm.Cond.fieldLink "OfficeLadder$Election" (21 : Nat) "OfficeLadder$Election" "winners" "[I") ∈ lw_good := g_tw 224 (by decide +kernel) (by decide +kernel)
theorem tw225 : (Jvm.Cond.fieldLink "OfficeLadder" (222 : Nat) "OfficeLadder$Election" "winners" "[I") ∈ lw_good := g_tw 225 (by decide +kernel) (by decide +kernel)
theorem tw226 : (Jvm.Cond.fieldLink "OfficeLadder$Election" (25 : Nat) "OfficeLadder$Election" "after" "[I") ∈ lw_good := g_tw 226 (by decide +kernel) (by decide +kernel)
theorem tw227 : (Jvm.Cond.fieldLink "OfficeLadder" (225 : Nat) "OfficeLadder$Election" "after" "[I") ∈ lw_good := g_tw 227 (by decide +kernel) (by decide +kernel)
theorem tw228 : (Jvm.Cond.fieldLink "OfficeLadder$Election" (28 : Nat) "OfficeLadder$Election" "electedCount" "I") ∈ lw_good := g_tw 228 (by decide +kernel) (by decide +kernel)
theorem tw229 : (Jvm.Cond.fieldLink "OfficeLadder$Election" (31 : Nat) "OfficeLadder$Election" "ballots" "[I") ∈ lw_good := g_tw 229 (by decide +kernel) (by decide +kernel)
theorem tw230 : (Jvm.Cond.fieldLink "OfficeLadder$Election" (34 : Nat) "OfficeLadder$Election" "order" "[I") ∈ lw_good := g_tw 230 (by decide +kernel) (by decide +kernel)
theorem tw231 : (Jvm.Cond.fieldLink "OfficeLadder$Election" (37 : Nat) "OfficeLadder$Election" "votes" "[I") ∈ lw_good := g_tw 231 (by decide +kernel) (by decide +kernel)
theorem tw232 : (Jvm.Cond.fieldLink "OfficeLadder$Election" (40 : Nat) "OfficeLadder$Election" "reachedAt" "[I") ∈ lw_good := g_tw 232 (by decide +kernel) (by decide +kernel)
theorem tw233 : (Jvm.Cond.fieldLink "OfficeLadder$Election" (43 : Nat) "OfficeLadder$Election" "ranked" "[I") ∈ lw_good := g_tw 233 (by decide +kernel) (by decide +kernel)
theorem tw257 : (Jvm.Cond.classLink "OfficeLadder" (30 : Nat) "OfficeLadder$Shelf") ∈ lw_good := g_tw 257 (by decide +kernel) (by decide +kernel)
theorem tw259 : (Jvm.Cond.instantiable "OfficeLadder$Shelf" (5 : Nat)) ∈ lw_good := g_tw 259 (by decide +kernel) (by decide +kernel)
theorem tw261 : (Jvm.Cond.instanceMethod ({ cls := "OfficeLadder$Shelf", name := "<init>", desc := "()V" } : Jvm.MethodName)) ∈ lw_good := g_tw 261 (by decide +kernel) (by decide +kernel)
theorem tw262 : (Jvm.Cond.code ({ cls := "OfficeLadder$Shelf", name := "<init>", desc := "()V" } : Jvm.MethodName) prog_9_method_1_code (1 : Nat) (Option.none : Option Jvm.ClassFile.FieldType)) ∈ lw_good := g_tw 262 (by decide +kernel) (by decide +kernel)
theorem tw263 : (Jvm.Cond.methodLink "OfficeLadder$Shelf" (3 : Nat) ({ cls := "java/lang/Object", name := "<init>", desc := "()V" } : Jvm.MethodName)) ∈ lw_good := g_tw 263 (by decide +kernel) (by decide +kernel)
theorem tw264 : (Jvm.Cond.fieldLink "OfficeLadder$Shelf" (9 : Nat) "OfficeLadder$Shelf" "kind" "I") ∈ lw_good := g_tw 264 (by decide +kernel) (by decide +kernel)
theorem tw265 : (Jvm.Cond.fieldLink "OfficeLadder" (290 : Nat) "OfficeLadder$Shelf" "kind" "I") ∈ lw_good := g_tw 265 (by decide +kernel) (by decide +kernel)
theorem tw266 : (Jvm.Cond.fieldLink "OfficeLadder$Shelf" (15 : Nat) "OfficeLadder$Shelf" "law" "LOfficeLadder$Law;") ∈ lw_good := g_tw 266 (by decide +kernel) (by decide +kernel)
theorem tw267 : (Jvm.Cond.fieldLink "OfficeLadder" (303 : Nat) "OfficeLadder$Shelf" "law" "LOfficeLadder$Law;") ∈ lw_good := g_tw 267 (by decide +kernel) (by decide +kernel)
theorem tw268 : (Jvm.Cond.fieldLink "OfficeLadder$Shelf" (19 : Nat) "OfficeLadder$Shelf" "length" "I") ∈ lw_good := g_tw 268 (by decide +kernel) (by decide +kernel)
theorem tw269 : (Jvm.Cond.fieldLink "OfficeLadder" (281 : Nat) "OfficeLadder$Shelf" "length" "I") ∈ lw_good := g_tw 269 (by decide +kernel) (by decide +kernel)
theorem tw270 : (Jvm.Cond.fieldLink "OfficeLadder$Shelf" (22 : Nat) "OfficeLadder$Shelf" "bytes" "[B") ∈ lw_good := g_tw 270 (by decide +kernel) (by decide +kernel)
theorem tw271 : (Jvm.Cond.fieldLink "OfficeLadder$Shelf" (26 : Nat) "OfficeLadder$Shelf" "ints" "[I") ∈ lw_good := g_tw 271 (by decide +kernel) (by decide +kernel)
theorem tw283 : (Jvm.Cond.arrayClass Jvm.ClassFile.FieldType.byte) ∈ lw_good := g_tw 283 (by decide +kernel) (by decide +kernel)
theorem tw284 : (Jvm.Cond.fieldLink "OfficeLadder" (12 : Nat) "OfficeLadder" "republic" "LOfficeLadder$Republic;") ∈ lw_good := g_tw 284 (by decide +kernel) (by decide +kernel)
theorem tw285 : (Jvm.Cond.fieldLink "OfficeLadder" (19 : Nat) "OfficeLadder" "filler" "LOfficeLadder$Filler;") ∈ lw_good := g_tw 285 (by decide +kernel) (by decide +kernel)
theorem tw286 : (Jvm.Cond.fieldLink "OfficeLadder" (26 : Nat) "OfficeLadder" "poll" "LOfficeLadder$Election;") ∈ lw_good := g_tw 286 (by decide +kernel) (by decide +kernel)
theorem tw287 : (Jvm.Cond.fieldLink "OfficeLadder" (32 : Nat) "OfficeLadder" "shelves" "[LOfficeLadder$Shelf;") ∈ lw_good := g_tw 287 (by decide +kernel) (by decide +kernel)
theorem tw288 : (Jvm.Cond.fieldLink "OfficeLadder" (36 : Nat) "OfficeLadder" "lots" "[I") ∈ lw_good := g_tw 288 (by decide +kernel) (by decide +kernel)
theorem tw300 : (Jvm.Cond.methodLink "OfficeLadderLaw" (21 : Nat) ({ cls := "OfficeLadder", name := "office", desc := "(IZ)I" } : Jvm.MethodName)) ∈ lw_good := g_tw 300 (by decide +kernel) (by decide +kernel)
theorem tw301 : (Jvm.Cond.instanceMethod ({ cls := "OfficeLadder", name := "office", desc := "(IZ)I" } : Jvm.MethodName)) ∈ lw_good := g_tw 301 (by decide +kernel) (by decide +kernel)
theorem tw302 : (Jvm.Cond.selects "OfficeLadder" ({ cls := "OfficeLadder", name := "office", desc := "(IZ)I" } : Jvm.MethodName) ({ cls := "OfficeLadder", name := "office", desc := "(IZ)I" } : Jvm.MethodName)) ∈ lw_good := g_tw 302 (by decide +kernel) (by decide +kernel)
theorem tw303 : (Jvm.Cond.code ({ cls := "OfficeLadder", name := "office", desc := "(IZ)I" } : Jvm.MethodName) prog_1_method_2_code (3 : Nat) (Option.some Jvm.ClassFile.FieldType.int)) ∈ lw_good := g_tw 303 (by decide +kernel) (by decide +kernel)
theorem tw304 : (Jvm.Cond.classLink "OfficeLadder" (45 : Nat) "OfficeLadder$Office") ∈ lw_good := g_tw 304 (by decide +kernel) (by decide +kernel)
theorem tw305 : (Jvm.Cond.instantiable "OfficeLadder$Office" (3 : Nat)) ∈ lw_good := g_tw 305 (by decide +kernel) (by decide +kernel)
theorem tw306 : (Jvm.Cond.methodLink "OfficeLadder" (47 : Nat) ({ cls := "OfficeLadder$Office", name := "<init>", desc := "(IZ)V" } : Jvm.MethodName)) ∈ lw_good := g_tw 306 (by decide +kernel) (by decide +kernel)
theorem tw307 : (Jvm.Cond.instanceMethod ({ cls := "OfficeLadder$Office", name := "<init>", desc := "(IZ)V" } : Jvm.MethodName)) ∈ lw_good := g_tw 307 (by decide +kernel) (by decide +kernel)
theorem tw308 : (Jvm.Cond.code ({ cls := "OfficeLadder$Office", name := "<init>", desc := "(IZ)V" } : Jvm.MethodName) prog_5_method_1_code (3 : Nat) (Option.none : Option Jvm.ClassFile.FieldType)) ∈ lw_good := g_tw 308 (by decide +kernel) (by decide +kernel)
theorem tw309 : (Jvm.Cond.methodLink "OfficeLadder$Office" (3 : Nat) ({ cls := "java/lang/Object", name := "<init>", desc := "()V" } : Jvm.MethodName)) ∈ lw_good := g_tw 309 (by decide +kernel) (by decide +kernel)
theorem tw310 : (Jvm.Cond.methodLink "OfficeLadder$Office" (23 : Nat) ({ cls := "java/util/Arrays", name := "fill", desc := "([BB)V" } : Jvm.MethodName)) ∈ lw_good := g_tw 310 (by decide +kernel) (by decide +kernel)
theorem tw311 : (Jvm.Cond.static ({ cls := "java/util/Arrays", name := "fill", desc := "([BB)V" } : Jvm.MethodName)) ∈ lw_good := g_tw 311 (by decide +kernel) (by decide +kernel)
theorem tw312 : (Jvm.Cond.code ({ cls := "java/util/Arrays", name := "fill", desc := "([BB)V" } : Jvm.MethodName) prog_20_method_109_code (4 : Nat) (Option.none : Option Jvm.ClassFile.FieldType)) ∈ lw_good := g_tw 312 (by decide +kernel) (by decide +kernel)
theorem tw313 : (Jvm.Cond.fieldLink "OfficeLadder$Office" (9 : Nat) "OfficeLadder$Office" "seats" "I") ∈ lw_good := g_tw 313 (by decide +kernel) (by decide +kernel)
theorem tw314 : (Jvm.Cond.fieldLink "OfficeLadder$Filler" (89 : Nat) "OfficeLadder$Office" "seats" "I") ∈ lw_good := g_tw 314 (by decide +kernel) (by decide +kernel)
theorem tw315 : (Jvm.Cond.fieldLink "OfficeLadder$Republic" (59 : Nat) "OfficeLadder$Office" "seats" "I") ∈ lw_good := g_tw 315 (by decide +kernel) (by decide +kernel)
theorem tw316 : (Jvm.Cond.fieldLink "OfficeLadder$Office" (15 : Nat) "OfficeLadder$Office" "free" "Z") ∈ lw_good := g_tw 316 (by decide +kernel) (by decide +kernel)
theorem tw317 : (Jvm.Cond.fieldLink "OfficeLadder$Republic" (99 : Nat) "OfficeLadder$Office" "free" "Z") ∈ lw_good := g_tw 317 (by decide +kernel) (by decide +kernel)
theorem tw318 : (Jvm.Cond.fieldLink "OfficeLadder$Office" (19 : Nat) "OfficeLadder$Office" "codes" "[B") ∈ lw_good := g_tw 318 (by decide +kernel) (by decide +kernel)
theorem tw326 : (Jvm.Cond.methodLink "OfficeLadder" (50 : Nat) ({ cls := "OfficeLadder$Republic", name := "addOffice", desc := "(LOfficeLadder$Office;)I" } : Jvm.MethodName)) ∈ lw_good := g_tw 326 (by decide +kernel) (by decide +kernel)
theorem tw327 : (Jvm.Cond.instanceMethod ({ cls := "OfficeLadder$Republic", name := "addOffice", desc := "(LOfficeLadder$Office;)I" } : Jvm.MethodName)) ∈ lw_good := g_tw 327 (by decide +kernel) (by decide +kernel)
theorem tw328 : (Jvm.Cond.selects "OfficeLadder$Republic" ({ cls := "OfficeLadder$Republic", name := "addOffice", desc := "(LOfficeLadder$Office;)I" } : Jvm.MethodName) ({ cls := "OfficeLadder$Republic", name := "addOffice", desc := "(LOfficeLadder$Office;)I" } : Jvm.MethodName)) ∈ lw_good := g_tw 328 (by decide +kernel) (by decide +kernel)
theorem tw329 : (Jvm.Cond.code ({ cls := "OfficeLadder$Republic", name := "addOffice", desc := "(LOfficeLadder$Office;)I" } : Jvm.MethodName) prog_8_method_7_code (2 : Nat) (Option.some Jvm.ClassFile.FieldType.int)) ∈ lw_good := g_tw 329 (by decide +kernel) (by decide +kernel)
theorem tw330 : (Jvm.Cond.methodLink "OfficeLadderLaw" (26 : Nat) ({ cls := "OfficeLadder", name := "person", desc := "(IIII)I" } : Jvm.MethodName)) ∈ lw_good := g_tw 330 (by decide +kernel) (by decide +kernel)
theorem tw331 : (Jvm.Cond.instanceMethod ({ cls := "OfficeLadder", name := "person", desc := "(IIII)I" } : Jvm.MethodName)) ∈ lw_good := g_tw 331 (by decide +kernel) (by decide +kernel)
theorem tw332 : (Jvm.Cond.selects "OfficeLadder" ({ cls := "OfficeLadder", name := "person", desc := "(IIII)I" } : Jvm.MethodName) ({ cls := "OfficeLadder", name := "person", desc := "(IIII)I" } : Jvm.MethodName)) ∈ lw_good := g_tw 332 (by decide +kernel) (by decide +kernel)
theorem tw333 : (Jvm.Cond.code ({ cls := "OfficeLadder", name := "person", desc := "(IIII)I" } : Jvm.MethodName) prog_1_method_3_code (5 : Nat) (Option.some Jvm.ClassFile.FieldType.int)) ∈ lw_good := g_tw 333 (by decide +kernel) (by decide +kernel)
theorem tw334 : (Jvm.Cond.methodLink "OfficeLadder" (54 : Nat) ({ cls := "OfficeLadder", name := "isOrder", desc := "(I)Z" } : Jvm.MethodName)) ∈ lw_good := g_tw 334 (by decide +kernel) (by decide +kernel)
theorem tw335 : (Jvm.Cond.static ({ cls := "OfficeLadder", name := "isOrder", desc := "(I)Z" } : Jvm.MethodName)) ∈ lw_good := g_tw 335 (by decide +kernel) (by decide +kernel)
theorem tw336 : (Jvm.Cond.code ({ cls := "OfficeLadder", name := "isOrder", desc := "(I)Z" } : Jvm.MethodName) prog_1_method_38_code (1 : Nat) (Option.some Jvm.ClassFile.FieldType.boolean)) ∈ lw_good := g_tw 336 (by decide +kernel) (by decide +kernel)
theorem tw337 : (Jvm.Cond.methodLink "OfficeLadder" (58 : Nat) ({ cls := "OfficeLadder", name := "isBirth", desc := "(II)Z" } : Jvm.MethodName)) ∈ lw_good := g_tw 337 (by decide +kernel) (by decide +kernel)
theorem tw338 : (Jvm.Cond.static ({ cls := "OfficeLadder", name := "isBirth", desc := "(II)Z" } : Jvm.MethodName)) ∈ lw_good := g_tw 338 (by decide +kernel) (by decide +kernel)
theorem tw339 : (Jvm.Cond.code ({ cls := "OfficeLadder", name := "isBirth", desc := "(II)Z" } : Jvm.MethodName) prog_1_method_39_code (2 : Nat) (Option.some Jvm.ClassFile.FieldType.boolean)) ∈ lw_good := g_tw 339 (by decide +kernel) (by decide +kernel)
theorem tw340 : (Jvm.Cond.methodLink "OfficeLadder" (62 : Nat) ({ cls := "OfficeLadder$Republic", name := "hasPerson", desc := "(I)Z" } : Jvm.MethodName)) ∈ lw_good := g_tw 340 (by decide +kernel) (by decide +kernel)
theorem tw341 : (Jvm.Cond.instanceMethod ({ cls := "OfficeLadder$Republic", name := "hasPerson", desc := "(I)Z" } : Jvm.MethodName)) ∈ lw_good := g_tw 341 (by decide +kernel) (by decide +kernel)
theorem tw342 : (Jvm.Cond.selects "OfficeLadder$Republic" ({ cls := "OfficeLadder$Republic", name := "hasPerson", desc := "(I)Z" } : Jvm.MethodName) ({ cls := "OfficeLadder$Republic", name := "hasPerson", desc := "(I)Z" } : Jvm.MethodName)) ∈ lw_good := g_tw 342 (by decide +kernel) (by decide +kernel)
theorem tw343 : (Jvm.Cond.code ({ cls := "OfficeLadder$Republic", name := "hasPerson", desc := "(I)Z" } : Jvm.MethodName) prog_8_method_3_code (2 : Nat) (Option.some Jvm.ClassFile.FieldType.boolean)) ∈ lw_good := g_tw 343 (by decide +kernel) (by decide +kernel)
theorem tw344 : (Jvm.Cond.classLink "OfficeLadder" (68 : Nat) "OfficeLadder$Person") ∈ lw_good := g_tw 344 (by decide +kernel) (by decide +kernel)
theorem tw345 : (Jvm.Cond.instantiable "OfficeLadder$Person" (9 : Nat)) ∈ lw_good := g_tw 345 (by decide +kernel) (by decide +kernel)
theorem tw346 : (Jvm.Cond.methodLink "OfficeLadder" (70 : Nat) ({ cls := "OfficeLadder$Person", name := "<init>", desc := "(IIII)V" } : Jvm.MethodName)) ∈ lw_good := g_tw 346 (by decide +kernel) (by decide +kernel)
theorem tw347 : (Jvm.Cond.instanceMethod ({ cls := "OfficeLadder$Person", name := "<init>", desc := "(IIII)V" } : Jvm.MethodName)) ∈ lw_good := g_tw 347 (by decide +kernel) (by decide +kernel)
theorem tw348 : (Jvm.Cond.code ({ cls := "OfficeLadder$Person", name := "<init>", desc := "(IIII)V" } : Jvm.MethodName) prog_7_method_1_code (5 : Nat) (Option.none : Option Jvm.ClassFile.FieldType)) ∈ lw_good := g_tw 348 (by decide +kernel) (by decide +kernel)
theorem tw349 : (Jvm.Cond.methodLink "OfficeLadder$Person" (3 : Nat) ({ cls := "java/lang/Object", name := "<init>", desc := "()V" } : Jvm.MethodName)) ∈ lw_good := g_tw 349 (by decide +kernel) (by decide +kernel)
theorem tw350 : (Jvm.Cond.methodLink "OfficeLadder$Person" (40 : Nat) ({ cls := "java/util/Arrays", name := "fill", desc := "([BB)V" } : Jvm.MethodName)) ∈ lw_good := g_tw 350 (by decide +kernel) (by decide +kernel)
theorem tw351 : (Jvm.Cond.fieldLink "OfficeLadder$Person" (28 : Nat) "OfficeLadder$Person" "order" "I") ∈ lw_good := g_tw 351 (by decide +kernel) (by decide +kernel)
theorem tw352 : (Jvm.Cond.fieldLink "OfficeLadder$Law" (46 : Nat) "OfficeLadder$Person" "order" "I") ∈ lw_good := g_tw 352 (by decide +kernel) (by decide +kernel)
theorem tw353 : (Jvm.Cond.fieldLink "OfficeLadder$Person" (37 : Nat) "OfficeLadder$Person" "father" "I") ∈ lw_good := g_tw 353 (by decide +kernel) (by decide +kernel)
theorem tw354 : (Jvm.Cond.fieldLink "OfficeLadder$Republic" (65 : Nat) "OfficeLadder$Person" "father" "I") ∈ lw_good := g_tw 354 (by decide +kernel) (by decide +kernel)
theorem tw355 : (Jvm.Cond.fieldLink "OfficeLadder$Person" (9 : Nat) "OfficeLadder$Person" "posts" "[B") ∈ lw_good := g_tw 355 (by decide +kernel) (by decide +kernel)
theorem tw356 : (Jvm.Cond.fieldLink "OfficeLadder$Past" (21 : Nat) "OfficeLadder$Person" "posts" "[B") ∈ lw_good := g_tw 356 (by decide +kernel) (by decide +kernel)
theorem tw357 : (Jvm.Cond.fieldLink "OfficeLadder" (140 : Nat) "OfficeLadder$Person" "posts" "[B") ∈ lw_good := g_tw 357 (by decide +kernel) (by decide +kernel)
theorem tw358 : (Jvm.Cond.fieldLink "OfficeLadder$Republic" (79 : Nat) "OfficeLadder$Person" "posts" "[B") ∈ lw_good := g_tw 358 (by decide +kernel) (by decide +kernel)
theorem tw359 : (Jvm.Cond.fieldLink "OfficeLadder$Person" (31 : Nat) "OfficeLadder$Person" "first" "I") ∈ lw_good := g_tw 359 (by decide +kernel) (by decide +kernel)
theorem tw360 : (Jvm.Cond.fieldLink "OfficeLadder$Law" (30 : Nat) "OfficeLadder$Person" "first" "I") ∈ lw_good := g_tw 360 (by decide +kernel) (by decide +kernel)
theorem tw361 : (Jvm.Cond.fieldLink "OfficeLadder" (95 : Nat) "OfficeLadder$Person" "first" "I") ∈ lw_good := g_tw 361 (by decide +kernel) (by decide +kernel)
theorem tw362 : (Jvm.Cond.fieldLink "OfficeLadder$Shelf" (40 : Nat) "OfficeLadder$Person" "first" "I") ∈ lw_good := g_tw 362 (by decide +kernel) (by decide +kernel)
theorem tw363 : (Jvm.Cond.fieldLink "OfficeLadder$Republic" (90 : Nat) "OfficeLadder$Person" "first" "I") ∈ lw_good := g_tw 363 (by decide +kernel) (by decide +kernel)
theorem tw364 : (Jvm.Cond.fieldLink "OfficeLadder$Person" (34 : Nat) "OfficeLadder$Person" "last" "I") ∈ lw_good := g_tw 364 (by decide +kernel) (by decide +kernel)
theorem tw365 : (Jvm.Cond.fieldLink "OfficeLadder$Law" (53 : Nat) "OfficeLadder$Person" "last" "I") ∈ lw_good := g_tw 365 (by decide +kernel) (by decide +kernel)
theorem tw366 : (Jvm.Cond.fieldLink "OfficeLadder" (98 : Nat) "OfficeLadder$Person" "last" "I") ∈ lw_good := g_tw 366 (by decide +kernel) (by decide +kernel)
theorem tw367 : (Jvm.Cond.fieldLink "OfficeLadder$Shelf" (45 : Nat) "OfficeLadder$Person" "last" "I") ∈ lw_good := g_tw 367 (by decide +kernel) (by decide +kernel)
theorem tw368 : (Jvm.Cond.fieldLink "OfficeLadder$Person" (15 : Nat) "OfficeLadder$Person" "death" "I") ∈ lw_good := g_tw 368 (by decide +kernel) (by decide +kernel)
theorem tw369 : (Jvm.Cond.fieldLink "OfficeLadder" (81 : Nat) "OfficeLadder$Person" "death" "I") ∈ lw_good := g_tw 369 (by decide +kernel) (by decide +kernel)
theorem tw370 : (Jvm.Cond.fieldLink "OfficeLadder$Shelf" (48 : Nat) "OfficeLadder$Person" "death" "I") ∈ lw_good := g_tw 370 (by decide +kernel) (by decide +kernel)
theorem tw371 : (Jvm.Cond.fieldLink "OfficeLadder$Republic" (87 : Nat) "OfficeLadder$Person" "death" "I") ∈ lw_good := g_tw 371 (by decide +kernel) (by decide +kernel)
theorem tw372 : (Jvm.Cond.fieldLink "OfficeLadder$Person" (19 : Nat) "OfficeLadder$Person" "exileFrom" "I") ∈ lw_good := g_tw 372 (by decide +kernel) (by decide +kernel)
theorem tw373 : (Jvm.Cond.fieldLink "OfficeLadder$Shelf" (51 : Nat) "OfficeLadder$Person" "exileFrom" "I") ∈ lw_good := g_tw 373 (by decide +kernel) (by decide +kernel)
theorem tw374 : (Jvm.Cond.fieldLink "OfficeLadder$Republic" (93 : Nat) "OfficeLadder$Person" "exileFrom" "I") ∈ lw_good := g_tw 374 (by decide +kernel) (by decide +kernel)
theorem tw375 : (Jvm.Cond.fieldLink "OfficeLadder$Person" (22 : Nat) "OfficeLadder$Person" "exileTo" "I") ∈ lw_good := g_tw 375 (by decide +kernel) (by decide +kernel)
theorem tw376 : (Jvm.Cond.fieldLink "OfficeLadder$Shelf" (54 : Nat) "OfficeLadder$Person" "exileTo" "I") ∈ lw_good := g_tw 376 (by decide +kernel) (by decide +kernel)
theorem tw377 : (Jvm.Cond.fieldLink "OfficeLadder$Republic" (96 : Nat) "OfficeLadder$Person" "exileTo" "I") ∈ lw_good := g_tw 377 (by decide +kernel) (by decide +kernel)
theorem tw378 : (Jvm.Cond.fieldLink "OfficeLadder$Person" (25 : Nat) "OfficeLadder$Person" "kin" "I") ∈ lw_good := g_tw 378 (by decide +kernel) (by decide +kernel)
theorem tw379 : (Jvm.Cond.fieldLink "OfficeLadder$Past" (27 : Nat) "OfficeLadder$Person" "kin" "I") ∈ lw_good := g_tw 379 (by decide +kernel) (by decide +kernel)
theorem tw380 : (Jvm.Cond.fieldLink "OfficeLadder$Filler" (128 : Nat) "OfficeLadder$Person" "kin" "I") ∈ lw_good := g_tw 380 (by decide +kernel) (by decide +kernel)
theorem tw381 : (Jvm.Cond.fieldLink "OfficeLadder$Republic" (72 : Nat) "OfficeLadder$Person" "kin" "I") ∈ lw_good := g_tw 381 (by decide +kernel) (by decide +kernel)
theorem tw401 : (Jvm.Cond.methodLink "OfficeLadder" (73 : Nat) ({ cls := "OfficeLadder$Republic", name := "addPerson", desc := "(LOfficeLadder$Person;)I" } : Jvm.MethodName)) ∈ lw_good := g_tw 401 (by decide +kernel) (by decide +kernel)
theorem tw402 : (Jvm.Cond.instanceMethod ({ cls := "OfficeLadder$Republic", name := "addPerson", desc := "(LOfficeLadder$Person;)I" } : Jvm.MethodName)) ∈ lw_good := g_tw 402 (by decide +kernel) (by decide +kernel)
theorem tw403 : (Jvm.Cond.selects "OfficeLadder$Republic" ({ cls := "OfficeLadder$Republic", name := "addPerson", desc := "(LOfficeLadder$Person;)I" } : Jvm.MethodName) ({ cls := "OfficeLadder$Republic", name := "addPerson", desc := "(LOfficeLadder$Person;)I" } : Jvm.MethodName)) ∈ lw_good := g_tw 403 (by decide +kernel) (by decide +kernel)
theorem tw404 : (Jvm.Cond.code ({ cls := "OfficeLadder$Republic", name := "addPerson", desc := "(LOfficeLadder$Person;)I" } : Jvm.MethodName) prog_8_method_9_code (4 : Nat) (Option.some Jvm.ClassFile.FieldType.int)) ∈ lw_good := g_tw 404 (by decide +kernel) (by decide +kernel)
theorem tw405 : (Jvm.Cond.methodLink "OfficeLadder$Republic" (68 : Nat) ({ cls := "OfficeLadder$Republic", name := "tie", desc := "(II)V" } : Jvm.MethodName)) ∈ lw_good := g_tw 405 (by decide +kernel) (by decide +kernel)
theorem tw407 : (Jvm.Cond.instanceMethod ({ cls := "OfficeLadder$Republic", name := "tie", desc := "(II)V" } : Jvm.MethodName)) ∈ lw_good := g_tw 407 (by decide +kernel) (by decide +kernel)
theorem tw408 : (Jvm.Cond.code ({ cls := "OfficeLadder$Republic", name := "tie", desc := "(II)V" } : Jvm.MethodName) prog_8_method_10_code (3 : Nat) (Option.none : Option Jvm.ClassFile.FieldType)) ∈ lw_good := g_tw 408 (by decide +kernel) (by decide +kernel)
theorem tw409 : (Jvm.Cond.methodLink "OfficeLadderLaw" (31 : Nat) ({ cls := "OfficeLadder", name := "death", desc := "(II)I" } : Jvm.MethodName)) ∈ lw_good := g_tw 409 (by decide +kernel) (by decide +kernel)
theorem tw410 : (Jvm.Cond.instanceMethod ({ cls := "OfficeLadder", name := "death", desc := "(II)I" } : Jvm.MethodName)) ∈ lw_good := g_tw 410 (by decide +kernel) (by decide +kernel)
theorem tw411 : (Jvm.Cond.selects "OfficeLadder" ({ cls := "OfficeLadder", name := "death", desc := "(II)I" } : Jvm.MethodName) ({ cls := "OfficeLadder", name := "death", desc := "(II)I" } : Jvm.MethodName)) ∈ lw_good := g_tw 411 (by decide +kernel) (by decide +kernel)
theorem tw412 : (Jvm.Cond.code ({ cls := "OfficeLadder", name := "death", desc := "(II)I" } : Jvm.MethodName) prog_1_method_4_code (5 : Nat) (Option.some Jvm.ClassFile.FieldType.int)) ∈ lw_good := g_tw 412 (by decide +kernel) (by decide +kernel)
theorem tw413 : (Jvm.Cond.methodLink "OfficeLadderLaw" (36 : Nat) ({ cls := "OfficeLadder", name := "exile", desc := "(III)I" } : Jvm.MethodName)) ∈ lw_good := g_tw 413 (by decide +kernel) (by decide +kernel)
theorem tw414 : (Jvm.Cond.instanceMethod ({ cls := "OfficeLadder", name := "exile", desc := "(III)I" } : Jvm.MethodName)) ∈ lw_good := g_tw 414 (by decide +kernel) (by decide +kernel)
theorem tw415 : (Jvm.Cond.selects "OfficeLadder" ({ cls := "OfficeLadder", name := "exile", desc := "(III)I" } : Jvm.MethodName) ({ cls := "OfficeLadder", name := "exile", desc := "(III)I" } : Jvm.MethodName)) ∈ lw_good := g_tw 415 (by decide +kernel) (by decide +kernel)
theorem tw416 : (Jvm.Cond.code ({ cls := "OfficeLadder", name := "exile", desc := "(III)I" } : Jvm.MethodName) prog_1_method_5_code (6 : Nat) (Option.some Jvm.ClassFile.FieldType.int)) ∈ lw_good := g_tw 416 (by decide +kernel) (by decide +kernel)
theorem tw417 : (Jvm.Cond.methodLink "OfficeLadder" (84 : Nat) ({ cls := "OfficeLadder", name := "isYear", desc := "(I)Z" } : Jvm.MethodName)) ∈ lw_good := g_tw 417 (by decide +kernel) (by decide +kernel)
theorem tw418 : (Jvm.Cond.static ({ cls := "OfficeLadder", name := "isYear", desc := "(I)Z" } : Jvm.MethodName)) ∈ lw_good := g_tw 418 (by decide +kernel) (by decide +kernel)
theorem tw419 : (Jvm.Cond.code ({ cls := "OfficeLadder", name := "isYear", desc := "(I)Z" } : Jvm.MethodName) prog_1_method_37_code (1 : Nat) (Option.some Jvm.ClassFile.FieldType.boolean)) ∈ lw_good := g_tw 419 (by decide +kernel) (by decide +kernel)
theorem tw420 : (Jvm.Cond.methodLink "OfficeLadder" (87 : Nat) ({ cls := "OfficeLadder$Person", name := "hasExile", desc := "()Z" } : Jvm.MethodName)) ∈ lw_good := g_tw 420 (by decide +kernel) (by decide +kernel)
theorem tw421 : (Jvm.Cond.instanceMethod ({ cls := "OfficeLadder$Person", name := "hasExile", desc := "()Z" } : Jvm.MethodName)) ∈ lw_good := g_tw 421 (by decide +kernel) (by decide +kernel)
theorem tw422 : (Jvm.Cond.selects "OfficeLadder$Person" ({ cls := "OfficeLadder$Person", name := "hasExile", desc := "()Z" } : Jvm.MethodName) ({ cls := "OfficeLadder$Person", name := "hasExile", desc := "()Z" } : Jvm.MethodName)) ∈ lw_good := g_tw 422 (by decide +kernel) (by decide +kernel)
theorem tw423 : (Jvm.Cond.code ({ cls := "OfficeLadder$Person", name := "hasExile", desc := "()Z" } : Jvm.MethodName) prog_7_method_2_code (1 : Nat) (Option.some Jvm.ClassFile.FieldType.boolean)) ∈ lw_good := g_tw 423 (by decide +kernel) (by decide +kernel)
theorem tw424 : (Jvm.Cond.methodLink "OfficeLadder" (91 : Nat) ({ cls := "OfficeLadder$Person", name := "setExile", desc := "(II)V" } : Jvm.MethodName)) ∈ lw_good := g_tw 424 (by decide +kernel) (by decide +kernel)
theorem tw425 : (Jvm.Cond.instanceMethod ({ cls := "OfficeLadder$Person", name := "setExile", desc := "(II)V" } : Jvm.MethodName)) ∈ lw_good := g_tw 425 (by decide +kernel) (by decide +kernel)
theorem tw426 : (Jvm.Cond.selects "OfficeLadder$Person" ({ cls := "OfficeLadder$Person", name := "setExile", desc := "(II)V" } : Jvm.MethodName) ({ cls := "OfficeLadder$Person", name := "setExile", desc := "(II)V" } : Jvm.MethodName)) ∈ lw_good := g_tw 426 (by decide +kernel) (by decide +kernel)
theorem tw427 : (Jvm.Cond.code ({ cls := "OfficeLadder$Person", name := "setExile", desc := "(II)V" } : Jvm.MethodName) prog_7_method_3_code (4 : Nat) (Option.none : Option Jvm.ClassFile.FieldType)) ∈ lw_good := g_tw 427 (by decide +kernel) (by decide +kernel)
theorem tw428 : (Jvm.Cond.methodLink "OfficeLadderLaw" (41 : Nat) ({ cls := "OfficeLadder", name := "birth", desc := "(III)I" } : Jvm.MethodName)) ∈ lw_good := g_tw 428 (by decide +kernel) (by decide +kernel)
theorem tw429 : (Jvm.Cond.instanceMethod ({ cls := "OfficeLadder", name := "birth", desc := "(III)I" } : Jvm.MethodName)) ∈ lw_good := g_tw 429 (by decide +kernel) (by decide +kernel)
theorem tw430 : (Jvm.Cond.selects "OfficeLadder" ({ cls := "OfficeLadder", name := "birth", desc := "(III)I" } : Jvm.MethodName) ({ cls := "OfficeLadder", name := "birth", desc := "(III)I" } : Jvm.MethodName)) ∈ lw_good := g_tw 430 (by decide +kernel) (by decide +kernel)
theorem tw431 : (Jvm.Cond.code ({ cls := "OfficeLadder", name := "birth", desc := "(III)I" } : Jvm.MethodName) prog_1_method_6_code (6 : Nat) (Option.some Jvm.ClassFile.FieldType.int)) ∈ lw_good := g_tw 431 (by decide +kernel) (by decide +kernel)
theorem tw432 : (Jvm.Cond.methodLink "OfficeLadderLaw" (45 : Nat) ({ cls := "OfficeLadder", name := "law", desc := "(IIII)I" } : Jvm.MethodName)) ∈ lw_good := g_tw 432 (by decide +kernel) (by decide +kernel)
theorem tw433 : (Jvm.Cond.instanceMethod ({ cls := "OfficeLadder", name := "law", desc := "(IIII)I" } : Jvm.MethodName)) ∈ lw_good := g_tw 433 (by decide +kernel) (by decide +kernel)
theorem tw434 : (Jvm.Cond.selects "OfficeLadder" ({ cls := "OfficeLadder", name := "law", desc := "(IIII)I" } : Jvm.MethodName) ({ cls := "OfficeLadder", name := "law", desc := "(IIII)I" } : Jvm.MethodName)) ∈ lw_good := g_tw 434 (by decide +kernel) (by decide +kernel)
theorem tw435 : (Jvm.Cond.code ({ cls := "OfficeLadder", name := "law", desc := "(IIII)I" } : Jvm.MethodName) prog_1_method_7_code (7 : Nat) (Option.some Jvm.ClassFile.FieldType.int)) ∈ lw_good := g_tw 435 (by decide +kernel) (by decide +kernel)
theorem tw436 : (Jvm.Cond.methodLink "OfficeLadder" (101 : Nat) ({ cls := "OfficeLadder$Republic", name := "hasOffice", desc := "(I)Z" } : Jvm.MethodName)) ∈ lw_good := g_tw 436 (by decide +kernel) (by decide +kernel)
theorem tw437 : (Jvm.Cond.instanceMethod ({ cls := "OfficeLadder$Republic", name := "hasOffice", desc := "(I)Z" } : Jvm.MethodName)) ∈ lw_good := g_tw 437 (by decide +kernel) (by decide +kernel)
theorem tw438 : (Jvm.Cond.selects "OfficeLadder$Republic" ({ cls := "OfficeLadder$Republic", name := "hasOffice", desc := "(I)Z" } : Jvm.MethodName) ({ cls := "OfficeLadder$Republic", name := "hasOffice", desc := "(I)Z" } : Jvm.MethodName)) ∈ lw_good := g_tw 438 (by decide +kernel) (by decide +kernel)
theorem tw439 : (Jvm.Cond.code ({ cls := "OfficeLadder$Republic", name := "hasOffice", desc := "(I)Z" } : Jvm.MethodName) prog_8_method_2_code (2 : Nat) (Option.some Jvm.ClassFile.FieldType.boolean)) ∈ lw_good := g_tw 439 (by decide +kernel) (by decide +kernel)
theorem tw440 : (Jvm.Cond.methodLink "OfficeLadder" (104 : Nat) ({ cls := "OfficeLadder$Republic", name := "isNumberOf", desc := "(II)Z" } : Jvm.MethodName)) ∈ lw_good := g_tw 440 (by decide +kernel) (by decide +kernel)
theorem tw441 : (Jvm.Cond.instanceMethod ({ cls := "OfficeLadder$Republic", name := "isNumberOf", desc := "(II)Z" } : Jvm.MethodName)) ∈ lw_good := g_tw 441 (by decide +kernel) (by decide +kernel)
theorem tw442 : (Jvm.Cond.selects "OfficeLadder$Republic" ({ cls := "OfficeLadder$Republic", name := "isNumberOf", desc := "(II)Z" } : Jvm.MethodName) ({ cls := "OfficeLadder$Republic", name := "isNumberOf", desc := "(II)Z" } : Jvm.MethodName)) ∈ lw_good := g_tw 442 (by decide +kernel) (by decide +kernel)
theorem tw443 : (Jvm.Cond.code ({ cls := "OfficeLadder$Republic", name := "isNumberOf", desc := "(II)Z" } : Jvm.MethodName) prog_8_method_6_code (3 : Nat) (Option.some Jvm.ClassFile.FieldType.boolean)) ∈ lw_good := g_tw 443 (by decide +kernel) (by decide +kernel)
theorem tw444 : (Jvm.Cond.methodLink "OfficeLadder$Republic" (52 : Nat) ({ cls := "OfficeLadder$Republic", name := "hasOffice", desc := "(I)Z" } : Jvm.MethodName)) ∈ lw_good := g_tw 444 (by decide +kernel) (by decide +kernel)
theorem tw446 : (Jvm.Cond.classLink "OfficeLadder" (110 : Nat) "OfficeLadder$Law") ∈ lw_good := g_tw 446 (by decide +kernel) (by decide +kernel)
theorem tw447 : (Jvm.Cond.instantiable "OfficeLadder$Law" (6 : Nat)) ∈ lw_good := g_tw 447 (by decide +kernel) (by decide +kernel)
theorem tw448 : (Jvm.Cond.methodLink "OfficeLadder" (112 : Nat) ({ cls := "OfficeLadder$Law", name := "<init>", desc := "(IIIIII)V" } : Jvm.MethodName)) ∈ lw_good := g_tw 448 (by decide +kernel) (by decide +kernel)
theorem tw449 : (Jvm.Cond.instanceMethod ({ cls := "OfficeLadder$Law", name := "<init>", desc := "(IIIIII)V" } : Jvm.MethodName)) ∈ lw_good := g_tw 449 (by decide +kernel) (by decide +kernel)
theorem tw450 : (Jvm.Cond.code ({ cls := "OfficeLadder$Law", name := "<init>", desc := "(IIIIII)V" } : Jvm.MethodName) prog_4_method_1_code (7 : Nat) (Option.none : Option Jvm.ClassFile.FieldType)) ∈ lw_good := g_tw 450 (by decide +kernel) (by decide +kernel)
theorem tw451 : (Jvm.Cond.methodLink "OfficeLadder$Law" (3 : Nat) ({ cls := "java/lang/Object", name := "<init>", desc := "()V" } : Jvm.MethodName)) ∈ lw_good := g_tw 451 (by decide +kernel) (by decide +kernel)
theorem tw452 : (Jvm.Cond.fieldLink "OfficeLadder$Law" (9 : Nat) "OfficeLadder$Law" "number" "I") ∈ lw_good := g_tw 452 (by decide +kernel) (by decide +kernel)
theorem tw453 : (Jvm.Cond.fieldLink "OfficeLadder" (314 : Nat) "OfficeLadder$Law" "number" "I") ∈ lw_good := g_tw 453 (by decide +kernel) (by decide +kernel)
theorem tw454 : (Jvm.Cond.fieldLink "OfficeLadder$Law" (15 : Nat) "OfficeLadder$Law" "kind" "I") ∈ lw_good := g_tw 454 (by decide +kernel) (by decide +kernel)
theorem tw455 : (Jvm.Cond.fieldLink "OfficeLadder$Republic" (126 : Nat) "OfficeLadder$Law" "kind" "I") ∈ lw_good := g_tw 455 (by decide +kernel) (by decide +kernel)
theorem tw456 : (Jvm.Cond.fieldLink "OfficeLadder$Law" (18 : Nat) "OfficeLadder$Law" "office" "I") ∈ lw_good := g_tw 456 (by decide +kernel) (by decide +kernel)
theorem tw457 : (Jvm.Cond.fieldLink "OfficeLadder$Law" (21 : Nat) "OfficeLadder$Law" "n" "I") ∈ lw_good := g_tw 457 (by decide +kernel) (by decide +kernel)
theorem tw458 : (Jvm.Cond.fieldLink "OfficeLadder$Law" (24 : Nat) "OfficeLadder$Law" "from" "I") ∈ lw_good := g_tw 458 (by decide +kernel) (by decide +kernel)
theorem tw459 : (Jvm.Cond.fieldLink "OfficeLadder" (126 : Nat) "OfficeLadder$Law" "from" "I") ∈ lw_good := g_tw 459 (by decide +kernel) (by decide +kernel)
theorem tw460 : (Jvm.Cond.fieldLink "OfficeLadder$Law" (27 : Nat) "OfficeLadder$Law" "to" "I") ∈ lw_good := g_tw 460 (by decide +kernel) (by decide +kernel)
theorem tw461 : (Jvm.Cond.fieldLink "OfficeLadder" (129 : Nat) "OfficeLadder$Law" "to" "I") ∈ lw_good := g_tw 461 (by decide +kernel) (by decide +kernel)
theorem tw475 : (Jvm.Cond.methodLink "OfficeLadder" (115 : Nat) ({ cls := "OfficeLadder$Republic", name := "addLaw", desc := "(LOfficeLadder$Law;)I" } : Jvm.MethodName)) ∈ lw_good := g_tw 475 (by decide +kernel) (by decide +kernel)
theorem tw476 : (Jvm.Cond.instanceMethod ({ cls := "OfficeLadder$Republic", name := "addLaw", desc := "(LOfficeLadder$Law;)I" } : Jvm.MethodName)) ∈ lw_good := g_tw 476 (by decide +kernel) (by decide +kernel)
theorem tw477 : (Jvm.Cond.selects "OfficeLadder$Republic" ({ cls := "OfficeLadder$Republic", name := "addLaw", desc := "(LOfficeLadder$Law;)I" } : Jvm.MethodName) ({ cls := "OfficeLadder$Republic", name := "addLaw", desc := "(LOfficeLadder$Law;)I" } : Jvm.MethodName)) ∈ lw_good := g_tw 477 (by decide +kernel) (by decide +kernel)
theorem tw478 : (Jvm.Cond.code ({ cls := "OfficeLadder$Republic", name := "addLaw", desc := "(LOfficeLadder$Law;)I" } : Jvm.MethodName) prog_8_method_8_code (2 : Nat) (Option.some Jvm.ClassFile.FieldType.int)) ∈ lw_good := g_tw 478 (by decide +kernel) (by decide +kernel)
theorem tw479 : (Jvm.Cond.methodLink "OfficeLadderLaw" (49 : Nat) ({ cls := "OfficeLadder", name := "repeal", desc := "(II)I" } : Jvm.MethodName)) ∈ lw_good := g_tw 479 (by decide +kernel) (by decide +kernel)
theorem tw480 : (Jvm.Cond.instanceMethod ({ cls := "OfficeLadder", name := "repeal", desc := "(II)I" } : Jvm.MethodName)) ∈ lw_good := g_tw 480 (by decide +kernel) (by decide +kernel)
theorem tw481 : (Jvm.Cond.selects "OfficeLadder" ({ cls := "OfficeLadder", name := "repeal", desc := "(II)I" } : Jvm.MethodName) ({ cls := "OfficeLadder", name := "repeal", desc := "(II)I" } : Jvm.MethodName)) ∈ lw_good := g_tw 481 (by decide +kernel) (by decide +kernel)
theorem tw482 : (Jvm.Cond.code ({ cls := "OfficeLadder", name := "repeal", desc := "(II)I" } : Jvm.MethodName) prog_1_method_8_code (5 : Nat) (Option.some Jvm.ClassFile.FieldType.int)) ∈ lw_good := g_tw 482 (by decide +kernel) (by decide +kernel)
theorem tw483 : (Jvm.Cond.methodLink "OfficeLadder" (119 : Nat) ({ cls := "OfficeLadder$Republic", name := "hasLaw", desc := "(I)Z" } : Jvm.MethodName)) ∈ lw_good := g_tw 483 (by decide +kernel) (by decide +kernel)
theorem tw484 : (Jvm.Cond.instanceMethod ({ cls := "OfficeLadder$Republic", name := "hasLaw", desc := "(I)Z" } : Jvm.MethodName)) ∈ lw_good := g_tw 484 (by decide +kernel) (by decide +kernel)
theorem tw485 : (Jvm.Cond.selects "OfficeLadder$Republic" ({ cls := "OfficeLadder$Republic", name := "hasLaw", desc := "(I)Z" } : Jvm.MethodName) ({ cls := "OfficeLadder$Republic", name := "hasLaw", desc := "(I)Z" } : Jvm.MethodName)) ∈ lw_good := g_tw 485 (by decide +kernel) (by decide +kernel)
theorem tw486 : (Jvm.Cond.code ({ cls := "OfficeLadder$Republic", name := "hasLaw", desc := "(I)Z" } : Jvm.MethodName) prog_8_method_4_code (2 : Nat) (Option.some Jvm.ClassFile.FieldType.boolean)) ∈ lw_good := g_tw 486 (by decide +kernel) (by decide +kernel)
theorem tw487 : (Jvm.Cond.methodLink "OfficeLadderLaw" (53 : Nat) ({ cls := "OfficeLadder", name := "stone", desc := "(III)I" } : Jvm.MethodName)) ∈ lw_good := g_tw 487 (by decide +kernel) (by decide +kernel)
theorem tw488 : (Jvm.Cond.instanceMethod ({ cls := "OfficeLadder", name := "stone", desc := "(III)I" } : Jvm.MethodName)) ∈ lw_good := g_tw 488 (by decide +kernel) (by decide +kernel)
theorem tw489 : (Jvm.Cond.selects "OfficeLadder" ({ cls := "OfficeLadder", name := "stone", desc := "(III)I" } : Jvm.MethodName) ({ cls := "OfficeLadder", name := "stone", desc := "(III)I" } : Jvm.MethodName)) ∈ lw_good := g_tw 489 (by decide +kernel) (by decide +kernel)
theorem tw490 : (Jvm.Cond.code ({ cls := "OfficeLadder", name := "stone", desc := "(III)I" } : Jvm.MethodName) prog_1_method_9_code (5 : Nat) (Option.some Jvm.ClassFile.FieldType.int)) ∈ lw_good := g_tw 490 (by decide +kernel) (by decide +kernel)
theorem tw491 : (Jvm.Cond.methodLink "OfficeLadder" (136 : Nat) ({ cls := "OfficeLadder$Office", name := "firstEmpty", desc := "(I)I" } : Jvm.MethodName)) ∈ lw_good := g_tw 491 (by decide +kernel) (by decide +kernel)
theorem tw492 : (Jvm.Cond.instanceMethod ({ cls := "OfficeLadder$Office", name := "firstEmpty", desc := "(I)I" } : Jvm.MethodName)) ∈ lw_good := g_tw 492 (by decide +kernel) (by decide +kernel)
theorem tw493 : (Jvm.Cond.selects "OfficeLadder$Office" ({ cls := "OfficeLadder$Office", name := "firstEmpty", desc := "(I)I" } : Jvm.MethodName) ({ cls := "OfficeLadder$Office", name := "firstEmpty", desc := "(I)I" } : Jvm.MethodName)) ∈ lw_good := g_tw 493 (by decide +kernel) (by decide +kernel)
theorem tw494 : (Jvm.Cond.code ({ cls := "OfficeLadder$Office", name := "firstEmpty", desc := "(I)I" } : Jvm.MethodName) prog_5_method_6_code (3 : Nat) (Option.some Jvm.ClassFile.FieldType.int)) ∈ lw_good := g_tw 494 (by decide +kernel) (by decide +kernel)
theorem tw495 : (Jvm.Cond.methodLink "OfficeLadder$Office" (29 : Nat) ({ cls := "OfficeLadder$Office", name := "code", desc := "(II)I" } : Jvm.MethodName)) ∈ lw_good := g_tw 495 (by decide +kernel) (by decide +kernel)
theorem tw496 : (Jvm.Cond.instanceMethod ({ cls := "OfficeLadder$Office", name := "code", desc := "(II)I" } : Jvm.MethodName)) ∈ lw_good := g_tw 496 (by decide +kernel) (by decide +kernel)
theorem tw497 : (Jvm.Cond.selects "OfficeLadder$Office" ({ cls := "OfficeLadder$Office", name := "code", desc := "(II)I" } : Jvm.MethodName) ({ cls := "OfficeLadder$Office", name := "code", desc := "(II)I" } : Jvm.MethodName)) ∈ lw_good := g_tw 497 (by decide +kernel) (by decide +kernel)
theorem tw498 : (Jvm.Cond.code ({ cls := "OfficeLadder$Office", name := "code", desc := "(II)I" } : Jvm.MethodName) prog_5_method_2_code (3 : Nat) (Option.some Jvm.ClassFile.FieldType.int)) ∈ lw_good := g_tw 498 (by decide +kernel) (by decide +kernel)
theorem tw499 : (Jvm.Cond.methodLink "OfficeLadder" (144 : Nat) ({ cls := "OfficeLadder$Republic", name := "put", desc := "(IIII)V" } : Jvm.MethodName)) ∈ lw_good := g_tw 499 (by decide +kernel) (by decide +kernel)
theorem tw500 : (Jvm.Cond.instanceMethod ({ cls := "OfficeLadder$Republic", name := "put", desc := "(IIII)V" } : Jvm.MethodName)) ∈ lw_good := g_tw 500 (by decide +kernel) (by decide +kernel)
theorem tw501 : (Jvm.Cond.selects "OfficeLadder$Republic" ({ cls := "OfficeLadder$Republic", name := "put", desc := "(IIII)V" } : Jvm.MethodName) ({ cls := "OfficeLadder$Republic", name := "put", desc := "(IIII)V" } : Jvm.MethodName)) ∈ lw_good := g_tw 501 (by decide +kernel) (by decide +kernel)
theorem tw502 : (Jvm.Cond.code ({ cls := "OfficeLadder$Republic", name := "put", desc := "(IIII)V" } : Jvm.MethodName) prog_8_method_11_code (5 : Nat) (Option.none : Option Jvm.ClassFile.FieldType)) ∈ lw_good := g_tw 502 (by decide +kernel) (by decide +kernel)
theorem tw503 : (Jvm.Cond.methodLink "OfficeLadder$Republic" (75 : Nat) ({ cls := "OfficeLadder$Office", name := "setCode", desc := "(III)V" } : Jvm.MethodName)) ∈ lw_good := g_tw 503 (by decide +kernel) (by decide +kernel)
theorem tw504 : (Jvm.Cond.instanceMethod ({ cls := "OfficeLadder$Office", name := "setCode", desc := "(III)V" } : Jvm.MethodName)) ∈ lw_good := g_tw 504 (by decide +kernel) (by decide +kernel)
theorem tw505 : (Jvm.Cond.selects "OfficeLadder$Office" ({ cls := "OfficeLadder$Office", name := "setCode", desc := "(III)V" } : Jvm.MethodName) ({ cls := "OfficeLadder$Office", name := "setCode", desc := "(III)V" } : Jvm.MethodName)) ∈ lw_good := g_tw 505 (by decide +kernel) (by decide +kernel)
theorem tw506 : (Jvm.Cond.code ({ cls := "OfficeLadder$Office", name := "setCode", desc := "(III)V" } : Jvm.MethodName) prog_5_method_3_code (4 : Nat) (Option.none : Option Jvm.ClassFile.FieldType)) ∈ lw_good := g_tw 506 (by decide +kernel) (by decide +kernel)
theorem tw507 : (Jvm.Cond.methodLink "OfficeLadderLaw" (57 : Nat) ({ cls := "OfficeLadder", name := "empty", desc := "(III)I" } : Jvm.MethodName)) ∈ lw_good := g_tw 507 (by decide +kernel) (by decide +kernel)
theorem tw508 : (Jvm.Cond.instanceMethod ({ cls := "OfficeLadder", name := "empty", desc := "(III)I" } : Jvm.MethodName)) ∈ lw_good := g_tw 508 (by decide +kernel) (by decide +kernel)
theorem tw509 : (Jvm.Cond.selects "OfficeLadder" ({ cls := "OfficeLadder", name := "empty", desc := "(III)I" } : Jvm.MethodName) ({ cls := "OfficeLadder", name := "empty", desc := "(III)I" } : Jvm.MethodName)) ∈ lw_good := g_tw 509 (by decide +kernel) (by decide +kernel)
theorem tw510 : (Jvm.Cond.code ({ cls := "OfficeLadder", name := "empty", desc := "(III)I" } : Jvm.MethodName) prog_1_method_10_code (5 : Nat) (Option.some Jvm.ClassFile.FieldType.int)) ∈ lw_good := g_tw 510 (by decide +kernel) (by decide +kernel)
theorem tw511 : (Jvm.Cond.methodLink "OfficeLadder" (147 : Nat) ({ cls := "OfficeLadder$Republic", name := "hasSeat", desc := "(III)Z" } : Jvm.MethodName)) ∈ lw_good := g_tw 511 (by decide +kernel) (by decide +kernel)
theorem tw512 : (Jvm.Cond.instanceMethod ({ cls := "OfficeLadder$Republic", name := "hasSeat", desc := "(III)Z" } : Jvm.MethodName)) ∈ lw_good := g_tw 512 (by decide +kernel) (by decide +kernel)
theorem tw513 : (Jvm.Cond.selects "OfficeLadder$Republic" ({ cls := "OfficeLadder$Republic", name := "hasSeat", desc := "(III)Z" } : Jvm.MethodName) ({ cls := "OfficeLadder$Republic", name := "hasSeat", desc := "(III)Z" } : Jvm.MethodName)) ∈ lw_good := g_tw 513 (by decide +kernel) (by decide +kernel)
theorem tw514 : (Jvm.Cond.code ({ cls := "OfficeLadder$Republic", name := "hasSeat", desc := "(III)Z" } : Jvm.MethodName) prog_8_method_5_code (4 : Nat) (Option.some Jvm.ClassFile.FieldType.boolean)) ∈ lw_good := g_tw 514 (by decide +kernel) (by decide +kernel)
theorem tw516 : (Jvm.Cond.methodLink "OfficeLadder" (151 : Nat) ({ cls := "OfficeLadder$Office", name := "holder", desc := "(II)I" } : Jvm.MethodName)) ∈ lw_good := g_tw 516 (by decide +kernel) (by decide +kernel)
theorem tw517 : (Jvm.Cond.instanceMethod ({ cls := "OfficeLadder$Office", name := "holder", desc := "(II)I" } : Jvm.MethodName)) ∈ lw_good := g_tw 517 (by decide +kernel) (by decide +kernel)
theorem tw518 : (Jvm.Cond.selects "OfficeLadder$Office" ({ cls := "OfficeLadder$Office", name := "holder", desc := "(II)I" } : Jvm.MethodName) ({ cls := "OfficeLadder$Office", name := "holder", desc := "(II)I" } : Jvm.MethodName)) ∈ lw_good := g_tw 518 (by decide +kernel) (by decide +kernel)
theorem tw519 : (Jvm.Cond.code ({ cls := "OfficeLadder$Office", name := "holder", desc := "(II)I" } : Jvm.MethodName) prog_5_method_4_code (4 : Nat) (Option.some Jvm.ClassFile.FieldType.int)) ∈ lw_good := g_tw 519 (by decide +kernel) (by decide +kernel)
theorem tw520 : (Jvm.Cond.methodLink "OfficeLadder" (155 : Nat) ({ cls := "OfficeLadder$Republic", name := "vacate", desc := "(IIII)V" } : Jvm.MethodName)) ∈ lw_good := g_tw 520 (by decide +kernel) (by decide +kernel)
theorem tw521 : (Jvm.Cond.instanceMethod ({ cls := "OfficeLadder$Republic", name := "vacate", desc := "(IIII)V" } : Jvm.MethodName)) ∈ lw_good := g_tw 521 (by decide +kernel) (by decide +kernel)
theorem tw522 : (Jvm.Cond.selects "OfficeLadder$Republic" ({ cls := "OfficeLadder$Republic", name := "vacate", desc := "(IIII)V" } : Jvm.MethodName) ({ cls := "OfficeLadder$Republic", name := "vacate", desc := "(IIII)V" } : Jvm.MethodName)) ∈ lw_good := g_tw 522 (by decide +kernel) (by decide +kernel)
theorem tw523 : (Jvm.Cond.code ({ cls := "OfficeLadder$Republic", name := "vacate", desc := "(IIII)V" } : Jvm.MethodName) prog_8_method_12_code (5 : Nat) (Option.none : Option Jvm.ClassFile.FieldType)) ∈ lw_good := g_tw 523 (by decide +kernel) (by decide +kernel)
theorem tw524 : (Jvm.Cond.methodLink "OfficeLadder$Republic" (83 : Nat) ({ cls := "OfficeLadder$Office", name := "isVoid", desc := "(II)Z" } : Jvm.MethodName)) ∈ lw_good := g_tw 524 (by decide +kernel) (by decide +kernel)
theorem tw525 : (Jvm.Cond.instanceMethod ({ cls := "OfficeLadder$Office", name := "isVoid", desc := "(II)Z" } : Jvm.MethodName)) ∈ lw_good := g_tw 525 (by decide +kernel) (by decide +kernel)
theorem tw526 : (Jvm.Cond.selects "OfficeLadder$Office" ({ cls := "OfficeLadder$Office", name := "isVoid", desc := "(II)Z" } : Jvm.MethodName) ({ cls := "OfficeLadder$Office", name := "isVoid", desc := "(II)Z" } : Jvm.MethodName)) ∈ lw_good := g_tw 526 (by decide +kernel) (by decide +kernel)
theorem tw527 : (Jvm.Cond.code ({ cls := "OfficeLadder$Office", name := "isVoid", desc := "(II)Z" } : Jvm.MethodName) prog_5_method_5_code (3 : Nat) (Option.some Jvm.ClassFile.FieldType.boolean)) ∈ lw_good := g_tw 527 (by decide +kernel) (by decide +kernel)
theorem tw528 : (Jvm.Cond.methodLink "OfficeLadderLaw" (61 : Nat) ({ cls := "OfficeLadder", name := "annul", desc := "(IIIZ)I" } : Jvm.MethodName)) ∈ lw_good := g_tw 528 (by decide +kernel) (by decide +kernel)
theorem tw529 : (Jvm.Cond.instanceMethod ({ cls := "OfficeLadder", name := "annul", desc := "(IIIZ)I" } : Jvm.MethodName)) ∈ lw_good := g_tw 529 (by decide +kernel) (by decide +kernel)
theorem tw530 : (Jvm.Cond.selects "OfficeLadder" ({ cls := "OfficeLadder", name := "annul", desc := "(IIIZ)I" } : Jvm.MethodName) ({ cls := "OfficeLadder", name := "annul", desc := "(IIIZ)I" } : Jvm.MethodName)) ∈ lw_good := g_tw 530 (by decide +kernel) (by decide +kernel)
theorem tw531 : (Jvm.Cond.code ({ cls := "OfficeLadder", name := "annul", desc := "(IIIZ)I" } : Jvm.MethodName) prog_1_method_11_code (6 : Nat) (Option.some Jvm.ClassFile.FieldType.int)) ∈ lw_good := g_tw 531 (by decide +kernel) (by decide +kernel)
theorem tw532 : (Jvm.Cond.methodLink "OfficeLadder" (158 : Nat) ({ cls := "OfficeLadder$Office", name := "isVoid", desc := "(II)Z" } : Jvm.MethodName)) ∈ lw_good := g_tw 532 (by decide +kernel) (by decide +kernel)
theorem tw533 : (Jvm.Cond.methodLink "OfficeLadder" (161 : Nat) ({ cls := "OfficeLadder$Republic", name := "mark", desc := "(IIIIZ)V" } : Jvm.MethodName)) ∈ lw_good := g_tw 533 (by decide +kernel) (by decide +kernel)
theorem tw534 : (Jvm.Cond.instanceMethod ({ cls := "OfficeLadder$Republic", name := "mark", desc := "(IIIIZ)V" } : Jvm.MethodName)) ∈ lw_good := g_tw 534 (by decide +kernel) (by decide +kernel)
theorem tw535 : (Jvm.Cond.selects "OfficeLadder$Republic" ({ cls := "OfficeLadder$Republic", name := "mark", desc := "(IIIIZ)V" } : Jvm.MethodName) ({ cls := "OfficeLadder$Republic", name := "mark", desc := "(IIIIZ)V" } : Jvm.MethodName)) ∈ lw_good := g_tw 535 (by decide +kernel) (by decide +kernel)
theorem tw536 : (Jvm.Cond.code ({ cls := "OfficeLadder$Republic", name := "mark", desc := "(IIIIZ)V" } : Jvm.MethodName) prog_8_method_13_code (7 : Nat) (Option.none : Option Jvm.ClassFile.FieldType)) ∈ lw_good := g_tw 536 (by decide +kernel) (by decide +kernel)
theorem tw537 : (Jvm.Cond.methodLink "OfficeLadderLaw" (66 : Nat) ({ cls := "OfficeLadder", name := "seat", desc := "(III)I" } : Jvm.MethodName)) ∈ lw_good := g_tw 537 (by decide +kernel) (by decide +kernel)
theorem tw538 : (Jvm.Cond.instanceMethod ({ cls := "OfficeLadder", name := "seat", desc := "(III)I" } : Jvm.MethodName)) ∈ lw_good := g_tw 538 (by decide +kernel) (by decide +kernel)
theorem tw539 : (Jvm.Cond.selects "OfficeLadder" ({ cls := "OfficeLadder", name := "seat", desc := "(III)I" } : Jvm.MethodName) ({ cls := "OfficeLadder", name := "seat", desc := "(III)I" } : Jvm.MethodName)) ∈ lw_good := g_tw 539 (by decide +kernel) (by decide +kernel)
theorem tw540 : (Jvm.Cond.code ({ cls := "OfficeLadder", name := "seat", desc := "(III)I" } : Jvm.MethodName) prog_1_method_12_code (5 : Nat) (Option.some Jvm.ClassFile.FieldType.int)) ∈ lw_good := g_tw 540 (by decide +kernel) (by decide +kernel)
theorem tw541 : (Jvm.Cond.methodLink "OfficeLadder" (165 : Nat) ({ cls := "OfficeLadder$Office", name := "code", desc := "(II)I" } : Jvm.MethodName)) ∈ lw_good := g_tw 541 (by decide +kernel) (by decide +kernel)
theorem tw542 : (Jvm.Cond.methodLink "OfficeLadderLaw" (70 : Nat) ({ cls := "OfficeLadder", name := "holds", desc := "(II)I" } : Jvm.MethodName)) ∈ lw_good := g_tw 542 (by decide +kernel) (by decide +kernel)
theorem tw543 : (Jvm.Cond.instanceMethod ({ cls := "OfficeLadder", name := "holds", desc := "(II)I" } : Jvm.MethodName)) ∈ lw_good := g_tw 543 (by decide +kernel) (by decide +kernel)
theorem tw544 : (Jvm.Cond.selects "OfficeLadder" ({ cls := "OfficeLadder", name := "holds", desc := "(II)I" } : Jvm.MethodName) ({ cls := "OfficeLadder", name := "holds", desc := "(II)I" } : Jvm.MethodName)) ∈ lw_good := g_tw 544 (by decide +kernel) (by decide +kernel)
theorem tw545 : (Jvm.Cond.code ({ cls := "OfficeLadder", name := "holds", desc := "(II)I" } : Jvm.MethodName) prog_1_method_13_code (4 : Nat) (Option.some Jvm.ClassFile.FieldType.int)) ∈ lw_good := g_tw 545 (by decide +kernel) (by decide +kernel)
theorem tw546 : (Jvm.Cond.methodLink "OfficeLadderLaw" (74 : Nat) ({ cls := "OfficeLadder", name := "held", desc := "(III)I" } : Jvm.MethodName)) ∈ lw_good := g_tw 546 (by decide +kernel) (by decide +kernel)
theorem tw547 : (Jvm.Cond.instanceMethod ({ cls := "OfficeLadder", name := "held", desc := "(III)I" } : Jvm.MethodName)) ∈ lw_good := g_tw 547 (by decide +kernel) (by decide +kernel)
theorem tw548 : (Jvm.Cond.selects "OfficeLadder" ({ cls := "OfficeLadder", name := "held", desc := "(III)I" } : Jvm.MethodName) ({ cls := "OfficeLadder", name := "held", desc := "(III)I" } : Jvm.MethodName)) ∈ lw_good := g_tw 548 (by decide +kernel) (by decide +kernel)
theorem tw549 : (Jvm.Cond.code ({ cls := "OfficeLadder", name := "held", desc := "(III)I" } : Jvm.MethodName) prog_1_method_14_code (4 : Nat) (Option.some Jvm.ClassFile.FieldType.int)) ∈ lw_good := g_tw 549 (by decide +kernel) (by decide +kernel)
theorem tw550 : (Jvm.Cond.methodLink "OfficeLadder" (168 : Nat) ({ cls := "OfficeLadder$Person", name := "yearsHeld", desc := "(II)I" } : Jvm.MethodName)) ∈ lw_good := g_tw 550 (by decide +kernel) (by decide +kernel)
theorem tw551 : (Jvm.Cond.instanceMethod ({ cls := "OfficeLadder$Person", name := "yearsHeld", desc := "(II)I" } : Jvm.MethodName)) ∈ lw_good := g_tw 551 (by decide +kernel) (by decide +kernel)
theorem tw552 : (Jvm.Cond.selects "OfficeLadder$Person" ({ cls := "OfficeLadder$Person", name := "yearsHeld", desc := "(II)I" } : Jvm.MethodName) ({ cls := "OfficeLadder$Person", name := "yearsHeld", desc := "(II)I" } : Jvm.MethodName)) ∈ lw_good := g_tw 552 (by decide +kernel) (by decide +kernel)
theorem tw553 : (Jvm.Cond.code ({ cls := "OfficeLadder$Person", name := "yearsHeld", desc := "(II)I" } : Jvm.MethodName) prog_7_method_4_code (6 : Nat) (Option.some Jvm.ClassFile.FieldType.int)) ∈ lw_good := g_tw 553 (by decide +kernel) (by decide +kernel)
theorem tw554 : (Jvm.Cond.methodLink "OfficeLadderLaw" (78 : Nat) ({ cls := "OfficeLadder", name := "could", desc := "(IIII)I" } : Jvm.MethodName)) ∈ lw_good := g_tw 554 (by decide +kernel) (by decide +kernel)
theorem tw555 : (Jvm.Cond.instanceMethod ({ cls := "OfficeLadder", name := "could", desc := "(IIII)I" } : Jvm.MethodName)) ∈ lw_good := g_tw 555 (by decide +kernel) (by decide +kernel)
theorem tw556 : (Jvm.Cond.selects "OfficeLadder" ({ cls := "OfficeLadder", name := "could", desc := "(IIII)I" } : Jvm.MethodName) ({ cls := "OfficeLadder", name := "could", desc := "(IIII)I" } : Jvm.MethodName)) ∈ lw_good := g_tw 556 (by decide +kernel) (by decide +kernel)
theorem tw557 : (Jvm.Cond.code ({ cls := "OfficeLadder", name := "could", desc := "(IIII)I" } : Jvm.MethodName) prog_1_method_15_code (5 : Nat) (Option.some Jvm.ClassFile.FieldType.int)) ∈ lw_good := g_tw 557 (by decide +kernel) (by decide +kernel)
theorem tw558 : (Jvm.Cond.methodLink "OfficeLadder" (171 : Nat) ({ cls := "OfficeLadder$Republic", name := "level", desc := "(III)I" } : Jvm.MethodName)) ∈ lw_good := g_tw 558 (by decide +kernel) (by decide +kernel)
theorem tw559 : (Jvm.Cond.instanceMethod ({ cls := "OfficeLadder$Republic", name := "level", desc := "(III)I" } : Jvm.MethodName)) ∈ lw_good := g_tw 559 (by decide +kernel) (by decide +kernel)
theorem tw560 : (Jvm.Cond.selects "OfficeLadder$Republic" ({ cls := "OfficeLadder$Republic", name := "level", desc := "(III)I" } : Jvm.MethodName) ({ cls := "OfficeLadder$Republic", name := "level", desc := "(III)I" } : Jvm.MethodName)) ∈ lw_good := g_tw 560 (by decide +kernel) (by decide +kernel)
theorem tw561 : (Jvm.Cond.code ({ cls := "OfficeLadder$Republic", name := "level", desc := "(III)I" } : Jvm.MethodName) prog_8_method_15_code (5 : Nat) (Option.some Jvm.ClassFile.FieldType.int)) ∈ lw_good := g_tw 561 (by decide +kernel) (by decide +kernel)
theorem tw562 : (Jvm.Cond.methodLink "OfficeLadder$Republic" (114 : Nat) ({ cls := "OfficeLadder$Republic", name := "firstBar", desc := "(IIIZ)I" } : Jvm.MethodName)) ∈ lw_good := g_tw 562 (by decide +kernel) (by decide +kernel)
theorem tw563 : (Jvm.Cond.instanceMethod ({ cls := "OfficeLadder$Republic", name := "firstBar", desc := "(IIIZ)I" } : Jvm.MethodName)) ∈ lw_good := g_tw 563 (by decide +kernel) (by decide +kernel)
theorem tw564 : (Jvm.Cond.selects "OfficeLadder$Republic" ({ cls := "OfficeLadder$Republic", name := "firstBar", desc := "(IIIZ)I" } : Jvm.MethodName) ({ cls := "OfficeLadder$Republic", name := "firstBar", desc := "(IIIZ)I" } : Jvm.MethodName)) ∈ lw_good := g_tw 564 (by decide +kernel) (by decide +kernel)
theorem tw565 : (Jvm.Cond.code ({ cls := "OfficeLadder$Republic", name := "firstBar", desc := "(IIIZ)I" } : Jvm.MethodName) prog_8_method_14_code (7 : Nat) (Option.some Jvm.ClassFile.FieldType.int)) ∈ lw_good := g_tw 565 (by decide +kernel) (by decide +kernel)
theorem tw566 : (Jvm.Cond.methodLink "OfficeLadder$Republic" (103 : Nat) ({ cls := "OfficeLadder$Past", name := "look", desc := "(LOfficeLadder$Person;LOfficeLadder$Office;II)V" } : Jvm.MethodName)) ∈ lw_good := g_tw 566 (by decide +kernel) (by decide +kernel)
theorem tw567 : (Jvm.Cond.instanceMethod ({ cls := "OfficeLadder$Past", name := "look", desc := "(LOfficeLadder$Person;LOfficeLadder$Office;II)V" } : Jvm.MethodName)) ∈ lw_good := g_tw 567 (by decide +kernel) (by decide +kernel)
theorem tw568 : (Jvm.Cond.selects "OfficeLadder$Past" ({ cls := "OfficeLadder$Past", name := "look", desc := "(LOfficeLadder$Person;LOfficeLadder$Office;II)V" } : Jvm.MethodName) ({ cls := "OfficeLadder$Past", name := "look", desc := "(LOfficeLadder$Person;LOfficeLadder$Office;II)V" } : Jvm.MethodName)) ∈ lw_good := g_tw 568 (by decide +kernel) (by decide +kernel)
theorem tw569 : (Jvm.Cond.code ({ cls := "OfficeLadder$Past", name := "look", desc := "(LOfficeLadder$Person;LOfficeLadder$Office;II)V" } : Jvm.MethodName) prog_6_method_2_code (7 : Nat) (Option.none : Option Jvm.ClassFile.FieldType)) ∈ lw_good := g_tw 569 (by decide +kernel) (by decide +kernel)
theorem tw570 : (Jvm.Cond.methodLink "OfficeLadder$Past" (30 : Nat) ({ cls := "OfficeLadder$Office", name := "holders", desc := "(I)I" } : Jvm.MethodName)) ∈ lw_good := g_tw 570 (by decide +kernel) (by decide +kernel)
theorem tw571 : (Jvm.Cond.instanceMethod ({ cls := "OfficeLadder$Office", name := "holders", desc := "(I)I" } : Jvm.MethodName)) ∈ lw_good := g_tw 571 (by decide +kernel) (by decide +kernel)
theorem tw572 : (Jvm.Cond.selects "OfficeLadder$Office" ({ cls := "OfficeLadder$Office", name := "holders", desc := "(I)I" } : Jvm.MethodName) ({ cls := "OfficeLadder$Office", name := "holders", desc := "(I)I" } : Jvm.MethodName)) ∈ lw_good := g_tw 572 (by decide +kernel) (by decide +kernel)
theorem tw573 : (Jvm.Cond.code ({ cls := "OfficeLadder$Office", name := "holders", desc := "(I)I" } : Jvm.MethodName) prog_5_method_8_code (5 : Nat) (Option.some Jvm.ClassFile.FieldType.int)) ∈ lw_good := g_tw 573 (by decide +kernel) (by decide +kernel)
theorem tw574 : (Jvm.Cond.methodLink "OfficeLadder$Republic" (107 : Nat) ({ cls := "OfficeLadder$Law", name := "binds", desc := "(II)Z" } : Jvm.MethodName)) ∈ lw_good := g_tw 574 (by decide +kernel) (by decide +kernel)
theorem tw575 : (Jvm.Cond.instanceMethod ({ cls := "OfficeLadder$Law", name := "binds", desc := "(II)Z" } : Jvm.MethodName)) ∈ lw_good := g_tw 575 (by decide +kernel) (by decide +kernel)
theorem tw576 : (Jvm.Cond.selects "OfficeLadder$Law" ({ cls := "OfficeLadder$Law", name := "binds", desc := "(II)Z" } : Jvm.MethodName) ({ cls := "OfficeLadder$Law", name := "binds", desc := "(II)Z" } : Jvm.MethodName)) ∈ lw_good := g_tw 576 (by decide +kernel) (by decide +kernel)
theorem tw577 : (Jvm.Cond.code ({ cls := "OfficeLadder$Law", name := "binds", desc := "(II)Z" } : Jvm.MethodName) prog_4_method_2_code (3 : Nat) (Option.some Jvm.ClassFile.FieldType.boolean)) ∈ lw_good := g_tw 577 (by decide +kernel) (by decide +kernel)
theorem tw578 : (Jvm.Cond.methodLink "OfficeLadder$Republic" (110 : Nat) ({ cls := "OfficeLadder$Law", name := "bars", desc := "(LOfficeLadder$Person;ILOfficeLadder$Past;)Z" } : Jvm.MethodName)) ∈ lw_good := g_tw 578 (by decide +kernel) (by decide +kernel)
theorem tw579 : (Jvm.Cond.instanceMethod ({ cls := "OfficeLadder$Law", name := "bars", desc := "(LOfficeLadder$Person;ILOfficeLadder$Past;)Z" } : Jvm.MethodName)) ∈ lw_good := g_tw 579 (by decide +kernel) (by decide +kernel)
theorem tw580 : (Jvm.Cond.selects "OfficeLadder$Law" ({ cls := "OfficeLadder$Law", name := "bars", desc := "(LOfficeLadder$Person;ILOfficeLadder$Past;)Z" } : Jvm.MethodName) ({ cls := "OfficeLadder$Law", name := "bars", desc := "(LOfficeLadder$Person;ILOfficeLadder$Past;)Z" } : Jvm.MethodName)) ∈ lw_good := g_tw 580 (by decide +kernel) (by decide +kernel)
theorem tw581 : (Jvm.Cond.code ({ cls := "OfficeLadder$Law", name := "bars", desc := "(LOfficeLadder$Person;ILOfficeLadder$Past;)Z" } : Jvm.MethodName) prog_4_method_3_code (4 : Nat) (Option.some Jvm.ClassFile.FieldType.boolean)) ∈ lw_good := g_tw 581 (by decide +kernel) (by decide +kernel)
theorem tw582 : (Jvm.Cond.methodLink "OfficeLadder$Republic" (118 : Nat) ({ cls := "OfficeLadder$Law", name := "leavesDoubt", desc := "(LOfficeLadder$Person;I)Z" } : Jvm.MethodName)) ∈ lw_good := g_tw 582 (by decide +kernel) (by decide +kernel)
theorem tw583 : (Jvm.Cond.instanceMethod ({ cls := "OfficeLadder$Law", name := "leavesDoubt", desc := "(LOfficeLadder$Person;I)Z" } : Jvm.MethodName)) ∈ lw_good := g_tw 583 (by decide +kernel) (by decide +kernel)
theorem tw584 : (Jvm.Cond.selects "OfficeLadder$Law" ({ cls := "OfficeLadder$Law", name := "leavesDoubt", desc := "(LOfficeLadder$Person;I)Z" } : Jvm.MethodName) ({ cls := "OfficeLadder$Law", name := "leavesDoubt", desc := "(LOfficeLadder$Person;I)Z" } : Jvm.MethodName)) ∈ lw_good := g_tw 584 (by decide +kernel) (by decide +kernel)
theorem tw585 : (Jvm.Cond.code ({ cls := "OfficeLadder$Law", name := "leavesDoubt", desc := "(LOfficeLadder$Person;I)Z" } : Jvm.MethodName) prog_4_method_4_code (3 : Nat) (Option.some Jvm.ClassFile.FieldType.boolean)) ∈ lw_good := g_tw 585 (by decide +kernel) (by decide +kernel)
theorem tw586 : (Jvm.Cond.methodLink "OfficeLadder" (175 : Nat) ({ cls := "OfficeLadder$Republic", name := "firstBar", desc := "(IIIZ)I" } : Jvm.MethodName)) ∈ lw_good := g_tw 586 (by decide +kernel) (by decide +kernel)
theorem tw587 : (Jvm.Cond.methodLink "OfficeLadderLaw" (82 : Nat) ({ cls := "OfficeLadder", name := "first", desc := "(IIIZ)I" } : Jvm.MethodName)) ∈ lw_good := g_tw 587 (by decide +kernel) (by decide +kernel)
theorem tw588 : (Jvm.Cond.instanceMethod ({ cls := "OfficeLadder", name := "first", desc := "(IIIZ)I" } : Jvm.MethodName)) ∈ lw_good := g_tw 588 (by decide +kernel) (by decide +kernel)
theorem tw589 : (Jvm.Cond.selects "OfficeLadder" ({ cls := "OfficeLadder", name := "first", desc := "(IIIZ)I" } : Jvm.MethodName) ({ cls := "OfficeLadder", name := "first", desc := "(IIIZ)I" } : Jvm.MethodName)) ∈ lw_good := g_tw 589 (by decide +kernel) (by decide +kernel)
theorem tw590 : (Jvm.Cond.code ({ cls := "OfficeLadder", name := "first", desc := "(IIIZ)I" } : Jvm.MethodName) prog_1_method_16_code (7 : Nat) (Option.some Jvm.ClassFile.FieldType.int)) ∈ lw_good := g_tw 590 (by decide +kernel) (by decide +kernel)
theorem tw591 : (Jvm.Cond.methodLink "OfficeLadderLaw" (86 : Nat) ({ cls := "OfficeLadder", name := "who", desc := "(IIZ)I" } : Jvm.MethodName)) ∈ lw_good := g_tw 591 (by decide +kernel) (by decide +kernel)
theorem tw592 : (Jvm.Cond.instanceMethod ({ cls := "OfficeLadder", name := "who", desc := "(IIZ)I" } : Jvm.MethodName)) ∈ lw_good := g_tw 592 (by decide +kernel) (by decide +kernel)
theorem tw593 : (Jvm.Cond.selects "OfficeLadder" ({ cls := "OfficeLadder", name := "who", desc := "(IIZ)I" } : Jvm.MethodName) ({ cls := "OfficeLadder", name := "who", desc := "(IIZ)I" } : Jvm.MethodName)) ∈ lw_good := g_tw 593 (by decide +kernel) (by decide +kernel)
theorem tw594 : (Jvm.Cond.code ({ cls := "OfficeLadder", name := "who", desc := "(IIZ)I" } : Jvm.MethodName) prog_1_method_17_code (7 : Nat) (Option.some Jvm.ClassFile.FieldType.int)) ∈ lw_good := g_tw 594 (by decide +kernel) (by decide +kernel)
theorem tw595 : (Jvm.Cond.methodLink "OfficeLadderLaw" (91 : Nat) ({ cls := "OfficeLadder", name := "breaches", desc := "()I" } : Jvm.MethodName)) ∈ lw_good := g_tw 595 (by decide +kernel) (by decide +kernel)
theorem tw596 : (Jvm.Cond.instanceMethod ({ cls := "OfficeLadder", name := "breaches", desc := "()I" } : Jvm.MethodName)) ∈ lw_good := g_tw 596 (by decide +kernel) (by decide +kernel)
theorem tw597 : (Jvm.Cond.selects "OfficeLadder" ({ cls := "OfficeLadder", name := "breaches", desc := "()I" } : Jvm.MethodName) ({ cls := "OfficeLadder", name := "breaches", desc := "()I" } : Jvm.MethodName)) ∈ lw_good := g_tw 597 (by decide +kernel) (by decide +kernel)
theorem tw598 : (Jvm.Cond.code ({ cls := "OfficeLadder", name := "breaches", desc := "()I" } : Jvm.MethodName) prog_1_method_18_code (4 : Nat) (Option.some Jvm.ClassFile.FieldType.int)) ∈ lw_good := g_tw 598 (by decide +kernel) (by decide +kernel)
theorem tw599 : (Jvm.Cond.methodLink "OfficeLadder" (179 : Nat) ({ cls := "OfficeLadder$Republic", name := "breachesIn", desc := "(II)I" } : Jvm.MethodName)) ∈ lw_good := g_tw 599 (by decide +kernel) (by decide +kernel)
theorem tw600 : (Jvm.Cond.instanceMethod ({ cls := "OfficeLadder$Republic", name := "breachesIn", desc := "(II)I" } : Jvm.MethodName)) ∈ lw_good := g_tw 600 (by decide +kernel) (by decide +kernel)
theorem tw601 : (Jvm.Cond.selects "OfficeLadder$Republic" ({ cls := "OfficeLadder$Republic", name := "breachesIn", desc := "(II)I" } : Jvm.MethodName) ({ cls := "OfficeLadder$Republic", name := "breachesIn", desc := "(II)I" } : Jvm.MethodName)) ∈ lw_good := g_tw 601 (by decide +kernel) (by decide +kernel)
theorem tw602 : (Jvm.Cond.code ({ cls := "OfficeLadder$Republic", name := "breachesIn", desc := "(II)I" } : Jvm.MethodName) prog_8_method_16_code (7 : Nat) (Option.some Jvm.ClassFile.FieldType.int)) ∈ lw_good := g_tw 602 (by decide +kernel) (by decide +kernel)
theorem tw603 : (Jvm.Cond.methodLink "OfficeLadder$Republic" (122 : Nat) ({ cls := "OfficeLadder$Office", name := "code", desc := "(II)I" } : Jvm.MethodName)) ∈ lw_good := g_tw 603 (by decide +kernel) (by decide +kernel)
theorem tw604 : (Jvm.Cond.methodLink "OfficeLadderLaw" (96 : Nat) ({ cls := "OfficeLadder", name := "breach", desc := "(I)I" } : Jvm.MethodName)) ∈ lw_good := g_tw 604 (by decide +kernel) (by decide +kernel)
theorem tw605 : (Jvm.Cond.instanceMethod ({ cls := "OfficeLadder", name := "breach", desc := "(I)I" } : Jvm.MethodName)) ∈ lw_good := g_tw 605 (by decide +kernel) (by decide +kernel)
theorem tw606 : (Jvm.Cond.selects "OfficeLadder" ({ cls := "OfficeLadder", name := "breach", desc := "(I)I" } : Jvm.MethodName) ({ cls := "OfficeLadder", name := "breach", desc := "(I)I" } : Jvm.MethodName)) ∈ lw_good := g_tw 606 (by decide +kernel) (by decide +kernel)
theorem tw607 : (Jvm.Cond.code ({ cls := "OfficeLadder", name := "breach", desc := "(I)I" } : Jvm.MethodName) prog_1_method_19_code (5 : Nat) (Option.some Jvm.ClassFile.FieldType.int)) ∈ lw_good := g_tw 607 (by decide +kernel) (by decide +kernel)
theorem tw608 : (Jvm.Cond.methodLink "OfficeLadderLaw" (101 : Nat) ({ cls := "OfficeLadder", name := "fillings", desc := "(I)I" } : Jvm.MethodName)) ∈ lw_good := g_tw 608 (by decide +kernel) (by decide +kernel)
theorem tw609 : (Jvm.Cond.instanceMethod ({ cls := "OfficeLadder", name := "fillings", desc := "(I)I" } : Jvm.MethodName)) ∈ lw_good := g_tw 609 (by decide +kernel) (by decide +kernel)
theorem tw610 : (Jvm.Cond.selects "OfficeLadder" ({ cls := "OfficeLadder", name := "fillings", desc := "(I)I" } : Jvm.MethodName) ({ cls := "OfficeLadder", name := "fillings", desc := "(I)I" } : Jvm.MethodName)) ∈ lw_good := g_tw 610 (by decide +kernel) (by decide +kernel)
theorem tw611 : (Jvm.Cond.code ({ cls := "OfficeLadder", name := "fillings", desc := "(I)I" } : Jvm.MethodName) prog_1_method_20_code (2 : Nat) (Option.some Jvm.ClassFile.FieldType.int)) ∈ lw_good := g_tw 611 (by decide +kernel) (by decide +kernel)
theorem tw612 : (Jvm.Cond.methodLink "OfficeLadder" (182 : Nat) ({ cls := "OfficeLadder$Filler", name := "search", desc := "(LOfficeLadder$Republic;IIIZ)V" } : Jvm.MethodName)) ∈ lw_good := g_tw 612 (by decide +kernel) (by decide +kernel)
theorem tw613 : (Jvm.Cond.instanceMethod ({ cls := "OfficeLadder$Filler", name := "search", desc := "(LOfficeLadder$Republic;IIIZ)V" } : Jvm.MethodName)) ∈ lw_good := g_tw 613 (by decide +kernel) (by decide +kernel)
theorem tw614 : (Jvm.Cond.selects "OfficeLadder$Filler" ({ cls := "OfficeLadder$Filler", name := "search", desc := "(LOfficeLadder$Republic;IIIZ)V" } : Jvm.MethodName) ({ cls := "OfficeLadder$Filler", name := "search", desc := "(LOfficeLadder$Republic;IIIZ)V" } : Jvm.MethodName)) ∈ lw_good := g_tw 614 (by decide +kernel) (by decide +kernel)
theorem tw615 : (Jvm.Cond.code ({ cls := "OfficeLadder$Filler", name := "search", desc := "(LOfficeLadder$Republic;IIIZ)V" } : Jvm.MethodName) prog_3_method_2_code (7 : Nat) (Option.none : Option Jvm.ClassFile.FieldType)) ∈ lw_good := g_tw 615 (by decide +kernel) (by decide +kernel)
theorem tw616 : (Jvm.Cond.methodLink "OfficeLadder$Filler" (69 : Nat) ({ cls := "OfficeLadder$Filler", name := "addSlots", desc := "(LOfficeLadder$Office;II)V" } : Jvm.MethodName)) ∈ lw_good := g_tw 616 (by decide +kernel) (by decide +kernel)
theorem tw618 : (Jvm.Cond.instanceMethod ({ cls := "OfficeLadder$Filler", name := "addSlots", desc := "(LOfficeLadder$Office;II)V" } : Jvm.MethodName)) ∈ lw_good := g_tw 618 (by decide +kernel) (by decide +kernel)
theorem tw619 : (Jvm.Cond.code ({ cls := "OfficeLadder$Filler", name := "addSlots", desc := "(LOfficeLadder$Office;II)V" } : Jvm.MethodName) prog_3_method_4_code (5 : Nat) (Option.none : Option Jvm.ClassFile.FieldType)) ∈ lw_good := g_tw 619 (by decide +kernel) (by decide +kernel)
theorem tw620 : (Jvm.Cond.methodLink "OfficeLadder$Filler" (94 : Nat) ({ cls := "OfficeLadder$Office", name := "code", desc := "(II)I" } : Jvm.MethodName)) ∈ lw_good := g_tw 620 (by decide +kernel) (by decide +kernel)
theorem tw621 : (Jvm.Cond.methodLink "OfficeLadder$Filler" (73 : Nat) ({ cls := "OfficeLadder$Republic", name := "kinLawBinds", desc := "(II)Z" } : Jvm.MethodName)) ∈ lw_good := g_tw 621 (by decide +kernel) (by decide +kernel)
theorem tw622 : (Jvm.Cond.instanceMethod ({ cls := "OfficeLadder$Republic", name := "kinLawBinds", desc := "(II)Z" } : Jvm.MethodName)) ∈ lw_good := g_tw 622 (by decide +kernel) (by decide +kernel)
theorem tw623 : (Jvm.Cond.selects "OfficeLadder$Republic" ({ cls := "OfficeLadder$Republic", name := "kinLawBinds", desc := "(II)Z" } : Jvm.MethodName) ({ cls := "OfficeLadder$Republic", name := "kinLawBinds", desc := "(II)Z" } : Jvm.MethodName)) ∈ lw_good := g_tw 623 (by decide +kernel) (by decide +kernel)
theorem tw624 : (Jvm.Cond.code ({ cls := "OfficeLadder$Republic", name := "kinLawBinds", desc := "(II)Z" } : Jvm.MethodName) prog_8_method_17_code (4 : Nat) (Option.some Jvm.ClassFile.FieldType.boolean)) ∈ lw_good := g_tw 624 (by decide +kernel) (by decide +kernel)
theorem tw625 : (Jvm.Cond.methodLink "OfficeLadder$Filler" (77 : Nat) ({ cls := "OfficeLadder$Filler", name := "ableIn", desc := "(LOfficeLadder$Republic;II)I" } : Jvm.MethodName)) ∈ lw_good := g_tw 625 (by decide +kernel) (by decide +kernel)
theorem tw626 : (Jvm.Cond.static ({ cls := "OfficeLadder$Filler", name := "ableIn", desc := "(LOfficeLadder$Republic;II)I" } : Jvm.MethodName)) ∈ lw_good := g_tw 626 (by decide +kernel) (by decide +kernel)
theorem tw627 : (Jvm.Cond.code ({ cls := "OfficeLadder$Filler", name := "ableIn", desc := "(LOfficeLadder$Republic;II)I" } : Jvm.MethodName) prog_3_method_5_code (5 : Nat) (Option.some Jvm.ClassFile.FieldType.int)) ∈ lw_good := g_tw 627 (by decide +kernel) (by decide +kernel)
theorem tw628 : (Jvm.Cond.methodLink "OfficeLadder$Filler" (98 : Nat) ({ cls := "OfficeLadder$Office", name := "firstEmpty", desc := "(I)I" } : Jvm.MethodName)) ∈ lw_good := g_tw 628 (by decide +kernel) (by decide +kernel)
theorem tw629 : (Jvm.Cond.methodLink "OfficeLadder$Filler" (105 : Nat) ({ cls := "OfficeLadder$Republic", name := "firstBar", desc := "(IIIZ)I" } : Jvm.MethodName)) ∈ lw_good := g_tw 629 (by decide +kernel) (by decide +kernel)
theorem tw630 : (Jvm.Cond.methodLink "OfficeLadder$Filler" (81 : Nat) ({ cls := "OfficeLadder$Filler", name := "place", desc := "(LOfficeLadder$Republic;I)V" } : Jvm.MethodName)) ∈ lw_good := g_tw 630 (by decide +kernel) (by decide +kernel)
theorem tw632 : (Jvm.Cond.instanceMethod ({ cls := "OfficeLadder$Filler", name := "place", desc := "(LOfficeLadder$Republic;I)V" } : Jvm.MethodName)) ∈ lw_good := g_tw 632 (by decide +kernel) (by decide +kernel)
theorem tw633 : (Jvm.Cond.code ({ cls := "OfficeLadder$Filler", name := "place", desc := "(LOfficeLadder$Republic;I)V" } : Jvm.MethodName) prog_3_method_6_code (7 : Nat) (Option.none : Option Jvm.ClassFile.FieldType)) ∈ lw_good := g_tw 633 (by decide +kernel) (by decide +kernel)
theorem tw634 : (Jvm.Cond.methodLink "OfficeLadder$Filler" (109 : Nat) ({ cls := "OfficeLadder$Filler", name := "tellFound", desc := "()V" } : Jvm.MethodName)) ∈ lw_good := g_tw 634 (by decide +kernel) (by decide +kernel)
theorem tw636 : (Jvm.Cond.instanceMethod ({ cls := "OfficeLadder$Filler", name := "tellFound", desc := "()V" } : Jvm.MethodName)) ∈ lw_good := g_tw 636 (by decide +kernel) (by decide +kernel)
theorem tw637 : (Jvm.Cond.code ({ cls := "OfficeLadder$Filler", name := "tellFound", desc := "()V" } : Jvm.MethodName) prog_3_method_10_code (1 : Nat) (Option.none : Option Jvm.ClassFile.FieldType)) ∈ lw_good := g_tw 637 (by decide +kernel) (by decide +kernel)
theorem tw638 : (Jvm.Cond.methodLink "OfficeLadder$Filler" (112 : Nat) ({ cls := "OfficeLadder$Filler", name := "isOver", desc := "()Z" } : Jvm.MethodName)) ∈ lw_good := g_tw 638 (by decide +kernel) (by decide +kernel)
theorem tw640 : (Jvm.Cond.instanceMethod ({ cls := "OfficeLadder$Filler", name := "isOver", desc := "()Z" } : Jvm.MethodName)) ∈ lw_good := g_tw 640 (by decide +kernel) (by decide +kernel)
theorem tw641 : (Jvm.Cond.code ({ cls := "OfficeLadder$Filler", name := "isOver", desc := "()Z" } : Jvm.MethodName) prog_3_method_8_code (1 : Nat) (Option.some Jvm.ClassFile.FieldType.boolean)) ∈ lw_good := g_tw 641 (by decide +kernel) (by decide +kernel)
theorem tw642 : (Jvm.Cond.methodLink "OfficeLadder$Filler" (116 : Nat) ({ cls := "OfficeLadder$Filler", name := "fits", desc := "(LOfficeLadder$Republic;II)Z" } : Jvm.MethodName)) ∈ lw_good := g_tw 642 (by decide +kernel) (by decide +kernel)
theorem tw644 : (Jvm.Cond.instanceMethod ({ cls := "OfficeLadder$Filler", name := "fits", desc := "(LOfficeLadder$Republic;II)Z" } : Jvm.MethodName)) ∈ lw_good := g_tw 644 (by decide +kernel) (by decide +kernel)
theorem tw645 : (Jvm.Cond.code ({ cls := "OfficeLadder$Filler", name := "fits", desc := "(LOfficeLadder$Republic;II)Z" } : Jvm.MethodName) prog_3_method_9_code (4 : Nat) (Option.some Jvm.ClassFile.FieldType.boolean)) ∈ lw_good := g_tw 645 (by decide +kernel) (by decide +kernel)
theorem tw646 : (Jvm.Cond.methodLink "OfficeLadder$Filler" (120 : Nat) ({ cls := "OfficeLadder$Filler", name := "takeAndGoOn", desc := "(LOfficeLadder$Republic;II)V" } : Jvm.MethodName)) ∈ lw_good := g_tw 646 (by decide +kernel) (by decide +kernel)
theorem tw648 : (Jvm.Cond.instanceMethod ({ cls := "OfficeLadder$Filler", name := "takeAndGoOn", desc := "(LOfficeLadder$Republic;II)V" } : Jvm.MethodName)) ∈ lw_good := g_tw 648 (by decide +kernel) (by decide +kernel)
theorem tw649 : (Jvm.Cond.code ({ cls := "OfficeLadder$Filler", name := "takeAndGoOn", desc := "(LOfficeLadder$Republic;II)V" } : Jvm.MethodName) prog_3_method_7_code (6 : Nat) (Option.none : Option Jvm.ClassFile.FieldType)) ∈ lw_good := g_tw 649 (by decide +kernel) (by decide +kernel)
theorem tw650 : (Jvm.Cond.methodLink "OfficeLadderLaw" (105 : Nat) ({ cls := "OfficeLadder", name := "fill", desc := "(I)I" } : Jvm.MethodName)) ∈ lw_good := g_tw 650 (by decide +kernel) (by decide +kernel)
theorem tw651 : (Jvm.Cond.instanceMethod ({ cls := "OfficeLadder", name := "fill", desc := "(I)I" } : Jvm.MethodName)) ∈ lw_good := g_tw 651 (by decide +kernel) (by decide +kernel)
theorem tw652 : (Jvm.Cond.selects "OfficeLadder" ({ cls := "OfficeLadder", name := "fill", desc := "(I)I" } : Jvm.MethodName) ({ cls := "OfficeLadder", name := "fill", desc := "(I)I" } : Jvm.MethodName)) ∈ lw_good := g_tw 652 (by decide +kernel) (by decide +kernel)
theorem tw653 : (Jvm.Cond.code ({ cls := "OfficeLadder", name := "fill", desc := "(I)I" } : Jvm.MethodName) prog_1_method_21_code (2 : Nat) (Option.some Jvm.ClassFile.FieldType.int)) ∈ lw_good := g_tw 653 (by decide +kernel) (by decide +kernel)
theorem tw654 : (Jvm.Cond.methodLink "OfficeLadder" (193 : Nat) ({ cls := "OfficeLadder$Filler", name := "putIn", desc := "(LOfficeLadder$Republic;I)V" } : Jvm.MethodName)) ∈ lw_good := g_tw 654 (by decide +kernel) (by decide +kernel)
theorem tw655 : (Jvm.Cond.instanceMethod ({ cls := "OfficeLadder$Filler", name := "putIn", desc := "(LOfficeLadder$Republic;I)V" } : Jvm.MethodName)) ∈ lw_good := g_tw 655 (by decide +kernel) (by decide +kernel)
theorem tw656 : (Jvm.Cond.selects "OfficeLadder$Filler" ({ cls := "OfficeLadder$Filler", name := "putIn", desc := "(LOfficeLadder$Republic;I)V" } : Jvm.MethodName) ({ cls := "OfficeLadder$Filler", name := "putIn", desc := "(LOfficeLadder$Republic;I)V" } : Jvm.MethodName)) ∈ lw_good := g_tw 656 (by decide +kernel) (by decide +kernel)
theorem tw657 : (Jvm.Cond.code ({ cls := "OfficeLadder$Filler", name := "putIn", desc := "(LOfficeLadder$Republic;I)V" } : Jvm.MethodName) prog_3_method_3_code (4 : Nat) (Option.none : Option Jvm.ClassFile.FieldType)) ∈ lw_good := g_tw 657 (by decide +kernel) (by decide +kernel)
theorem tw658 : (Jvm.Cond.methodLink "OfficeLadder$Filler" (85 : Nat) ({ cls := "OfficeLadder$Republic", name := "put", desc := "(IIII)V" } : Jvm.MethodName)) ∈ lw_good := g_tw 658 (by decide +kernel) (by decide +kernel)
theorem tw659 : (Jvm.Cond.methodLink "OfficeLadderLaw" (109 : Nat) ({ cls := "OfficeLadder", name := "among", desc := "(III)I" } : Jvm.MethodName)) ∈ lw_good := g_tw 659 (by decide +kernel) (by decide +kernel)
theorem tw660 : (Jvm.Cond.instanceMethod ({ cls := "OfficeLadder", name := "among", desc := "(III)I" } : Jvm.MethodName)) ∈ lw_good := g_tw 660 (by decide +kernel) (by decide +kernel)
theorem tw661 : (Jvm.Cond.selects "OfficeLadder" ({ cls := "OfficeLadder", name := "among", desc := "(III)I" } : Jvm.MethodName) ({ cls := "OfficeLadder", name := "among", desc := "(III)I" } : Jvm.MethodName)) ∈ lw_good := g_tw 661 (by decide +kernel) (by decide +kernel)
theorem tw662 : (Jvm.Cond.code ({ cls := "OfficeLadder", name := "among", desc := "(III)I" } : Jvm.MethodName) prog_1_method_22_code (4 : Nat) (Option.some Jvm.ClassFile.FieldType.int)) ∈ lw_good := g_tw 662 (by decide +kernel) (by decide +kernel)
theorem tw663 : (Jvm.Cond.methodLink "OfficeLadderLaw" (113 : Nat) ({ cls := "OfficeLadder", name := "election", desc := "(II)I" } : Jvm.MethodName)) ∈ lw_good := g_tw 663 (by decide +kernel) (by decide +kernel)
theorem tw664 : (Jvm.Cond.instanceMethod ({ cls := "OfficeLadder", name := "election", desc := "(II)I" } : Jvm.MethodName)) ∈ lw_good := g_tw 664 (by decide +kernel) (by decide +kernel)
theorem tw665 : (Jvm.Cond.selects "OfficeLadder" ({ cls := "OfficeLadder", name := "election", desc := "(II)I" } : Jvm.MethodName) ({ cls := "OfficeLadder", name := "election", desc := "(II)I" } : Jvm.MethodName)) ∈ lw_good := g_tw 665 (by decide +kernel) (by decide +kernel)
theorem tw666 : (Jvm.Cond.code ({ cls := "OfficeLadder", name := "election", desc := "(II)I" } : Jvm.MethodName) prog_1_method_23_code (4 : Nat) (Option.some Jvm.ClassFile.FieldType.int)) ∈ lw_good := g_tw 666 (by decide +kernel) (by decide +kernel)
theorem tw667 : (Jvm.Cond.methodLink "OfficeLadder" (206 : Nat) ({ cls := "OfficeLadder$Election", name := "open", desc := "(II)V" } : Jvm.MethodName)) ∈ lw_good := g_tw 667 (by decide +kernel) (by decide +kernel)
theorem tw668 : (Jvm.Cond.instanceMethod ({ cls := "OfficeLadder$Election", name := "open", desc := "(II)V" } : Jvm.MethodName)) ∈ lw_good := g_tw 668 (by decide +kernel) (by decide +kernel)
theorem tw669 : (Jvm.Cond.selects "OfficeLadder$Election" ({ cls := "OfficeLadder$Election", name := "open", desc := "(II)V" } : Jvm.MethodName) ({ cls := "OfficeLadder$Election", name := "open", desc := "(II)V" } : Jvm.MethodName)) ∈ lw_good := g_tw 669 (by decide +kernel) (by decide +kernel)
theorem tw670 : (Jvm.Cond.code ({ cls := "OfficeLadder$Election", name := "open", desc := "(II)V" } : Jvm.MethodName) prog_2_method_2_code (3 : Nat) (Option.none : Option Jvm.ClassFile.FieldType)) ∈ lw_good := g_tw 670 (by decide +kernel) (by decide +kernel)
theorem tw671 : (Jvm.Cond.methodLink "OfficeLadder$Election" (46 : Nat) ({ cls := "java/util/Arrays", name := "fill", desc := "([II)V" } : Jvm.MethodName)) ∈ lw_good := g_tw 671 (by decide +kernel) (by decide +kernel)
theorem tw672 : (Jvm.Cond.static ({ cls := "java/util/Arrays", name := "fill", desc := "([II)V" } : Jvm.MethodName)) ∈ lw_good := g_tw 672 (by decide +kernel) (by decide +kernel)
theorem tw673 : (Jvm.Cond.code ({ cls := "java/util/Arrays", name := "fill", desc := "([II)V" } : Jvm.MethodName) prog_20_method_103_code (4 : Nat) (Option.none : Option Jvm.ClassFile.FieldType)) ∈ lw_good := g_tw 673 (by decide +kernel) (by decide +kernel)
theorem tw674 : (Jvm.Cond.methodLink "OfficeLadderLaw" (117 : Nat) ({ cls := "OfficeLadder", name := "vote", desc := "(II)I" } : Jvm.MethodName)) ∈ lw_good := g_tw 674 (by decide +kernel) (by decide +kernel)
theorem tw675 : (Jvm.Cond.instanceMethod ({ cls := "OfficeLadder", name := "vote", desc := "(II)I" } : Jvm.MethodName)) ∈ lw_good := g_tw 675 (by decide +kernel) (by decide +kernel)
theorem tw676 : (Jvm.Cond.selects "OfficeLadder" ({ cls := "OfficeLadder", name := "vote", desc := "(II)I" } : Jvm.MethodName) ({ cls := "OfficeLadder", name := "vote", desc := "(II)I" } : Jvm.MethodName)) ∈ lw_good := g_tw 676 (by decide +kernel) (by decide +kernel)
theorem tw677 : (Jvm.Cond.code ({ cls := "OfficeLadder", name := "vote", desc := "(II)I" } : Jvm.MethodName) prog_1_method_24_code (3 : Nat) (Option.some Jvm.ClassFile.FieldType.int)) ∈ lw_good := g_tw 677 (by decide +kernel) (by decide +kernel)
theorem tw678 : (Jvm.Cond.methodLink "OfficeLadder" (209 : Nat) ({ cls := "OfficeLadder$Election", name := "isBallot", desc := "(I)Z" } : Jvm.MethodName)) ∈ lw_good := g_tw 678 (by decide +kernel) (by decide +kernel)
theorem tw679 : (Jvm.Cond.instanceMethod ({ cls := "OfficeLadder$Election", name := "isBallot", desc := "(I)Z" } : Jvm.MethodName)) ∈ lw_good := g_tw 679 (by decide +kernel) (by decide +kernel)
theorem tw680 : (Jvm.Cond.selects "OfficeLadder$Election" ({ cls := "OfficeLadder$Election", name := "isBallot", desc := "(I)Z" } : Jvm.MethodName) ({ cls := "OfficeLadder$Election", name := "isBallot", desc := "(I)Z" } : Jvm.MethodName)) ∈ lw_good := g_tw 680 (by decide +kernel) (by decide +kernel)
theorem tw681 : (Jvm.Cond.code ({ cls := "OfficeLadder$Election", name := "isBallot", desc := "(I)Z" } : Jvm.MethodName) prog_2_method_3_code (2 : Nat) (Option.some Jvm.ClassFile.FieldType.boolean)) ∈ lw_good := g_tw 681 (by decide +kernel) (by decide +kernel)
theorem tw682 : (Jvm.Cond.methodLink "OfficeLadder$Election" (52 : Nat) ({ cls := "java/lang/Integer", name := "bitCount", desc := "(I)I" } : Jvm.MethodName)) ∈ lw_good := g_tw 682 (by decide +kernel) (by decide +kernel)
theorem tw683 : (Jvm.Cond.static ({ cls := "java/lang/Integer", name := "bitCount", desc := "(I)I" } : Jvm.MethodName)) ∈ lw_good := g_tw 683 (by decide +kernel) (by decide +kernel)
theorem tw684 : (Jvm.Cond.code ({ cls := "java/lang/Integer", name := "bitCount", desc := "(I)I" } : Jvm.MethodName) prog_15_method_49_code (1 : Nat) (Option.some Jvm.ClassFile.FieldType.int)) ∈ lw_good := g_tw 684 (by decide +kernel) (by decide +kernel)
theorem tw685 : (Jvm.Cond.constant "java/lang/Integer" (265 : Nat) (1431655765 : Int32)) ∈ lw_good := g_tw 685 (by decide +kernel) (by decide +kernel)
theorem tw686 : (Jvm.Cond.constant "java/lang/Integer" (266 : Nat) (858993459 : Int32)) ∈ lw_good := g_tw 686 (by decide +kernel) (by decide +kernel)
theorem tw687 : (Jvm.Cond.constant "java/lang/Integer" (267 : Nat) (252645135 : Int32)) ∈ lw_good := g_tw 687 (by decide +kernel) (by decide +kernel)
theorem tw688 : (Jvm.Cond.methodLink "OfficeLadder" (212 : Nat) ({ cls := "OfficeLadder$Election", name := "take", desc := "(II)Z" } : Jvm.MethodName)) ∈ lw_good := g_tw 688 (by decide +kernel) (by decide +kernel)
theorem tw689 : (Jvm.Cond.instanceMethod ({ cls := "OfficeLadder$Election", name := "take", desc := "(II)Z" } : Jvm.MethodName)) ∈ lw_good := g_tw 689 (by decide +kernel) (by decide +kernel)
theorem tw690 : (Jvm.Cond.selects "OfficeLadder$Election" ({ cls := "OfficeLadder$Election", name := "take", desc := "(II)Z" } : Jvm.MethodName) ({ cls := "OfficeLadder$Election", name := "take", desc := "(II)Z" } : Jvm.MethodName)) ∈ lw_good := g_tw 690 (by decide +kernel) (by decide +kernel)
theorem tw691 : (Jvm.Cond.code ({ cls := "OfficeLadder$Election", name := "take", desc := "(II)Z" } : Jvm.MethodName) prog_2_method_4_code (4 : Nat) (Option.some Jvm.ClassFile.FieldType.boolean)) ∈ lw_good := g_tw 691 (by decide +kernel) (by decide +kernel)
theorem tw692 : (Jvm.Cond.methodLink "OfficeLadderLaw" (123 : Nat) ({ cls := "OfficeLadder", name := "elected", desc := "(JII)I" } : Jvm.MethodName)) ∈ lw_good := g_tw 692 (by decide +kernel) (by decide +kernel)
theorem tw693 : (Jvm.Cond.instanceMethod ({ cls := "OfficeLadder", name := "elected", desc := "(JII)I" } : Jvm.MethodName)) ∈ lw_good := g_tw 693 (by decide +kernel) (by decide +kernel)
theorem tw694 : (Jvm.Cond.selects "OfficeLadder" ({ cls := "OfficeLadder", name := "elected", desc := "(JII)I" } : Jvm.MethodName) ({ cls := "OfficeLadder", name := "elected", desc := "(JII)I" } : Jvm.MethodName)) ∈ lw_good := g_tw 694 (by decide +kernel) (by decide +kernel)
theorem tw695 : (Jvm.Cond.code ({ cls := "OfficeLadder", name := "elected", desc := "(JII)I" } : Jvm.MethodName) prog_1_method_25_code (5 : Nat) (Option.some Jvm.ClassFile.FieldType.int)) ∈ lw_good := g_tw 695 (by decide +kernel) (by decide +kernel)
theorem tw696 : (Jvm.Cond.methodLink "OfficeLadder" (218 : Nat) ({ cls := "OfficeLadder$Election", name := "run", desc := "(J)V" } : Jvm.MethodName)) ∈ lw_good := g_tw 696 (by decide +kernel) (by decide +kernel)
theorem tw697 : (Jvm.Cond.instanceMethod ({ cls := "OfficeLadder$Election", name := "run", desc := "(J)V" } : Jvm.MethodName)) ∈ lw_good := g_tw 697 (by decide +kernel) (by decide +kernel)
theorem tw698 : (Jvm.Cond.selects "OfficeLadder$Election" ({ cls := "OfficeLadder$Election", name := "run", desc := "(J)V" } : Jvm.MethodName) ({ cls := "OfficeLadder$Election", name := "run", desc := "(J)V" } : Jvm.MethodName)) ∈ lw_good := g_tw 698 (by decide +kernel) (by decide +kernel)
theorem tw699 : (Jvm.Cond.code ({ cls := "OfficeLadder$Election", name := "run", desc := "(J)V" } : Jvm.MethodName) prog_2_method_5_code (4 : Nat) (Option.none : Option Jvm.ClassFile.FieldType)) ∈ lw_good := g_tw 699 (by decide +kernel) (by decide +kernel)
theorem tw700 : (Jvm.Cond.methodLink "OfficeLadder$Election" (58 : Nat) ({ cls := "OfficeLadder$Election", name := "begin", desc := "(J)V" } : Jvm.MethodName)) ∈ lw_good := g_tw 700 (by decide +kernel) (by decide +kernel)
theorem tw702 : (Jvm.Cond.instanceMethod ({ cls := "OfficeLadder$Election", name := "begin", desc := "(J)V" } : Jvm.MethodName)) ∈ lw_good := g_tw 702 (by decide +kernel) (by decide +kernel)
theorem tw703 : (Jvm.Cond.code ({ cls := "OfficeLadder$Election", name := "begin", desc := "(J)V" } : Jvm.MethodName) prog_2_method_7_code (3 : Nat) (Option.none : Option Jvm.ClassFile.FieldType)) ∈ lw_good := g_tw 703 (by decide +kernel) (by decide +kernel)
theorem tw705 : (Jvm.Cond.static ({ cls := "OfficeLadder", name := "draw", desc := "([IIJ)V" } : Jvm.MethodName)) ∈ lw_good := g_tw 705 (by decide +kernel) (by decide +kernel)
theorem tw706 : (Jvm.Cond.code ({ cls := "OfficeLadder", name := "draw", desc := "([IIJ)V" } : Jvm.MethodName) prog_1_method_41_code (11 : Nat) (Option.none : Option Jvm.ClassFile.FieldType)) ∈ lw_good := g_tw 706 (by decide +kernel) (by decide +kernel)
theorem tw707 : (Jvm.Cond.methodLink "OfficeLadder$Election" (62 : Nat) ({ cls := "OfficeLadder$Election", name := "countUnit", desc := "(I)V" } : Jvm.MethodName)) ∈ lw_good := g_tw 707 (by decide +kernel) (by decide +kernel)
theorem tw709 : (Jvm.Cond.instanceMethod ({ cls := "OfficeLadder$Election", name := "countUnit", desc := "(I)V" } : Jvm.MethodName)) ∈ lw_good := g_tw 709 (by decide +kernel) (by decide +kernel)
theorem tw710 : (Jvm.Cond.code ({ cls := "OfficeLadder$Election", name := "countUnit", desc := "(I)V" } : Jvm.MethodName) prog_2_method_8_code (4 : Nat) (Option.none : Option Jvm.ClassFile.FieldType)) ∈ lw_good := g_tw 710 (by decide +kernel) (by decide +kernel)
theorem tw711 : (Jvm.Cond.methodLink "OfficeLadder$Election" (77 : Nat) ({ cls := "OfficeLadder$Election", name := "elect", desc := "(II)V" } : Jvm.MethodName)) ∈ lw_good := g_tw 711 (by decide +kernel) (by decide +kernel)
theorem tw713 : (Jvm.Cond.instanceMethod ({ cls := "OfficeLadder$Election", name := "elect", desc := "(II)V" } : Jvm.MethodName)) ∈ lw_good := g_tw 713 (by decide +kernel) (by decide +kernel)
theorem tw714 : (Jvm.Cond.code ({ cls := "OfficeLadder$Election", name := "elect", desc := "(II)V" } : Jvm.MethodName) prog_2_method_9_code (3 : Nat) (Option.none : Option Jvm.ClassFile.FieldType)) ∈ lw_good := g_tw 714 (by decide +kernel) (by decide +kernel)
theorem tw715 : (Jvm.Cond.methodLink "OfficeLadder$Election" (66 : Nat) ({ cls := "OfficeLadder$Election", name := "electRest", desc := "()V" } : Jvm.MethodName)) ∈ lw_good := g_tw 715 (by decide +kernel) (by decide +kernel)
theorem tw717 : (Jvm.Cond.instanceMethod ({ cls := "OfficeLadder$Election", name := "electRest", desc := "()V" } : Jvm.MethodName)) ∈ lw_good := g_tw 717 (by decide +kernel) (by decide +kernel)
theorem tw718 : (Jvm.Cond.code ({ cls := "OfficeLadder$Election", name := "electRest", desc := "()V" } : Jvm.MethodName) prog_2_method_10_code (2 : Nat) (Option.none : Option Jvm.ClassFile.FieldType)) ∈ lw_good := g_tw 718 (by decide +kernel) (by decide +kernel)
theorem tw719 : (Jvm.Cond.methodLink "OfficeLadder$Election" (81 : Nat) ({ cls := "OfficeLadder$Election", name := "bestOfRest", desc := "()I" } : Jvm.MethodName)) ∈ lw_good := g_tw 719 (by decide +kernel) (by decide +kernel)
theorem tw721 : (Jvm.Cond.instanceMethod ({ cls := "OfficeLadder$Election", name := "bestOfRest", desc := "()I" } : Jvm.MethodName)) ∈ lw_good := g_tw 721 (by decide +kernel) (by decide +kernel)
theorem tw722 : (Jvm.Cond.code ({ cls := "OfficeLadder$Election", name := "bestOfRest", desc := "()I" } : Jvm.MethodName) prog_2_method_11_code (3 : Nat) (Option.some Jvm.ClassFile.FieldType.int)) ∈ lw_good := g_tw 722 (by decide +kernel) (by decide +kernel)
theorem tw723 : (Jvm.Cond.methodLink "OfficeLadder$Election" (84 : Nat) ({ cls := "OfficeLadder$Election", name := "isElected", desc := "(I)Z" } : Jvm.MethodName)) ∈ lw_good := g_tw 723 (by decide +kernel) (by decide +kernel)
theorem tw725 : (Jvm.Cond.instanceMethod ({ cls := "OfficeLadder$Election", name := "isElected", desc := "(I)Z" } : Jvm.MethodName)) ∈ lw_good := g_tw 725 (by decide +kernel) (by decide +kernel)
theorem tw726 : (Jvm.Cond.code ({ cls := "OfficeLadder$Election", name := "isElected", desc := "(I)Z" } : Jvm.MethodName) prog_2_method_12_code (3 : Nat) (Option.some Jvm.ClassFile.FieldType.boolean)) ∈ lw_good := g_tw 726 (by decide +kernel) (by decide +kernel)
theorem tw727 : (Jvm.Cond.methodLink "OfficeLadder$Election" (88 : Nat) ({ cls := "OfficeLadder$Election", name := "isAhead", desc := "(II)Z" } : Jvm.MethodName)) ∈ lw_good := g_tw 727 (by decide +kernel) (by decide +kernel)
theorem tw729 : (Jvm.Cond.instanceMethod ({ cls := "OfficeLadder$Election", name := "isAhead", desc := "(II)Z" } : Jvm.MethodName)) ∈ lw_good := g_tw 729 (by decide +kernel) (by decide +kernel)
theorem tw730 : (Jvm.Cond.code ({ cls := "OfficeLadder$Election", name := "isAhead", desc := "(II)Z" } : Jvm.MethodName) prog_2_method_13_code (3 : Nat) (Option.some Jvm.ClassFile.FieldType.boolean)) ∈ lw_good := g_tw 730 (by decide +kernel) (by decide +kernel)
theorem tw731 : (Jvm.Cond.methodLink "OfficeLadderLaw" (128 : Nat) ({ cls := "OfficeLadder", name := "sure", desc := "(J)I" } : Jvm.MethodName)) ∈ lw_good := g_tw 731 (by decide +kernel) (by decide +kernel)
theorem tw732 : (Jvm.Cond.instanceMethod ({ cls := "OfficeLadder", name := "sure", desc := "(J)I" } : Jvm.MethodName)) ∈ lw_good := g_tw 732 (by decide +kernel) (by decide +kernel)
theorem tw733 : (Jvm.Cond.selects "OfficeLadder" ({ cls := "OfficeLadder", name := "sure", desc := "(J)I" } : Jvm.MethodName) ({ cls := "OfficeLadder", name := "sure", desc := "(J)I" } : Jvm.MethodName)) ∈ lw_good := g_tw 733 (by decide +kernel) (by decide +kernel)
theorem tw734 : (Jvm.Cond.code ({ cls := "OfficeLadder", name := "sure", desc := "(J)I" } : Jvm.MethodName) prog_1_method_26_code (3 : Nat) (Option.some Jvm.ClassFile.FieldType.int)) ∈ lw_good := g_tw 734 (by decide +kernel) (by decide +kernel)
theorem tw735 : (Jvm.Cond.methodLink "OfficeLadder" (228 : Nat) ({ cls := "OfficeLadder$Election", name := "sureAfter", desc := "(J)I" } : Jvm.MethodName)) ∈ lw_good := g_tw 735 (by decide +kernel) (by decide +kernel)
theorem tw736 : (Jvm.Cond.instanceMethod ({ cls := "OfficeLadder$Election", name := "sureAfter", desc := "(J)I" } : Jvm.MethodName)) ∈ lw_good := g_tw 736 (by decide +kernel) (by decide +kernel)
theorem tw737 : (Jvm.Cond.selects "OfficeLadder$Election" ({ cls := "OfficeLadder$Election", name := "sureAfter", desc := "(J)I" } : Jvm.MethodName) ({ cls := "OfficeLadder$Election", name := "sureAfter", desc := "(J)I" } : Jvm.MethodName)) ∈ lw_good := g_tw 737 (by decide +kernel) (by decide +kernel)
theorem tw738 : (Jvm.Cond.code ({ cls := "OfficeLadder$Election", name := "sureAfter", desc := "(J)I" } : Jvm.MethodName) prog_2_method_6_code (4 : Nat) (Option.some Jvm.ClassFile.FieldType.int)) ∈ lw_good := g_tw 738 (by decide +kernel) (by decide +kernel)
theorem tw739 : (Jvm.Cond.methodLink "OfficeLadder$Election" (69 : Nat) ({ cls := "OfficeLadder$Election", name := "lead", desc := "()I" } : Jvm.MethodName)) ∈ lw_good := g_tw 739 (by decide +kernel) (by decide +kernel)
theorem tw741 : (Jvm.Cond.instanceMethod ({ cls := "OfficeLadder$Election", name := "lead", desc := "()I" } : Jvm.MethodName)) ∈ lw_good := g_tw 741 (by decide +kernel) (by decide +kernel)
theorem tw742 : (Jvm.Cond.code ({ cls := "OfficeLadder$Election", name := "lead", desc := "()I" } : Jvm.MethodName) prog_2_method_14_code (4 : Nat) (Option.some Jvm.ClassFile.FieldType.int)) ∈ lw_good := g_tw 742 (by decide +kernel) (by decide +kernel)
theorem tw743 : (Jvm.Cond.methodLink "OfficeLadderLaw" (133 : Nat) ({ cls := "OfficeLadder", name := "drawn", desc := "(IJI)I" } : Jvm.MethodName)) ∈ lw_good := g_tw 743 (by decide +kernel) (by decide +kernel)
theorem tw744 : (Jvm.Cond.instanceMethod ({ cls := "OfficeLadder", name := "drawn", desc := "(IJI)I" } : Jvm.MethodName)) ∈ lw_good := g_tw 744 (by decide +kernel) (by decide +kernel)
theorem tw745 : (Jvm.Cond.selects "OfficeLadder" ({ cls := "OfficeLadder", name := "drawn", desc := "(IJI)I" } : Jvm.MethodName) ({ cls := "OfficeLadder", name := "drawn", desc := "(IJI)I" } : Jvm.MethodName)) ∈ lw_good := g_tw 745 (by decide +kernel) (by decide +kernel)
theorem tw746 : (Jvm.Cond.code ({ cls := "OfficeLadder", name := "drawn", desc := "(IJI)I" } : Jvm.MethodName) prog_1_method_27_code (5 : Nat) (Option.some Jvm.ClassFile.FieldType.int)) ∈ lw_good := g_tw 746 (by decide +kernel) (by decide +kernel)
theorem tw747 : (Jvm.Cond.methodLink "OfficeLadder" (232 : Nat) ({ cls := "OfficeLadder", name := "draw", desc := "([IIJ)V" } : Jvm.MethodName)) ∈ lw_good := g_tw 747 (by decide +kernel) (by decide +kernel)
theorem tw748 : (Jvm.Cond.methodLink "OfficeLadderLaw" (138 : Nat) ({ cls := "OfficeLadder", name := "province", desc := "(IIIIJ)I" } : Jvm.MethodName)) ∈ lw_good := g_tw 748 (by decide +kernel) (by decide +kernel)
theorem tw749 : (Jvm.Cond.instanceMethod ({ cls := "OfficeLadder", name := "province", desc := "(IIIIJ)I" } : Jvm.MethodName)) ∈ lw_good := g_tw 749 (by decide +kernel) (by decide +kernel)
theorem tw750 : (Jvm.Cond.selects "OfficeLadder" ({ cls := "OfficeLadder", name := "province", desc := "(IIIIJ)I" } : Jvm.MethodName) ({ cls := "OfficeLadder", name := "province", desc := "(IIIIJ)I" } : Jvm.MethodName)) ∈ lw_good := g_tw 750 (by decide +kernel) (by decide +kernel)
theorem tw751 : (Jvm.Cond.code ({ cls := "OfficeLadder", name := "province", desc := "(IIIIJ)I" } : Jvm.MethodName) prog_1_method_28_code (9 : Nat) (Option.some Jvm.ClassFile.FieldType.int)) ∈ lw_good := g_tw 751 (by decide +kernel) (by decide +kernel)
theorem tw752 : (Jvm.Cond.methodLink "OfficeLadder" (236 : Nat) ({ cls := "OfficeLadder$Office", name := "heldAhead", desc := "(II)I" } : Jvm.MethodName)) ∈ lw_good := g_tw 752 (by decide +kernel) (by decide +kernel)
theorem tw753 : (Jvm.Cond.instanceMethod ({ cls := "OfficeLadder$Office", name := "heldAhead", desc := "(II)I" } : Jvm.MethodName)) ∈ lw_good := g_tw 753 (by decide +kernel) (by decide +kernel)
theorem tw754 : (Jvm.Cond.selects "OfficeLadder$Office" ({ cls := "OfficeLadder$Office", name := "heldAhead", desc := "(II)I" } : Jvm.MethodName) ({ cls := "OfficeLadder$Office", name := "heldAhead", desc := "(II)I" } : Jvm.MethodName)) ∈ lw_good := g_tw 754 (by decide +kernel) (by decide +kernel)
theorem tw755 : (Jvm.Cond.code ({ cls := "OfficeLadder$Office", name := "heldAhead", desc := "(II)I" } : Jvm.MethodName) prog_5_method_7_code (5 : Nat) (Option.some Jvm.ClassFile.FieldType.int)) ∈ lw_good := g_tw 755 (by decide +kernel) (by decide +kernel)
theorem tw756 : (Jvm.Cond.methodLink "OfficeLadderLaw" (143 : Nat) ({ cls := "OfficeLadder", name := "count", desc := "(I)I" } : Jvm.MethodName)) ∈ lw_good := g_tw 756 (by decide +kernel) (by decide +kernel)
theorem tw757 : (Jvm.Cond.instanceMethod ({ cls := "OfficeLadder", name := "count", desc := "(I)I" } : Jvm.MethodName)) ∈ lw_good := g_tw 757 (by decide +kernel) (by decide +kernel)
theorem tw758 : (Jvm.Cond.selects "OfficeLadder" ({ cls := "OfficeLadder", name := "count", desc := "(I)I" } : Jvm.MethodName) ({ cls := "OfficeLadder", name := "count", desc := "(I)I" } : Jvm.MethodName)) ∈ lw_good := g_tw 758 (by decide +kernel) (by decide +kernel)
theorem tw759 : (Jvm.Cond.code ({ cls := "OfficeLadder", name := "count", desc := "(I)I" } : Jvm.MethodName) prog_1_method_29_code (2 : Nat) (Option.some Jvm.ClassFile.FieldType.int)) ∈ lw_good := g_tw 759 (by decide +kernel) (by decide +kernel)
theorem tw760 : (Jvm.Cond.methodLink "OfficeLadderLaw" (147 : Nat) ({ cls := "OfficeLadder", name := "keep", desc := "(III)I" } : Jvm.MethodName)) ∈ lw_good := g_tw 760 (by decide +kernel) (by decide +kernel)
theorem tw761 : (Jvm.Cond.instanceMethod ({ cls := "OfficeLadder", name := "keep", desc := "(III)I" } : Jvm.MethodName)) ∈ lw_good := g_tw 761 (by decide +kernel) (by decide +kernel)
theorem tw762 : (Jvm.Cond.selects "OfficeLadder" ({ cls := "OfficeLadder", name := "keep", desc := "(III)I" } : Jvm.MethodName) ({ cls := "OfficeLadder", name := "keep", desc := "(III)I" } : Jvm.MethodName)) ∈ lw_good := g_tw 762 (by decide +kernel) (by decide +kernel)
theorem tw763 : (Jvm.Cond.code ({ cls := "OfficeLadder", name := "keep", desc := "(III)I" } : Jvm.MethodName) prog_1_method_30_code (5 : Nat) (Option.some Jvm.ClassFile.FieldType.int)) ∈ lw_good := g_tw 763 (by decide +kernel) (by decide +kernel)
theorem tw764 : (Jvm.Cond.methodLink "OfficeLadder" (245 : Nat) ({ cls := "OfficeLadder", name := "isShelf", desc := "(I)Z" } : Jvm.MethodName)) ∈ lw_good := g_tw 764 (by decide +kernel) (by decide +kernel)
theorem tw765 : (Jvm.Cond.static ({ cls := "OfficeLadder", name := "isShelf", desc := "(I)Z" } : Jvm.MethodName)) ∈ lw_good := g_tw 765 (by decide +kernel) (by decide +kernel)
theorem tw766 : (Jvm.Cond.code ({ cls := "OfficeLadder", name := "isShelf", desc := "(I)Z" } : Jvm.MethodName) prog_1_method_40_code (1 : Nat) (Option.some Jvm.ClassFile.FieldType.boolean)) ∈ lw_good := g_tw 766 (by decide +kernel) (by decide +kernel)
theorem tw767 : (Jvm.Cond.methodLink "OfficeLadder" (248 : Nat) ({ cls := "OfficeLadder$Shelf", name := "clear", desc := "()V" } : Jvm.MethodName)) ∈ lw_good := g_tw 767 (by decide +kernel) (by decide +kernel)
theorem tw768 : (Jvm.Cond.instanceMethod ({ cls := "OfficeLadder$Shelf", name := "clear", desc := "()V" } : Jvm.MethodName)) ∈ lw_good := g_tw 768 (by decide +kernel) (by decide +kernel)
theorem tw769 : (Jvm.Cond.selects "OfficeLadder$Shelf" ({ cls := "OfficeLadder$Shelf", name := "clear", desc := "()V" } : Jvm.MethodName) ({ cls := "OfficeLadder$Shelf", name := "clear", desc := "()V" } : Jvm.MethodName)) ∈ lw_good := g_tw 769 (by decide +kernel) (by decide +kernel)
theorem tw770 : (Jvm.Cond.code ({ cls := "OfficeLadder$Shelf", name := "clear", desc := "()V" } : Jvm.MethodName) prog_9_method_5_code (1 : Nat) (Option.none : Option Jvm.ClassFile.FieldType)) ∈ lw_good := g_tw 770 (by decide +kernel) (by decide +kernel)
theorem tw771 : (Jvm.Cond.methodLink "OfficeLadder$Shelf" (30 : Nat) ({ cls := "OfficeLadder$Shelf", name := "become", desc := "(II)V" } : Jvm.MethodName)) ∈ lw_good := g_tw 771 (by decide +kernel) (by decide +kernel)
theorem tw773 : (Jvm.Cond.instanceMethod ({ cls := "OfficeLadder$Shelf", name := "become", desc := "(II)V" } : Jvm.MethodName)) ∈ lw_good := g_tw 773 (by decide +kernel) (by decide +kernel)
theorem tw774 : (Jvm.Cond.code ({ cls := "OfficeLadder$Shelf", name := "become", desc := "(II)V" } : Jvm.MethodName) prog_9_method_11_code (3 : Nat) (Option.none : Option Jvm.ClassFile.FieldType)) ∈ lw_good := g_tw 774 (by decide +kernel) (by decide +kernel)
theorem tw775 : (Jvm.Cond.methodLink "OfficeLadder" (251 : Nat) ({ cls := "OfficeLadder$Shelf", name := "keepLaw", desc := "(LOfficeLadder$Law;)V" } : Jvm.MethodName)) ∈ lw_good := g_tw 775 (by decide +kernel) (by decide +kernel)
theorem tw776 : (Jvm.Cond.instanceMethod ({ cls := "OfficeLadder$Shelf", name := "keepLaw", desc := "(LOfficeLadder$Law;)V" } : Jvm.MethodName)) ∈ lw_good := g_tw 776 (by decide +kernel) (by decide +kernel)
theorem tw777 : (Jvm.Cond.selects "OfficeLadder$Shelf" ({ cls := "OfficeLadder$Shelf", name := "keepLaw", desc := "(LOfficeLadder$Law;)V" } : Jvm.MethodName) ({ cls := "OfficeLadder$Shelf", name := "keepLaw", desc := "(LOfficeLadder$Law;)V" } : Jvm.MethodName)) ∈ lw_good := g_tw 777 (by decide +kernel) (by decide +kernel)
theorem tw778 : (Jvm.Cond.code ({ cls := "OfficeLadder$Shelf", name := "keepLaw", desc := "(LOfficeLadder$Law;)V" } : Jvm.MethodName) prog_9_method_6_code (2 : Nat) (Option.none : Option Jvm.ClassFile.FieldType)) ∈ lw_good := g_tw 778 (by decide +kernel) (by decide +kernel)
theorem tw779 : (Jvm.Cond.methodLink "OfficeLadder" (255 : Nat) ({ cls := "OfficeLadder$Shelf", name := "keepHolders", desc := "(LOfficeLadder$Office;)V" } : Jvm.MethodName)) ∈ lw_good := g_tw 779 (by decide +kernel) (by decide +kernel)
theorem tw780 : (Jvm.Cond.instanceMethod ({ cls := "OfficeLadder$Shelf", name := "keepHolders", desc := "(LOfficeLadder$Office;)V" } : Jvm.MethodName)) ∈ lw_good := g_tw 780 (by decide +kernel) (by decide +kernel)
theorem tw781 : (Jvm.Cond.selects "OfficeLadder$Shelf" ({ cls := "OfficeLadder$Shelf", name := "keepHolders", desc := "(LOfficeLadder$Office;)V" } : Jvm.MethodName) ({ cls := "OfficeLadder$Shelf", name := "keepHolders", desc := "(LOfficeLadder$Office;)V" } : Jvm.MethodName)) ∈ lw_good := g_tw 781 (by decide +kernel) (by decide +kernel)
theorem tw782 : (Jvm.Cond.code ({ cls := "OfficeLadder$Shelf", name := "keepHolders", desc := "(LOfficeLadder$Office;)V" } : Jvm.MethodName) prog_9_method_7_code (3 : Nat) (Option.none : Option Jvm.ClassFile.FieldType)) ∈ lw_good := g_tw 782 (by decide +kernel) (by decide +kernel)
theorem tw783 : (Jvm.Cond.methodLink "OfficeLadder$Shelf" (34 : Nat) ({ cls := "OfficeLadder$Office", name := "holder", desc := "(II)I" } : Jvm.MethodName)) ∈ lw_good := g_tw 783 (by decide +kernel) (by decide +kernel)
theorem tw784 : (Jvm.Cond.methodLink "OfficeLadder" (259 : Nat) ({ cls := "OfficeLadder$Shelf", name := "keepLife", desc := "(LOfficeLadder$Person;)V" } : Jvm.MethodName)) ∈ lw_good := g_tw 784 (by decide +kernel) (by decide +kernel)
theorem tw785 : (Jvm.Cond.instanceMethod ({ cls := "OfficeLadder$Shelf", name := "keepLife", desc := "(LOfficeLadder$Person;)V" } : Jvm.MethodName)) ∈ lw_good := g_tw 785 (by decide +kernel) (by decide +kernel)
theorem tw786 : (Jvm.Cond.selects "OfficeLadder$Shelf" ({ cls := "OfficeLadder$Shelf", name := "keepLife", desc := "(LOfficeLadder$Person;)V" } : Jvm.MethodName) ({ cls := "OfficeLadder$Shelf", name := "keepLife", desc := "(LOfficeLadder$Person;)V" } : Jvm.MethodName)) ∈ lw_good := g_tw 786 (by decide +kernel) (by decide +kernel)
theorem tw787 : (Jvm.Cond.code ({ cls := "OfficeLadder$Shelf", name := "keepLife", desc := "(LOfficeLadder$Person;)V" } : Jvm.MethodName) prog_9_method_8_code (2 : Nat) (Option.none : Option Jvm.ClassFile.FieldType)) ∈ lw_good := g_tw 787 (by decide +kernel) (by decide +kernel)
theorem tw788 : (Jvm.Cond.methodLink "OfficeLadderLaw" (151 : Nat) ({ cls := "OfficeLadder", name := "make", desc := "(III)I" } : Jvm.MethodName)) ∈ lw_good := g_tw 788 (by decide +kernel) (by decide +kernel)
theorem tw789 : (Jvm.Cond.instanceMethod ({ cls := "OfficeLadder", name := "make", desc := "(III)I" } : Jvm.MethodName)) ∈ lw_good := g_tw 789 (by decide +kernel) (by decide +kernel)
theorem tw790 : (Jvm.Cond.selects "OfficeLadder" ({ cls := "OfficeLadder", name := "make", desc := "(III)I" } : Jvm.MethodName) ({ cls := "OfficeLadder", name := "make", desc := "(III)I" } : Jvm.MethodName)) ∈ lw_good := g_tw 790 (by decide +kernel) (by decide +kernel)
theorem tw791 : (Jvm.Cond.code ({ cls := "OfficeLadder", name := "make", desc := "(III)I" } : Jvm.MethodName) prog_1_method_31_code (4 : Nat) (Option.some Jvm.ClassFile.FieldType.int)) ∈ lw_good := g_tw 791 (by decide +kernel) (by decide +kernel)
theorem tw792 : (Jvm.Cond.methodLink "OfficeLadder" (263 : Nat) ({ cls := "OfficeLadder$Shelf", name := "keepZeros", desc := "(II)V" } : Jvm.MethodName)) ∈ lw_good := g_tw 792 (by decide +kernel) (by decide +kernel)
theorem tw793 : (Jvm.Cond.instanceMethod ({ cls := "OfficeLadder$Shelf", name := "keepZeros", desc := "(II)V" } : Jvm.MethodName)) ∈ lw_good := g_tw 793 (by decide +kernel) (by decide +kernel)
theorem tw794 : (Jvm.Cond.selects "OfficeLadder$Shelf" ({ cls := "OfficeLadder$Shelf", name := "keepZeros", desc := "(II)V" } : Jvm.MethodName) ({ cls := "OfficeLadder$Shelf", name := "keepZeros", desc := "(II)V" } : Jvm.MethodName)) ∈ lw_good := g_tw 794 (by decide +kernel) (by decide +kernel)
theorem tw795 : (Jvm.Cond.code ({ cls := "OfficeLadder$Shelf", name := "keepZeros", desc := "(II)V" } : Jvm.MethodName) prog_9_method_9_code (3 : Nat) (Option.none : Option Jvm.ClassFile.FieldType)) ∈ lw_good := g_tw 795 (by decide +kernel) (by decide +kernel)
theorem tw796 : (Jvm.Cond.methodLink "OfficeLadder$Shelf" (57 : Nat) ({ cls := "java/util/Arrays", name := "fill", desc := "([BB)V" } : Jvm.MethodName)) ∈ lw_good := g_tw 796 (by decide +kernel) (by decide +kernel)
theorem tw797 : (Jvm.Cond.methodLink "OfficeLadder$Shelf" (63 : Nat) ({ cls := "java/util/Arrays", name := "fill", desc := "([II)V" } : Jvm.MethodName)) ∈ lw_good := g_tw 797 (by decide +kernel) (by decide +kernel)
theorem tw798 : (Jvm.Cond.methodLink "OfficeLadderLaw" (164 : Nat) ({ cls := "OfficeLadder", name := "copy", desc := "(IIIII)I" } : Jvm.MethodName)) ∈ lw_good := g_tw 798 (by decide +kernel) (by decide +kernel)
theorem tw799 : (Jvm.Cond.instanceMethod ({ cls := "OfficeLadder", name := "copy", desc := "(IIIII)I" } : Jvm.MethodName)) ∈ lw_good := g_tw 799 (by decide +kernel) (by decide +kernel)
theorem tw800 : (Jvm.Cond.selects "OfficeLadder" ({ cls := "OfficeLadder", name := "copy", desc := "(IIIII)I" } : Jvm.MethodName) ({ cls := "OfficeLadder", name := "copy", desc := "(IIIII)I" } : Jvm.MethodName)) ∈ lw_good := g_tw 800 (by decide +kernel) (by decide +kernel)
theorem tw801 : (Jvm.Cond.code ({ cls := "OfficeLadder", name := "copy", desc := "(IIIII)I" } : Jvm.MethodName) prog_1_method_33_code (8 : Nat) (Option.some Jvm.ClassFile.FieldType.int)) ∈ lw_good := g_tw 801 (by decide +kernel) (by decide +kernel)
theorem tw802 : (Jvm.Cond.methodLink "OfficeLadder" (273 : Nat) ({ cls := "OfficeLadder$Shelf", name := "isRow", desc := "()Z" } : Jvm.MethodName)) ∈ lw_good := g_tw 802 (by decide +kernel) (by decide +kernel)
theorem tw803 : (Jvm.Cond.instanceMethod ({ cls := "OfficeLadder$Shelf", name := "isRow", desc := "()Z" } : Jvm.MethodName)) ∈ lw_good := g_tw 803 (by decide +kernel) (by decide +kernel)
theorem tw804 : (Jvm.Cond.selects "OfficeLadder$Shelf" ({ cls := "OfficeLadder$Shelf", name := "isRow", desc := "()Z" } : Jvm.MethodName) ({ cls := "OfficeLadder$Shelf", name := "isRow", desc := "()Z" } : Jvm.MethodName)) ∈ lw_good := g_tw 804 (by decide +kernel) (by decide +kernel)
theorem tw805 : (Jvm.Cond.code ({ cls := "OfficeLadder$Shelf", name := "isRow", desc := "()Z" } : Jvm.MethodName) prog_9_method_2_code (1 : Nat) (Option.some Jvm.ClassFile.FieldType.boolean)) ∈ lw_good := g_tw 805 (by decide +kernel) (by decide +kernel)
theorem tw806 : (Jvm.Cond.methodLink "OfficeLadder" (293 : Nat) ({ cls := "OfficeLadder$Shelf", name := "hasSpan", desc := "(II)Z" } : Jvm.MethodName)) ∈ lw_good := g_tw 806 (by decide +kernel) (by decide +kernel)
theorem tw807 : (Jvm.Cond.instanceMethod ({ cls := "OfficeLadder$Shelf", name := "hasSpan", desc := "(II)Z" } : Jvm.MethodName)) ∈ lw_good := g_tw 807 (by decide +kernel) (by decide +kernel)
theorem tw808 : (Jvm.Cond.selects "OfficeLadder$Shelf" ({ cls := "OfficeLadder$Shelf", name := "hasSpan", desc := "(II)Z" } : Jvm.MethodName) ({ cls := "OfficeLadder$Shelf", name := "hasSpan", desc := "(II)Z" } : Jvm.MethodName)) ∈ lw_good := g_tw 808 (by decide +kernel) (by decide +kernel)
theorem tw809 : (Jvm.Cond.code ({ cls := "OfficeLadder$Shelf", name := "hasSpan", desc := "(II)Z" } : Jvm.MethodName) prog_9_method_3_code (3 : Nat) (Option.some Jvm.ClassFile.FieldType.boolean)) ∈ lw_good := g_tw 809 (by decide +kernel) (by decide +kernel)
theorem tw810 : (Jvm.Cond.methodLink "OfficeLadder" (296 : Nat) ({ cls := "OfficeLadder$Shelf", name := "copyTo", desc := "(LOfficeLadder$Shelf;III)V" } : Jvm.MethodName)) ∈ lw_good := g_tw 810 (by decide +kernel) (by decide +kernel)
theorem tw811 : (Jvm.Cond.instanceMethod ({ cls := "OfficeLadder$Shelf", name := "copyTo", desc := "(LOfficeLadder$Shelf;III)V" } : Jvm.MethodName)) ∈ lw_good := g_tw 811 (by decide +kernel) (by decide +kernel)
theorem tw812 : (Jvm.Cond.selects "OfficeLadder$Shelf" ({ cls := "OfficeLadder$Shelf", name := "copyTo", desc := "(LOfficeLadder$Shelf;III)V" } : Jvm.MethodName) ({ cls := "OfficeLadder$Shelf", name := "copyTo", desc := "(LOfficeLadder$Shelf;III)V" } : Jvm.MethodName)) ∈ lw_good := g_tw 812 (by decide +kernel) (by decide +kernel)
theorem tw813 : (Jvm.Cond.code ({ cls := "OfficeLadder$Shelf", name := "copyTo", desc := "(LOfficeLadder$Shelf;III)V" } : Jvm.MethodName) prog_9_method_10_code (5 : Nat) (Option.none : Option Jvm.ClassFile.FieldType)) ∈ lw_good := g_tw 813 (by decide +kernel) (by decide +kernel)
theorem tw814 : (Jvm.Cond.methodLink "OfficeLadder$Shelf" (66 : Nat) ({ cls := "java/lang/System", name := "arraycopy", desc := "(Ljava/lang/Object;ILjava/lang/Object;II)V" } : Jvm.MethodName)) ∈ lw_good := g_tw 814 (by decide +kernel) (by decide +kernel)
theorem tw815 : (Jvm.Cond.static ({ cls := "java/lang/System", name := "arraycopy", desc := "(Ljava/lang/Object;ILjava/lang/Object;II)V" } : Jvm.MethodName)) ∈ lw_good := g_tw 815 (by decide +kernel) (by decide +kernel)
theorem tw817 : (Jvm.Cond.methodLink "OfficeLadderLaw" (169 : Nat) ({ cls := "OfficeLadder", name := "weight", desc := "(I)I" } : Jvm.MethodName)) ∈ lw_good := g_tw 817 (by decide +kernel) (by decide +kernel)
theorem tw818 : (Jvm.Cond.instanceMethod ({ cls := "OfficeLadder", name := "weight", desc := "(I)I" } : Jvm.MethodName)) ∈ lw_good := g_tw 818 (by decide +kernel) (by decide +kernel)
theorem tw819 : (Jvm.Cond.selects "OfficeLadder" ({ cls := "OfficeLadder", name := "weight", desc := "(I)I" } : Jvm.MethodName) ({ cls := "OfficeLadder", name := "weight", desc := "(I)I" } : Jvm.MethodName)) ∈ lw_good := g_tw 819 (by decide +kernel) (by decide +kernel)
theorem tw820 : (Jvm.Cond.code ({ cls := "OfficeLadder", name := "weight", desc := "(I)I" } : Jvm.MethodName) prog_1_method_34_code (3 : Nat) (Option.some Jvm.ClassFile.FieldType.int)) ∈ lw_good := g_tw 820 (by decide +kernel) (by decide +kernel)
theorem tw821 : (Jvm.Cond.methodLink "OfficeLadder" (300 : Nat) ({ cls := "OfficeLadder", name := "refusalOfLaw", desc := "(I)I" } : Jvm.MethodName)) ∈ lw_good := g_tw 821 (by decide +kernel) (by decide +kernel)
theorem tw823 : (Jvm.Cond.instanceMethod ({ cls := "OfficeLadder", name := "refusalOfLaw", desc := "(I)I" } : Jvm.MethodName)) ∈ lw_good := g_tw 823 (by decide +kernel) (by decide +kernel)
theorem tw824 : (Jvm.Cond.code ({ cls := "OfficeLadder", name := "refusalOfLaw", desc := "(I)I" } : Jvm.MethodName) prog_1_method_36_code (2 : Nat) (Option.some Jvm.ClassFile.FieldType.int)) ∈ lw_good := g_tw 824 (by decide +kernel) (by decide +kernel)
theorem tw825 : (Jvm.Cond.methodLink "OfficeLadder" (307 : Nat) ({ cls := "OfficeLadder$Law", name := "heft", desc := "()I" } : Jvm.MethodName)) ∈ lw_good := g_tw 825 (by decide +kernel) (by decide +kernel)
theorem tw826 : (Jvm.Cond.instanceMethod ({ cls := "OfficeLadder$Law", name := "heft", desc := "()I" } : Jvm.MethodName)) ∈ lw_good := g_tw 826 (by decide +kernel) (by decide +kernel)
theorem tw827 : (Jvm.Cond.selects "OfficeLadder$Law" ({ cls := "OfficeLadder$Law", name := "heft", desc := "()I" } : Jvm.MethodName) ({ cls := "OfficeLadder$Law", name := "heft", desc := "()I" } : Jvm.MethodName)) ∈ lw_good := g_tw 827 (by decide +kernel) (by decide +kernel)
theorem tw828 : (Jvm.Cond.code ({ cls := "OfficeLadder$Law", name := "heft", desc := "()I" } : Jvm.MethodName) prog_4_method_6_code (2 : Nat) (Option.some Jvm.ClassFile.FieldType.int)) ∈ lw_good := g_tw 828 (by decide +kernel) (by decide +kernel)
theorem tw829 : (Jvm.Cond.methodLink "OfficeLadder$Law" (56 : Nat) ({ cls := "OfficeLadder$Law", name := "looksAtLists", desc := "()Z" } : Jvm.MethodName)) ∈ lw_good := g_tw 829 (by decide +kernel) (by decide +kernel)
theorem tw830 : (Jvm.Cond.instanceMethod ({ cls := "OfficeLadder$Law", name := "looksAtLists", desc := "()Z" } : Jvm.MethodName)) ∈ lw_good := g_tw 830 (by decide +kernel) (by decide +kernel)
theorem tw831 : (Jvm.Cond.selects "OfficeLadder$Law" ({ cls := "OfficeLadder$Law", name := "looksAtLists", desc := "()Z" } : Jvm.MethodName) ({ cls := "OfficeLadder$Law", name := "looksAtLists", desc := "()Z" } : Jvm.MethodName)) ∈ lw_good := g_tw 831 (by decide +kernel) (by decide +kernel)
theorem tw832 : (Jvm.Cond.code ({ cls := "OfficeLadder$Law", name := "looksAtLists", desc := "()Z" } : Jvm.MethodName) prog_4_method_5_code (1 : Nat) (Option.some Jvm.ClassFile.FieldType.boolean)) ∈ lw_good := g_tw 832 (by decide +kernel) (by decide +kernel)
theorem tw833 : (Jvm.Cond.methodLink "OfficeLadderLaw" (173 : Nat) ({ cls := "OfficeLadder", name := "toss", desc := "(I)I" } : Jvm.MethodName)) ∈ lw_good := g_tw 833 (by decide +kernel) (by decide +kernel)
theorem tw834 : (Jvm.Cond.instanceMethod ({ cls := "OfficeLadder", name := "toss", desc := "(I)I" } : Jvm.MethodName)) ∈ lw_good := g_tw 834 (by decide +kernel) (by decide +kernel)
theorem tw835 : (Jvm.Cond.selects "OfficeLadder" ({ cls := "OfficeLadder", name := "toss", desc := "(I)I" } : Jvm.MethodName) ({ cls := "OfficeLadder", name := "toss", desc := "(I)I" } : Jvm.MethodName)) ∈ lw_good := g_tw 835 (by decide +kernel) (by decide +kernel)
theorem tw837 : (Jvm.Cond.classLink "OfficeLadder" (276 : Nat) "java/lang/IllegalStateException") ∈ lw_good := g_tw 837 (by decide +kernel) (by decide +kernel)
theorem tw838 : (Jvm.Cond.methodLink "OfficeLadder" (311 : Nat) ({ cls := "OfficeLadder$Law", name := "fail", desc := "()V" } : Jvm.MethodName)) ∈ lw_good := g_tw 838 (by decide +kernel) (by decide +kernel)
theorem tw839 : (Jvm.Cond.instanceMethod ({ cls := "OfficeLadder$Law", name := "fail", desc := "()V" } : Jvm.MethodName)) ∈ lw_good := g_tw 839 (by decide +kernel) (by decide +kernel)
theorem tw840 : (Jvm.Cond.selects "OfficeLadder$Law" ({ cls := "OfficeLadder$Law", name := "fail", desc := "()V" } : Jvm.MethodName) ({ cls := "OfficeLadder$Law", name := "fail", desc := "()V" } : Jvm.MethodName)) ∈ lw_good := g_tw 840 (by decide +kernel) (by decide +kernel)
theorem tw841 : (Jvm.Cond.code ({ cls := "OfficeLadder$Law", name := "fail", desc := "()V" } : Jvm.MethodName) prog_4_method_7_code (1 : Nat) (Option.none : Option Jvm.ClassFile.FieldType)) ∈ lw_good := g_tw 841 (by decide +kernel) (by decide +kernel)
theorem tw842 : (Jvm.Cond.classLink "OfficeLadder$Law" (60 : Nat) "java/lang/IllegalStateException") ∈ lw_good := g_tw 842 (by decide +kernel) (by decide +kernel)
theorem tw843 : (Jvm.Cond.instantiable "java/lang/IllegalStateException" (6 : Nat)) ∈ lw_good := g_tw 843 (by decide +kernel) (by decide +kernel)
theorem tw851 : (Jvm.Cond.selects "java/lang/IllegalStateException" ({ cls := "java/lang/Throwable", name := "fillInStackTrace", desc := "(I)Ljava/lang/Throwable;" } : Jvm.MethodName) ({ cls := "java/lang/Throwable", name := "fillInStackTrace", desc := "(I)Ljava/lang/Throwable;" } : Jvm.MethodName)) ∈ lw_good := g_tw 851 (by decide +kernel) (by decide +kernel)
theorem tw852 : (Jvm.Cond.selects "java/lang/IllegalStateException" ({ cls := "java/lang/Throwable", name := "fillInStackTrace", desc := "()Ljava/lang/Throwable;" } : Jvm.MethodName) ({ cls := "java/lang/Throwable", name := "fillInStackTrace", desc := "()Ljava/lang/Throwable;" } : Jvm.MethodName)) ∈ lw_good := g_tw 852 (by decide +kernel) (by decide +kernel)
theorem tw863 : (Jvm.Cond.fieldLink "java/lang/Throwable" (198 : Nat) "java/lang/Throwable" "backtrace" "Ljava/lang/Object;") ∈ lw_good := g_tw 863 (by decide +kernel) (by decide +kernel)
theorem tw865 : (Jvm.Cond.instanceMethod ({ cls := "java/lang/Throwable", name := "<init>", desc := "()V" } : Jvm.MethodName)) ∈ lw_good := g_tw 865 (by decide +kernel) (by decide +kernel)
theorem tw866 : (Jvm.Cond.code ({ cls := "java/lang/Throwable", name := "<init>", desc := "()V" } : Jvm.MethodName) prog_19_method_1_code (1 : Nat) (Option.none : Option Jvm.ClassFile.FieldType)) ∈ lw_good := g_tw 866 (by decide +kernel) (by decide +kernel)
theorem tw867 : (Jvm.Cond.methodLink "java/lang/Throwable" (1 : Nat) ({ cls := "java/lang/Object", name := "<init>", desc := "()V" } : Jvm.MethodName)) ∈ lw_good := g_tw 867 (by decide +kernel) (by decide +kernel)
theorem tw868 : (Jvm.Cond.fieldLink "java/lang/Throwable" (13 : Nat) "java/lang/Throwable" "UNASSIGNED_STACK" "[Ljava/lang/StackTraceElement;") ∈ lw_good := g_tw 868 (by decide +kernel) (by decide +kernel)
theorem tw870 : (Jvm.Cond.fieldLink "java/lang/Throwable" (20 : Nat) "java/lang/Throwable" "SUPPRESSED_SENTINEL" "Ljava/util/List;") ∈ lw_good := g_tw 870 (by decide +kernel) (by decide +kernel)
theorem tw872 : (Jvm.Cond.methodLink "java/lang/Throwable" (27 : Nat) ({ cls := "java/lang/Throwable", name := "fillInStackTrace", desc := "()Ljava/lang/Throwable;" } : Jvm.MethodName)) ∈ lw_good := g_tw 872 (by decide +kernel) (by decide +kernel)
theorem tw873 : (Jvm.Cond.instanceMethod ({ cls := "java/lang/Throwable", name := "fillInStackTrace", desc := "()Ljava/lang/Throwable;" } : Jvm.MethodName)) ∈ lw_good := g_tw 873 (by decide +kernel) (by decide +kernel)
theorem tw875 : (Jvm.Cond.selects "java/lang/IllegalArgumentException" ({ cls := "java/lang/Throwable", name := "fillInStackTrace", desc := "()Ljava/lang/Throwable;" } : Jvm.MethodName) ({ cls := "java/lang/Throwable", name := "fillInStackTrace", desc := "()Ljava/lang/Throwable;" } : Jvm.MethodName)) ∈ lw_good := g_tw 875 (by decide +kernel) (by decide +kernel)
theorem tw877 : (Jvm.Cond.methodLink "java/lang/Throwable" (202 : Nat) ({ cls := "java/lang/Throwable", name := "fillInStackTrace", desc := "(I)Ljava/lang/Throwable;" } : Jvm.MethodName)) ∈ lw_good := g_tw 877 (by decide +kernel) (by decide +kernel)
theorem tw879 : (Jvm.Cond.instanceMethod ({ cls := "java/lang/Throwable", name := "fillInStackTrace", desc := "(I)Ljava/lang/Throwable;" } : Jvm.MethodName)) ∈ lw_good := g_tw 879 (by decide +kernel) (by decide +kernel)
theorem tw880 : (Jvm.Cond.instantiable "java/lang/Throwable" (6 : Nat)) ∈ lw_good := g_tw 880 (by decide +kernel) (by decide +kernel)
theorem tw883 : (Jvm.Cond.methodLink "OfficeLadder$Law" (64 : Nat) ({ cls := "java/lang/IllegalStateException", name := "<init>", desc := "(Ljava/lang/String;)V" } : Jvm.MethodName)) ∈ lw_good := g_tw 883 (by decide +kernel) (by decide +kernel)
theorem tw884 : (Jvm.Cond.instanceMethod ({ cls := "java/lang/IllegalStateException", name := "<init>", desc := "(Ljava/lang/String;)V" } : Jvm.MethodName)) ∈ lw_good := g_tw 884 (by decide +kernel) (by decide +kernel)
theorem tw885 : (Jvm.Cond.code ({ cls := "java/lang/IllegalStateException", name := "<init>", desc := "(Ljava/lang/String;)V" } : Jvm.MethodName) prog_14_method_2_code (2 : Nat) (Option.none : Option Jvm.ClassFile.FieldType)) ∈ lw_good := g_tw 885 (by decide +kernel) (by decide +kernel)
theorem tw886 : (Jvm.Cond.methodLink "java/lang/IllegalStateException" (7 : Nat) ({ cls := "java/lang/RuntimeException", name := "<init>", desc := "(Ljava/lang/String;)V" } : Jvm.MethodName)) ∈ lw_good := g_tw 886 (by decide +kernel) (by decide +kernel)
theorem tw887 : (Jvm.Cond.instanceMethod ({ cls := "java/lang/RuntimeException", name := "<init>", desc := "(Ljava/lang/String;)V" } : Jvm.MethodName)) ∈ lw_good := g_tw 887 (by decide +kernel) (by decide +kernel)
theorem tw888 : (Jvm.Cond.code ({ cls := "java/lang/RuntimeException", name := "<init>", desc := "(Ljava/lang/String;)V" } : Jvm.MethodName) prog_16_method_2_code (2 : Nat) (Option.none : Option Jvm.ClassFile.FieldType)) ∈ lw_good := g_tw 888 (by decide +kernel) (by decide +kernel)
theorem tw889 : (Jvm.Cond.methodLink "java/lang/RuntimeException" (7 : Nat) ({ cls := "java/lang/Exception", name := "<init>", desc := "(Ljava/lang/String;)V" } : Jvm.MethodName)) ∈ lw_good := g_tw 889 (by decide +kernel) (by decide +kernel)
theorem tw890 : (Jvm.Cond.instanceMethod ({ cls := "java/lang/Exception", name := "<init>", desc := "(Ljava/lang/String;)V" } : Jvm.MethodName)) ∈ lw_good := g_tw 890 (by decide +kernel) (by decide +kernel)
theorem tw891 : (Jvm.Cond.code ({ cls := "java/lang/Exception", name := "<init>", desc := "(Ljava/lang/String;)V" } : Jvm.MethodName) prog_12_method_2_code (2 : Nat) (Option.none : Option Jvm.ClassFile.FieldType)) ∈ lw_good := g_tw 891 (by decide +kernel) (by decide +kernel)
theorem tw892 : (Jvm.Cond.methodLink "java/lang/Exception" (7 : Nat) ({ cls := "java/lang/Throwable", name := "<init>", desc := "(Ljava/lang/String;)V" } : Jvm.MethodName)) ∈ lw_good := g_tw 892 (by decide +kernel) (by decide +kernel)
theorem tw893 : (Jvm.Cond.instanceMethod ({ cls := "java/lang/Throwable", name := "<init>", desc := "(Ljava/lang/String;)V" } : Jvm.MethodName)) ∈ lw_good := g_tw 893 (by decide +kernel) (by decide +kernel)
theorem tw894 : (Jvm.Cond.code ({ cls := "java/lang/Throwable", name := "<init>", desc := "(Ljava/lang/String;)V" } : Jvm.MethodName) prog_19_method_2_code (2 : Nat) (Option.none : Option Jvm.ClassFile.FieldType)) ∈ lw_good := g_tw 894 (by decide +kernel) (by decide +kernel)
theorem tw895 : (Jvm.Cond.fieldLink "java/lang/Throwable" (198 : Nat) "java/lang/Throwable" "backtrace" "Ljava/lang/Object;") ∈ lw_good := g_tw 895 (by decide +kernel) (by decide +kernel)
theorem tw896 : (Jvm.Cond.fieldLink "java/lang/Throwable" (31 : Nat) "java/lang/Throwable" "detailMessage" "Ljava/lang/String;") ∈ lw_good := g_tw 896 (by decide +kernel) (by decide +kernel)
theorem tw897 : (Jvm.Cond.fieldLink "java/lang/Throwable" (7 : Nat) "java/lang/Throwable" "cause" "Ljava/lang/Throwable;") ∈ lw_good := g_tw 897 (by decide +kernel) (by decide +kernel)
theorem tw898 : (Jvm.Cond.fieldLink "java/lang/Throwable" (17 : Nat) "java/lang/Throwable" "stackTrace" "[Ljava/lang/StackTraceElement;") ∈ lw_good := g_tw 898 (by decide +kernel) (by decide +kernel)
theorem tw899 : (Jvm.Cond.fieldLink "java/lang/Throwable" (24 : Nat) "java/lang/Throwable" "suppressedExceptions" "Ljava/util/List;") ∈ lw_good := g_tw 899 (by decide +kernel) (by decide +kernel)
theorem tw908 : (Jvm.Cond.methodLink "OfficeLadderLaw" (155 : Nat) ({ cls := "OfficeLadderLaw", name := "element", desc := "(LOfficeLadder;II[J)I" } : Jvm.MethodName)) ∈ lw_good := g_tw 908 (by decide +kernel) (by decide +kernel)
theorem tw909 : (Jvm.Cond.static ({ cls := "OfficeLadderLaw", name := "element", desc := "(LOfficeLadder;II[J)I" } : Jvm.MethodName)) ∈ lw_good := g_tw 909 (by decide +kernel) (by decide +kernel)
theorem tw911 : (Jvm.Cond.classLink "OfficeLadderLaw" (13 : Nat) "java/lang/IllegalArgumentException") ∈ lw_good := g_tw 911 (by decide +kernel) (by decide +kernel)
theorem tw912 : (Jvm.Cond.classLink "OfficeLadderLaw" (15 : Nat) "java/lang/IllegalStateException") ∈ lw_good := g_tw 912 (by decide +kernel) (by decide +kernel)
theorem tw913 : (Jvm.Cond.methodLink "OfficeLadderLaw" (7 : Nat) ({ cls := "OfficeLadder", name := "element", desc := "(II)J" } : Jvm.MethodName)) ∈ lw_good := g_tw 913 (by decide +kernel) (by decide +kernel)
theorem tw914 : (Jvm.Cond.instanceMethod ({ cls := "OfficeLadder", name := "element", desc := "(II)J" } : Jvm.MethodName)) ∈ lw_good := g_tw 914 (by decide +kernel) (by decide +kernel)
theorem tw915 : (Jvm.Cond.selects "OfficeLadder" ({ cls := "OfficeLadder", name := "element", desc := "(II)J" } : Jvm.MethodName) ({ cls := "OfficeLadder", name := "element", desc := "(II)J" } : Jvm.MethodName)) ∈ lw_good := g_tw 915 (by decide +kernel) (by decide +kernel)
theorem tw916 : (Jvm.Cond.code ({ cls := "OfficeLadder", name := "element", desc := "(II)J" } : Jvm.MethodName) prog_1_method_32_code (4 : Nat) (Option.some Jvm.ClassFile.FieldType.long)) ∈ lw_good := g_tw 916 (by decide +kernel) (by decide +kernel)
theorem tw917 : (Jvm.Cond.classLink "OfficeLadder" (266 : Nat) "java/lang/IllegalArgumentException") ∈ lw_good := g_tw 917 (by decide +kernel) (by decide +kernel)
theorem tw918 : (Jvm.Cond.instantiable "java/lang/IllegalArgumentException" (6 : Nat)) ∈ lw_good := g_tw 918 (by decide +kernel) (by decide +kernel)
theorem tw920 : (Jvm.Cond.selects "java/lang/IllegalArgumentException" ({ cls := "java/lang/Throwable", name := "fillInStackTrace", desc := "(I)Ljava/lang/Throwable;" } : Jvm.MethodName) ({ cls := "java/lang/Throwable", name := "fillInStackTrace", desc := "(I)Ljava/lang/Throwable;" } : Jvm.MethodName)) ∈ lw_good := g_tw 920 (by decide +kernel) (by decide +kernel)
theorem tw927 : (Jvm.Cond.methodLink "OfficeLadder" (270 : Nat) ({ cls := "java/lang/IllegalArgumentException", name := "<init>", desc := "(Ljava/lang/String;)V" } : Jvm.MethodName)) ∈ lw_good := g_tw 927 (by decide +kernel) (by decide +kernel)
theorem tw928 : (Jvm.Cond.instanceMethod ({ cls := "java/lang/IllegalArgumentException", name := "<init>", desc := "(Ljava/lang/String;)V" } : Jvm.MethodName)) ∈ lw_good := g_tw 928 (by decide +kernel) (by decide +kernel)
theorem tw929 : (Jvm.Cond.code ({ cls := "java/lang/IllegalArgumentException", name := "<init>", desc := "(Ljava/lang/String;)V" } : Jvm.MethodName) prog_13_method_2_code (2 : Nat) (Option.none : Option Jvm.ClassFile.FieldType)) ∈ lw_good := g_tw 929 (by decide +kernel) (by decide +kernel)
theorem tw930 : (Jvm.Cond.methodLink "java/lang/IllegalArgumentException" (7 : Nat) ({ cls := "java/lang/RuntimeException", name := "<init>", desc := "(Ljava/lang/String;)V" } : Jvm.MethodName)) ∈ lw_good := g_tw 930 (by decide +kernel) (by decide +kernel)
theorem tw934 : (Jvm.Cond.methodLink "OfficeLadder" (280 : Nat) ({ cls := "java/lang/IllegalStateException", name := "<init>", desc := "(Ljava/lang/String;)V" } : Jvm.MethodName)) ∈ lw_good := g_tw 934 (by decide +kernel) (by decide +kernel)
theorem tw936 : (Jvm.Cond.methodLink "OfficeLadder" (286 : Nat) ({ cls := "OfficeLadder$Shelf", name := "at", desc := "(I)J" } : Jvm.MethodName)) ∈ lw_good := g_tw 936 (by decide +kernel) (by decide +kernel)
theorem tw937 : (Jvm.Cond.instanceMethod ({ cls := "OfficeLadder$Shelf", name := "at", desc := "(I)J" } : Jvm.MethodName)) ∈ lw_good := g_tw 937 (by decide +kernel) (by decide +kernel)
theorem tw938 : (Jvm.Cond.selects "OfficeLadder$Shelf" ({ cls := "OfficeLadder$Shelf", name := "at", desc := "(I)J" } : Jvm.MethodName) ({ cls := "OfficeLadder$Shelf", name := "at", desc := "(I)J" } : Jvm.MethodName)) ∈ lw_good := g_tw 938 (by decide +kernel) (by decide +kernel)
theorem tw939 : (Jvm.Cond.code ({ cls := "OfficeLadder$Shelf", name := "at", desc := "(I)J" } : Jvm.MethodName) prog_9_method_4_code (2 : Nat) (Option.some Jvm.ClassFile.FieldType.long)) ∈ lw_good := g_tw 939 (by decide +kernel) (by decide +kernel)
theorem tw940 : (Jvm.Cond.methodLink "OfficeLadderLaw" (161 : Nat) ({ cls := "OfficeLadderModel", name := "thrown", desc := "()I" } : Jvm.MethodName)) ∈ lw_good := g_tw 940 (by decide +kernel) (by decide +kernel)
theorem tw941 : (Jvm.Cond.instanceMethod ({ cls := "OfficeLadderModel", name := "thrown", desc := "()I" } : Jvm.MethodName)) ∈ lw_good := g_tw 941 (by decide +kernel) (by decide +kernel)
theorem tw942 : (Jvm.Cond.selects "OfficeLadderModel" ({ cls := "OfficeLadderModel", name := "thrown", desc := "()I" } : Jvm.MethodName) ({ cls := "OfficeLadderModel", name := "thrown", desc := "()I" } : Jvm.MethodName)) ∈ lw_good := g_tw 942 (by decide +kernel) (by decide +kernel)
theorem tw943 : (Jvm.Cond.code ({ cls := "OfficeLadderModel", name := "thrown", desc := "()I" } : Jvm.MethodName) prog_11_method_1_code (1 : Nat) (Option.some Jvm.ClassFile.FieldType.int)) ∈ lw_good := g_tw 943 (by decide +kernel) (by decide +kernel)
theorem tw944 : (Jvm.Cond.classLink "OfficeLadderLaw" (18 : Nat) "OfficeLadderModel") ∈ lw_good := g_tw 944 (by decide +kernel) (by decide +kernel)
theorem tw945 : (Jvm.Cond.instantiable "OfficeLadderModel" (45 : Nat)) ∈ lw_good := g_tw 945 (by decide +kernel) (by decide +kernel)
theorem tw946 : (Jvm.Cond.methodLink "OfficeLadderLaw" (20 : Nat) ({ cls := "OfficeLadderModel", name := "<init>", desc := "()V" } : Jvm.MethodName)) ∈ lw_good := g_tw 946 (by decide +kernel) (by decide +kernel)
theorem tw947 : (Jvm.Cond.instanceMethod ({ cls := "OfficeLadderModel", name := "<init>", desc := "()V" } : Jvm.MethodName)) ∈ lw_good := g_tw 947 (by decide +kernel) (by decide +kernel)
theorem tw948 : (Jvm.Cond.code ({ cls := "OfficeLadderModel", name := "<init>", desc := "()V" } : Jvm.MethodName) prog_11_method_3_code (2 : Nat) (Option.none : Option Jvm.ClassFile.FieldType)) ∈ lw_good := g_tw 948 (by decide +kernel) (by decide +kernel)
theorem tw949 : (Jvm.Cond.methodLink "OfficeLadderModel" (7 : Nat) ({ cls := "java/lang/Object", name := "<init>", desc := "()V" } : Jvm.MethodName)) ∈ lw_good := g_tw 949 (by decide +kernel) (by decide +kernel)
theorem tw950 : (Jvm.Cond.fieldLink "OfficeLadderModel" (1 : Nat) "OfficeLadderModel" "thrown" "I") ∈ lw_good := g_tw 950 (by decide +kernel) (by decide +kernel)
theorem tw951 : (Jvm.Cond.fieldLink "OfficeLadderModel" (13 : Nat) "OfficeLadderModel" "offices" "I") ∈ lw_good := g_tw 951 (by decide +kernel) (by decide +kernel)
theorem tw952 : (Jvm.Cond.fieldLink "OfficeLadderModel" (16 : Nat) "OfficeLadderModel" "people" "I") ∈ lw_good := g_tw 952 (by decide +kernel) (by decide +kernel)
theorem tw953 : (Jvm.Cond.fieldLink "OfficeLadderModel" (19 : Nat) "OfficeLadderModel" "laws" "I") ∈ lw_good := g_tw 953 (by decide +kernel) (by decide +kernel)
theorem tw954 : (Jvm.Cond.fieldLink "OfficeLadderModel" (22 : Nat) "OfficeLadderModel" "seats" "[I") ∈ lw_good := g_tw 954 (by decide +kernel) (by decide +kernel)
theorem tw955 : (Jvm.Cond.fieldLink "OfficeLadderModel" (26 : Nat) "OfficeLadderModel" "isFree" "[Z") ∈ lw_good := g_tw 955 (by decide +kernel) (by decide +kernel)
theorem tw956 : (Jvm.Cond.fieldLink "OfficeLadderModel" (30 : Nat) "OfficeLadderModel" "order" "[I") ∈ lw_good := g_tw 956 (by decide +kernel) (by decide +kernel)
theorem tw957 : (Jvm.Cond.fieldLink "OfficeLadderModel" (33 : Nat) "OfficeLadderModel" "born0" "[I") ∈ lw_good := g_tw 957 (by decide +kernel) (by decide +kernel)
theorem tw958 : (Jvm.Cond.fieldLink "OfficeLadderModel" (36 : Nat) "OfficeLadderModel" "born1" "[I") ∈ lw_good := g_tw 958 (by decide +kernel) (by decide +kernel)
theorem tw959 : (Jvm.Cond.fieldLink "OfficeLadderModel" (39 : Nat) "OfficeLadderModel" "father" "[I") ∈ lw_good := g_tw 959 (by decide +kernel) (by decide +kernel)
theorem tw960 : (Jvm.Cond.fieldLink "OfficeLadderModel" (42 : Nat) "OfficeLadderModel" "died" "[I") ∈ lw_good := g_tw 960 (by decide +kernel) (by decide +kernel)
theorem tw961 : (Jvm.Cond.fieldLink "OfficeLadderModel" (45 : Nat) "OfficeLadderModel" "away0" "[I") ∈ lw_good := g_tw 961 (by decide +kernel) (by decide +kernel)
theorem tw962 : (Jvm.Cond.fieldLink "OfficeLadderModel" (48 : Nat) "OfficeLadderModel" "away1" "[I") ∈ lw_good := g_tw 962 (by decide +kernel) (by decide +kernel)
theorem tw963 : (Jvm.Cond.fieldLink "OfficeLadderModel" (51 : Nat) "OfficeLadderModel" "kind" "[I") ∈ lw_good := g_tw 963 (by decide +kernel) (by decide +kernel)
theorem tw964 : (Jvm.Cond.fieldLink "OfficeLadderModel" (54 : Nat) "OfficeLadderModel" "of" "[I") ∈ lw_good := g_tw 964 (by decide +kernel) (by decide +kernel)
theorem tw965 : (Jvm.Cond.fieldLink "OfficeLadderModel" (57 : Nat) "OfficeLadderModel" "number" "[I") ∈ lw_good := g_tw 965 (by decide +kernel) (by decide +kernel)
theorem tw966 : (Jvm.Cond.fieldLink "OfficeLadderModel" (60 : Nat) "OfficeLadderModel" "since" "[I") ∈ lw_good := g_tw 966 (by decide +kernel) (by decide +kernel)
theorem tw967 : (Jvm.Cond.fieldLink "OfficeLadderModel" (63 : Nat) "OfficeLadderModel" "until" "[I") ∈ lw_good := g_tw 967 (by decide +kernel) (by decide +kernel)
theorem tw968 : (Jvm.Cond.fieldLink "OfficeLadderModel" (66 : Nat) "OfficeLadderModel" "list" "[I") ∈ lw_good := g_tw 968 (by decide +kernel) (by decide +kernel)
theorem tw969 : (Jvm.Cond.fieldLink "OfficeLadderModel" (69 : Nat) "OfficeLadderModel" "isVoid" "[Z") ∈ lw_good := g_tw 969 (by decide +kernel) (by decide +kernel)
theorem tw970 : (Jvm.Cond.fieldLink "OfficeLadderModel" (72 : Nat) "OfficeLadderModel" "place" "[I") ∈ lw_good := g_tw 970 (by decide +kernel) (by decide +kernel)
theorem tw971 : (Jvm.Cond.fieldLink "OfficeLadderModel" (75 : Nat) "OfficeLadderModel" "breaches" "I") ∈ lw_good := g_tw 971 (by decide +kernel) (by decide +kernel)
theorem tw972 : (Jvm.Cond.fieldLink "OfficeLadderModel" (78 : Nat) "OfficeLadderModel" "gaps" "I") ∈ lw_good := g_tw 972 (by decide +kernel) (by decide +kernel)
theorem tw973 : (Jvm.Cond.fieldLink "OfficeLadderModel" (81 : Nat) "OfficeLadderModel" "tries" "I") ∈ lw_good := g_tw 973 (by decide +kernel) (by decide +kernel)
theorem tw974 : (Jvm.Cond.fieldLink "OfficeLadderModel" (84 : Nat) "OfficeLadderModel" "whose" "I") ∈ lw_good := g_tw 974 (by decide +kernel) (by decide +kernel)
theorem tw975 : (Jvm.Cond.fieldLink "OfficeLadderModel" (87 : Nat) "OfficeLadderModel" "where" "I") ∈ lw_good := g_tw 975 (by decide +kernel) (by decide +kernel)
theorem tw976 : (Jvm.Cond.fieldLink "OfficeLadderModel" (90 : Nat) "OfficeLadderModel" "amongMany" "I") ∈ lw_good := g_tw 976 (by decide +kernel) (by decide +kernel)
theorem tw977 : (Jvm.Cond.fieldLink "OfficeLadderModel" (93 : Nat) "OfficeLadderModel" "gap" "[I") ∈ lw_good := g_tw 977 (by decide +kernel) (by decide +kernel)
theorem tw978 : (Jvm.Cond.fieldLink "OfficeLadderModel" (96 : Nat) "OfficeLadderModel" "tried" "[I") ∈ lw_good := g_tw 978 (by decide +kernel) (by decide +kernel)
theorem tw979 : (Jvm.Cond.fieldLink "OfficeLadderModel" (99 : Nat) "OfficeLadderModel" "candidates" "I") ∈ lw_good := g_tw 979 (by decide +kernel) (by decide +kernel)
theorem tw980 : (Jvm.Cond.fieldLink "OfficeLadderModel" (102 : Nat) "OfficeLadderModel" "chairs" "I") ∈ lw_good := g_tw 980 (by decide +kernel) (by decide +kernel)
theorem tw981 : (Jvm.Cond.fieldLink "OfficeLadderModel" (105 : Nat) "OfficeLadderModel" "ballot" "[I") ∈ lw_good := g_tw 981 (by decide +kernel) (by decide +kernel)
theorem tw982 : (Jvm.Cond.fieldLink "OfficeLadderModel" (108 : Nat) "OfficeLadderModel" "drawn" "[I") ∈ lw_good := g_tw 982 (by decide +kernel) (by decide +kernel)
theorem tw983 : (Jvm.Cond.fieldLink "OfficeLadderModel" (111 : Nat) "OfficeLadderModel" "left" "[I") ∈ lw_good := g_tw 983 (by decide +kernel) (by decide +kernel)
theorem tw984 : (Jvm.Cond.fieldLink "OfficeLadderModel" (114 : Nat) "OfficeLadderModel" "votes" "[I") ∈ lw_good := g_tw 984 (by decide +kernel) (by decide +kernel)
theorem tw985 : (Jvm.Cond.fieldLink "OfficeLadderModel" (117 : Nat) "OfficeLadderModel" "cameAt" "[I") ∈ lw_good := g_tw 985 (by decide +kernel) (by decide +kernel)
theorem tw986 : (Jvm.Cond.fieldLink "OfficeLadderModel" (120 : Nat) "OfficeLadderModel" "chosen" "[I") ∈ lw_good := g_tw 986 (by decide +kernel) (by decide +kernel)
theorem tw987 : (Jvm.Cond.fieldLink "OfficeLadderModel" (123 : Nat) "OfficeLadderModel" "chosenAt" "[I") ∈ lw_good := g_tw 987 (by decide +kernel) (by decide +kernel)
theorem tw988 : (Jvm.Cond.fieldLink "OfficeLadderModel" (126 : Nat) "OfficeLadderModel" "chosenMany" "I") ∈ lw_good := g_tw 988 (by decide +kernel) (by decide +kernel)
theorem tw989 : (Jvm.Cond.fieldLink "OfficeLadderModel" (129 : Nat) "OfficeLadderModel" "isChosen" "[Z") ∈ lw_good := g_tw 989 (by decide +kernel) (by decide +kernel)
theorem tw990 : (Jvm.Cond.fieldLink "OfficeLadderModel" (132 : Nat) "OfficeLadderModel" "held0" "[I") ∈ lw_good := g_tw 990 (by decide +kernel) (by decide +kernel)
theorem tw991 : (Jvm.Cond.fieldLink "OfficeLadderModel" (135 : Nat) "OfficeLadderModel" "heldLaw" "[I") ∈ lw_good := g_tw 991 (by decide +kernel) (by decide +kernel)
theorem tw992 : (Jvm.Cond.fieldLink "OfficeLadderModel" (138 : Nat) "OfficeLadderModel" "size" "[I") ∈ lw_good := g_tw 992 (by decide +kernel) (by decide +kernel)
theorem tw993 : (Jvm.Cond.fieldLink "OfficeLadderModel" (141 : Nat) "OfficeLadderModel" "item" "[I") ∈ lw_good := g_tw 993 (by decide +kernel) (by decide +kernel)
theorem tw994 : (Jvm.Cond.fieldLink "OfficeLadderModel" (144 : Nat) "OfficeLadderModel" "aside" "[I") ∈ lw_good := g_tw 994 (by decide +kernel) (by decide +kernel)
theorem tw1086 : (Jvm.Cond.methodLink "OfficeLadderLaw" (25 : Nat) ({ cls := "OfficeLadderModel", name := "office", desc := "(IZ)I" } : Jvm.MethodName)) ∈ lw_good := g_tw 1086 (by decide +kernel) (by decide +kernel)
theorem tw1087 : (Jvm.Cond.instanceMethod ({ cls := "OfficeLadderModel", name := "office", desc := "(IZ)I" } : Jvm.MethodName)) ∈ lw_good := g_tw 1087 (by decide +kernel) (by decide +kernel)
theorem tw1088 : (Jvm.Cond.selects "OfficeLadderModel" ({ cls := "OfficeLadderModel", name := "office", desc := "(IZ)I" } : Jvm.MethodName) ({ cls := "OfficeLadderModel", name := "office", desc := "(IZ)I" } : Jvm.MethodName)) ∈ lw_good := g_tw 1088 (by decide +kernel) (by decide +kernel)
theorem tw1089 : (Jvm.Cond.code ({ cls := "OfficeLadderModel", name := "office", desc := "(IZ)I" } : Jvm.MethodName) prog_11_method_8_code (3 : Nat) (Option.some Jvm.ClassFile.FieldType.int)) ∈ lw_good := g_tw 1089 (by decide +kernel) (by decide +kernel)
theorem tw1090 : (Jvm.Cond.methodLink "OfficeLadderModel" (147 : Nat) ({ cls := "OfficeLadderModel", name := "in", desc := "(III)Z" } : Jvm.MethodName)) ∈ lw_good := g_tw 1090 (by decide +kernel) (by decide +kernel)
theorem tw1092 : (Jvm.Cond.instanceMethod ({ cls := "OfficeLadderModel", name := "in", desc := "(III)Z" } : Jvm.MethodName)) ∈ lw_good := g_tw 1092 (by decide +kernel) (by decide +kernel)
theorem tw1093 : (Jvm.Cond.code ({ cls := "OfficeLadderModel", name := "in", desc := "(III)Z" } : Jvm.MethodName) prog_11_method_2_code (4 : Nat) (Option.some Jvm.ClassFile.FieldType.boolean)) ∈ lw_good := g_tw 1093 (by decide +kernel) (by decide +kernel)
theorem tw1094 : (Jvm.Cond.methodLink "OfficeLadderLaw" (30 : Nat) ({ cls := "OfficeLadderModel", name := "person", desc := "(IIII)I" } : Jvm.MethodName)) ∈ lw_good := g_tw 1094 (by decide +kernel) (by decide +kernel)
theorem tw1095 : (Jvm.Cond.instanceMethod ({ cls := "OfficeLadderModel", name := "person", desc := "(IIII)I" } : Jvm.MethodName)) ∈ lw_good := g_tw 1095 (by decide +kernel) (by decide +kernel)
theorem tw1096 : (Jvm.Cond.selects "OfficeLadderModel" ({ cls := "OfficeLadderModel", name := "person", desc := "(IIII)I" } : Jvm.MethodName) ({ cls := "OfficeLadderModel", name := "person", desc := "(IIII)I" } : Jvm.MethodName)) ∈ lw_good := g_tw 1096 (by decide +kernel) (by decide +kernel)
theorem tw1097 : (Jvm.Cond.code ({ cls := "OfficeLadderModel", name := "person", desc := "(IIII)I" } : Jvm.MethodName) prog_11_method_10_code (5 : Nat) (Option.some Jvm.ClassFile.FieldType.int)) ∈ lw_good := g_tw 1097 (by decide +kernel) (by decide +kernel)
theorem tw1098 : (Jvm.Cond.methodLink "OfficeLadderModel" (151 : Nat) ({ cls := "OfficeLadderModel", name := "isSpan", desc := "(II)Z" } : Jvm.MethodName)) ∈ lw_good := g_tw 1098 (by decide +kernel) (by decide +kernel)
theorem tw1100 : (Jvm.Cond.instanceMethod ({ cls := "OfficeLadderModel", name := "isSpan", desc := "(II)Z" } : Jvm.MethodName)) ∈ lw_good := g_tw 1100 (by decide +kernel) (by decide +kernel)
theorem tw1101 : (Jvm.Cond.code ({ cls := "OfficeLadderModel", name := "isSpan", desc := "(II)Z" } : Jvm.MethodName) prog_11_method_9_code (3 : Nat) (Option.some Jvm.ClassFile.FieldType.boolean)) ∈ lw_good := g_tw 1101 (by decide +kernel) (by decide +kernel)
theorem tw1102 : (Jvm.Cond.methodLink "OfficeLadderLaw" (35 : Nat) ({ cls := "OfficeLadderModel", name := "death", desc := "(II)I" } : Jvm.MethodName)) ∈ lw_good := g_tw 1102 (by decide +kernel) (by decide +kernel)
theorem tw1103 : (Jvm.Cond.instanceMethod ({ cls := "OfficeLadderModel", name := "death", desc := "(II)I" } : Jvm.MethodName)) ∈ lw_good := g_tw 1103 (by decide +kernel) (by decide +kernel)
theorem tw1104 : (Jvm.Cond.selects "OfficeLadderModel" ({ cls := "OfficeLadderModel", name := "death", desc := "(II)I" } : Jvm.MethodName) ({ cls := "OfficeLadderModel", name := "death", desc := "(II)I" } : Jvm.MethodName)) ∈ lw_good := g_tw 1104 (by decide +kernel) (by decide +kernel)
theorem tw1105 : (Jvm.Cond.code ({ cls := "OfficeLadderModel", name := "death", desc := "(II)I" } : Jvm.MethodName) prog_11_method_11_code (4 : Nat) (Option.some Jvm.ClassFile.FieldType.int)) ∈ lw_good := g_tw 1105 (by decide +kernel) (by decide +kernel)
theorem tw1106 : (Jvm.Cond.methodLink "OfficeLadderModel" (155 : Nat) ({ cls := "OfficeLadderModel", name := "isPerson", desc := "(I)Z" } : Jvm.MethodName)) ∈ lw_good := g_tw 1106 (by decide +kernel) (by decide +kernel)
theorem tw1108 : (Jvm.Cond.instanceMethod ({ cls := "OfficeLadderModel", name := "isPerson", desc := "(I)Z" } : Jvm.MethodName)) ∈ lw_good := g_tw 1108 (by decide +kernel) (by decide +kernel)
theorem tw1109 : (Jvm.Cond.code ({ cls := "OfficeLadderModel", name := "isPerson", desc := "(I)Z" } : Jvm.MethodName) prog_11_method_5_code (2 : Nat) (Option.some Jvm.ClassFile.FieldType.boolean)) ∈ lw_good := g_tw 1109 (by decide +kernel) (by decide +kernel)
theorem tw1110 : (Jvm.Cond.methodLink "OfficeLadderLaw" (40 : Nat) ({ cls := "OfficeLadderModel", name := "exile", desc := "(III)I" } : Jvm.MethodName)) ∈ lw_good := g_tw 1110 (by decide +kernel) (by decide +kernel)
theorem tw1111 : (Jvm.Cond.instanceMethod ({ cls := "OfficeLadderModel", name := "exile", desc := "(III)I" } : Jvm.MethodName)) ∈ lw_good := g_tw 1111 (by decide +kernel) (by decide +kernel)
theorem tw1112 : (Jvm.Cond.selects "OfficeLadderModel" ({ cls := "OfficeLadderModel", name := "exile", desc := "(III)I" } : Jvm.MethodName) ({ cls := "OfficeLadderModel", name := "exile", desc := "(III)I" } : Jvm.MethodName)) ∈ lw_good := g_tw 1112 (by decide +kernel) (by decide +kernel)
theorem tw1113 : (Jvm.Cond.code ({ cls := "OfficeLadderModel", name := "exile", desc := "(III)I" } : Jvm.MethodName) prog_11_method_12_code (5 : Nat) (Option.some Jvm.ClassFile.FieldType.int)) ∈ lw_good := g_tw 1113 (by decide +kernel) (by decide +kernel)
theorem tw1114 : (Jvm.Cond.methodLink "OfficeLadderModel" (159 : Nat) ({ cls := "OfficeLadderModel", name := "isYear", desc := "(I)Z" } : Jvm.MethodName)) ∈ lw_good := g_tw 1114 (by decide +kernel) (by decide +kernel)
theorem tw1116 : (Jvm.Cond.instanceMethod ({ cls := "OfficeLadderModel", name := "isYear", desc := "(I)Z" } : Jvm.MethodName)) ∈ lw_good := g_tw 1116 (by decide +kernel) (by decide +kernel)
theorem tw1117 : (Jvm.Cond.code ({ cls := "OfficeLadderModel", name := "isYear", desc := "(I)Z" } : Jvm.MethodName) prog_11_method_6_code (2 : Nat) (Option.some Jvm.ClassFile.FieldType.boolean)) ∈ lw_good := g_tw 1117 (by decide +kernel) (by decide +kernel)
theorem tw1118 : (Jvm.Cond.methodLink "OfficeLadderLaw" (44 : Nat) ({ cls := "OfficeLadderModel", name := "birth", desc := "(III)I" } : Jvm.MethodName)) ∈ lw_good := g_tw 1118 (by decide +kernel) (by decide +kernel)
theorem tw1119 : (Jvm.Cond.instanceMethod ({ cls := "OfficeLadderModel", name := "birth", desc := "(III)I" } : Jvm.MethodName)) ∈ lw_good := g_tw 1119 (by decide +kernel) (by decide +kernel)
theorem tw1120 : (Jvm.Cond.selects "OfficeLadderModel" ({ cls := "OfficeLadderModel", name := "birth", desc := "(III)I" } : Jvm.MethodName) ({ cls := "OfficeLadderModel", name := "birth", desc := "(III)I" } : Jvm.MethodName)) ∈ lw_good := g_tw 1120 (by decide +kernel) (by decide +kernel)
theorem tw1121 : (Jvm.Cond.code ({ cls := "OfficeLadderModel", name := "birth", desc := "(III)I" } : Jvm.MethodName) prog_11_method_13_code (5 : Nat) (Option.some Jvm.ClassFile.FieldType.int)) ∈ lw_good := g_tw 1121 (by decide +kernel) (by decide +kernel)
theorem tw1122 : (Jvm.Cond.methodLink "OfficeLadderLaw" (48 : Nat) ({ cls := "OfficeLadderModel", name := "law", desc := "(IIII)I" } : Jvm.MethodName)) ∈ lw_good := g_tw 1122 (by decide +kernel) (by decide +kernel)
theorem tw1123 : (Jvm.Cond.instanceMethod ({ cls := "OfficeLadderModel", name := "law", desc := "(IIII)I" } : Jvm.MethodName)) ∈ lw_good := g_tw 1123 (by decide +kernel) (by decide +kernel)
theorem tw1124 : (Jvm.Cond.selects "OfficeLadderModel" ({ cls := "OfficeLadderModel", name := "law", desc := "(IIII)I" } : Jvm.MethodName) ({ cls := "OfficeLadderModel", name := "law", desc := "(IIII)I" } : Jvm.MethodName)) ∈ lw_good := g_tw 1124 (by decide +kernel) (by decide +kernel)
theorem tw1125 : (Jvm.Cond.code ({ cls := "OfficeLadderModel", name := "law", desc := "(IIII)I" } : Jvm.MethodName) prog_11_method_14_code (8 : Nat) (Option.some Jvm.ClassFile.FieldType.int)) ∈ lw_good := g_tw 1125 (by decide +kernel) (by decide +kernel)
theorem tw1126 : (Jvm.Cond.methodLink "OfficeLadderModel" (162 : Nat) ({ cls := "OfficeLadderModel", name := "isOffice", desc := "(I)Z" } : Jvm.MethodName)) ∈ lw_good := g_tw 1126 (by decide +kernel) (by decide +kernel)
theorem tw1128 : (Jvm.Cond.instanceMethod ({ cls := "OfficeLadderModel", name := "isOffice", desc := "(I)Z" } : Jvm.MethodName)) ∈ lw_good := g_tw 1128 (by decide +kernel) (by decide +kernel)
theorem tw1129 : (Jvm.Cond.code ({ cls := "OfficeLadderModel", name := "isOffice", desc := "(I)Z" } : Jvm.MethodName) prog_11_method_4_code (2 : Nat) (Option.some Jvm.ClassFile.FieldType.boolean)) ∈ lw_good := g_tw 1129 (by decide +kernel) (by decide +kernel)
theorem tw1130 : (Jvm.Cond.methodLink "OfficeLadderLaw" (52 : Nat) ({ cls := "OfficeLadderModel", name := "repeal", desc := "(II)I" } : Jvm.MethodName)) ∈ lw_good := g_tw 1130 (by decide +kernel) (by decide +kernel)
theorem tw1131 : (Jvm.Cond.instanceMethod ({ cls := "OfficeLadderModel", name := "repeal", desc := "(II)I" } : Jvm.MethodName)) ∈ lw_good := g_tw 1131 (by decide +kernel) (by decide +kernel)
theorem tw1132 : (Jvm.Cond.selects "OfficeLadderModel" ({ cls := "OfficeLadderModel", name := "repeal", desc := "(II)I" } : Jvm.MethodName) ({ cls := "OfficeLadderModel", name := "repeal", desc := "(II)I" } : Jvm.MethodName)) ∈ lw_good := g_tw 1132 (by decide +kernel) (by decide +kernel)
theorem tw1133 : (Jvm.Cond.code ({ cls := "OfficeLadderModel", name := "repeal", desc := "(II)I" } : Jvm.MethodName) prog_11_method_15_code (4 : Nat) (Option.some Jvm.ClassFile.FieldType.int)) ∈ lw_good := g_tw 1133 (by decide +kernel) (by decide +kernel)
theorem tw1134 : (Jvm.Cond.methodLink "OfficeLadderLaw" (56 : Nat) ({ cls := "OfficeLadderModel", name := "stone", desc := "(III)I" } : Jvm.MethodName)) ∈ lw_good := g_tw 1134 (by decide +kernel) (by decide +kernel)
theorem tw1135 : (Jvm.Cond.instanceMethod ({ cls := "OfficeLadderModel", name := "stone", desc := "(III)I" } : Jvm.MethodName)) ∈ lw_good := g_tw 1135 (by decide +kernel) (by decide +kernel)
theorem tw1136 : (Jvm.Cond.selects "OfficeLadderModel" ({ cls := "OfficeLadderModel", name := "stone", desc := "(III)I" } : Jvm.MethodName) ({ cls := "OfficeLadderModel", name := "stone", desc := "(III)I" } : Jvm.MethodName)) ∈ lw_good := g_tw 1136 (by decide +kernel) (by decide +kernel)
theorem tw1137 : (Jvm.Cond.code ({ cls := "OfficeLadderModel", name := "stone", desc := "(III)I" } : Jvm.MethodName) prog_11_method_18_code (5 : Nat) (Option.some Jvm.ClassFile.FieldType.int)) ∈ lw_good := g_tw 1137 (by decide +kernel) (by decide +kernel)
theorem tw1138 : (Jvm.Cond.methodLink "OfficeLadderModel" (165 : Nat) ({ cls := "OfficeLadderModel", name := "at", desc := "(III)I" } : Jvm.MethodName)) ∈ lw_good := g_tw 1138 (by decide +kernel) (by decide +kernel)
theorem tw1140 : (Jvm.Cond.instanceMethod ({ cls := "OfficeLadderModel", name := "at", desc := "(III)I" } : Jvm.MethodName)) ∈ lw_good := g_tw 1140 (by decide +kernel) (by decide +kernel)
theorem tw1141 : (Jvm.Cond.code ({ cls := "OfficeLadderModel", name := "at", desc := "(III)I" } : Jvm.MethodName) prog_11_method_7_code (4 : Nat) (Option.some Jvm.ClassFile.FieldType.int)) ∈ lw_good := g_tw 1141 (by decide +kernel) (by decide +kernel)
theorem tw1142 : (Jvm.Cond.methodLink "OfficeLadderModel" (169 : Nat) ({ cls := "OfficeLadderModel", name := "put", desc := "(III)V" } : Jvm.MethodName)) ∈ lw_good := g_tw 1142 (by decide +kernel) (by decide +kernel)
theorem tw1144 : (Jvm.Cond.instanceMethod ({ cls := "OfficeLadderModel", name := "put", desc := "(III)V" } : Jvm.MethodName)) ∈ lw_good := g_tw 1144 (by decide +kernel) (by decide +kernel)
theorem tw1145 : (Jvm.Cond.code ({ cls := "OfficeLadderModel", name := "put", desc := "(III)V" } : Jvm.MethodName) prog_11_method_16_code (4 : Nat) (Option.none : Option Jvm.ClassFile.FieldType)) ∈ lw_good := g_tw 1145 (by decide +kernel) (by decide +kernel)
theorem tw1146 : (Jvm.Cond.methodLink "OfficeLadderLaw" (60 : Nat) ({ cls := "OfficeLadderModel", name := "empty", desc := "(III)I" } : Jvm.MethodName)) ∈ lw_good := g_tw 1146 (by decide +kernel) (by decide +kernel)
theorem tw1147 : (Jvm.Cond.instanceMethod ({ cls := "OfficeLadderModel", name := "empty", desc := "(III)I" } : Jvm.MethodName)) ∈ lw_good := g_tw 1147 (by decide +kernel) (by decide +kernel)
theorem tw1148 : (Jvm.Cond.selects "OfficeLadderModel" ({ cls := "OfficeLadderModel", name := "empty", desc := "(III)I" } : Jvm.MethodName) ({ cls := "OfficeLadderModel", name := "empty", desc := "(III)I" } : Jvm.MethodName)) ∈ lw_good := g_tw 1148 (by decide +kernel) (by decide +kernel)
theorem tw1149 : (Jvm.Cond.code ({ cls := "OfficeLadderModel", name := "empty", desc := "(III)I" } : Jvm.MethodName) prog_11_method_20_code (4 : Nat) (Option.some Jvm.ClassFile.FieldType.int)) ∈ lw_good := g_tw 1149 (by decide +kernel) (by decide +kernel)
theorem tw1150 : (Jvm.Cond.methodLink "OfficeLadderModel" (173 : Nat) ({ cls := "OfficeLadderModel", name := "isSeat", desc := "(III)Z" } : Jvm.MethodName)) ∈ lw_good := g_tw 1150 (by decide +kernel) (by decide +kernel)
theorem tw1152 : (Jvm.Cond.instanceMethod ({ cls := "OfficeLadderModel", name := "isSeat", desc := "(III)Z" } : Jvm.MethodName)) ∈ lw_good := g_tw 1152 (by decide +kernel) (by decide +kernel)
theorem tw1153 : (Jvm.Cond.code ({ cls := "OfficeLadderModel", name := "isSeat", desc := "(III)Z" } : Jvm.MethodName) prog_11_method_19_code (4 : Nat) (Option.some Jvm.ClassFile.FieldType.boolean)) ∈ lw_good := g_tw 1153 (by decide +kernel) (by decide +kernel)
theorem tw1154 : (Jvm.Cond.methodLink "OfficeLadderModel" (176 : Nat) ({ cls := "OfficeLadderModel", name := "clear", desc := "(II)I" } : Jvm.MethodName)) ∈ lw_good := g_tw 1154 (by decide +kernel) (by decide +kernel)
theorem tw1156 : (Jvm.Cond.instanceMethod ({ cls := "OfficeLadderModel", name := "clear", desc := "(II)I" } : Jvm.MethodName)) ∈ lw_good := g_tw 1156 (by decide +kernel) (by decide +kernel)
theorem tw1157 : (Jvm.Cond.code ({ cls := "OfficeLadderModel", name := "clear", desc := "(II)I" } : Jvm.MethodName) prog_11_method_17_code (4 : Nat) (Option.some Jvm.ClassFile.FieldType.int)) ∈ lw_good := g_tw 1157 (by decide +kernel) (by decide +kernel)
theorem tw1158 : (Jvm.Cond.methodLink "OfficeLadderLaw" (65 : Nat) ({ cls := "OfficeLadderModel", name := "annul", desc := "(IIIZ)I" } : Jvm.MethodName)) ∈ lw_good := g_tw 1158 (by decide +kernel) (by decide +kernel)
theorem tw1159 : (Jvm.Cond.instanceMethod ({ cls := "OfficeLadderModel", name := "annul", desc := "(IIIZ)I" } : Jvm.MethodName)) ∈ lw_good := g_tw 1159 (by decide +kernel) (by decide +kernel)
theorem tw1160 : (Jvm.Cond.selects "OfficeLadderModel" ({ cls := "OfficeLadderModel", name := "annul", desc := "(IIIZ)I" } : Jvm.MethodName) ({ cls := "OfficeLadderModel", name := "annul", desc := "(IIIZ)I" } : Jvm.MethodName)) ∈ lw_good := g_tw 1160 (by decide +kernel) (by decide +kernel)
theorem tw1161 : (Jvm.Cond.code ({ cls := "OfficeLadderModel", name := "annul", desc := "(IIIZ)I" } : Jvm.MethodName) prog_11_method_21_code (7 : Nat) (Option.some Jvm.ClassFile.FieldType.int)) ∈ lw_good := g_tw 1161 (by decide +kernel) (by decide +kernel)
theorem tw1162 : (Jvm.Cond.methodLink "OfficeLadderLaw" (69 : Nat) ({ cls := "OfficeLadderModel", name := "seat", desc := "(III)I" } : Jvm.MethodName)) ∈ lw_good := g_tw 1162 (by decide +kernel) (by decide +kernel)
theorem tw1163 : (Jvm.Cond.instanceMethod ({ cls := "OfficeLadderModel", name := "seat", desc := "(III)I" } : Jvm.MethodName)) ∈ lw_good := g_tw 1163 (by decide +kernel) (by decide +kernel)
theorem tw1164 : (Jvm.Cond.selects "OfficeLadderModel" ({ cls := "OfficeLadderModel", name := "seat", desc := "(III)I" } : Jvm.MethodName) ({ cls := "OfficeLadderModel", name := "seat", desc := "(III)I" } : Jvm.MethodName)) ∈ lw_good := g_tw 1164 (by decide +kernel) (by decide +kernel)
theorem tw1165 : (Jvm.Cond.code ({ cls := "OfficeLadderModel", name := "seat", desc := "(III)I" } : Jvm.MethodName) prog_11_method_22_code (5 : Nat) (Option.some Jvm.ClassFile.FieldType.int)) ∈ lw_good := g_tw 1165 (by decide +kernel) (by decide +kernel)
theorem tw1166 : (Jvm.Cond.methodLink "OfficeLadderLaw" (73 : Nat) ({ cls := "OfficeLadderModel", name := "holds", desc := "(II)I" } : Jvm.MethodName)) ∈ lw_good := g_tw 1166 (by decide +kernel) (by decide +kernel)
theorem tw1167 : (Jvm.Cond.instanceMethod ({ cls := "OfficeLadderModel", name := "holds", desc := "(II)I" } : Jvm.MethodName)) ∈ lw_good := g_tw 1167 (by decide +kernel) (by decide +kernel)
theorem tw1168 : (Jvm.Cond.selects "OfficeLadderModel" ({ cls := "OfficeLadderModel", name := "holds", desc := "(II)I" } : Jvm.MethodName) ({ cls := "OfficeLadderModel", name := "holds", desc := "(II)I" } : Jvm.MethodName)) ∈ lw_good := g_tw 1168 (by decide +kernel) (by decide +kernel)
theorem tw1169 : (Jvm.Cond.code ({ cls := "OfficeLadderModel", name := "holds", desc := "(II)I" } : Jvm.MethodName) prog_11_method_24_code (4 : Nat) (Option.some Jvm.ClassFile.FieldType.int)) ∈ lw_good := g_tw 1169 (by decide +kernel) (by decide +kernel)
theorem tw1170 : (Jvm.Cond.methodLink "OfficeLadderModel" (180 : Nat) ({ cls := "OfficeLadderModel", name := "officeAt", desc := "(I)I" } : Jvm.MethodName)) ∈ lw_good := g_tw 1170 (by decide +kernel) (by decide +kernel)
theorem tw1172 : (Jvm.Cond.instanceMethod ({ cls := "OfficeLadderModel", name := "officeAt", desc := "(I)I" } : Jvm.MethodName)) ∈ lw_good := g_tw 1172 (by decide +kernel) (by decide +kernel)
theorem tw1173 : (Jvm.Cond.code ({ cls := "OfficeLadderModel", name := "officeAt", desc := "(I)I" } : Jvm.MethodName) prog_11_method_23_code (2 : Nat) (Option.some Jvm.ClassFile.FieldType.int)) ∈ lw_good := g_tw 1173 (by decide +kernel) (by decide +kernel)
theorem tw1174 : (Jvm.Cond.methodLink "OfficeLadderLaw" (77 : Nat) ({ cls := "OfficeLadderModel", name := "held", desc := "(III)I" } : Jvm.MethodName)) ∈ lw_good := g_tw 1174 (by decide +kernel) (by decide +kernel)
theorem tw1175 : (Jvm.Cond.instanceMethod ({ cls := "OfficeLadderModel", name := "held", desc := "(III)I" } : Jvm.MethodName)) ∈ lw_good := g_tw 1175 (by decide +kernel) (by decide +kernel)
theorem tw1176 : (Jvm.Cond.selects "OfficeLadderModel" ({ cls := "OfficeLadderModel", name := "held", desc := "(III)I" } : Jvm.MethodName) ({ cls := "OfficeLadderModel", name := "held", desc := "(III)I" } : Jvm.MethodName)) ∈ lw_good := g_tw 1176 (by decide +kernel) (by decide +kernel)
theorem tw1177 : (Jvm.Cond.code ({ cls := "OfficeLadderModel", name := "held", desc := "(III)I" } : Jvm.MethodName) prog_11_method_26_code (6 : Nat) (Option.some Jvm.ClassFile.FieldType.int)) ∈ lw_good := g_tw 1177 (by decide +kernel) (by decide +kernel)
theorem tw1178 : (Jvm.Cond.methodLink "OfficeLadderModel" (184 : Nat) ({ cls := "OfficeLadderModel", name := "hasHeld", desc := "(III)Z" } : Jvm.MethodName)) ∈ lw_good := g_tw 1178 (by decide +kernel) (by decide +kernel)
theorem tw1180 : (Jvm.Cond.instanceMethod ({ cls := "OfficeLadderModel", name := "hasHeld", desc := "(III)Z" } : Jvm.MethodName)) ∈ lw_good := g_tw 1180 (by decide +kernel) (by decide +kernel)
theorem tw1181 : (Jvm.Cond.code ({ cls := "OfficeLadderModel", name := "hasHeld", desc := "(III)Z" } : Jvm.MethodName) prog_11_method_25_code (5 : Nat) (Option.some Jvm.ClassFile.FieldType.boolean)) ∈ lw_good := g_tw 1181 (by decide +kernel) (by decide +kernel)
theorem tw1182 : (Jvm.Cond.methodLink "OfficeLadderLaw" (81 : Nat) ({ cls := "OfficeLadderModel", name := "could", desc := "(IIII)I" } : Jvm.MethodName)) ∈ lw_good := g_tw 1182 (by decide +kernel) (by decide +kernel)
theorem tw1183 : (Jvm.Cond.instanceMethod ({ cls := "OfficeLadderModel", name := "could", desc := "(IIII)I" } : Jvm.MethodName)) ∈ lw_good := g_tw 1183 (by decide +kernel) (by decide +kernel)
theorem tw1184 : (Jvm.Cond.selects "OfficeLadderModel" ({ cls := "OfficeLadderModel", name := "could", desc := "(IIII)I" } : Jvm.MethodName) ({ cls := "OfficeLadderModel", name := "could", desc := "(IIII)I" } : Jvm.MethodName)) ∈ lw_good := g_tw 1184 (by decide +kernel) (by decide +kernel)
theorem tw1185 : (Jvm.Cond.code ({ cls := "OfficeLadderModel", name := "could", desc := "(IIII)I" } : Jvm.MethodName) prog_11_method_34_code (5 : Nat) (Option.some Jvm.ClassFile.FieldType.int)) ∈ lw_good := g_tw 1185 (by decide +kernel) (by decide +kernel)
theorem tw1186 : (Jvm.Cond.methodLink "OfficeLadderModel" (206 : Nat) ({ cls := "OfficeLadderModel", name := "couldBe", desc := "(III)I" } : Jvm.MethodName)) ∈ lw_good := g_tw 1186 (by decide +kernel) (by decide +kernel)
theorem tw1188 : (Jvm.Cond.instanceMethod ({ cls := "OfficeLadderModel", name := "couldBe", desc := "(III)I" } : Jvm.MethodName)) ∈ lw_good := g_tw 1188 (by decide +kernel) (by decide +kernel)
theorem tw1189 : (Jvm.Cond.code ({ cls := "OfficeLadderModel", name := "couldBe", desc := "(III)I" } : Jvm.MethodName) prog_11_method_33_code (6 : Nat) (Option.some Jvm.ClassFile.FieldType.int)) ∈ lw_good := g_tw 1189 (by decide +kernel) (by decide +kernel)
theorem tw1190 : (Jvm.Cond.methodLink "OfficeLadderModel" (203 : Nat) ({ cls := "OfficeLadderModel", name := "barOf", desc := "(III)I" } : Jvm.MethodName)) ∈ lw_good := g_tw 1190 (by decide +kernel) (by decide +kernel)
theorem tw1192 : (Jvm.Cond.instanceMethod ({ cls := "OfficeLadderModel", name := "barOf", desc := "(III)I" } : Jvm.MethodName)) ∈ lw_good := g_tw 1192 (by decide +kernel) (by decide +kernel)
theorem tw1193 : (Jvm.Cond.code ({ cls := "OfficeLadderModel", name := "barOf", desc := "(III)I" } : Jvm.MethodName) prog_11_method_32_code (5 : Nat) (Option.some Jvm.ClassFile.FieldType.int)) ∈ lw_good := g_tw 1193 (by decide +kernel) (by decide +kernel)
theorem tw1194 : (Jvm.Cond.methodLink "OfficeLadderModel" (197 : Nat) ({ cls := "OfficeLadderModel", name := "isInForce", desc := "(III)Z" } : Jvm.MethodName)) ∈ lw_good := g_tw 1194 (by decide +kernel) (by decide +kernel)
theorem tw1196 : (Jvm.Cond.instanceMethod ({ cls := "OfficeLadderModel", name := "isInForce", desc := "(III)Z" } : Jvm.MethodName)) ∈ lw_good := g_tw 1196 (by decide +kernel) (by decide +kernel)
theorem tw1197 : (Jvm.Cond.code ({ cls := "OfficeLadderModel", name := "isInForce", desc := "(III)Z" } : Jvm.MethodName) prog_11_method_29_code (4 : Nat) (Option.some Jvm.ClassFile.FieldType.boolean)) ∈ lw_good := g_tw 1197 (by decide +kernel) (by decide +kernel)
theorem tw1198 : (Jvm.Cond.methodLink "OfficeLadderModel" (200 : Nat) ({ cls := "OfficeLadderModel", name := "bars", desc := "(IIII)Z" } : Jvm.MethodName)) ∈ lw_good := g_tw 1198 (by decide +kernel) (by decide +kernel)
theorem tw1200 : (Jvm.Cond.instanceMethod ({ cls := "OfficeLadderModel", name := "bars", desc := "(IIII)Z" } : Jvm.MethodName)) ∈ lw_good := g_tw 1200 (by decide +kernel) (by decide +kernel)
theorem tw1201 : (Jvm.Cond.code ({ cls := "OfficeLadderModel", name := "bars", desc := "(IIII)Z" } : Jvm.MethodName) prog_11_method_31_code (5 : Nat) (Option.some Jvm.ClassFile.FieldType.boolean)) ∈ lw_good := g_tw 1201 (by decide +kernel) (by decide +kernel)
theorem tw1202 : (Jvm.Cond.methodLink "OfficeLadderModel" (190 : Nat) ({ cls := "OfficeLadderModel", name := "heldWithin", desc := "(IIII)Z" } : Jvm.MethodName)) ∈ lw_good := g_tw 1202 (by decide +kernel) (by decide +kernel)
theorem tw1204 : (Jvm.Cond.instanceMethod ({ cls := "OfficeLadderModel", name := "heldWithin", desc := "(IIII)Z" } : Jvm.MethodName)) ∈ lw_good := g_tw 1204 (by decide +kernel) (by decide +kernel)
theorem tw1205 : (Jvm.Cond.code ({ cls := "OfficeLadderModel", name := "heldWithin", desc := "(IIII)Z" } : Jvm.MethodName) prog_11_method_30_code (7 : Nat) (Option.some Jvm.ClassFile.FieldType.boolean)) ∈ lw_good := g_tw 1205 (by decide +kernel) (by decide +kernel)
theorem tw1206 : (Jvm.Cond.methodLink "OfficeLadderModel" (194 : Nat) ({ cls := "OfficeLadderModel", name := "hasKin", desc := "(III)Z" } : Jvm.MethodName)) ∈ lw_good := g_tw 1206 (by decide +kernel) (by decide +kernel)
theorem tw1208 : (Jvm.Cond.instanceMethod ({ cls := "OfficeLadderModel", name := "hasKin", desc := "(III)Z" } : Jvm.MethodName)) ∈ lw_good := g_tw 1208 (by decide +kernel) (by decide +kernel)
theorem tw1209 : (Jvm.Cond.code ({ cls := "OfficeLadderModel", name := "hasKin", desc := "(III)Z" } : Jvm.MethodName) prog_11_method_28_code (7 : Nat) (Option.some Jvm.ClassFile.FieldType.boolean)) ∈ lw_good := g_tw 1209 (by decide +kernel) (by decide +kernel)
theorem tw1210 : (Jvm.Cond.methodLink "OfficeLadderModel" (187 : Nat) ({ cls := "OfficeLadderModel", name := "isKin", desc := "(II)Z" } : Jvm.MethodName)) ∈ lw_good := g_tw 1210 (by decide +kernel) (by decide +kernel)
theorem tw1212 : (Jvm.Cond.instanceMethod ({ cls := "OfficeLadderModel", name := "isKin", desc := "(II)Z" } : Jvm.MethodName)) ∈ lw_good := g_tw 1212 (by decide +kernel) (by decide +kernel)
theorem tw1213 : (Jvm.Cond.code ({ cls := "OfficeLadderModel", name := "isKin", desc := "(II)Z" } : Jvm.MethodName) prog_11_method_27_code (3 : Nat) (Option.some Jvm.ClassFile.FieldType.boolean)) ∈ lw_good := g_tw 1213 (by decide +kernel) (by decide +kernel)
theorem tw1214 : (Jvm.Cond.methodLink "OfficeLadderLaw" (85 : Nat) ({ cls := "OfficeLadderModel", name := "first", desc := "(IIIZ)I" } : Jvm.MethodName)) ∈ lw_good := g_tw 1214 (by decide +kernel) (by decide +kernel)
theorem tw1215 : (Jvm.Cond.instanceMethod ({ cls := "OfficeLadderModel", name := "first", desc := "(IIIZ)I" } : Jvm.MethodName)) ∈ lw_good := g_tw 1215 (by decide +kernel) (by decide +kernel)
theorem tw1216 : (Jvm.Cond.selects "OfficeLadderModel" ({ cls := "OfficeLadderModel", name := "first", desc := "(IIIZ)I" } : Jvm.MethodName) ({ cls := "OfficeLadderModel", name := "first", desc := "(IIIZ)I" } : Jvm.MethodName)) ∈ lw_good := g_tw 1216 (by decide +kernel) (by decide +kernel)
theorem tw1217 : (Jvm.Cond.code ({ cls := "OfficeLadderModel", name := "first", desc := "(IIIZ)I" } : Jvm.MethodName) prog_11_method_35_code (6 : Nat) (Option.some Jvm.ClassFile.FieldType.int)) ∈ lw_good := g_tw 1217 (by decide +kernel) (by decide +kernel)
theorem tw1218 : (Jvm.Cond.methodLink "OfficeLadderLaw" (90 : Nat) ({ cls := "OfficeLadderModel", name := "who", desc := "(IIZ)I" } : Jvm.MethodName)) ∈ lw_good := g_tw 1218 (by decide +kernel) (by decide +kernel)
theorem tw1219 : (Jvm.Cond.instanceMethod ({ cls := "OfficeLadderModel", name := "who", desc := "(IIZ)I" } : Jvm.MethodName)) ∈ lw_good := g_tw 1219 (by decide +kernel) (by decide +kernel)
theorem tw1220 : (Jvm.Cond.selects "OfficeLadderModel" ({ cls := "OfficeLadderModel", name := "who", desc := "(IIZ)I" } : Jvm.MethodName) ({ cls := "OfficeLadderModel", name := "who", desc := "(IIZ)I" } : Jvm.MethodName)) ∈ lw_good := g_tw 1220 (by decide +kernel) (by decide +kernel)
theorem tw1221 : (Jvm.Cond.code ({ cls := "OfficeLadderModel", name := "who", desc := "(IIZ)I" } : Jvm.MethodName) prog_11_method_36_code (6 : Nat) (Option.some Jvm.ClassFile.FieldType.int)) ∈ lw_good := g_tw 1221 (by decide +kernel) (by decide +kernel)
theorem tw1222 : (Jvm.Cond.methodLink "OfficeLadderLaw" (95 : Nat) ({ cls := "OfficeLadderModel", name := "breaches", desc := "()I" } : Jvm.MethodName)) ∈ lw_good := g_tw 1222 (by decide +kernel) (by decide +kernel)
theorem tw1223 : (Jvm.Cond.instanceMethod ({ cls := "OfficeLadderModel", name := "breaches", desc := "()I" } : Jvm.MethodName)) ∈ lw_good := g_tw 1223 (by decide +kernel) (by decide +kernel)
theorem tw1224 : (Jvm.Cond.selects "OfficeLadderModel" ({ cls := "OfficeLadderModel", name := "breaches", desc := "()I" } : Jvm.MethodName) ({ cls := "OfficeLadderModel", name := "breaches", desc := "()I" } : Jvm.MethodName)) ∈ lw_good := g_tw 1224 (by decide +kernel) (by decide +kernel)
theorem tw1225 : (Jvm.Cond.code ({ cls := "OfficeLadderModel", name := "breaches", desc := "()I" } : Jvm.MethodName) prog_11_method_39_code (2 : Nat) (Option.some Jvm.ClassFile.FieldType.int)) ∈ lw_good := g_tw 1225 (by decide +kernel) (by decide +kernel)
theorem tw1226 : (Jvm.Cond.methodLink "OfficeLadderModel" (212 : Nat) ({ cls := "OfficeLadderModel", name := "goThrough", desc := "(I)I" } : Jvm.MethodName)) ∈ lw_good := g_tw 1226 (by decide +kernel) (by decide +kernel)
theorem tw1228 : (Jvm.Cond.instanceMethod ({ cls := "OfficeLadderModel", name := "goThrough", desc := "(I)I" } : Jvm.MethodName)) ∈ lw_good := g_tw 1228 (by decide +kernel) (by decide +kernel)
theorem tw1229 : (Jvm.Cond.code ({ cls := "OfficeLadderModel", name := "goThrough", desc := "(I)I" } : Jvm.MethodName) prog_11_method_38_code (6 : Nat) (Option.some Jvm.ClassFile.FieldType.int)) ∈ lw_good := g_tw 1229 (by decide +kernel) (by decide +kernel)
theorem tw1230 : (Jvm.Cond.methodLink "OfficeLadderModel" (209 : Nat) ({ cls := "OfficeLadderModel", name := "isRight", desc := "(III)Z" } : Jvm.MethodName)) ∈ lw_good := g_tw 1230 (by decide +kernel) (by decide +kernel)
theorem tw1232 : (Jvm.Cond.instanceMethod ({ cls := "OfficeLadderModel", name := "isRight", desc := "(III)Z" } : Jvm.MethodName)) ∈ lw_good := g_tw 1232 (by decide +kernel) (by decide +kernel)
theorem tw1233 : (Jvm.Cond.code ({ cls := "OfficeLadderModel", name := "isRight", desc := "(III)Z" } : Jvm.MethodName) prog_11_method_37_code (6 : Nat) (Option.some Jvm.ClassFile.FieldType.boolean)) ∈ lw_good := g_tw 1233 (by decide +kernel) (by decide +kernel)
theorem tw1234 : (Jvm.Cond.methodLink "OfficeLadderLaw" (100 : Nat) ({ cls := "OfficeLadderModel", name := "breach", desc := "(I)I" } : Jvm.MethodName)) ∈ lw_good := g_tw 1234 (by decide +kernel) (by decide +kernel)
theorem tw1235 : (Jvm.Cond.instanceMethod ({ cls := "OfficeLadderModel", name := "breach", desc := "(I)I" } : Jvm.MethodName)) ∈ lw_good := g_tw 1235 (by decide +kernel) (by decide +kernel)
theorem tw1236 : (Jvm.Cond.selects "OfficeLadderModel" ({ cls := "OfficeLadderModel", name := "breach", desc := "(I)I" } : Jvm.MethodName) ({ cls := "OfficeLadderModel", name := "breach", desc := "(I)I" } : Jvm.MethodName)) ∈ lw_good := g_tw 1236 (by decide +kernel) (by decide +kernel)
theorem tw1237 : (Jvm.Cond.code ({ cls := "OfficeLadderModel", name := "breach", desc := "(I)I" } : Jvm.MethodName) prog_11_method_40_code (2 : Nat) (Option.some Jvm.ClassFile.FieldType.int)) ∈ lw_good := g_tw 1237 (by decide +kernel) (by decide +kernel)
theorem tw1238 : (Jvm.Cond.methodLink "OfficeLadderLaw" (104 : Nat) ({ cls := "OfficeLadderModel", name := "fillings", desc := "(I)I" } : Jvm.MethodName)) ∈ lw_good := g_tw 1238 (by decide +kernel) (by decide +kernel)
theorem tw1239 : (Jvm.Cond.instanceMethod ({ cls := "OfficeLadderModel", name := "fillings", desc := "(I)I" } : Jvm.MethodName)) ∈ lw_good := g_tw 1239 (by decide +kernel) (by decide +kernel)
theorem tw1240 : (Jvm.Cond.selects "OfficeLadderModel" ({ cls := "OfficeLadderModel", name := "fillings", desc := "(I)I" } : Jvm.MethodName) ({ cls := "OfficeLadderModel", name := "fillings", desc := "(I)I" } : Jvm.MethodName)) ∈ lw_good := g_tw 1240 (by decide +kernel) (by decide +kernel)
theorem tw1241 : (Jvm.Cond.code ({ cls := "OfficeLadderModel", name := "fillings", desc := "(I)I" } : Jvm.MethodName) prog_11_method_45_code (2 : Nat) (Option.some Jvm.ClassFile.FieldType.int)) ∈ lw_good := g_tw 1241 (by decide +kernel) (by decide +kernel)
theorem tw1242 : (Jvm.Cond.methodLink "OfficeLadderModel" (226 : Nat) ({ cls := "OfficeLadderModel", name := "fillYear", desc := "(IZ)I" } : Jvm.MethodName)) ∈ lw_good := g_tw 1242 (by decide +kernel) (by decide +kernel)
theorem tw1244 : (Jvm.Cond.instanceMethod ({ cls := "OfficeLadderModel", name := "fillYear", desc := "(IZ)I" } : Jvm.MethodName)) ∈ lw_good := g_tw 1244 (by decide +kernel) (by decide +kernel)
theorem tw1245 : (Jvm.Cond.code ({ cls := "OfficeLadderModel", name := "fillYear", desc := "(IZ)I" } : Jvm.MethodName) prog_11_method_44_code (7 : Nat) (Option.some Jvm.ClassFile.FieldType.int)) ∈ lw_good := g_tw 1245 (by decide +kernel) (by decide +kernel)
theorem tw1246 : (Jvm.Cond.methodLink "OfficeLadderModel" (215 : Nat) ({ cls := "OfficeLadderModel", name := "areAllRight", desc := "(I)Z" } : Jvm.MethodName)) ∈ lw_good := g_tw 1246 (by decide +kernel) (by decide +kernel)
theorem tw1248 : (Jvm.Cond.instanceMethod ({ cls := "OfficeLadderModel", name := "areAllRight", desc := "(I)Z" } : Jvm.MethodName)) ∈ lw_good := g_tw 1248 (by decide +kernel) (by decide +kernel)
theorem tw1249 : (Jvm.Cond.code ({ cls := "OfficeLadderModel", name := "areAllRight", desc := "(I)Z" } : Jvm.MethodName) prog_11_method_41_code (4 : Nat) (Option.some Jvm.ClassFile.FieldType.boolean)) ∈ lw_good := g_tw 1249 (by decide +kernel) (by decide +kernel)
theorem tw1250 : (Jvm.Cond.methodLink "OfficeLadderModel" (218 : Nat) ({ cls := "OfficeLadderModel", name := "isAmong", desc := "()Z" } : Jvm.MethodName)) ∈ lw_good := g_tw 1250 (by decide +kernel) (by decide +kernel)
theorem tw1252 : (Jvm.Cond.instanceMethod ({ cls := "OfficeLadderModel", name := "isAmong", desc := "()Z" } : Jvm.MethodName)) ∈ lw_good := g_tw 1252 (by decide +kernel) (by decide +kernel)
theorem tw1253 : (Jvm.Cond.code ({ cls := "OfficeLadderModel", name := "isAmong", desc := "()Z" } : Jvm.MethodName) prog_11_method_43_code (2 : Nat) (Option.some Jvm.ClassFile.FieldType.boolean)) ∈ lw_good := g_tw 1253 (by decide +kernel) (by decide +kernel)
theorem tw1254 : (Jvm.Cond.methodLink "OfficeLadderModel" (222 : Nat) ({ cls := "OfficeLadderModel", name := "takeBack", desc := "(II)V" } : Jvm.MethodName)) ∈ lw_good := g_tw 1254 (by decide +kernel) (by decide +kernel)
theorem tw1256 : (Jvm.Cond.instanceMethod ({ cls := "OfficeLadderModel", name := "takeBack", desc := "(II)V" } : Jvm.MethodName)) ∈ lw_good := g_tw 1256 (by decide +kernel) (by decide +kernel)
theorem tw1257 : (Jvm.Cond.code ({ cls := "OfficeLadderModel", name := "takeBack", desc := "(II)V" } : Jvm.MethodName) prog_11_method_42_code (4 : Nat) (Option.none : Option Jvm.ClassFile.FieldType)) ∈ lw_good := g_tw 1257 (by decide +kernel) (by decide +kernel)
theorem tw1258 : (Jvm.Cond.methodLink "OfficeLadderLaw" (108 : Nat) ({ cls := "OfficeLadderModel", name := "fill", desc := "(I)I" } : Jvm.MethodName)) ∈ lw_good := g_tw 1258 (by decide +kernel) (by decide +kernel)
theorem tw1259 : (Jvm.Cond.instanceMethod ({ cls := "OfficeLadderModel", name := "fill", desc := "(I)I" } : Jvm.MethodName)) ∈ lw_good := g_tw 1259 (by decide +kernel) (by decide +kernel)
theorem tw1260 : (Jvm.Cond.selects "OfficeLadderModel" ({ cls := "OfficeLadderModel", name := "fill", desc := "(I)I" } : Jvm.MethodName) ({ cls := "OfficeLadderModel", name := "fill", desc := "(I)I" } : Jvm.MethodName)) ∈ lw_good := g_tw 1260 (by decide +kernel) (by decide +kernel)
theorem tw1261 : (Jvm.Cond.code ({ cls := "OfficeLadderModel", name := "fill", desc := "(I)I" } : Jvm.MethodName) prog_11_method_46_code (3 : Nat) (Option.some Jvm.ClassFile.FieldType.int)) ∈ lw_good := g_tw 1261 (by decide +kernel) (by decide +kernel)
theorem tw1262 : (Jvm.Cond.methodLink "OfficeLadderLaw" (112 : Nat) ({ cls := "OfficeLadderModel", name := "among", desc := "(III)I" } : Jvm.MethodName)) ∈ lw_good := g_tw 1262 (by decide +kernel) (by decide +kernel)
theorem tw1263 : (Jvm.Cond.instanceMethod ({ cls := "OfficeLadderModel", name := "among", desc := "(III)I" } : Jvm.MethodName)) ∈ lw_good := g_tw 1263 (by decide +kernel) (by decide +kernel)
theorem tw1264 : (Jvm.Cond.selects "OfficeLadderModel" ({ cls := "OfficeLadderModel", name := "among", desc := "(III)I" } : Jvm.MethodName) ({ cls := "OfficeLadderModel", name := "among", desc := "(III)I" } : Jvm.MethodName)) ∈ lw_good := g_tw 1264 (by decide +kernel) (by decide +kernel)
theorem tw1265 : (Jvm.Cond.code ({ cls := "OfficeLadderModel", name := "among", desc := "(III)I" } : Jvm.MethodName) prog_11_method_47_code (4 : Nat) (Option.some Jvm.ClassFile.FieldType.int)) ∈ lw_good := g_tw 1265 (by decide +kernel) (by decide +kernel)
theorem tw1266 : (Jvm.Cond.methodLink "OfficeLadderLaw" (116 : Nat) ({ cls := "OfficeLadderModel", name := "election", desc := "(II)I" } : Jvm.MethodName)) ∈ lw_good := g_tw 1266 (by decide +kernel) (by decide +kernel)
theorem tw1267 : (Jvm.Cond.instanceMethod ({ cls := "OfficeLadderModel", name := "election", desc := "(II)I" } : Jvm.MethodName)) ∈ lw_good := g_tw 1267 (by decide +kernel) (by decide +kernel)
theorem tw1268 : (Jvm.Cond.selects "OfficeLadderModel" ({ cls := "OfficeLadderModel", name := "election", desc := "(II)I" } : Jvm.MethodName) ({ cls := "OfficeLadderModel", name := "election", desc := "(II)I" } : Jvm.MethodName)) ∈ lw_good := g_tw 1268 (by decide +kernel) (by decide +kernel)
theorem tw1269 : (Jvm.Cond.code ({ cls := "OfficeLadderModel", name := "election", desc := "(II)I" } : Jvm.MethodName) prog_11_method_49_code (5 : Nat) (Option.some Jvm.ClassFile.FieldType.int)) ∈ lw_good := g_tw 1269 (by decide +kernel) (by decide +kernel)
theorem tw1270 : (Jvm.Cond.methodLink "OfficeLadderModel" (230 : Nat) ({ cls := "OfficeLadderModel", name := "voted", desc := "()I" } : Jvm.MethodName)) ∈ lw_good := g_tw 1270 (by decide +kernel) (by decide +kernel)
theorem tw1272 : (Jvm.Cond.instanceMethod ({ cls := "OfficeLadderModel", name := "voted", desc := "()I" } : Jvm.MethodName)) ∈ lw_good := g_tw 1272 (by decide +kernel) (by decide +kernel)
theorem tw1273 : (Jvm.Cond.code ({ cls := "OfficeLadderModel", name := "voted", desc := "()I" } : Jvm.MethodName) prog_11_method_50_code (3 : Nat) (Option.some Jvm.ClassFile.FieldType.int)) ∈ lw_good := g_tw 1273 (by decide +kernel) (by decide +kernel)
theorem tw1274 : (Jvm.Cond.methodLink "OfficeLadderLaw" (120 : Nat) ({ cls := "OfficeLadderModel", name := "vote", desc := "(II)I" } : Jvm.MethodName)) ∈ lw_good := g_tw 1274 (by decide +kernel) (by decide +kernel)
theorem tw1275 : (Jvm.Cond.instanceMethod ({ cls := "OfficeLadderModel", name := "vote", desc := "(II)I" } : Jvm.MethodName)) ∈ lw_good := g_tw 1275 (by decide +kernel) (by decide +kernel)
theorem tw1276 : (Jvm.Cond.selects "OfficeLadderModel" ({ cls := "OfficeLadderModel", name := "vote", desc := "(II)I" } : Jvm.MethodName) ({ cls := "OfficeLadderModel", name := "vote", desc := "(II)I" } : Jvm.MethodName)) ∈ lw_good := g_tw 1276 (by decide +kernel) (by decide +kernel)
theorem tw1277 : (Jvm.Cond.code ({ cls := "OfficeLadderModel", name := "vote", desc := "(II)I" } : Jvm.MethodName) prog_11_method_52_code (4 : Nat) (Option.some Jvm.ClassFile.FieldType.int)) ∈ lw_good := g_tw 1277 (by decide +kernel) (by decide +kernel)
theorem tw1278 : (Jvm.Cond.methodLink "OfficeLadderModel" (234 : Nat) ({ cls := "OfficeLadderModel", name := "ones", desc := "(I)I" } : Jvm.MethodName)) ∈ lw_good := g_tw 1278 (by decide +kernel) (by decide +kernel)
theorem tw1280 : (Jvm.Cond.instanceMethod ({ cls := "OfficeLadderModel", name := "ones", desc := "(I)I" } : Jvm.MethodName)) ∈ lw_good := g_tw 1280 (by decide +kernel) (by decide +kernel)
theorem tw1281 : (Jvm.Cond.code ({ cls := "OfficeLadderModel", name := "ones", desc := "(I)I" } : Jvm.MethodName) prog_11_method_51_code (2 : Nat) (Option.some Jvm.ClassFile.FieldType.int)) ∈ lw_good := g_tw 1281 (by decide +kernel) (by decide +kernel)
theorem tw1282 : (Jvm.Cond.methodLink "OfficeLadderLaw" (127 : Nat) ({ cls := "OfficeLadderModel", name := "elected", desc := "(JII)I" } : Jvm.MethodName)) ∈ lw_good := g_tw 1282 (by decide +kernel) (by decide +kernel)
theorem tw1283 : (Jvm.Cond.instanceMethod ({ cls := "OfficeLadderModel", name := "elected", desc := "(JII)I" } : Jvm.MethodName)) ∈ lw_good := g_tw 1283 (by decide +kernel) (by decide +kernel)
theorem tw1284 : (Jvm.Cond.selects "OfficeLadderModel" ({ cls := "OfficeLadderModel", name := "elected", desc := "(JII)I" } : Jvm.MethodName) ({ cls := "OfficeLadderModel", name := "elected", desc := "(JII)I" } : Jvm.MethodName)) ∈ lw_good := g_tw 1284 (by decide +kernel) (by decide +kernel)
theorem tw1285 : (Jvm.Cond.code ({ cls := "OfficeLadderModel", name := "elected", desc := "(JII)I" } : Jvm.MethodName) prog_11_method_57_code (5 : Nat) (Option.some Jvm.ClassFile.FieldType.int)) ∈ lw_good := g_tw 1285 (by decide +kernel) (by decide +kernel)
theorem tw1286 : (Jvm.Cond.methodLink "OfficeLadderModel" (251 : Nat) ({ cls := "OfficeLadderModel", name := "elect", desc := "(J)V" } : Jvm.MethodName)) ∈ lw_good := g_tw 1286 (by decide +kernel) (by decide +kernel)
theorem tw1288 : (Jvm.Cond.instanceMethod ({ cls := "OfficeLadderModel", name := "elect", desc := "(J)V" } : Jvm.MethodName)) ∈ lw_good := g_tw 1288 (by decide +kernel) (by decide +kernel)
theorem tw1289 : (Jvm.Cond.code ({ cls := "OfficeLadderModel", name := "elect", desc := "(J)V" } : Jvm.MethodName) prog_11_method_56_code (5 : Nat) (Option.none : Option Jvm.ClassFile.FieldType)) ∈ lw_good := g_tw 1289 (by decide +kernel) (by decide +kernel)
theorem tw1290 : (Jvm.Cond.methodLink "OfficeLadderModel" (240 : Nat) ({ cls := "OfficeLadderModel", name := "draw", desc := "(IJ)V" } : Jvm.MethodName)) ∈ lw_good := g_tw 1290 (by decide +kernel) (by decide +kernel)
theorem tw1292 : (Jvm.Cond.instanceMethod ({ cls := "OfficeLadderModel", name := "draw", desc := "(IJ)V" } : Jvm.MethodName)) ∈ lw_good := g_tw 1292 (by decide +kernel) (by decide +kernel)
theorem tw1293 : (Jvm.Cond.code ({ cls := "OfficeLadderModel", name := "draw", desc := "(IJ)V" } : Jvm.MethodName) prog_11_method_48_code (10 : Nat) (Option.none : Option Jvm.ClassFile.FieldType)) ∈ lw_good := g_tw 1293 (by decide +kernel) (by decide +kernel)
theorem tw1294 : (Jvm.Cond.methodLink "OfficeLadderModel" (244 : Nat) ({ cls := "OfficeLadderModel", name := "beginVotes", desc := "()V" } : Jvm.MethodName)) ∈ lw_good := g_tw 1294 (by decide +kernel) (by decide +kernel)
theorem tw1296 : (Jvm.Cond.instanceMethod ({ cls := "OfficeLadderModel", name := "beginVotes", desc := "()V" } : Jvm.MethodName)) ∈ lw_good := g_tw 1296 (by decide +kernel) (by decide +kernel)
theorem tw1297 : (Jvm.Cond.code ({ cls := "OfficeLadderModel", name := "beginVotes", desc := "()V" } : Jvm.MethodName) prog_11_method_54_code (2 : Nat) (Option.none : Option Jvm.ClassFile.FieldType)) ∈ lw_good := g_tw 1297 (by decide +kernel) (by decide +kernel)
theorem tw1298 : (Jvm.Cond.methodLink "OfficeLadderModel" (247 : Nat) ({ cls := "OfficeLadderModel", name := "unitVotes", desc := "(I)V" } : Jvm.MethodName)) ∈ lw_good := g_tw 1298 (by decide +kernel) (by decide +kernel)
theorem tw1300 : (Jvm.Cond.instanceMethod ({ cls := "OfficeLadderModel", name := "unitVotes", desc := "(I)V" } : Jvm.MethodName)) ∈ lw_good := g_tw 1300 (by decide +kernel) (by decide +kernel)
theorem tw1301 : (Jvm.Cond.code ({ cls := "OfficeLadderModel", name := "unitVotes", desc := "(I)V" } : Jvm.MethodName) prog_11_method_55_code (3 : Nat) (Option.none : Option Jvm.ClassFile.FieldType)) ∈ lw_good := g_tw 1301 (by decide +kernel) (by decide +kernel)
theorem tw1302 : (Jvm.Cond.methodLink "OfficeLadderModel" (237 : Nat) ({ cls := "OfficeLadderModel", name := "choose", desc := "(II)V" } : Jvm.MethodName)) ∈ lw_good := g_tw 1302 (by decide +kernel) (by decide +kernel)
theorem tw1304 : (Jvm.Cond.instanceMethod ({ cls := "OfficeLadderModel", name := "choose", desc := "(II)V" } : Jvm.MethodName)) ∈ lw_good := g_tw 1304 (by decide +kernel) (by decide +kernel)
theorem tw1305 : (Jvm.Cond.code ({ cls := "OfficeLadderModel", name := "choose", desc := "(II)V" } : Jvm.MethodName) prog_11_method_53_code (3 : Nat) (Option.none : Option Jvm.ClassFile.FieldType)) ∈ lw_good := g_tw 1305 (by decide +kernel) (by decide +kernel)
theorem tw1306 : (Jvm.Cond.methodLink "OfficeLadderLaw" (132 : Nat) ({ cls := "OfficeLadderModel", name := "sure", desc := "(J)I" } : Jvm.MethodName)) ∈ lw_good := g_tw 1306 (by decide +kernel) (by decide +kernel)
theorem tw1307 : (Jvm.Cond.instanceMethod ({ cls := "OfficeLadderModel", name := "sure", desc := "(J)I" } : Jvm.MethodName)) ∈ lw_good := g_tw 1307 (by decide +kernel) (by decide +kernel)
theorem tw1308 : (Jvm.Cond.selects "OfficeLadderModel" ({ cls := "OfficeLadderModel", name := "sure", desc := "(J)I" } : Jvm.MethodName) ({ cls := "OfficeLadderModel", name := "sure", desc := "(J)I" } : Jvm.MethodName)) ∈ lw_good := g_tw 1308 (by decide +kernel) (by decide +kernel)
theorem tw1309 : (Jvm.Cond.code ({ cls := "OfficeLadderModel", name := "sure", desc := "(J)I" } : Jvm.MethodName) prog_11_method_59_code (4 : Nat) (Option.some Jvm.ClassFile.FieldType.int)) ∈ lw_good := g_tw 1309 (by decide +kernel) (by decide +kernel)
theorem tw1310 : (Jvm.Cond.methodLink "OfficeLadderModel" (255 : Nat) ({ cls := "OfficeLadderModel", name := "ahead", desc := "()I" } : Jvm.MethodName)) ∈ lw_good := g_tw 1310 (by decide +kernel) (by decide +kernel)
theorem tw1312 : (Jvm.Cond.instanceMethod ({ cls := "OfficeLadderModel", name := "ahead", desc := "()I" } : Jvm.MethodName)) ∈ lw_good := g_tw 1312 (by decide +kernel) (by decide +kernel)
theorem tw1313 : (Jvm.Cond.code ({ cls := "OfficeLadderModel", name := "ahead", desc := "()I" } : Jvm.MethodName) prog_11_method_58_code (6 : Nat) (Option.some Jvm.ClassFile.FieldType.int)) ∈ lw_good := g_tw 1313 (by decide +kernel) (by decide +kernel)
theorem tw1314 : (Jvm.Cond.methodLink "OfficeLadderLaw" (137 : Nat) ({ cls := "OfficeLadderModel", name := "drawn", desc := "(IJI)I" } : Jvm.MethodName)) ∈ lw_good := g_tw 1314 (by decide +kernel) (by decide +kernel)
theorem tw1315 : (Jvm.Cond.instanceMethod ({ cls := "OfficeLadderModel", name := "drawn", desc := "(IJI)I" } : Jvm.MethodName)) ∈ lw_good := g_tw 1315 (by decide +kernel) (by decide +kernel)
theorem tw1316 : (Jvm.Cond.selects "OfficeLadderModel" ({ cls := "OfficeLadderModel", name := "drawn", desc := "(IJI)I" } : Jvm.MethodName) ({ cls := "OfficeLadderModel", name := "drawn", desc := "(IJI)I" } : Jvm.MethodName)) ∈ lw_good := g_tw 1316 (by decide +kernel) (by decide +kernel)
theorem tw1317 : (Jvm.Cond.code ({ cls := "OfficeLadderModel", name := "drawn", desc := "(IJI)I" } : Jvm.MethodName) prog_11_method_60_code (5 : Nat) (Option.some Jvm.ClassFile.FieldType.int)) ∈ lw_good := g_tw 1317 (by decide +kernel) (by decide +kernel)
theorem tw1318 : (Jvm.Cond.methodLink "OfficeLadderLaw" (142 : Nat) ({ cls := "OfficeLadderModel", name := "province", desc := "(IIIIJ)I" } : Jvm.MethodName)) ∈ lw_good := g_tw 1318 (by decide +kernel) (by decide +kernel)
theorem tw1319 : (Jvm.Cond.instanceMethod ({ cls := "OfficeLadderModel", name := "province", desc := "(IIIIJ)I" } : Jvm.MethodName)) ∈ lw_good := g_tw 1319 (by decide +kernel) (by decide +kernel)
theorem tw1320 : (Jvm.Cond.selects "OfficeLadderModel" ({ cls := "OfficeLadderModel", name := "province", desc := "(IIIIJ)I" } : Jvm.MethodName) ({ cls := "OfficeLadderModel", name := "province", desc := "(IIIIJ)I" } : Jvm.MethodName)) ∈ lw_good := g_tw 1320 (by decide +kernel) (by decide +kernel)
theorem tw1321 : (Jvm.Cond.code ({ cls := "OfficeLadderModel", name := "province", desc := "(IIIIJ)I" } : Jvm.MethodName) prog_11_method_61_code (9 : Nat) (Option.some Jvm.ClassFile.FieldType.int)) ∈ lw_good := g_tw 1321 (by decide +kernel) (by decide +kernel)
theorem tw1322 : (Jvm.Cond.methodLink "OfficeLadderLaw" (146 : Nat) ({ cls := "OfficeLadderModel", name := "count", desc := "(I)I" } : Jvm.MethodName)) ∈ lw_good := g_tw 1322 (by decide +kernel) (by decide +kernel)
theorem tw1323 : (Jvm.Cond.instanceMethod ({ cls := "OfficeLadderModel", name := "count", desc := "(I)I" } : Jvm.MethodName)) ∈ lw_good := g_tw 1323 (by decide +kernel) (by decide +kernel)
theorem tw1324 : (Jvm.Cond.selects "OfficeLadderModel" ({ cls := "OfficeLadderModel", name := "count", desc := "(I)I" } : Jvm.MethodName) ({ cls := "OfficeLadderModel", name := "count", desc := "(I)I" } : Jvm.MethodName)) ∈ lw_good := g_tw 1324 (by decide +kernel) (by decide +kernel)
theorem tw1325 : (Jvm.Cond.code ({ cls := "OfficeLadderModel", name := "count", desc := "(I)I" } : Jvm.MethodName) prog_11_method_62_code (4 : Nat) (Option.some Jvm.ClassFile.FieldType.int)) ∈ lw_good := g_tw 1325 (by decide +kernel) (by decide +kernel)
theorem tw1326 : (Jvm.Cond.methodLink "OfficeLadderLaw" (150 : Nat) ({ cls := "OfficeLadderModel", name := "keep", desc := "(III)I" } : Jvm.MethodName)) ∈ lw_good := g_tw 1326 (by decide +kernel) (by decide +kernel)
theorem tw1327 : (Jvm.Cond.instanceMethod ({ cls := "OfficeLadderModel", name := "keep", desc := "(III)I" } : Jvm.MethodName)) ∈ lw_good := g_tw 1327 (by decide +kernel) (by decide +kernel)
theorem tw1328 : (Jvm.Cond.selects "OfficeLadderModel" ({ cls := "OfficeLadderModel", name := "keep", desc := "(III)I" } : Jvm.MethodName) ({ cls := "OfficeLadderModel", name := "keep", desc := "(III)I" } : Jvm.MethodName)) ∈ lw_good := g_tw 1328 (by decide +kernel) (by decide +kernel)
theorem tw1329 : (Jvm.Cond.code ({ cls := "OfficeLadderModel", name := "keep", desc := "(III)I" } : Jvm.MethodName) prog_11_method_65_code (6 : Nat) (Option.some Jvm.ClassFile.FieldType.int)) ∈ lw_good := g_tw 1329 (by decide +kernel) (by decide +kernel)
theorem tw1330 : (Jvm.Cond.methodLink "OfficeLadderModel" (258 : Nat) ({ cls := "OfficeLadderModel", name := "isShelf", desc := "(I)Z" } : Jvm.MethodName)) ∈ lw_good := g_tw 1330 (by decide +kernel) (by decide +kernel)
theorem tw1332 : (Jvm.Cond.instanceMethod ({ cls := "OfficeLadderModel", name := "isShelf", desc := "(I)Z" } : Jvm.MethodName)) ∈ lw_good := g_tw 1332 (by decide +kernel) (by decide +kernel)
theorem tw1333 : (Jvm.Cond.code ({ cls := "OfficeLadderModel", name := "isShelf", desc := "(I)Z" } : Jvm.MethodName) prog_11_method_63_code (2 : Nat) (Option.some Jvm.ClassFile.FieldType.boolean)) ∈ lw_good := g_tw 1333 (by decide +kernel) (by decide +kernel)
theorem tw1334 : (Jvm.Cond.methodLink "OfficeLadderModel" (261 : Nat) ({ cls := "OfficeLadderModel", name := "wipe", desc := "(I)V" } : Jvm.MethodName)) ∈ lw_good := g_tw 1334 (by decide +kernel) (by decide +kernel)
theorem tw1336 : (Jvm.Cond.instanceMethod ({ cls := "OfficeLadderModel", name := "wipe", desc := "(I)V" } : Jvm.MethodName)) ∈ lw_good := g_tw 1336 (by decide +kernel) (by decide +kernel)
theorem tw1337 : (Jvm.Cond.code ({ cls := "OfficeLadderModel", name := "wipe", desc := "(I)V" } : Jvm.MethodName) prog_11_method_64_code (3 : Nat) (Option.none : Option Jvm.ClassFile.FieldType)) ∈ lw_good := g_tw 1337 (by decide +kernel) (by decide +kernel)
theorem tw1338 : (Jvm.Cond.methodLink "OfficeLadderLaw" (154 : Nat) ({ cls := "OfficeLadderModel", name := "make", desc := "(III)I" } : Jvm.MethodName)) ∈ lw_good := g_tw 1338 (by decide +kernel) (by decide +kernel)
theorem tw1339 : (Jvm.Cond.instanceMethod ({ cls := "OfficeLadderModel", name := "make", desc := "(III)I" } : Jvm.MethodName)) ∈ lw_good := g_tw 1339 (by decide +kernel) (by decide +kernel)
theorem tw1340 : (Jvm.Cond.selects "OfficeLadderModel" ({ cls := "OfficeLadderModel", name := "make", desc := "(III)I" } : Jvm.MethodName) ({ cls := "OfficeLadderModel", name := "make", desc := "(III)I" } : Jvm.MethodName)) ∈ lw_good := g_tw 1340 (by decide +kernel) (by decide +kernel)
theorem tw1341 : (Jvm.Cond.code ({ cls := "OfficeLadderModel", name := "make", desc := "(III)I" } : Jvm.MethodName) prog_11_method_66_code (4 : Nat) (Option.some Jvm.ClassFile.FieldType.int)) ∈ lw_good := g_tw 1341 (by decide +kernel) (by decide +kernel)
theorem tw1342 : (Jvm.Cond.methodLink "OfficeLadderLaw" (160 : Nat) ({ cls := "OfficeLadderModel", name := "element", desc := "(II)J" } : Jvm.MethodName)) ∈ lw_good := g_tw 1342 (by decide +kernel) (by decide +kernel)
theorem tw1343 : (Jvm.Cond.instanceMethod ({ cls := "OfficeLadderModel", name := "element", desc := "(II)J" } : Jvm.MethodName)) ∈ lw_good := g_tw 1343 (by decide +kernel) (by decide +kernel)
theorem tw1344 : (Jvm.Cond.selects "OfficeLadderModel" ({ cls := "OfficeLadderModel", name := "element", desc := "(II)J" } : Jvm.MethodName) ({ cls := "OfficeLadderModel", name := "element", desc := "(II)J" } : Jvm.MethodName)) ∈ lw_good := g_tw 1344 (by decide +kernel) (by decide +kernel)
theorem tw1345 : (Jvm.Cond.code ({ cls := "OfficeLadderModel", name := "element", desc := "(II)J" } : Jvm.MethodName) prog_11_method_67_code (3 : Nat) (Option.some Jvm.ClassFile.FieldType.long)) ∈ lw_good := g_tw 1345 (by decide +kernel) (by decide +kernel)
theorem tw1346 : (Jvm.Cond.methodLink "OfficeLadderLaw" (168 : Nat) ({ cls := "OfficeLadderModel", name := "copy", desc := "(IIIII)I" } : Jvm.MethodName)) ∈ lw_good := g_tw 1346 (by decide +kernel) (by decide +kernel)
theorem tw1347 : (Jvm.Cond.instanceMethod ({ cls := "OfficeLadderModel", name := "copy", desc := "(IIIII)I" } : Jvm.MethodName)) ∈ lw_good := g_tw 1347 (by decide +kernel) (by decide +kernel)
theorem tw1348 : (Jvm.Cond.selects "OfficeLadderModel" ({ cls := "OfficeLadderModel", name := "copy", desc := "(IIIII)I" } : Jvm.MethodName) ({ cls := "OfficeLadderModel", name := "copy", desc := "(IIIII)I" } : Jvm.MethodName)) ∈ lw_good := g_tw 1348 (by decide +kernel) (by decide +kernel)
theorem tw1349 : (Jvm.Cond.code ({ cls := "OfficeLadderModel", name := "copy", desc := "(IIIII)I" } : Jvm.MethodName) prog_11_method_68_code (7 : Nat) (Option.some Jvm.ClassFile.FieldType.int)) ∈ lw_good := g_tw 1349 (by decide +kernel) (by decide +kernel)
theorem tw1350 : (Jvm.Cond.methodLink "OfficeLadderLaw" (172 : Nat) ({ cls := "OfficeLadderModel", name := "weight", desc := "(I)I" } : Jvm.MethodName)) ∈ lw_good := g_tw 1350 (by decide +kernel) (by decide +kernel)
theorem tw1351 : (Jvm.Cond.instanceMethod ({ cls := "OfficeLadderModel", name := "weight", desc := "(I)I" } : Jvm.MethodName)) ∈ lw_good := g_tw 1351 (by decide +kernel) (by decide +kernel)
theorem tw1352 : (Jvm.Cond.selects "OfficeLadderModel" ({ cls := "OfficeLadderModel", name := "weight", desc := "(I)I" } : Jvm.MethodName) ({ cls := "OfficeLadderModel", name := "weight", desc := "(I)I" } : Jvm.MethodName)) ∈ lw_good := g_tw 1352 (by decide +kernel) (by decide +kernel)
theorem tw1353 : (Jvm.Cond.code ({ cls := "OfficeLadderModel", name := "weight", desc := "(I)I" } : Jvm.MethodName) prog_11_method_70_code (5 : Nat) (Option.some Jvm.ClassFile.FieldType.int)) ∈ lw_good := g_tw 1353 (by decide +kernel) (by decide +kernel)
theorem tw1354 : (Jvm.Cond.methodLink "OfficeLadderModel" (264 : Nat) ({ cls := "OfficeLadderModel", name := "lacksLaw", desc := "(I)I" } : Jvm.MethodName)) ∈ lw_good := g_tw 1354 (by decide +kernel) (by decide +kernel)
theorem tw1356 : (Jvm.Cond.instanceMethod ({ cls := "OfficeLadderModel", name := "lacksLaw", desc := "(I)I" } : Jvm.MethodName)) ∈ lw_good := g_tw 1356 (by decide +kernel) (by decide +kernel)
theorem tw1357 : (Jvm.Cond.code ({ cls := "OfficeLadderModel", name := "lacksLaw", desc := "(I)I" } : Jvm.MethodName) prog_11_method_69_code (2 : Nat) (Option.some Jvm.ClassFile.FieldType.int)) ∈ lw_good := g_tw 1357 (by decide +kernel) (by decide +kernel)
theorem tw1358 : (Jvm.Cond.methodLink "OfficeLadderLaw" (176 : Nat) ({ cls := "OfficeLadderModel", name := "toss", desc := "(I)I" } : Jvm.MethodName)) ∈ lw_good := g_tw 1358 (by decide +kernel) (by decide +kernel)
theorem tw1359 : (Jvm.Cond.instanceMethod ({ cls := "OfficeLadderModel", name := "toss", desc := "(I)I" } : Jvm.MethodName)) ∈ lw_good := g_tw 1359 (by decide +kernel) (by decide +kernel)
theorem tw1360 : (Jvm.Cond.selects "OfficeLadderModel" ({ cls := "OfficeLadderModel", name := "toss", desc := "(I)I" } : Jvm.MethodName) ({ cls := "OfficeLadderModel", name := "toss", desc := "(I)I" } : Jvm.MethodName)) ∈ lw_good := g_tw 1360 (by decide +kernel) (by decide +kernel)
theorem tw1361 : (Jvm.Cond.code ({ cls := "OfficeLadderModel", name := "toss", desc := "(I)I" } : Jvm.MethodName) prog_11_method_71_code (3 : Nat) (Option.some Jvm.ClassFile.FieldType.int)) ∈ lw_good := g_tw 1361 (by decide +kernel) (by decide +kernel)
theorem tw1362 : (Jvm.Cond.constantLong "OfficeLadderLaw" (121 : Nat) (4294967295 : Int64)) ∈ lw_good := g_tw 1362 (by decide +kernel) (by decide +kernel)
theorem tw1363 : (Jvm.Cond.arrayClass Jvm.ClassFile.FieldType.long) ∈ lw_good := g_tw 1363 (by decide +kernel) (by decide +kernel)
set_option maxRecDepth 20000 in
theorem ginX0 : ∀ w ∈ u_ws RX0 TX0 11, w ∈ lw_good := g_in [234, 236, 238, 240, 242, 244, 246, 248, 250, 252, 254] (by decide +kernel) (by decide +kernel)
set_option maxRecDepth 20000 in
theorem ginX1 : ∀ w ∈ u_ws RX1 TX1 15, w ∈ lw_good := g_in [180, 182, 184, 186, 188, 190, 192, 194, 196, 198, 200, 202, 204, 206, 208] (by decide +kernel) (by decide +kernel)
set_option maxRecDepth 20000 in
theorem ginX2 : ∀ w ∈ u_ws RX2 TX2 6, w ∈ lw_good := g_in [462, 464, 466, 468, 470, 472] (by decide +kernel) (by decide +kernel)
set_option maxRecDepth 20000 in
theorem ginX3 : ∀ w ∈ u_ws RX3 TX3 3, w ∈ lw_good := g_in [319, 321, 323] (by decide +kernel) (by decide +kernel)
set_option maxRecDepth 20000 in
theorem ginX4 : ∀ w ∈ u_ws RX4 TX4 4, w ∈ lw_good := g_in [106, 108, 110, 112] (by decide +kernel) (by decide +kernel)
set_option maxRecDepth 20000 in
theorem ginX5 : ∀ w ∈ u_ws RX5 TX5 9, w ∈ lw_good := g_in [382, 384, 386, 388, 390, 392, 394, 396, 398] (by decide +kernel) (by decide +kernel)
set_option maxRecDepth 20000 in
theorem ginX6 : ∀ w ∈ u_ws RX6 TX6 9, w ∈ lw_good := g_in [136, 138, 140, 142, 144, 146, 148, 150, 152] (by decide +kernel) (by decide +kernel)
set_option maxRecDepth 20000 in
theorem ginX7 : ∀ w ∈ u_ws RX7 TX7 5, w ∈ lw_good := g_in [272, 274, 276, 278, 280] (by decide +kernel) (by decide +kernel)
set_option maxRecDepth 20000 in
theorem ginX8 : ∀ w ∈ u_ws RX8 TX8 5, w ∈ lw_good := g_in [289, 291, 293, 295, 297] (by decide +kernel) (by decide +kernel)
set_option maxRecDepth 20000 in
theorem ginX9 : ∀ w ∈ u_ws RX9 TX9 45, w ∈ lw_good := g_in [995, 997, 999, 1001, 1003, 1005, 1007, 1009, 1011, 1013, 1015, 1017, 1019, 1021, 1023, 1025, 1027, 1029, 1031, 1033, 1035, 1037, 1039, 1041, 1043, 1045, 1047, 1049, 1051, 1053, 1055, 1057, 1059, 1061, 1063, 1065, 1067, 1069, 1071, 1073, 1075, 1077, 1079, 1081, 1083] (by decide +kernel) (by decide +kernel)
end
section
theorem dX0_init_0 : decode cX0_init 0 = .ok (.aload_n 0, 1) := by decide +kernel
theorem dX0_init_1 : decode cX0_init 1 = .ok (.invokespecial 3, 3) := by decide +kernel
theorem dX0_init_4 : decode cX0_init 4 = .ok (.aload_n 0, 1) := by decide +kernel
theorem dX0_init_5 : decode cX0_init 5 = .ok (.iconst 2, 1) := by decide +kernel
theorem dX0_init_6 : decode cX0_init 6 = .ok (.putfield 9, 3) := by decide +kernel
theorem dX0_init_9 : decode cX0_init 9 = .ok (.aload_n 0, 1) := by decide +kernel
theorem dX0_init_10 : decode cX0_init 10 = .ok (.iconst 1, 1) := by decide +kernel
theorem dX0_init_11 : decode cX0_init 11 = .ok (.putfield 15, 3) := by decide +kernel
theorem dX0_init_14 : decode cX0_init 14 = .ok (.aload_n 0, 1) := by decide +kernel
theorem dX0_init_15 : decode cX0_init 15 = .ok (.iconst 0, 1) := by decide +kernel
theorem dX0_init_16 : decode cX0_init 16 = .ok (.putfield 18, 3) := by decide +kernel
theorem dX0_init_19 : decode cX0_init 19 = .ok (.aload_n 0, 1) := by decide +kernel
theorem dX0_init_20 : decode cX0_init 20 = .ok (.iconst 2, 1) := by decide +kernel
theorem dX0_init_21 : decode cX0_init 21 = .ok (.newarray .int, 2) := by decide +kernel
theorem dX0_init_23 : decode cX0_init 23 = .ok (.putfield 21, 3) := by decide +kernel
theorem dX0_init_26 : decode cX0_init 26 = .ok (.aload_n 0, 1) := by decide +kernel
theorem dX0_init_27 : decode cX0_init 27 = .ok (.iconst 2, 1) := by decide +kernel
theorem dX0_init_28 : decode cX0_init 28 = .ok (.newarray .int, 2) := by decide +kernel
theorem dX0_init_30 : decode cX0_init 30 = .ok (.putfield 25, 3) := by decide +kernel
theorem dX0_init_33 : decode cX0_init 33 = .ok (.aload_n 0, 1) := by decide +kernel
theorem dX0_init_34 : decode cX0_init 34 = .ok (.iconst 0, 1) := by decide +kernel
theorem dX0_init_35 : decode cX0_init 35 = .ok (.putfield 28, 3) := by decide +kernel
theorem dX0_init_38 : decode cX0_init 38 = .ok (.aload_n 0, 1) := by decide +kernel
theorem dX0_init_39 : decode cX0_init 39 = .ok (.bipush 35, 2) := by decide +kernel
theorem dX0_init_41 : decode cX0_init 41 = .ok (.newarray .int, 2) := by decide +kernel
theorem dX0_init_43 : decode cX0_init 43 = .ok (.putfield 31, 3) := by decide +kernel
theorem dX0_init_46 : decode cX0_init 46 = .ok (.aload_n 0, 1) := by decide +kernel
theorem dX0_init_47 : decode cX0_init 47 = .ok (.bipush 35, 2) := by decide +kernel
theorem dX0_init_49 : decode cX0_init 49 = .ok (.newarray .int, 2) := by decide +kernel
theorem dX0_init_51 : decode cX0_init 51 = .ok (.putfield 34, 3) := by decide +kernel
theorem dX0_init_54 : decode cX0_init 54 = .ok (.aload_n 0, 1) := by decide +kernel
theorem dX0_init_55 : decode cX0_init 55 = .ok (.iconst 4, 1) := by decide +kernel
theorem dX0_init_56 : decode cX0_init 56 = .ok (.newarray .int, 2) := by decide +kernel
theorem dX0_init_58 : decode cX0_init 58 = .ok (.putfield 37, 3) := by decide +kernel
theorem dX0_init_61 : decode cX0_init 61 = .ok (.aload_n 0, 1) := by decide +kernel
theorem dX0_init_62 : decode cX0_init 62 = .ok (.iconst 4, 1) := by decide +kernel
theorem dX0_init_63 : decode cX0_init 63 = .ok (.newarray .int, 2) := by decide +kernel
theorem dX0_init_65 : decode cX0_init 65 = .ok (.putfield 40, 3) := by decide +kernel
theorem dX0_init_68 : decode cX0_init 68 = .ok (.aload_n 0, 1) := by decide +kernel
theorem dX0_init_69 : decode cX0_init 69 = .ok (.iconst 4, 1) := by decide +kernel
theorem dX0_init_70 : decode cX0_init 70 = .ok (.newarray .int, 2) := by decide +kernel
theorem dX0_init_72 : decode cX0_init 72 = .ok (.putfield 43, 3) := by decide +kernel
theorem dX0_init_75 : decode cX0_init 75 = .ok (.return_, 1) := by decide +kernel
theorem dX0_open_0 : decode cX0_open 0 = .ok (.aload_n 0, 1) := by decide +kernel
theorem dX0_open_1 : decode cX0_open 1 = .ok (.iload_n 1, 1) := by decide +kernel
theorem dX0_open_2 : decode cX0_open 2 = .ok (.putfield 9, 3) := by decide +kernel
theorem dX0_open_5 : decode cX0_open 5 = .ok (.aload_n 0, 1) := by decide +kernel
theorem dX0_open_6 : decode cX0_open 6 = .ok (.iload_n 2, 1) := by decide +kernel
theorem dX0_open_7 : decode cX0_open 7 = .ok (.putfield 15, 3) := by decide +kernel
theorem dX0_open_10 : decode cX0_open 10 = .ok (.aload_n 0, 1) := by decide +kernel
theorem dX0_open_11 : decode cX0_open 11 = .ok (.iconst 0, 1) := by decide +kernel
theorem dX0_open_12 : decode cX0_open 12 = .ok (.putfield 18, 3) := by decide +kernel
theorem dX0_open_15 : decode cX0_open 15 = .ok (.aload_n 0, 1) := by decide +kernel
theorem dX0_open_16 : decode cX0_open 16 = .ok (.getfield 31, 3) := by decide +kernel
theorem dX0_open_19 : decode cX0_open 19 = .ok (.iconst 0, 1) := by decide +kernel
theorem dX0_open_20 : decode cX0_open 20 = .ok (.invokestatic 46, 3) := by decide +kernel
theorem dX0_open_23 : decode cX0_open 23 = .ok (.return_, 1) := by decide +kernel
theorem dX0_isBallot_0 : decode cX0_isBallot 0 = .ok (.iload_n 1, 1) := by decide +kernel
theorem dX0_isBallot_1 : decode cX0_isBallot 1 = .ok (.ifCond .lt 28, 3) := by decide +kernel
theorem dX0_isBallot_4 : decode cX0_isBallot 4 = .ok (.iload_n 1, 1) := by decide +kernel
theorem dX0_isBallot_5 : decode cX0_isBallot 5 = .ok (.iconst 1, 1) := by decide +kernel
theorem dX0_isBallot_6 : decode cX0_isBallot 6 = .ok (.aload_n 0, 1) := by decide +kernel
theorem dX0_isBallot_7 : decode cX0_isBallot 7 = .ok (.getfield 9, 3) := by decide +kernel
theorem dX0_isBallot_10 : decode cX0_isBallot 10 = .ok (.ishl, 1) := by decide +kernel
theorem dX0_isBallot_11 : decode cX0_isBallot 11 = .ok (.if_icmp .ge 18, 3) := by decide +kernel
theorem dX0_isBallot_14 : decode cX0_isBallot 14 = .ok (.iload_n 1, 1) := by decide +kernel
theorem dX0_isBallot_15 : decode cX0_isBallot 15 = .ok (.invokestatic 52, 3) := by decide +kernel
theorem dX0_isBallot_18 : decode cX0_isBallot 18 = .ok (.aload_n 0, 1) := by decide +kernel
theorem dX0_isBallot_19 : decode cX0_isBallot 19 = .ok (.getfield 15, 3) := by decide +kernel
theorem dX0_isBallot_22 : decode cX0_isBallot 22 = .ok (.if_icmp .ne 7, 3) := by decide +kernel
theorem dX0_isBallot_25 : decode cX0_isBallot 25 = .ok (.iconst 1, 1) := by decide +kernel
theorem dX0_isBallot_26 : decode cX0_isBallot 26 = .ok (.goto 4, 3) := by decide +kernel
theorem dX0_isBallot_29 : decode cX0_isBallot 29 = .ok (.iconst 0, 1) := by decide +kernel
theorem dX0_isBallot_30 : decode cX0_isBallot 30 = .ok (.ireturn, 1) := by decide +kernel
theorem dX0_take_0 : decode cX0_take 0 = .ok (.aload_n 0, 1) := by decide +kernel
theorem dX0_take_1 : decode cX0_take 1 = .ok (.getfield 31, 3) := by decide +kernel
theorem dX0_take_4 : decode cX0_take 4 = .ok (.iload_n 1, 1) := by decide +kernel
theorem dX0_take_5 : decode cX0_take 5 = .ok (.iaload, 1) := by decide +kernel
theorem dX0_take_6 : decode cX0_take 6 = .ok (.istore_n 3, 1) := by decide +kernel
theorem dX0_take_7 : decode cX0_take 7 = .ok (.iload_n 3, 1) := by decide +kernel
theorem dX0_take_8 : decode cX0_take 8 = .ok (.ifCond .ne 13, 3) := by decide +kernel
theorem dX0_take_11 : decode cX0_take 11 = .ok (.aload_n 0, 1) := by decide +kernel
theorem dX0_take_12 : decode cX0_take 12 = .ok (.dup, 1) := by decide +kernel
theorem dX0_take_13 : decode cX0_take 13 = .ok (.getfield 18, 3) := by decide +kernel
theorem dX0_take_16 : decode cX0_take 16 = .ok (.iconst 1, 1) := by decide +kernel
theorem dX0_take_17 : decode cX0_take 17 = .ok (.iadd, 1) := by decide +kernel
theorem dX0_take_18 : decode cX0_take 18 = .ok (.putfield 18, 3) := by decide +kernel
theorem dX0_take_21 : decode cX0_take 21 = .ok (.aload_n 0, 1) := by decide +kernel
theorem dX0_take_22 : decode cX0_take 22 = .ok (.getfield 31, 3) := by decide +kernel
theorem dX0_take_25 : decode cX0_take 25 = .ok (.iload_n 1, 1) := by decide +kernel
theorem dX0_take_26 : decode cX0_take 26 = .ok (.iload_n 2, 1) := by decide +kernel
theorem dX0_take_27 : decode cX0_take 27 = .ok (.iastore, 1) := by decide +kernel
theorem dX0_take_28 : decode cX0_take 28 = .ok (.iload_n 3, 1) := by decide +kernel
theorem dX0_take_29 : decode cX0_take 29 = .ok (.iload_n 2, 1) := by decide +kernel
theorem dX0_take_30 : decode cX0_take 30 = .ok (.if_icmp .eq 7, 3) := by decide +kernel
theorem dX0_take_33 : decode cX0_take 33 = .ok (.iconst 1, 1) := by decide +kernel
theorem dX0_take_34 : decode cX0_take 34 = .ok (.goto 4, 3) := by decide +kernel
theorem dX0_take_37 : decode cX0_take 37 = .ok (.iconst 0, 1) := by decide +kernel
theorem dX0_take_38 : decode cX0_take 38 = .ok (.ireturn, 1) := by decide +kernel
theorem dX0_run_0 : decode cX0_run 0 = .ok (.aload_n 0, 1) := by decide +kernel
theorem dX0_run_1 : decode cX0_run 1 = .ok (.lload_n 1, 1) := by decide +kernel
theorem dX0_run_2 : decode cX0_run 2 = .ok (.invokevirtual 58, 3) := by decide +kernel
theorem dX0_run_5 : decode cX0_run 5 = .ok (.iconst 1, 1) := by decide +kernel
theorem dX0_run_6 : decode cX0_run 6 = .ok (.istore_n 3, 1) := by decide +kernel
theorem dX0_run_7 : decode cX0_run 7 = .ok (.iload_n 3, 1) := by decide +kernel
theorem dX0_run_8 : decode cX0_run 8 = .ok (.bipush 35, 2) := by decide +kernel
theorem dX0_run_10 : decode cX0_run 10 = .ok (.if_icmp .gt 14, 3) := by decide +kernel
theorem dX0_run_13 : decode cX0_run 13 = .ok (.aload_n 0, 1) := by decide +kernel
theorem dX0_run_14 : decode cX0_run 14 = .ok (.iload_n 3, 1) := by decide +kernel
theorem dX0_run_15 : decode cX0_run 15 = .ok (.invokevirtual 62, 3) := by decide +kernel
theorem dX0_run_18 : decode cX0_run 18 = .ok (.iinc 3 1, 3) := by decide +kernel
theorem dX0_run_21 : decode cX0_run 21 = .ok (.goto (-14), 3) := by decide +kernel
theorem dX0_run_24 : decode cX0_run 24 = .ok (.aload_n 0, 1) := by decide +kernel
theorem dX0_run_25 : decode cX0_run 25 = .ok (.invokevirtual 66, 3) := by decide +kernel
theorem dX0_run_28 : decode cX0_run 28 = .ok (.return_, 1) := by decide +kernel
theorem dX0_sureAfter_0 : decode cX0_sureAfter 0 = .ok (.aload_n 0, 1) := by decide +kernel
theorem dX0_sureAfter_1 : decode cX0_sureAfter 1 = .ok (.lload_n 1, 1) := by decide +kernel
theorem dX0_sureAfter_2 : decode cX0_sureAfter 2 = .ok (.invokevirtual 58, 3) := by decide +kernel
theorem dX0_sureAfter_5 : decode cX0_sureAfter 5 = .ok (.iconst 0, 1) := by decide +kernel
theorem dX0_sureAfter_6 : decode cX0_sureAfter 6 = .ok (.istore_n 3, 1) := by decide +kernel
theorem dX0_sureAfter_7 : decode cX0_sureAfter 7 = .ok (.iload_n 3, 1) := by decide +kernel
theorem dX0_sureAfter_8 : decode cX0_sureAfter 8 = .ok (.bipush 35, 2) := by decide +kernel
theorem dX0_sureAfter_10 : decode cX0_sureAfter 10 = .ok (.if_icmp .ge 42, 3) := by decide +kernel
theorem dX0_sureAfter_13 : decode cX0_sureAfter 13 = .ok (.iload_n 3, 1) := by decide +kernel
theorem dX0_sureAfter_14 : decode cX0_sureAfter 14 = .ok (.ifCond .le 8, 3) := by decide +kernel
theorem dX0_sureAfter_17 : decode cX0_sureAfter 17 = .ok (.aload_n 0, 1) := by decide +kernel
theorem dX0_sureAfter_18 : decode cX0_sureAfter 18 = .ok (.iload_n 3, 1) := by decide +kernel
theorem dX0_sureAfter_19 : decode cX0_sureAfter 19 = .ok (.invokevirtual 62, 3) := by decide +kernel
theorem dX0_sureAfter_22 : decode cX0_sureAfter 22 = .ok (.aload_n 0, 1) := by decide +kernel
theorem dX0_sureAfter_23 : decode cX0_sureAfter 23 = .ok (.getfield 28, 3) := by decide +kernel
theorem dX0_sureAfter_26 : decode cX0_sureAfter 26 = .ok (.aload_n 0, 1) := by decide +kernel
theorem dX0_sureAfter_27 : decode cX0_sureAfter 27 = .ok (.getfield 15, 3) := by decide +kernel
theorem dX0_sureAfter_30 : decode cX0_sureAfter 30 = .ok (.if_icmp .ge 14, 3) := by decide +kernel
theorem dX0_sureAfter_33 : decode cX0_sureAfter 33 = .ok (.aload_n 0, 1) := by decide +kernel
theorem dX0_sureAfter_34 : decode cX0_sureAfter 34 = .ok (.invokevirtual 69, 3) := by decide +kernel
theorem dX0_sureAfter_37 : decode cX0_sureAfter 37 = .ok (.bipush 35, 2) := by decide +kernel
theorem dX0_sureAfter_39 : decode cX0_sureAfter 39 = .ok (.iload_n 3, 1) := by decide +kernel
theorem dX0_sureAfter_40 : decode cX0_sureAfter 40 = .ok (.isub, 1) := by decide +kernel
theorem dX0_sureAfter_41 : decode cX0_sureAfter 41 = .ok (.if_icmp .lt 5, 3) := by decide +kernel
theorem dX0_sureAfter_44 : decode cX0_sureAfter 44 = .ok (.iload_n 3, 1) := by decide +kernel
theorem dX0_sureAfter_45 : decode cX0_sureAfter 45 = .ok (.ireturn, 1) := by decide +kernel
theorem dX0_sureAfter_46 : decode cX0_sureAfter 46 = .ok (.iinc 3 1, 3) := by decide +kernel
theorem dX0_sureAfter_49 : decode cX0_sureAfter 49 = .ok (.goto (-42), 3) := by decide +kernel
theorem dX0_sureAfter_52 : decode cX0_sureAfter 52 = .ok (.bipush 35, 2) := by decide +kernel
theorem dX0_sureAfter_54 : decode cX0_sureAfter 54 = .ok (.ireturn, 1) := by decide +kernel
theorem dX0_begin_0 : decode cX0_begin 0 = .ok (.aload_n 0, 1) := by decide +kernel
theorem dX0_begin_1 : decode cX0_begin 1 = .ok (.getfield 34, 3) := by decide +kernel
theorem dX0_begin_4 : decode cX0_begin 4 = .ok (.bipush 35, 2) := by decide +kernel
theorem dX0_begin_6 : decode cX0_begin 6 = .ok (.lload_n 1, 1) := by decide +kernel
theorem dX0_begin_7 : decode cX0_begin 7 = .ok (.invokestatic 73, 3) := by decide +kernel
theorem dX0_begin_10 : decode cX0_begin 10 = .ok (.aload_n 0, 1) := by decide +kernel
theorem dX0_begin_11 : decode cX0_begin 11 = .ok (.iconst 0, 1) := by decide +kernel
theorem dX0_begin_12 : decode cX0_begin 12 = .ok (.putfield 28, 3) := by decide +kernel
theorem dX0_begin_15 : decode cX0_begin 15 = .ok (.aload_n 0, 1) := by decide +kernel
theorem dX0_begin_16 : decode cX0_begin 16 = .ok (.getfield 37, 3) := by decide +kernel
theorem dX0_begin_19 : decode cX0_begin 19 = .ok (.iconst 0, 1) := by decide +kernel
theorem dX0_begin_20 : decode cX0_begin 20 = .ok (.invokestatic 46, 3) := by decide +kernel
theorem dX0_begin_23 : decode cX0_begin 23 = .ok (.aload_n 0, 1) := by decide +kernel
theorem dX0_begin_24 : decode cX0_begin 24 = .ok (.getfield 40, 3) := by decide +kernel
theorem dX0_begin_27 : decode cX0_begin 27 = .ok (.iconst 0, 1) := by decide +kernel
theorem dX0_begin_28 : decode cX0_begin 28 = .ok (.invokestatic 46, 3) := by decide +kernel
theorem dX0_begin_31 : decode cX0_begin 31 = .ok (.return_, 1) := by decide +kernel
theorem dX0_countUnit_0 : decode cX0_countUnit 0 = .ok (.aload_n 0, 1) := by decide +kernel
theorem dX0_countUnit_1 : decode cX0_countUnit 1 = .ok (.getfield 31, 3) := by decide +kernel
theorem dX0_countUnit_4 : decode cX0_countUnit 4 = .ok (.aload_n 0, 1) := by decide +kernel
theorem dX0_countUnit_5 : decode cX0_countUnit 5 = .ok (.getfield 34, 3) := by decide +kernel
theorem dX0_countUnit_8 : decode cX0_countUnit 8 = .ok (.iload_n 1, 1) := by decide +kernel
theorem dX0_countUnit_9 : decode cX0_countUnit 9 = .ok (.iconst 1, 1) := by decide +kernel
theorem dX0_countUnit_10 : decode cX0_countUnit 10 = .ok (.isub, 1) := by decide +kernel
theorem dX0_countUnit_11 : decode cX0_countUnit 11 = .ok (.iaload, 1) := by decide +kernel
theorem dX0_countUnit_12 : decode cX0_countUnit 12 = .ok (.iaload, 1) := by decide +kernel
theorem dX0_countUnit_13 : decode cX0_countUnit 13 = .ok (.istore_n 2, 1) := by decide +kernel
theorem dX0_countUnit_14 : decode cX0_countUnit 14 = .ok (.iconst 0, 1) := by decide +kernel
theorem dX0_countUnit_15 : decode cX0_countUnit 15 = .ok (.istore_n 3, 1) := by decide +kernel
theorem dX0_countUnit_16 : decode cX0_countUnit 16 = .ok (.iload_n 3, 1) := by decide +kernel
theorem dX0_countUnit_17 : decode cX0_countUnit 17 = .ok (.aload_n 0, 1) := by decide +kernel
theorem dX0_countUnit_18 : decode cX0_countUnit 18 = .ok (.getfield 9, 3) := by decide +kernel
theorem dX0_countUnit_21 : decode cX0_countUnit 21 = .ok (.if_icmp .ge 62, 3) := by decide +kernel
theorem dX0_countUnit_24 : decode cX0_countUnit 24 = .ok (.iload_n 2, 1) := by decide +kernel
theorem dX0_countUnit_25 : decode cX0_countUnit 25 = .ok (.iload_n 3, 1) := by decide +kernel
theorem dX0_countUnit_26 : decode cX0_countUnit 26 = .ok (.ishr, 1) := by decide +kernel
theorem dX0_countUnit_27 : decode cX0_countUnit 27 = .ok (.iconst 1, 1) := by decide +kernel
theorem dX0_countUnit_28 : decode cX0_countUnit 28 = .ok (.iand, 1) := by decide +kernel
theorem dX0_countUnit_29 : decode cX0_countUnit 29 = .ok (.ifCond .eq 48, 3) := by decide +kernel
theorem dX0_countUnit_32 : decode cX0_countUnit 32 = .ok (.aload_n 0, 1) := by decide +kernel
theorem dX0_countUnit_33 : decode cX0_countUnit 33 = .ok (.getfield 37, 3) := by decide +kernel
theorem dX0_countUnit_36 : decode cX0_countUnit 36 = .ok (.iload_n 3, 1) := by decide +kernel
theorem dX0_countUnit_37 : decode cX0_countUnit 37 = .ok (.dup2, 1) := by decide +kernel
theorem dX0_countUnit_38 : decode cX0_countUnit 38 = .ok (.iaload, 1) := by decide +kernel
theorem dX0_countUnit_39 : decode cX0_countUnit 39 = .ok (.iconst 1, 1) := by decide +kernel
theorem dX0_countUnit_40 : decode cX0_countUnit 40 = .ok (.iadd, 1) := by decide +kernel
theorem dX0_countUnit_41 : decode cX0_countUnit 41 = .ok (.iastore, 1) := by decide +kernel
theorem dX0_countUnit_42 : decode cX0_countUnit 42 = .ok (.aload_n 0, 1) := by decide +kernel
theorem dX0_countUnit_43 : decode cX0_countUnit 43 = .ok (.getfield 40, 3) := by decide +kernel
theorem dX0_countUnit_46 : decode cX0_countUnit 46 = .ok (.iload_n 3, 1) := by decide +kernel
theorem dX0_countUnit_47 : decode cX0_countUnit 47 = .ok (.iload_n 1, 1) := by decide +kernel
theorem dX0_countUnit_48 : decode cX0_countUnit 48 = .ok (.iastore, 1) := by decide +kernel
theorem dX0_countUnit_49 : decode cX0_countUnit 49 = .ok (.aload_n 0, 1) := by decide +kernel
theorem dX0_countUnit_50 : decode cX0_countUnit 50 = .ok (.getfield 37, 3) := by decide +kernel
theorem dX0_countUnit_53 : decode cX0_countUnit 53 = .ok (.iload_n 3, 1) := by decide +kernel
theorem dX0_countUnit_54 : decode cX0_countUnit 54 = .ok (.iaload, 1) := by decide +kernel
theorem dX0_countUnit_55 : decode cX0_countUnit 55 = .ok (.bipush 18, 2) := by decide +kernel
theorem dX0_countUnit_57 : decode cX0_countUnit 57 = .ok (.if_icmp .ne 20, 3) := by decide +kernel
theorem dX0_countUnit_60 : decode cX0_countUnit 60 = .ok (.aload_n 0, 1) := by decide +kernel
theorem dX0_countUnit_61 : decode cX0_countUnit 61 = .ok (.getfield 28, 3) := by decide +kernel
theorem dX0_countUnit_64 : decode cX0_countUnit 64 = .ok (.aload_n 0, 1) := by decide +kernel
theorem dX0_countUnit_65 : decode cX0_countUnit 65 = .ok (.getfield 15, 3) := by decide +kernel
theorem dX0_countUnit_68 : decode cX0_countUnit 68 = .ok (.if_icmp .ge 9, 3) := by decide +kernel
theorem dX0_countUnit_71 : decode cX0_countUnit 71 = .ok (.aload_n 0, 1) := by decide +kernel
theorem dX0_countUnit_72 : decode cX0_countUnit 72 = .ok (.iload_n 3, 1) := by decide +kernel
theorem dX0_countUnit_73 : decode cX0_countUnit 73 = .ok (.iload_n 1, 1) := by decide +kernel
theorem dX0_countUnit_74 : decode cX0_countUnit 74 = .ok (.invokevirtual 77, 3) := by decide +kernel
theorem dX0_countUnit_77 : decode cX0_countUnit 77 = .ok (.iinc 3 1, 3) := by decide +kernel
theorem dX0_countUnit_80 : decode cX0_countUnit 80 = .ok (.goto (-64), 3) := by decide +kernel
theorem dX0_countUnit_83 : decode cX0_countUnit 83 = .ok (.return_, 1) := by decide +kernel
theorem dX0_elect_0 : decode cX0_elect 0 = .ok (.aload_n 0, 1) := by decide +kernel
theorem dX0_elect_1 : decode cX0_elect 1 = .ok (.getfield 21, 3) := by decide +kernel
theorem dX0_elect_4 : decode cX0_elect 4 = .ok (.aload_n 0, 1) := by decide +kernel
theorem dX0_elect_5 : decode cX0_elect 5 = .ok (.getfield 28, 3) := by decide +kernel
theorem dX0_elect_8 : decode cX0_elect 8 = .ok (.iload_n 1, 1) := by decide +kernel
theorem dX0_elect_9 : decode cX0_elect 9 = .ok (.iastore, 1) := by decide +kernel
theorem dX0_elect_10 : decode cX0_elect 10 = .ok (.aload_n 0, 1) := by decide +kernel
theorem dX0_elect_11 : decode cX0_elect 11 = .ok (.getfield 25, 3) := by decide +kernel
theorem dX0_elect_14 : decode cX0_elect 14 = .ok (.aload_n 0, 1) := by decide +kernel
theorem dX0_elect_15 : decode cX0_elect 15 = .ok (.getfield 28, 3) := by decide +kernel
theorem dX0_elect_18 : decode cX0_elect 18 = .ok (.iload_n 2, 1) := by decide +kernel
theorem dX0_elect_19 : decode cX0_elect 19 = .ok (.iastore, 1) := by decide +kernel
theorem dX0_elect_20 : decode cX0_elect 20 = .ok (.aload_n 0, 1) := by decide +kernel
theorem dX0_elect_21 : decode cX0_elect 21 = .ok (.dup, 1) := by decide +kernel
theorem dX0_elect_22 : decode cX0_elect 22 = .ok (.getfield 28, 3) := by decide +kernel
theorem dX0_elect_25 : decode cX0_elect 25 = .ok (.iconst 1, 1) := by decide +kernel
theorem dX0_elect_26 : decode cX0_elect 26 = .ok (.iadd, 1) := by decide +kernel
theorem dX0_elect_27 : decode cX0_elect 27 = .ok (.putfield 28, 3) := by decide +kernel
theorem dX0_elect_30 : decode cX0_elect 30 = .ok (.return_, 1) := by decide +kernel
theorem dX0_electRest_0 : decode cX0_electRest 0 = .ok (.aload_n 0, 1) := by decide +kernel
theorem dX0_electRest_1 : decode cX0_electRest 1 = .ok (.getfield 28, 3) := by decide +kernel
theorem dX0_electRest_4 : decode cX0_electRest 4 = .ok (.istore_n 1, 1) := by decide +kernel
theorem dX0_electRest_5 : decode cX0_electRest 5 = .ok (.iload_n 1, 1) := by decide +kernel
theorem dX0_electRest_6 : decode cX0_electRest 6 = .ok (.aload_n 0, 1) := by decide +kernel
theorem dX0_electRest_7 : decode cX0_electRest 7 = .ok (.getfield 15, 3) := by decide +kernel
theorem dX0_electRest_10 : decode cX0_electRest 10 = .ok (.if_icmp .ge 19, 3) := by decide +kernel
theorem dX0_electRest_13 : decode cX0_electRest 13 = .ok (.aload_n 0, 1) := by decide +kernel
theorem dX0_electRest_14 : decode cX0_electRest 14 = .ok (.aload_n 0, 1) := by decide +kernel
theorem dX0_electRest_15 : decode cX0_electRest 15 = .ok (.invokevirtual 81, 3) := by decide +kernel
theorem dX0_electRest_18 : decode cX0_electRest 18 = .ok (.bipush 35, 2) := by decide +kernel
theorem dX0_electRest_20 : decode cX0_electRest 20 = .ok (.invokevirtual 77, 3) := by decide +kernel
theorem dX0_electRest_23 : decode cX0_electRest 23 = .ok (.iinc 1 1, 3) := by decide +kernel
theorem dX0_electRest_26 : decode cX0_electRest 26 = .ok (.goto (-21), 3) := by decide +kernel
theorem dX0_electRest_29 : decode cX0_electRest 29 = .ok (.return_, 1) := by decide +kernel
theorem dX0_bestOfRest_0 : decode cX0_bestOfRest 0 = .ok (.iconst (-1), 1) := by decide +kernel
theorem dX0_bestOfRest_1 : decode cX0_bestOfRest 1 = .ok (.istore_n 1, 1) := by decide +kernel
theorem dX0_bestOfRest_2 : decode cX0_bestOfRest 2 = .ok (.iconst 0, 1) := by decide +kernel
theorem dX0_bestOfRest_3 : decode cX0_bestOfRest 3 = .ok (.istore_n 2, 1) := by decide +kernel
theorem dX0_bestOfRest_4 : decode cX0_bestOfRest 4 = .ok (.iload_n 2, 1) := by decide +kernel
theorem dX0_bestOfRest_5 : decode cX0_bestOfRest 5 = .ok (.aload_n 0, 1) := by decide +kernel
theorem dX0_bestOfRest_6 : decode cX0_bestOfRest 6 = .ok (.getfield 9, 3) := by decide +kernel
theorem dX0_bestOfRest_9 : decode cX0_bestOfRest 9 = .ok (.if_icmp .ge 33, 3) := by decide +kernel
theorem dX0_bestOfRest_12 : decode cX0_bestOfRest 12 = .ok (.aload_n 0, 1) := by decide +kernel
theorem dX0_bestOfRest_13 : decode cX0_bestOfRest 13 = .ok (.iload_n 2, 1) := by decide +kernel
theorem dX0_bestOfRest_14 : decode cX0_bestOfRest 14 = .ok (.invokevirtual 84, 3) := by decide +kernel
theorem dX0_bestOfRest_17 : decode cX0_bestOfRest 17 = .ok (.ifCond .ne 19, 3) := by decide +kernel
theorem dX0_bestOfRest_20 : decode cX0_bestOfRest 20 = .ok (.iload_n 1, 1) := by decide +kernel
theorem dX0_bestOfRest_21 : decode cX0_bestOfRest 21 = .ok (.iconst (-1), 1) := by decide +kernel
theorem dX0_bestOfRest_22 : decode cX0_bestOfRest 22 = .ok (.if_icmp .eq 12, 3) := by decide +kernel
theorem dX0_bestOfRest_25 : decode cX0_bestOfRest 25 = .ok (.aload_n 0, 1) := by decide +kernel
theorem dX0_bestOfRest_26 : decode cX0_bestOfRest 26 = .ok (.iload_n 2, 1) := by decide +kernel
theorem dX0_bestOfRest_27 : decode cX0_bestOfRest 27 = .ok (.iload_n 1, 1) := by decide +kernel
theorem dX0_bestOfRest_28 : decode cX0_bestOfRest 28 = .ok (.invokevirtual 88, 3) := by decide +kernel
theorem dX0_bestOfRest_31 : decode cX0_bestOfRest 31 = .ok (.ifCond .eq 5, 3) := by decide +kernel
theorem dX0_bestOfRest_34 : decode cX0_bestOfRest 34 = .ok (.iload_n 2, 1) := by decide +kernel
theorem dX0_bestOfRest_35 : decode cX0_bestOfRest 35 = .ok (.istore_n 1, 1) := by decide +kernel
theorem dX0_bestOfRest_36 : decode cX0_bestOfRest 36 = .ok (.iinc 2 1, 3) := by decide +kernel
theorem dX0_bestOfRest_39 : decode cX0_bestOfRest 39 = .ok (.goto (-35), 3) := by decide +kernel
theorem dX0_bestOfRest_42 : decode cX0_bestOfRest 42 = .ok (.iload_n 1, 1) := by decide +kernel
theorem dX0_bestOfRest_43 : decode cX0_bestOfRest 43 = .ok (.ireturn, 1) := by decide +kernel
theorem dX0_isElected_0 : decode cX0_isElected 0 = .ok (.iconst 0, 1) := by decide +kernel
theorem dX0_isElected_1 : decode cX0_isElected 1 = .ok (.istore_n 2, 1) := by decide +kernel
theorem dX0_isElected_2 : decode cX0_isElected 2 = .ok (.iload_n 2, 1) := by decide +kernel
theorem dX0_isElected_3 : decode cX0_isElected 3 = .ok (.aload_n 0, 1) := by decide +kernel
theorem dX0_isElected_4 : decode cX0_isElected 4 = .ok (.getfield 28, 3) := by decide +kernel
theorem dX0_isElected_7 : decode cX0_isElected 7 = .ok (.if_icmp .ge 21, 3) := by decide +kernel
theorem dX0_isElected_10 : decode cX0_isElected 10 = .ok (.aload_n 0, 1) := by decide +kernel
theorem dX0_isElected_11 : decode cX0_isElected 11 = .ok (.getfield 21, 3) := by decide +kernel
theorem dX0_isElected_14 : decode cX0_isElected 14 = .ok (.iload_n 2, 1) := by decide +kernel
theorem dX0_isElected_15 : decode cX0_isElected 15 = .ok (.iaload, 1) := by decide +kernel
theorem dX0_isElected_16 : decode cX0_isElected 16 = .ok (.iload_n 1, 1) := by decide +kernel
theorem dX0_isElected_17 : decode cX0_isElected 17 = .ok (.if_icmp .ne 5, 3) := by decide +kernel
theorem dX0_isElected_20 : decode cX0_isElected 20 = .ok (.iconst 1, 1) := by decide +kernel
theorem dX0_isElected_21 : decode cX0_isElected 21 = .ok (.ireturn, 1) := by decide +kernel
theorem dX0_isElected_22 : decode cX0_isElected 22 = .ok (.iinc 2 1, 3) := by decide +kernel
theorem dX0_isElected_25 : decode cX0_isElected 25 = .ok (.goto (-23), 3) := by decide +kernel
theorem dX0_isElected_28 : decode cX0_isElected 28 = .ok (.iconst 0, 1) := by decide +kernel
theorem dX0_isElected_29 : decode cX0_isElected 29 = .ok (.ireturn, 1) := by decide +kernel
theorem dX0_isAhead_0 : decode cX0_isAhead 0 = .ok (.aload_n 0, 1) := by decide +kernel
theorem dX0_isAhead_1 : decode cX0_isAhead 1 = .ok (.getfield 37, 3) := by decide +kernel
theorem dX0_isAhead_4 : decode cX0_isAhead 4 = .ok (.iload_n 1, 1) := by decide +kernel
theorem dX0_isAhead_5 : decode cX0_isAhead 5 = .ok (.iaload, 1) := by decide +kernel
theorem dX0_isAhead_6 : decode cX0_isAhead 6 = .ok (.aload_n 0, 1) := by decide +kernel
theorem dX0_isAhead_7 : decode cX0_isAhead 7 = .ok (.getfield 37, 3) := by decide +kernel
theorem dX0_isAhead_10 : decode cX0_isAhead 10 = .ok (.iload_n 2, 1) := by decide +kernel
theorem dX0_isAhead_11 : decode cX0_isAhead 11 = .ok (.iaload, 1) := by decide +kernel
theorem dX0_isAhead_12 : decode cX0_isAhead 12 = .ok (.if_icmp .eq 24, 3) := by decide +kernel
theorem dX0_isAhead_15 : decode cX0_isAhead 15 = .ok (.aload_n 0, 1) := by decide +kernel
theorem dX0_isAhead_16 : decode cX0_isAhead 16 = .ok (.getfield 37, 3) := by decide +kernel
theorem dX0_isAhead_19 : decode cX0_isAhead 19 = .ok (.iload_n 1, 1) := by decide +kernel
theorem dX0_isAhead_20 : decode cX0_isAhead 20 = .ok (.iaload, 1) := by decide +kernel
theorem dX0_isAhead_21 : decode cX0_isAhead 21 = .ok (.aload_n 0, 1) := by decide +kernel
theorem dX0_isAhead_22 : decode cX0_isAhead 22 = .ok (.getfield 37, 3) := by decide +kernel
theorem dX0_isAhead_25 : decode cX0_isAhead 25 = .ok (.iload_n 2, 1) := by decide +kernel
theorem dX0_isAhead_26 : decode cX0_isAhead 26 = .ok (.iaload, 1) := by decide +kernel
theorem dX0_isAhead_27 : decode cX0_isAhead 27 = .ok (.if_icmp .le 7, 3) := by decide +kernel
theorem dX0_isAhead_30 : decode cX0_isAhead 30 = .ok (.iconst 1, 1) := by decide +kernel
theorem dX0_isAhead_31 : decode cX0_isAhead 31 = .ok (.goto 4, 3) := by decide +kernel
theorem dX0_isAhead_34 : decode cX0_isAhead 34 = .ok (.iconst 0, 1) := by decide +kernel
theorem dX0_isAhead_35 : decode cX0_isAhead 35 = .ok (.ireturn, 1) := by decide +kernel
theorem dX0_isAhead_36 : decode cX0_isAhead 36 = .ok (.aload_n 0, 1) := by decide +kernel
theorem dX0_isAhead_37 : decode cX0_isAhead 37 = .ok (.getfield 40, 3) := by decide +kernel
theorem dX0_isAhead_40 : decode cX0_isAhead 40 = .ok (.iload_n 1, 1) := by decide +kernel
theorem dX0_isAhead_41 : decode cX0_isAhead 41 = .ok (.iaload, 1) := by decide +kernel
theorem dX0_isAhead_42 : decode cX0_isAhead 42 = .ok (.aload_n 0, 1) := by decide +kernel
theorem dX0_isAhead_43 : decode cX0_isAhead 43 = .ok (.getfield 40, 3) := by decide +kernel
theorem dX0_isAhead_46 : decode cX0_isAhead 46 = .ok (.iload_n 2, 1) := by decide +kernel
theorem dX0_isAhead_47 : decode cX0_isAhead 47 = .ok (.iaload, 1) := by decide +kernel
theorem dX0_isAhead_48 : decode cX0_isAhead 48 = .ok (.if_icmp .ge 7, 3) := by decide +kernel
theorem dX0_isAhead_51 : decode cX0_isAhead 51 = .ok (.iconst 1, 1) := by decide +kernel
theorem dX0_isAhead_52 : decode cX0_isAhead 52 = .ok (.goto 4, 3) := by decide +kernel
theorem dX0_isAhead_55 : decode cX0_isAhead 55 = .ok (.iconst 0, 1) := by decide +kernel
theorem dX0_isAhead_56 : decode cX0_isAhead 56 = .ok (.ireturn, 1) := by decide +kernel
theorem dX0_lead_0 : decode cX0_lead 0 = .ok (.iconst 0, 1) := by decide +kernel
theorem dX0_lead_1 : decode cX0_lead 1 = .ok (.istore_n 1, 1) := by decide +kernel
theorem dX0_lead_2 : decode cX0_lead 2 = .ok (.iload_n 1, 1) := by decide +kernel
theorem dX0_lead_3 : decode cX0_lead 3 = .ok (.aload_n 0, 1) := by decide +kernel
theorem dX0_lead_4 : decode cX0_lead 4 = .ok (.getfield 9, 3) := by decide +kernel
theorem dX0_lead_7 : decode cX0_lead 7 = .ok (.if_icmp .ge 70, 3) := by decide +kernel
theorem dX0_lead_10 : decode cX0_lead 10 = .ok (.iload_n 1, 1) := by decide +kernel
theorem dX0_lead_11 : decode cX0_lead 11 = .ok (.istore_n 2, 1) := by decide +kernel
theorem dX0_lead_12 : decode cX0_lead 12 = .ok (.iload_n 1, 1) := by decide +kernel
theorem dX0_lead_13 : decode cX0_lead 13 = .ok (.istore_n 3, 1) := by decide +kernel
theorem dX0_lead_14 : decode cX0_lead 14 = .ok (.iload_n 3, 1) := by decide +kernel
theorem dX0_lead_15 : decode cX0_lead 15 = .ok (.ifCond .le 44, 3) := by decide +kernel
theorem dX0_lead_18 : decode cX0_lead 18 = .ok (.aload_n 0, 1) := by decide +kernel
theorem dX0_lead_19 : decode cX0_lead 19 = .ok (.getfield 43, 3) := by decide +kernel
theorem dX0_lead_22 : decode cX0_lead 22 = .ok (.iload_n 3, 1) := by decide +kernel
theorem dX0_lead_23 : decode cX0_lead 23 = .ok (.iconst 1, 1) := by decide +kernel
theorem dX0_lead_24 : decode cX0_lead 24 = .ok (.isub, 1) := by decide +kernel
theorem dX0_lead_25 : decode cX0_lead 25 = .ok (.iaload, 1) := by decide +kernel
theorem dX0_lead_26 : decode cX0_lead 26 = .ok (.aload_n 0, 1) := by decide +kernel
theorem dX0_lead_27 : decode cX0_lead 27 = .ok (.getfield 37, 3) := by decide +kernel
theorem dX0_lead_30 : decode cX0_lead 30 = .ok (.iload_n 1, 1) := by decide +kernel
theorem dX0_lead_31 : decode cX0_lead 31 = .ok (.iaload, 1) := by decide +kernel
theorem dX0_lead_32 : decode cX0_lead 32 = .ok (.if_icmp .ge 27, 3) := by decide +kernel
theorem dX0_lead_35 : decode cX0_lead 35 = .ok (.aload_n 0, 1) := by decide +kernel
theorem dX0_lead_36 : decode cX0_lead 36 = .ok (.getfield 43, 3) := by decide +kernel
theorem dX0_lead_39 : decode cX0_lead 39 = .ok (.iload_n 3, 1) := by decide +kernel
theorem dX0_lead_40 : decode cX0_lead 40 = .ok (.aload_n 0, 1) := by decide +kernel
theorem dX0_lead_41 : decode cX0_lead 41 = .ok (.getfield 43, 3) := by decide +kernel
theorem dX0_lead_44 : decode cX0_lead 44 = .ok (.iload_n 3, 1) := by decide +kernel
theorem dX0_lead_45 : decode cX0_lead 45 = .ok (.iconst 1, 1) := by decide +kernel
theorem dX0_lead_46 : decode cX0_lead 46 = .ok (.isub, 1) := by decide +kernel
theorem dX0_lead_47 : decode cX0_lead 47 = .ok (.iaload, 1) := by decide +kernel
theorem dX0_lead_48 : decode cX0_lead 48 = .ok (.iastore, 1) := by decide +kernel
theorem dX0_lead_49 : decode cX0_lead 49 = .ok (.iload_n 3, 1) := by decide +kernel
theorem dX0_lead_50 : decode cX0_lead 50 = .ok (.iconst 1, 1) := by decide +kernel
theorem dX0_lead_51 : decode cX0_lead 51 = .ok (.isub, 1) := by decide +kernel
theorem dX0_lead_52 : decode cX0_lead 52 = .ok (.istore_n 2, 1) := by decide +kernel
theorem dX0_lead_53 : decode cX0_lead 53 = .ok (.iinc 3 (-1), 3) := by decide +kernel
theorem dX0_lead_56 : decode cX0_lead 56 = .ok (.goto (-42), 3) := by decide +kernel
theorem dX0_lead_59 : decode cX0_lead 59 = .ok (.aload_n 0, 1) := by decide +kernel
theorem dX0_lead_60 : decode cX0_lead 60 = .ok (.getfield 43, 3) := by decide +kernel
theorem dX0_lead_63 : decode cX0_lead 63 = .ok (.iload_n 2, 1) := by decide +kernel
theorem dX0_lead_64 : decode cX0_lead 64 = .ok (.aload_n 0, 1) := by decide +kernel
theorem dX0_lead_65 : decode cX0_lead 65 = .ok (.getfield 37, 3) := by decide +kernel
theorem dX0_lead_68 : decode cX0_lead 68 = .ok (.iload_n 1, 1) := by decide +kernel
theorem dX0_lead_69 : decode cX0_lead 69 = .ok (.iaload, 1) := by decide +kernel
theorem dX0_lead_70 : decode cX0_lead 70 = .ok (.iastore, 1) := by decide +kernel
theorem dX0_lead_71 : decode cX0_lead 71 = .ok (.iinc 1 1, 3) := by decide +kernel
theorem dX0_lead_74 : decode cX0_lead 74 = .ok (.goto (-72), 3) := by decide +kernel
theorem dX0_lead_77 : decode cX0_lead 77 = .ok (.aload_n 0, 1) := by decide +kernel
theorem dX0_lead_78 : decode cX0_lead 78 = .ok (.getfield 43, 3) := by decide +kernel
theorem dX0_lead_81 : decode cX0_lead 81 = .ok (.aload_n 0, 1) := by decide +kernel
theorem dX0_lead_82 : decode cX0_lead 82 = .ok (.getfield 15, 3) := by decide +kernel
theorem dX0_lead_85 : decode cX0_lead 85 = .ok (.iconst 1, 1) := by decide +kernel
theorem dX0_lead_86 : decode cX0_lead 86 = .ok (.isub, 1) := by decide +kernel
theorem dX0_lead_87 : decode cX0_lead 87 = .ok (.iaload, 1) := by decide +kernel
theorem dX0_lead_88 : decode cX0_lead 88 = .ok (.aload_n 0, 1) := by decide +kernel
theorem dX0_lead_89 : decode cX0_lead 89 = .ok (.getfield 43, 3) := by decide +kernel
theorem dX0_lead_92 : decode cX0_lead 92 = .ok (.aload_n 0, 1) := by decide +kernel
theorem dX0_lead_93 : decode cX0_lead 93 = .ok (.getfield 15, 3) := by decide +kernel
theorem dX0_lead_96 : decode cX0_lead 96 = .ok (.iaload, 1) := by decide +kernel
theorem dX0_lead_97 : decode cX0_lead 97 = .ok (.isub, 1) := by decide +kernel
theorem dX0_lead_98 : decode cX0_lead 98 = .ok (.ireturn, 1) := by decide +kernel
theorem dX1_init_0 : decode cX1_init 0 = .ok (.aload_n 0, 1) := by decide +kernel
theorem dX1_init_1 : decode cX1_init 1 = .ok (.invokespecial 3, 3) := by decide +kernel
theorem dX1_init_4 : decode cX1_init 4 = .ok (.aload_n 0, 1) := by decide +kernel
theorem dX1_init_5 : decode cX1_init 5 = .ok (.bipush 24, 2) := by decide +kernel
theorem dX1_init_7 : decode cX1_init 7 = .ok (.newarray .int, 2) := by decide +kernel
theorem dX1_init_9 : decode cX1_init 9 = .ok (.putfield 9, 3) := by decide +kernel
theorem dX1_init_12 : decode cX1_init 12 = .ok (.aload_n 0, 1) := by decide +kernel
theorem dX1_init_13 : decode cX1_init 13 = .ok (.bipush 24, 2) := by decide +kernel
theorem dX1_init_15 : decode cX1_init 15 = .ok (.newarray .int, 2) := by decide +kernel
theorem dX1_init_17 : decode cX1_init 17 = .ok (.putfield 15, 3) := by decide +kernel
theorem dX1_init_20 : decode cX1_init 20 = .ok (.aload_n 0, 1) := by decide +kernel
theorem dX1_init_21 : decode cX1_init 21 = .ok (.bipush 24, 2) := by decide +kernel
theorem dX1_init_23 : decode cX1_init 23 = .ok (.newarray .int, 2) := by decide +kernel
theorem dX1_init_25 : decode cX1_init 25 = .ok (.putfield 18, 3) := by decide +kernel
theorem dX1_init_28 : decode cX1_init 28 = .ok (.aload_n 0, 1) := by decide +kernel
theorem dX1_init_29 : decode cX1_init 29 = .ok (.bipush 8, 2) := by decide +kernel
theorem dX1_init_31 : decode cX1_init 31 = .ok (.newarray .int, 2) := by decide +kernel
theorem dX1_init_33 : decode cX1_init 33 = .ok (.putfield 21, 3) := by decide +kernel
theorem dX1_init_36 : decode cX1_init 36 = .ok (.aload_n 0, 1) := by decide +kernel
theorem dX1_init_37 : decode cX1_init 37 = .ok (.bipush 8, 2) := by decide +kernel
theorem dX1_init_39 : decode cX1_init 39 = .ok (.newarray .boolean, 2) := by decide +kernel
theorem dX1_init_41 : decode cX1_init 41 = .ok (.putfield 24, 3) := by decide +kernel
theorem dX1_init_44 : decode cX1_init 44 = .ok (.aload_n 0, 1) := by decide +kernel
theorem dX1_init_45 : decode cX1_init 45 = .ok (.bipush 8, 2) := by decide +kernel
theorem dX1_init_47 : decode cX1_init 47 = .ok (.newarray .int, 2) := by decide +kernel
theorem dX1_init_49 : decode cX1_init 49 = .ok (.putfield 28, 3) := by decide +kernel
theorem dX1_init_52 : decode cX1_init 52 = .ok (.return_, 1) := by decide +kernel
theorem dX1_search_0 : decode cX1_search 0 = .ok (.aload_n 0, 1) := by decide +kernel
theorem dX1_search_1 : decode cX1_search 1 = .ok (.iload_n 3, 1) := by decide +kernel
theorem dX1_search_2 : decode cX1_search 2 = .ok (.putfield 31, 3) := by decide +kernel
theorem dX1_search_5 : decode cX1_search 5 = .ok (.aload_n 0, 1) := by decide +kernel
theorem dX1_search_6 : decode cX1_search 6 = .ok (.iload 4, 2) := by decide +kernel
theorem dX1_search_8 : decode cX1_search 8 = .ok (.putfield 35, 3) := by decide +kernel
theorem dX1_search_11 : decode cX1_search 11 = .ok (.aload_n 0, 1) := by decide +kernel
theorem dX1_search_12 : decode cX1_search 12 = .ok (.iload 5, 2) := by decide +kernel
theorem dX1_search_14 : decode cX1_search 14 = .ok (.putfield 38, 3) := by decide +kernel
theorem dX1_search_17 : decode cX1_search 17 = .ok (.aload_n 0, 1) := by decide +kernel
theorem dX1_search_18 : decode cX1_search 18 = .ok (.iconst 0, 1) := by decide +kernel
theorem dX1_search_19 : decode cX1_search 19 = .ok (.putfield 42, 3) := by decide +kernel
theorem dX1_search_22 : decode cX1_search 22 = .ok (.aload_n 0, 1) := by decide +kernel
theorem dX1_search_23 : decode cX1_search 23 = .ok (.iconst 0, 1) := by decide +kernel
theorem dX1_search_24 : decode cX1_search 24 = .ok (.putfield 45, 3) := by decide +kernel
theorem dX1_search_27 : decode cX1_search 27 = .ok (.aload_n 0, 1) := by decide +kernel
theorem dX1_search_28 : decode cX1_search 28 = .ok (.iconst 0, 1) := by decide +kernel
theorem dX1_search_29 : decode cX1_search 29 = .ok (.putfield 48, 3) := by decide +kernel
theorem dX1_search_32 : decode cX1_search 32 = .ok (.aload_n 0, 1) := by decide +kernel
theorem dX1_search_33 : decode cX1_search 33 = .ok (.iconst 0, 1) := by decide +kernel
theorem dX1_search_34 : decode cX1_search 34 = .ok (.putfield 51, 3) := by decide +kernel
theorem dX1_search_37 : decode cX1_search 37 = .ok (.aload_n 0, 1) := by decide +kernel
theorem dX1_search_38 : decode cX1_search 38 = .ok (.iconst 0, 1) := by decide +kernel
theorem dX1_search_39 : decode cX1_search 39 = .ok (.putfield 54, 3) := by decide +kernel
theorem dX1_search_42 : decode cX1_search 42 = .ok (.aload_n 0, 1) := by decide +kernel
theorem dX1_search_43 : decode cX1_search 43 = .ok (.iconst 0, 1) := by decide +kernel
theorem dX1_search_44 : decode cX1_search 44 = .ok (.putfield 57, 3) := by decide +kernel
theorem dX1_search_47 : decode cX1_search 47 = .ok (.iconst 0, 1) := by decide +kernel
theorem dX1_search_48 : decode cX1_search 48 = .ok (.istore 6, 2) := by decide +kernel
theorem dX1_search_50 : decode cX1_search 50 = .ok (.iload 6, 2) := by decide +kernel
theorem dX1_search_52 : decode cX1_search 52 = .ok (.aload_n 1, 1) := by decide +kernel
theorem dX1_search_53 : decode cX1_search 53 = .ok (.getfield 60, 3) := by decide +kernel
theorem dX1_search_56 : decode cX1_search 56 = .ok (.if_icmp .ge 59, 3) := by decide +kernel
theorem dX1_search_59 : decode cX1_search 59 = .ok (.aload_n 0, 1) := by decide +kernel
theorem dX1_search_60 : decode cX1_search 60 = .ok (.getfield 28, 3) := by decide +kernel
theorem dX1_search_63 : decode cX1_search 63 = .ok (.iload 6, 2) := by decide +kernel
theorem dX1_search_65 : decode cX1_search 65 = .ok (.iconst 0, 1) := by decide +kernel
theorem dX1_search_66 : decode cX1_search 66 = .ok (.iastore, 1) := by decide +kernel
theorem dX1_search_67 : decode cX1_search 67 = .ok (.aload_n 0, 1) := by decide +kernel
theorem dX1_search_68 : decode cX1_search 68 = .ok (.aload_n 1, 1) := by decide +kernel
theorem dX1_search_69 : decode cX1_search 69 = .ok (.getfield 65, 3) := by decide +kernel
theorem dX1_search_72 : decode cX1_search 72 = .ok (.iload 6, 2) := by decide +kernel
theorem dX1_search_74 : decode cX1_search 74 = .ok (.aaload, 1) := by decide +kernel
theorem dX1_search_75 : decode cX1_search 75 = .ok (.iload 6, 2) := by decide +kernel
theorem dX1_search_77 : decode cX1_search 77 = .ok (.iload_n 2, 1) := by decide +kernel
theorem dX1_search_78 : decode cX1_search 78 = .ok (.invokevirtual 69, 3) := by decide +kernel
theorem dX1_search_81 : decode cX1_search 81 = .ok (.aload_n 0, 1) := by decide +kernel
theorem dX1_search_82 : decode cX1_search 82 = .ok (.getfield 24, 3) := by decide +kernel
theorem dX1_search_85 : decode cX1_search 85 = .ok (.iload 6, 2) := by decide +kernel
theorem dX1_search_87 : decode cX1_search 87 = .ok (.aload_n 1, 1) := by decide +kernel
theorem dX1_search_88 : decode cX1_search 88 = .ok (.iload 6, 2) := by decide +kernel
theorem dX1_search_90 : decode cX1_search 90 = .ok (.iload_n 2, 1) := by decide +kernel
theorem dX1_search_91 : decode cX1_search 91 = .ok (.invokevirtual 73, 3) := by decide +kernel
theorem dX1_search_94 : decode cX1_search 94 = .ok (.bastore, 1) := by decide +kernel
theorem dX1_search_95 : decode cX1_search 95 = .ok (.aload_n 0, 1) := by decide +kernel
theorem dX1_search_96 : decode cX1_search 96 = .ok (.getfield 21, 3) := by decide +kernel
theorem dX1_search_99 : decode cX1_search 99 = .ok (.iload 6, 2) := by decide +kernel
theorem dX1_search_101 : decode cX1_search 101 = .ok (.aload_n 1, 1) := by decide +kernel
theorem dX1_search_102 : decode cX1_search 102 = .ok (.iload 6, 2) := by decide +kernel
theorem dX1_search_104 : decode cX1_search 104 = .ok (.iload_n 2, 1) := by decide +kernel
theorem dX1_search_105 : decode cX1_search 105 = .ok (.invokestatic 77, 3) := by decide +kernel
theorem dX1_search_108 : decode cX1_search 108 = .ok (.iastore, 1) := by decide +kernel
theorem dX1_search_109 : decode cX1_search 109 = .ok (.iinc 6 1, 3) := by decide +kernel
theorem dX1_search_112 : decode cX1_search 112 = .ok (.goto (-62), 3) := by decide +kernel
theorem dX1_search_115 : decode cX1_search 115 = .ok (.aload_n 0, 1) := by decide +kernel
theorem dX1_search_116 : decode cX1_search 116 = .ok (.aload_n 1, 1) := by decide +kernel
theorem dX1_search_117 : decode cX1_search 117 = .ok (.iconst 0, 1) := by decide +kernel
theorem dX1_search_118 : decode cX1_search 118 = .ok (.invokevirtual 81, 3) := by decide +kernel
theorem dX1_search_121 : decode cX1_search 121 = .ok (.return_, 1) := by decide +kernel
theorem dX1_putIn_0 : decode cX1_putIn 0 = .ok (.iconst 0, 1) := by decide +kernel
theorem dX1_putIn_1 : decode cX1_putIn 1 = .ok (.istore_n 3, 1) := by decide +kernel
theorem dX1_putIn_2 : decode cX1_putIn 2 = .ok (.iload_n 3, 1) := by decide +kernel
theorem dX1_putIn_3 : decode cX1_putIn 3 = .ok (.aload_n 0, 1) := by decide +kernel
theorem dX1_putIn_4 : decode cX1_putIn 4 = .ok (.getfield 57, 3) := by decide +kernel
theorem dX1_putIn_7 : decode cX1_putIn 7 = .ok (.if_icmp .ge 32, 3) := by decide +kernel
theorem dX1_putIn_10 : decode cX1_putIn 10 = .ok (.aload_n 1, 1) := by decide +kernel
theorem dX1_putIn_11 : decode cX1_putIn 11 = .ok (.aload_n 0, 1) := by decide +kernel
theorem dX1_putIn_12 : decode cX1_putIn 12 = .ok (.getfield 18, 3) := by decide +kernel
theorem dX1_putIn_15 : decode cX1_putIn 15 = .ok (.iload_n 3, 1) := by decide +kernel
theorem dX1_putIn_16 : decode cX1_putIn 16 = .ok (.iaload, 1) := by decide +kernel
theorem dX1_putIn_17 : decode cX1_putIn 17 = .ok (.aload_n 0, 1) := by decide +kernel
theorem dX1_putIn_18 : decode cX1_putIn 18 = .ok (.getfield 9, 3) := by decide +kernel
theorem dX1_putIn_21 : decode cX1_putIn 21 = .ok (.iload_n 3, 1) := by decide +kernel
theorem dX1_putIn_22 : decode cX1_putIn 22 = .ok (.iaload, 1) := by decide +kernel
theorem dX1_putIn_23 : decode cX1_putIn 23 = .ok (.iload_n 2, 1) := by decide +kernel
theorem dX1_putIn_24 : decode cX1_putIn 24 = .ok (.aload_n 0, 1) := by decide +kernel
theorem dX1_putIn_25 : decode cX1_putIn 25 = .ok (.getfield 15, 3) := by decide +kernel
theorem dX1_putIn_28 : decode cX1_putIn 28 = .ok (.iload_n 3, 1) := by decide +kernel
theorem dX1_putIn_29 : decode cX1_putIn 29 = .ok (.iaload, 1) := by decide +kernel
theorem dX1_putIn_30 : decode cX1_putIn 30 = .ok (.invokevirtual 85, 3) := by decide +kernel
theorem dX1_putIn_33 : decode cX1_putIn 33 = .ok (.iinc 3 1, 3) := by decide +kernel
theorem dX1_putIn_36 : decode cX1_putIn 36 = .ok (.goto (-34), 3) := by decide +kernel
theorem dX1_putIn_39 : decode cX1_putIn 39 = .ok (.return_, 1) := by decide +kernel
theorem dX1_addSlots_0 : decode cX1_addSlots 0 = .ok (.iconst 0, 1) := by decide +kernel
theorem dX1_addSlots_1 : decode cX1_addSlots 1 = .ok (.istore 4, 2) := by decide +kernel
theorem dX1_addSlots_3 : decode cX1_addSlots 3 = .ok (.iload 4, 2) := by decide +kernel
theorem dX1_addSlots_5 : decode cX1_addSlots 5 = .ok (.aload_n 1, 1) := by decide +kernel
theorem dX1_addSlots_6 : decode cX1_addSlots 6 = .ok (.getfield 89, 3) := by decide +kernel
theorem dX1_addSlots_9 : decode cX1_addSlots 9 = .ok (.if_icmp .ge 51, 3) := by decide +kernel
theorem dX1_addSlots_12 : decode cX1_addSlots 12 = .ok (.aload_n 1, 1) := by decide +kernel
theorem dX1_addSlots_13 : decode cX1_addSlots 13 = .ok (.iload_n 3, 1) := by decide +kernel
theorem dX1_addSlots_14 : decode cX1_addSlots 14 = .ok (.iload 4, 2) := by decide +kernel
theorem dX1_addSlots_16 : decode cX1_addSlots 16 = .ok (.invokevirtual 94, 3) := by decide +kernel
theorem dX1_addSlots_19 : decode cX1_addSlots 19 = .ok (.iconst (-1), 1) := by decide +kernel
theorem dX1_addSlots_20 : decode cX1_addSlots 20 = .ok (.if_icmp .ne 34, 3) := by decide +kernel
theorem dX1_addSlots_23 : decode cX1_addSlots 23 = .ok (.aload_n 0, 1) := by decide +kernel
theorem dX1_addSlots_24 : decode cX1_addSlots 24 = .ok (.getfield 9, 3) := by decide +kernel
theorem dX1_addSlots_27 : decode cX1_addSlots 27 = .ok (.aload_n 0, 1) := by decide +kernel
theorem dX1_addSlots_28 : decode cX1_addSlots 28 = .ok (.getfield 57, 3) := by decide +kernel
theorem dX1_addSlots_31 : decode cX1_addSlots 31 = .ok (.iload_n 2, 1) := by decide +kernel
theorem dX1_addSlots_32 : decode cX1_addSlots 32 = .ok (.iastore, 1) := by decide +kernel
theorem dX1_addSlots_33 : decode cX1_addSlots 33 = .ok (.aload_n 0, 1) := by decide +kernel
theorem dX1_addSlots_34 : decode cX1_addSlots 34 = .ok (.getfield 15, 3) := by decide +kernel
theorem dX1_addSlots_37 : decode cX1_addSlots 37 = .ok (.aload_n 0, 1) := by decide +kernel
theorem dX1_addSlots_38 : decode cX1_addSlots 38 = .ok (.getfield 57, 3) := by decide +kernel
theorem dX1_addSlots_41 : decode cX1_addSlots 41 = .ok (.iload 4, 2) := by decide +kernel
theorem dX1_addSlots_43 : decode cX1_addSlots 43 = .ok (.iastore, 1) := by decide +kernel
theorem dX1_addSlots_44 : decode cX1_addSlots 44 = .ok (.aload_n 0, 1) := by decide +kernel
theorem dX1_addSlots_45 : decode cX1_addSlots 45 = .ok (.dup, 1) := by decide +kernel
theorem dX1_addSlots_46 : decode cX1_addSlots 46 = .ok (.getfield 57, 3) := by decide +kernel
theorem dX1_addSlots_49 : decode cX1_addSlots 49 = .ok (.iconst 1, 1) := by decide +kernel
theorem dX1_addSlots_50 : decode cX1_addSlots 50 = .ok (.iadd, 1) := by decide +kernel
theorem dX1_addSlots_51 : decode cX1_addSlots 51 = .ok (.putfield 57, 3) := by decide +kernel
theorem dX1_addSlots_54 : decode cX1_addSlots 54 = .ok (.iinc 4 1, 3) := by decide +kernel
theorem dX1_addSlots_57 : decode cX1_addSlots 57 = .ok (.goto (-54), 3) := by decide +kernel
theorem dX1_addSlots_60 : decode cX1_addSlots 60 = .ok (.return_, 1) := by decide +kernel
theorem dX1_ableIn_0 : decode cX1_ableIn 0 = .ok (.iconst 0, 1) := by decide +kernel
theorem dX1_ableIn_1 : decode cX1_ableIn 1 = .ok (.istore_n 3, 1) := by decide +kernel
theorem dX1_ableIn_2 : decode cX1_ableIn 2 = .ok (.aload_n 0, 1) := by decide +kernel
theorem dX1_ableIn_3 : decode cX1_ableIn 3 = .ok (.getfield 65, 3) := by decide +kernel
theorem dX1_ableIn_6 : decode cX1_ableIn 6 = .ok (.iload_n 1, 1) := by decide +kernel
theorem dX1_ableIn_7 : decode cX1_ableIn 7 = .ok (.aaload, 1) := by decide +kernel
theorem dX1_ableIn_8 : decode cX1_ableIn 8 = .ok (.iload_n 2, 1) := by decide +kernel
theorem dX1_ableIn_9 : decode cX1_ableIn 9 = .ok (.invokevirtual 98, 3) := by decide +kernel
theorem dX1_ableIn_12 : decode cX1_ableIn 12 = .ok (.iconst (-1), 1) := by decide +kernel
theorem dX1_ableIn_13 : decode cX1_ableIn 13 = .ok (.if_icmp .ne 5, 3) := by decide +kernel
theorem dX1_ableIn_16 : decode cX1_ableIn 16 = .ok (.iload_n 3, 1) := by decide +kernel
theorem dX1_ableIn_17 : decode cX1_ableIn 17 = .ok (.ireturn, 1) := by decide +kernel
theorem dX1_ableIn_18 : decode cX1_ableIn 18 = .ok (.iconst 0, 1) := by decide +kernel
theorem dX1_ableIn_19 : decode cX1_ableIn 19 = .ok (.istore 4, 2) := by decide +kernel
theorem dX1_ableIn_21 : decode cX1_ableIn 21 = .ok (.iload 4, 2) := by decide +kernel
theorem dX1_ableIn_23 : decode cX1_ableIn 23 = .ok (.aload_n 0, 1) := by decide +kernel
theorem dX1_ableIn_24 : decode cX1_ableIn 24 = .ok (.getfield 102, 3) := by decide +kernel
theorem dX1_ableIn_27 : decode cX1_ableIn 27 = .ok (.if_icmp .ge 30, 3) := by decide +kernel
theorem dX1_ableIn_30 : decode cX1_ableIn 30 = .ok (.aload_n 0, 1) := by decide +kernel
theorem dX1_ableIn_31 : decode cX1_ableIn 31 = .ok (.iload 4, 2) := by decide +kernel
theorem dX1_ableIn_33 : decode cX1_ableIn 33 = .ok (.iload_n 1, 1) := by decide +kernel
theorem dX1_ableIn_34 : decode cX1_ableIn 34 = .ok (.iload_n 2, 1) := by decide +kernel
theorem dX1_ableIn_35 : decode cX1_ableIn 35 = .ok (.iconst 1, 1) := by decide +kernel
theorem dX1_ableIn_36 : decode cX1_ableIn 36 = .ok (.invokevirtual 105, 3) := by decide +kernel
theorem dX1_ableIn_39 : decode cX1_ableIn 39 = .ok (.bipush (-2), 2) := by decide +kernel
theorem dX1_ableIn_41 : decode cX1_ableIn 41 = .ok (.if_icmp .ne 10, 3) := by decide +kernel
theorem dX1_ableIn_44 : decode cX1_ableIn 44 = .ok (.iload_n 3, 1) := by decide +kernel
theorem dX1_ableIn_45 : decode cX1_ableIn 45 = .ok (.iconst 1, 1) := by decide +kernel
theorem dX1_ableIn_46 : decode cX1_ableIn 46 = .ok (.iload 4, 2) := by decide +kernel
theorem dX1_ableIn_48 : decode cX1_ableIn 48 = .ok (.ishl, 1) := by decide +kernel
theorem dX1_ableIn_49 : decode cX1_ableIn 49 = .ok (.ior, 1) := by decide +kernel
theorem dX1_ableIn_50 : decode cX1_ableIn 50 = .ok (.istore_n 3, 1) := by decide +kernel
theorem dX1_ableIn_51 : decode cX1_ableIn 51 = .ok (.iinc 4 1, 3) := by decide +kernel
theorem dX1_ableIn_54 : decode cX1_ableIn 54 = .ok (.goto (-33), 3) := by decide +kernel
theorem dX1_ableIn_57 : decode cX1_ableIn 57 = .ok (.iload_n 3, 1) := by decide +kernel
theorem dX1_ableIn_58 : decode cX1_ableIn 58 = .ok (.ireturn, 1) := by decide +kernel
theorem dX1_place_0 : decode cX1_place 0 = .ok (.iload_n 2, 1) := by decide +kernel
theorem dX1_place_1 : decode cX1_place 1 = .ok (.aload_n 0, 1) := by decide +kernel
theorem dX1_place_2 : decode cX1_place 2 = .ok (.getfield 57, 3) := by decide +kernel
theorem dX1_place_5 : decode cX1_place 5 = .ok (.if_icmp .lt 8, 3) := by decide +kernel
theorem dX1_place_8 : decode cX1_place 8 = .ok (.aload_n 0, 1) := by decide +kernel
theorem dX1_place_9 : decode cX1_place 9 = .ok (.invokevirtual 109, 3) := by decide +kernel
theorem dX1_place_12 : decode cX1_place 12 = .ok (.return_, 1) := by decide +kernel
theorem dX1_place_13 : decode cX1_place 13 = .ok (.aload_n 0, 1) := by decide +kernel
theorem dX1_place_14 : decode cX1_place 14 = .ok (.getfield 9, 3) := by decide +kernel
theorem dX1_place_17 : decode cX1_place 17 = .ok (.iload_n 2, 1) := by decide +kernel
theorem dX1_place_18 : decode cX1_place 18 = .ok (.iaload, 1) := by decide +kernel
theorem dX1_place_19 : decode cX1_place 19 = .ok (.istore_n 3, 1) := by decide +kernel
theorem dX1_place_20 : decode cX1_place 20 = .ok (.iload_n 2, 1) := by decide +kernel
theorem dX1_place_21 : decode cX1_place 21 = .ok (.ifCond .le 19, 3) := by decide +kernel
theorem dX1_place_24 : decode cX1_place 24 = .ok (.aload_n 0, 1) := by decide +kernel
theorem dX1_place_25 : decode cX1_place 25 = .ok (.getfield 9, 3) := by decide +kernel
theorem dX1_place_28 : decode cX1_place 28 = .ok (.iload_n 2, 1) := by decide +kernel
theorem dX1_place_29 : decode cX1_place 29 = .ok (.iconst 1, 1) := by decide +kernel
theorem dX1_place_30 : decode cX1_place 30 = .ok (.isub, 1) := by decide +kernel
theorem dX1_place_31 : decode cX1_place 31 = .ok (.iaload, 1) := by decide +kernel
theorem dX1_place_32 : decode cX1_place 32 = .ok (.iload_n 3, 1) := by decide +kernel
theorem dX1_place_33 : decode cX1_place 33 = .ok (.if_icmp .ne 7, 3) := by decide +kernel
theorem dX1_place_36 : decode cX1_place 36 = .ok (.iconst 1, 1) := by decide +kernel
theorem dX1_place_37 : decode cX1_place 37 = .ok (.goto 4, 3) := by decide +kernel
theorem dX1_place_40 : decode cX1_place 40 = .ok (.iconst 0, 1) := by decide +kernel
theorem dX1_place_41 : decode cX1_place 41 = .ok (.istore 4, 2) := by decide +kernel
theorem dX1_place_43 : decode cX1_place 43 = .ok (.iload 4, 2) := by decide +kernel
theorem dX1_place_45 : decode cX1_place 45 = .ok (.ifCond .eq 16, 3) := by decide +kernel
theorem dX1_place_48 : decode cX1_place 48 = .ok (.aload_n 0, 1) := by decide +kernel
theorem dX1_place_49 : decode cX1_place 49 = .ok (.getfield 18, 3) := by decide +kernel
theorem dX1_place_52 : decode cX1_place 52 = .ok (.iload_n 2, 1) := by decide +kernel
theorem dX1_place_53 : decode cX1_place 53 = .ok (.iconst 1, 1) := by decide +kernel
theorem dX1_place_54 : decode cX1_place 54 = .ok (.isub, 1) := by decide +kernel
theorem dX1_place_55 : decode cX1_place 55 = .ok (.iaload, 1) := by decide +kernel
theorem dX1_place_56 : decode cX1_place 56 = .ok (.iconst 1, 1) := by decide +kernel
theorem dX1_place_57 : decode cX1_place 57 = .ok (.iadd, 1) := by decide +kernel
theorem dX1_place_58 : decode cX1_place 58 = .ok (.goto 4, 3) := by decide +kernel
theorem dX1_place_61 : decode cX1_place 61 = .ok (.iconst 0, 1) := by decide +kernel
theorem dX1_place_62 : decode cX1_place 62 = .ok (.istore 5, 2) := by decide +kernel
theorem dX1_place_64 : decode cX1_place 64 = .ok (.iload 5, 2) := by decide +kernel
theorem dX1_place_66 : decode cX1_place 66 = .ok (.istore 6, 2) := by decide +kernel
theorem dX1_place_68 : decode cX1_place 68 = .ok (.iload 6, 2) := by decide +kernel
theorem dX1_place_70 : decode cX1_place 70 = .ok (.aload_n 1, 1) := by decide +kernel
theorem dX1_place_71 : decode cX1_place 71 = .ok (.getfield 102, 3) := by decide +kernel
theorem dX1_place_74 : decode cX1_place 74 = .ok (.if_icmp .ge 61, 3) := by decide +kernel
theorem dX1_place_77 : decode cX1_place 77 = .ok (.aload_n 0, 1) := by decide +kernel
theorem dX1_place_78 : decode cX1_place 78 = .ok (.invokevirtual 112, 3) := by decide +kernel
theorem dX1_place_81 : decode cX1_place 81 = .ok (.ifCond .ne 54, 3) := by decide +kernel
theorem dX1_place_84 : decode cX1_place 84 = .ok (.aload_n 0, 1) := by decide +kernel
theorem dX1_place_85 : decode cX1_place 85 = .ok (.getfield 48, 3) := by decide +kernel
theorem dX1_place_88 : decode cX1_place 88 = .ok (.sipush 20000, 3) := by decide +kernel
theorem dX1_place_91 : decode cX1_place 91 = .ok (.if_icmp .lt 9, 3) := by decide +kernel
theorem dX1_place_94 : decode cX1_place 94 = .ok (.aload_n 0, 1) := by decide +kernel
theorem dX1_place_95 : decode cX1_place 95 = .ok (.iconst 1, 1) := by decide +kernel
theorem dX1_place_96 : decode cX1_place 96 = .ok (.putfield 51, 3) := by decide +kernel
theorem dX1_place_99 : decode cX1_place 99 = .ok (.return_, 1) := by decide +kernel
theorem dX1_place_100 : decode cX1_place 100 = .ok (.aload_n 0, 1) := by decide +kernel
theorem dX1_place_101 : decode cX1_place 101 = .ok (.dup, 1) := by decide +kernel
theorem dX1_place_102 : decode cX1_place 102 = .ok (.getfield 48, 3) := by decide +kernel
theorem dX1_place_105 : decode cX1_place 105 = .ok (.iconst 1, 1) := by decide +kernel
theorem dX1_place_106 : decode cX1_place 106 = .ok (.iadd, 1) := by decide +kernel
theorem dX1_place_107 : decode cX1_place 107 = .ok (.putfield 48, 3) := by decide +kernel
theorem dX1_place_110 : decode cX1_place 110 = .ok (.aload_n 0, 1) := by decide +kernel
theorem dX1_place_111 : decode cX1_place 111 = .ok (.aload_n 1, 1) := by decide +kernel
theorem dX1_place_112 : decode cX1_place 112 = .ok (.iload 6, 2) := by decide +kernel
theorem dX1_place_114 : decode cX1_place 114 = .ok (.iload_n 3, 1) := by decide +kernel
theorem dX1_place_115 : decode cX1_place 115 = .ok (.invokevirtual 116, 3) := by decide +kernel
theorem dX1_place_118 : decode cX1_place 118 = .ok (.ifCond .eq 11, 3) := by decide +kernel
theorem dX1_place_121 : decode cX1_place 121 = .ok (.aload_n 0, 1) := by decide +kernel
theorem dX1_place_122 : decode cX1_place 122 = .ok (.aload_n 1, 1) := by decide +kernel
theorem dX1_place_123 : decode cX1_place 123 = .ok (.iload_n 2, 1) := by decide +kernel
theorem dX1_place_124 : decode cX1_place 124 = .ok (.iload 6, 2) := by decide +kernel
theorem dX1_place_126 : decode cX1_place 126 = .ok (.invokevirtual 120, 3) := by decide +kernel
theorem dX1_place_129 : decode cX1_place 129 = .ok (.iinc 6 1, 3) := by decide +kernel
theorem dX1_place_132 : decode cX1_place 132 = .ok (.goto (-64), 3) := by decide +kernel
theorem dX1_place_135 : decode cX1_place 135 = .ok (.return_, 1) := by decide +kernel
theorem dX1_takeAndGoOn_0 : decode cX1_takeAndGoOn 0 = .ok (.aload_n 0, 1) := by decide +kernel
theorem dX1_takeAndGoOn_1 : decode cX1_takeAndGoOn 1 = .ok (.getfield 9, 3) := by decide +kernel
theorem dX1_takeAndGoOn_4 : decode cX1_takeAndGoOn 4 = .ok (.iload_n 2, 1) := by decide +kernel
theorem dX1_takeAndGoOn_5 : decode cX1_takeAndGoOn 5 = .ok (.iaload, 1) := by decide +kernel
theorem dX1_takeAndGoOn_6 : decode cX1_takeAndGoOn 6 = .ok (.istore 4, 2) := by decide +kernel
theorem dX1_takeAndGoOn_8 : decode cX1_takeAndGoOn 8 = .ok (.iconst 1, 1) := by decide +kernel
theorem dX1_takeAndGoOn_9 : decode cX1_takeAndGoOn 9 = .ok (.iload_n 3, 1) := by decide +kernel
theorem dX1_takeAndGoOn_10 : decode cX1_takeAndGoOn 10 = .ok (.ishl, 1) := by decide +kernel
theorem dX1_takeAndGoOn_11 : decode cX1_takeAndGoOn 11 = .ok (.istore 5, 2) := by decide +kernel
theorem dX1_takeAndGoOn_13 : decode cX1_takeAndGoOn 13 = .ok (.aload_n 0, 1) := by decide +kernel
theorem dX1_takeAndGoOn_14 : decode cX1_takeAndGoOn 14 = .ok (.getfield 18, 3) := by decide +kernel
theorem dX1_takeAndGoOn_17 : decode cX1_takeAndGoOn 17 = .ok (.iload_n 2, 1) := by decide +kernel
theorem dX1_takeAndGoOn_18 : decode cX1_takeAndGoOn 18 = .ok (.iload_n 3, 1) := by decide +kernel
theorem dX1_takeAndGoOn_19 : decode cX1_takeAndGoOn 19 = .ok (.iastore, 1) := by decide +kernel
theorem dX1_takeAndGoOn_20 : decode cX1_takeAndGoOn 20 = .ok (.aload_n 0, 1) := by decide +kernel
theorem dX1_takeAndGoOn_21 : decode cX1_takeAndGoOn 21 = .ok (.dup, 1) := by decide +kernel
theorem dX1_takeAndGoOn_22 : decode cX1_takeAndGoOn 22 = .ok (.getfield 54, 3) := by decide +kernel
theorem dX1_takeAndGoOn_25 : decode cX1_takeAndGoOn 25 = .ok (.iload 5, 2) := by decide +kernel
theorem dX1_takeAndGoOn_27 : decode cX1_takeAndGoOn 27 = .ok (.ior, 1) := by decide +kernel
theorem dX1_takeAndGoOn_28 : decode cX1_takeAndGoOn 28 = .ok (.putfield 54, 3) := by decide +kernel
theorem dX1_takeAndGoOn_31 : decode cX1_takeAndGoOn 31 = .ok (.aload_n 0, 1) := by decide +kernel
theorem dX1_takeAndGoOn_32 : decode cX1_takeAndGoOn 32 = .ok (.getfield 28, 3) := by decide +kernel
theorem dX1_takeAndGoOn_35 : decode cX1_takeAndGoOn 35 = .ok (.iload 4, 2) := by decide +kernel
theorem dX1_takeAndGoOn_37 : decode cX1_takeAndGoOn 37 = .ok (.dup2, 1) := by decide +kernel
theorem dX1_takeAndGoOn_38 : decode cX1_takeAndGoOn 38 = .ok (.iaload, 1) := by decide +kernel
theorem dX1_takeAndGoOn_39 : decode cX1_takeAndGoOn 39 = .ok (.iload 5, 2) := by decide +kernel
theorem dX1_takeAndGoOn_41 : decode cX1_takeAndGoOn 41 = .ok (.ior, 1) := by decide +kernel
theorem dX1_takeAndGoOn_42 : decode cX1_takeAndGoOn 42 = .ok (.iastore, 1) := by decide +kernel
theorem dX1_takeAndGoOn_43 : decode cX1_takeAndGoOn 43 = .ok (.aload_n 0, 1) := by decide +kernel
theorem dX1_takeAndGoOn_44 : decode cX1_takeAndGoOn 44 = .ok (.aload_n 1, 1) := by decide +kernel
theorem dX1_takeAndGoOn_45 : decode cX1_takeAndGoOn 45 = .ok (.iload_n 2, 1) := by decide +kernel
theorem dX1_takeAndGoOn_46 : decode cX1_takeAndGoOn 46 = .ok (.iconst 1, 1) := by decide +kernel
theorem dX1_takeAndGoOn_47 : decode cX1_takeAndGoOn 47 = .ok (.iadd, 1) := by decide +kernel
theorem dX1_takeAndGoOn_48 : decode cX1_takeAndGoOn 48 = .ok (.invokevirtual 81, 3) := by decide +kernel
theorem dX1_takeAndGoOn_51 : decode cX1_takeAndGoOn 51 = .ok (.aload_n 0, 1) := by decide +kernel
theorem dX1_takeAndGoOn_52 : decode cX1_takeAndGoOn 52 = .ok (.dup, 1) := by decide +kernel
theorem dX1_takeAndGoOn_53 : decode cX1_takeAndGoOn 53 = .ok (.getfield 54, 3) := by decide +kernel
theorem dX1_takeAndGoOn_56 : decode cX1_takeAndGoOn 56 = .ok (.iload 5, 2) := by decide +kernel
theorem dX1_takeAndGoOn_58 : decode cX1_takeAndGoOn 58 = .ok (.iconst (-1), 1) := by decide +kernel
theorem dX1_takeAndGoOn_59 : decode cX1_takeAndGoOn 59 = .ok (.ixor, 1) := by decide +kernel
theorem dX1_takeAndGoOn_60 : decode cX1_takeAndGoOn 60 = .ok (.iand, 1) := by decide +kernel
theorem dX1_takeAndGoOn_61 : decode cX1_takeAndGoOn 61 = .ok (.putfield 54, 3) := by decide +kernel
theorem dX1_takeAndGoOn_64 : decode cX1_takeAndGoOn 64 = .ok (.aload_n 0, 1) := by decide +kernel
theorem dX1_takeAndGoOn_65 : decode cX1_takeAndGoOn 65 = .ok (.getfield 28, 3) := by decide +kernel
theorem dX1_takeAndGoOn_68 : decode cX1_takeAndGoOn 68 = .ok (.iload 4, 2) := by decide +kernel
theorem dX1_takeAndGoOn_70 : decode cX1_takeAndGoOn 70 = .ok (.dup2, 1) := by decide +kernel
theorem dX1_takeAndGoOn_71 : decode cX1_takeAndGoOn 71 = .ok (.iaload, 1) := by decide +kernel
theorem dX1_takeAndGoOn_72 : decode cX1_takeAndGoOn 72 = .ok (.iload 5, 2) := by decide +kernel
theorem dX1_takeAndGoOn_74 : decode cX1_takeAndGoOn 74 = .ok (.iconst (-1), 1) := by decide +kernel
theorem dX1_takeAndGoOn_75 : decode cX1_takeAndGoOn 75 = .ok (.ixor, 1) := by decide +kernel
theorem dX1_takeAndGoOn_76 : decode cX1_takeAndGoOn 76 = .ok (.iand, 1) := by decide +kernel
theorem dX1_takeAndGoOn_77 : decode cX1_takeAndGoOn 77 = .ok (.iastore, 1) := by decide +kernel
theorem dX1_takeAndGoOn_78 : decode cX1_takeAndGoOn 78 = .ok (.return_, 1) := by decide +kernel
theorem dX1_isOver_0 : decode cX1_isOver 0 = .ok (.aload_n 0, 1) := by decide +kernel
theorem dX1_isOver_1 : decode cX1_isOver 1 = .ok (.getfield 51, 3) := by decide +kernel
theorem dX1_isOver_4 : decode cX1_isOver 4 = .ok (.ifCond .ne 17, 3) := by decide +kernel
theorem dX1_isOver_7 : decode cX1_isOver 7 = .ok (.aload_n 0, 1) := by decide +kernel
theorem dX1_isOver_8 : decode cX1_isOver 8 = .ok (.getfield 38, 3) := by decide +kernel
theorem dX1_isOver_11 : decode cX1_isOver 11 = .ok (.ifCond .eq 14, 3) := by decide +kernel
theorem dX1_isOver_14 : decode cX1_isOver 14 = .ok (.aload_n 0, 1) := by decide +kernel
theorem dX1_isOver_15 : decode cX1_isOver 15 = .ok (.getfield 42, 3) := by decide +kernel
theorem dX1_isOver_18 : decode cX1_isOver 18 = .ok (.ifCond .le 7, 3) := by decide +kernel
theorem dX1_isOver_21 : decode cX1_isOver 21 = .ok (.iconst 1, 1) := by decide +kernel
theorem dX1_isOver_22 : decode cX1_isOver 22 = .ok (.goto 4, 3) := by decide +kernel
theorem dX1_isOver_25 : decode cX1_isOver 25 = .ok (.iconst 0, 1) := by decide +kernel
theorem dX1_isOver_26 : decode cX1_isOver 26 = .ok (.ireturn, 1) := by decide +kernel
theorem dX1_fits_0 : decode cX1_fits 0 = .ok (.aload_n 0, 1) := by decide +kernel
theorem dX1_fits_1 : decode cX1_fits 1 = .ok (.getfield 21, 3) := by decide +kernel
theorem dX1_fits_4 : decode cX1_fits 4 = .ok (.iload_n 3, 1) := by decide +kernel
theorem dX1_fits_5 : decode cX1_fits 5 = .ok (.iaload, 1) := by decide +kernel
theorem dX1_fits_6 : decode cX1_fits 6 = .ok (.aload_n 0, 1) := by decide +kernel
theorem dX1_fits_7 : decode cX1_fits 7 = .ok (.getfield 54, 3) := by decide +kernel
theorem dX1_fits_10 : decode cX1_fits 10 = .ok (.iconst (-1), 1) := by decide +kernel
theorem dX1_fits_11 : decode cX1_fits 11 = .ok (.ixor, 1) := by decide +kernel
theorem dX1_fits_12 : decode cX1_fits 12 = .ok (.iand, 1) := by decide +kernel
theorem dX1_fits_13 : decode cX1_fits 13 = .ok (.iconst 1, 1) := by decide +kernel
theorem dX1_fits_14 : decode cX1_fits 14 = .ok (.iload_n 2, 1) := by decide +kernel
theorem dX1_fits_15 : decode cX1_fits 15 = .ok (.ishl, 1) := by decide +kernel
theorem dX1_fits_16 : decode cX1_fits 16 = .ok (.iand, 1) := by decide +kernel
theorem dX1_fits_17 : decode cX1_fits 17 = .ok (.ifCond .ne 5, 3) := by decide +kernel
theorem dX1_fits_20 : decode cX1_fits 20 = .ok (.iconst 0, 1) := by decide +kernel
theorem dX1_fits_21 : decode cX1_fits 21 = .ok (.ireturn, 1) := by decide +kernel
theorem dX1_fits_22 : decode cX1_fits 22 = .ok (.aload_n 0, 1) := by decide +kernel
theorem dX1_fits_23 : decode cX1_fits 23 = .ok (.getfield 24, 3) := by decide +kernel
theorem dX1_fits_26 : decode cX1_fits 26 = .ok (.iload_n 3, 1) := by decide +kernel
theorem dX1_fits_27 : decode cX1_fits 27 = .ok (.baload, 1) := by decide +kernel
theorem dX1_fits_28 : decode cX1_fits 28 = .ok (.ifCond .eq 22, 3) := by decide +kernel
theorem dX1_fits_31 : decode cX1_fits 31 = .ok (.aload_n 1, 1) := by decide +kernel
theorem dX1_fits_32 : decode cX1_fits 32 = .ok (.getfield 124, 3) := by decide +kernel
theorem dX1_fits_35 : decode cX1_fits 35 = .ok (.iload_n 2, 1) := by decide +kernel
theorem dX1_fits_36 : decode cX1_fits 36 = .ok (.aaload, 1) := by decide +kernel
theorem dX1_fits_37 : decode cX1_fits 37 = .ok (.getfield 128, 3) := by decide +kernel
theorem dX1_fits_40 : decode cX1_fits 40 = .ok (.aload_n 0, 1) := by decide +kernel
theorem dX1_fits_41 : decode cX1_fits 41 = .ok (.getfield 28, 3) := by decide +kernel
theorem dX1_fits_44 : decode cX1_fits 44 = .ok (.iload_n 3, 1) := by decide +kernel
theorem dX1_fits_45 : decode cX1_fits 45 = .ok (.iaload, 1) := by decide +kernel
theorem dX1_fits_46 : decode cX1_fits 46 = .ok (.iand, 1) := by decide +kernel
theorem dX1_fits_47 : decode cX1_fits 47 = .ok (.ifCond .ne 7, 3) := by decide +kernel
theorem dX1_fits_50 : decode cX1_fits 50 = .ok (.iconst 1, 1) := by decide +kernel
theorem dX1_fits_51 : decode cX1_fits 51 = .ok (.goto 4, 3) := by decide +kernel
theorem dX1_fits_54 : decode cX1_fits 54 = .ok (.iconst 0, 1) := by decide +kernel
theorem dX1_fits_55 : decode cX1_fits 55 = .ok (.ireturn, 1) := by decide +kernel
theorem dX1_tellFound_0 : decode cX1_tellFound 0 = .ok (.aload_n 0, 1) := by decide +kernel
theorem dX1_tellFound_1 : decode cX1_tellFound 1 = .ok (.dup, 1) := by decide +kernel
theorem dX1_tellFound_2 : decode cX1_tellFound 2 = .ok (.getfield 42, 3) := by decide +kernel
theorem dX1_tellFound_5 : decode cX1_tellFound 5 = .ok (.iconst 1, 1) := by decide +kernel
theorem dX1_tellFound_6 : decode cX1_tellFound 6 = .ok (.iadd, 1) := by decide +kernel
theorem dX1_tellFound_7 : decode cX1_tellFound 7 = .ok (.putfield 42, 3) := by decide +kernel
theorem dX1_tellFound_10 : decode cX1_tellFound 10 = .ok (.aload_n 0, 1) := by decide +kernel
theorem dX1_tellFound_11 : decode cX1_tellFound 11 = .ok (.getfield 31, 3) := by decide +kernel
theorem dX1_tellFound_14 : decode cX1_tellFound 14 = .ok (.iconst (-1), 1) := by decide +kernel
theorem dX1_tellFound_15 : decode cX1_tellFound 15 = .ok (.if_icmp .eq 40, 3) := by decide +kernel
theorem dX1_tellFound_18 : decode cX1_tellFound 18 = .ok (.aload_n 0, 1) := by decide +kernel
theorem dX1_tellFound_19 : decode cX1_tellFound 19 = .ok (.getfield 35, 3) := by decide +kernel
theorem dX1_tellFound_22 : decode cX1_tellFound 22 = .ok (.iconst (-1), 1) := by decide +kernel
theorem dX1_tellFound_23 : decode cX1_tellFound 23 = .ok (.if_icmp .eq 32, 3) := by decide +kernel
theorem dX1_tellFound_26 : decode cX1_tellFound 26 = .ok (.aload_n 0, 1) := by decide +kernel
theorem dX1_tellFound_27 : decode cX1_tellFound 27 = .ok (.getfield 28, 3) := by decide +kernel
theorem dX1_tellFound_30 : decode cX1_tellFound 30 = .ok (.aload_n 0, 1) := by decide +kernel
theorem dX1_tellFound_31 : decode cX1_tellFound 31 = .ok (.getfield 35, 3) := by decide +kernel
theorem dX1_tellFound_34 : decode cX1_tellFound 34 = .ok (.iaload, 1) := by decide +kernel
theorem dX1_tellFound_35 : decode cX1_tellFound 35 = .ok (.aload_n 0, 1) := by decide +kernel
theorem dX1_tellFound_36 : decode cX1_tellFound 36 = .ok (.getfield 31, 3) := by decide +kernel
theorem dX1_tellFound_39 : decode cX1_tellFound 39 = .ok (.ishr, 1) := by decide +kernel
theorem dX1_tellFound_40 : decode cX1_tellFound 40 = .ok (.iconst 1, 1) := by decide +kernel
theorem dX1_tellFound_41 : decode cX1_tellFound 41 = .ok (.iand, 1) := by decide +kernel
theorem dX1_tellFound_42 : decode cX1_tellFound 42 = .ok (.ifCond .eq 13, 3) := by decide +kernel
theorem dX1_tellFound_45 : decode cX1_tellFound 45 = .ok (.aload_n 0, 1) := by decide +kernel
theorem dX1_tellFound_46 : decode cX1_tellFound 46 = .ok (.dup, 1) := by decide +kernel
theorem dX1_tellFound_47 : decode cX1_tellFound 47 = .ok (.getfield 45, 3) := by decide +kernel
theorem dX1_tellFound_50 : decode cX1_tellFound 50 = .ok (.iconst 1, 1) := by decide +kernel
theorem dX1_tellFound_51 : decode cX1_tellFound 51 = .ok (.iadd, 1) := by decide +kernel
theorem dX1_tellFound_52 : decode cX1_tellFound 52 = .ok (.putfield 45, 3) := by decide +kernel
theorem dX1_tellFound_55 : decode cX1_tellFound 55 = .ok (.return_, 1) := by decide +kernel
theorem dX2_init_0 : decode cX2_init 0 = .ok (.aload_n 0, 1) := by decide +kernel
theorem dX2_init_1 : decode cX2_init 1 = .ok (.invokespecial 3, 3) := by decide +kernel
theorem dX2_init_4 : decode cX2_init 4 = .ok (.aload_n 0, 1) := by decide +kernel
theorem dX2_init_5 : decode cX2_init 5 = .ok (.iload_n 1, 1) := by decide +kernel
theorem dX2_init_6 : decode cX2_init 6 = .ok (.putfield 9, 3) := by decide +kernel
theorem dX2_init_9 : decode cX2_init 9 = .ok (.aload_n 0, 1) := by decide +kernel
theorem dX2_init_10 : decode cX2_init 10 = .ok (.iload_n 2, 1) := by decide +kernel
theorem dX2_init_11 : decode cX2_init 11 = .ok (.putfield 15, 3) := by decide +kernel
theorem dX2_init_14 : decode cX2_init 14 = .ok (.aload_n 0, 1) := by decide +kernel
theorem dX2_init_15 : decode cX2_init 15 = .ok (.iload_n 3, 1) := by decide +kernel
theorem dX2_init_16 : decode cX2_init 16 = .ok (.putfield 18, 3) := by decide +kernel
theorem dX2_init_19 : decode cX2_init 19 = .ok (.aload_n 0, 1) := by decide +kernel
theorem dX2_init_20 : decode cX2_init 20 = .ok (.iload 4, 2) := by decide +kernel
theorem dX2_init_22 : decode cX2_init 22 = .ok (.putfield 21, 3) := by decide +kernel
theorem dX2_init_25 : decode cX2_init 25 = .ok (.aload_n 0, 1) := by decide +kernel
theorem dX2_init_26 : decode cX2_init 26 = .ok (.iload 5, 2) := by decide +kernel
theorem dX2_init_28 : decode cX2_init 28 = .ok (.putfield 24, 3) := by decide +kernel
theorem dX2_init_31 : decode cX2_init 31 = .ok (.aload_n 0, 1) := by decide +kernel
theorem dX2_init_32 : decode cX2_init 32 = .ok (.iload 6, 2) := by decide +kernel
theorem dX2_init_34 : decode cX2_init 34 = .ok (.putfield 27, 3) := by decide +kernel
theorem dX2_init_37 : decode cX2_init 37 = .ok (.return_, 1) := by decide +kernel
theorem dX2_binds_0 : decode cX2_binds 0 = .ok (.aload_n 0, 1) := by decide +kernel
theorem dX2_binds_1 : decode cX2_binds 1 = .ok (.getfield 18, 3) := by decide +kernel
theorem dX2_binds_4 : decode cX2_binds 4 = .ok (.iconst (-1), 1) := by decide +kernel
theorem dX2_binds_5 : decode cX2_binds 5 = .ok (.if_icmp .eq 11, 3) := by decide +kernel
theorem dX2_binds_8 : decode cX2_binds 8 = .ok (.aload_n 0, 1) := by decide +kernel
theorem dX2_binds_9 : decode cX2_binds 9 = .ok (.getfield 18, 3) := by decide +kernel
theorem dX2_binds_12 : decode cX2_binds 12 = .ok (.iload_n 1, 1) := by decide +kernel
theorem dX2_binds_13 : decode cX2_binds 13 = .ok (.if_icmp .ne 23, 3) := by decide +kernel
theorem dX2_binds_16 : decode cX2_binds 16 = .ok (.aload_n 0, 1) := by decide +kernel
theorem dX2_binds_17 : decode cX2_binds 17 = .ok (.getfield 24, 3) := by decide +kernel
theorem dX2_binds_20 : decode cX2_binds 20 = .ok (.iload_n 2, 1) := by decide +kernel
theorem dX2_binds_21 : decode cX2_binds 21 = .ok (.if_icmp .gt 15, 3) := by decide +kernel
theorem dX2_binds_24 : decode cX2_binds 24 = .ok (.iload_n 2, 1) := by decide +kernel
theorem dX2_binds_25 : decode cX2_binds 25 = .ok (.aload_n 0, 1) := by decide +kernel
theorem dX2_binds_26 : decode cX2_binds 26 = .ok (.getfield 27, 3) := by decide +kernel
theorem dX2_binds_29 : decode cX2_binds 29 = .ok (.if_icmp .ge 7, 3) := by decide +kernel
theorem dX2_binds_32 : decode cX2_binds 32 = .ok (.iconst 1, 1) := by decide +kernel
theorem dX2_binds_33 : decode cX2_binds 33 = .ok (.goto 4, 3) := by decide +kernel
theorem dX2_binds_36 : decode cX2_binds 36 = .ok (.iconst 0, 1) := by decide +kernel
theorem dX2_binds_37 : decode cX2_binds 37 = .ok (.ireturn, 1) := by decide +kernel
theorem dX2_bars_0 : decode cX2_bars 0 = .ok (.aload_n 0, 1) := by decide +kernel
theorem dX2_bars_1 : decode cX2_bars 1 = .ok (.getfield 15, 3) := by decide +kernel
theorem dX2_bars_4 : decode cX2_bars 4 = .ok (.tableswitch 146 0 4 #[36, 55, 75, 102, 129], 36) := by decide +kernel
theorem dX2_bars_40 : decode cX2_bars 40 = .ok (.iload_n 2, 1) := by decide +kernel
theorem dX2_bars_41 : decode cX2_bars 41 = .ok (.aload_n 1, 1) := by decide +kernel
theorem dX2_bars_42 : decode cX2_bars 42 = .ok (.getfield 30, 3) := by decide +kernel
theorem dX2_bars_45 : decode cX2_bars 45 = .ok (.isub, 1) := by decide +kernel
theorem dX2_bars_46 : decode cX2_bars 46 = .ok (.aload_n 0, 1) := by decide +kernel
theorem dX2_bars_47 : decode cX2_bars 47 = .ok (.getfield 21, 3) := by decide +kernel
theorem dX2_bars_50 : decode cX2_bars 50 = .ok (.if_icmp .ge 7, 3) := by decide +kernel
theorem dX2_bars_53 : decode cX2_bars 53 = .ok (.iconst 1, 1) := by decide +kernel
theorem dX2_bars_54 : decode cX2_bars 54 = .ok (.goto 4, 3) := by decide +kernel
theorem dX2_bars_57 : decode cX2_bars 57 = .ok (.iconst 0, 1) := by decide +kernel
theorem dX2_bars_58 : decode cX2_bars 58 = .ok (.ireturn, 1) := by decide +kernel
theorem dX2_bars_59 : decode cX2_bars 59 = .ok (.aload_n 3, 1) := by decide +kernel
theorem dX2_bars_60 : decode cX2_bars 60 = .ok (.getfield 35, 3) := by decide +kernel
theorem dX2_bars_63 : decode cX2_bars 63 = .ok (.aload_n 0, 1) := by decide +kernel
theorem dX2_bars_64 : decode cX2_bars 64 = .ok (.getfield 21, 3) := by decide +kernel
theorem dX2_bars_67 : decode cX2_bars 67 = .ok (.ishr, 1) := by decide +kernel
theorem dX2_bars_68 : decode cX2_bars 68 = .ok (.iconst 1, 1) := by decide +kernel
theorem dX2_bars_69 : decode cX2_bars 69 = .ok (.iand, 1) := by decide +kernel
theorem dX2_bars_70 : decode cX2_bars 70 = .ok (.ifCond .ne 7, 3) := by decide +kernel
theorem dX2_bars_73 : decode cX2_bars 73 = .ok (.iconst 1, 1) := by decide +kernel
theorem dX2_bars_74 : decode cX2_bars 74 = .ok (.goto 4, 3) := by decide +kernel
theorem dX2_bars_77 : decode cX2_bars 77 = .ok (.iconst 0, 1) := by decide +kernel
theorem dX2_bars_78 : decode cX2_bars 78 = .ok (.ireturn, 1) := by decide +kernel
theorem dX2_bars_79 : decode cX2_bars 79 = .ok (.aload_n 3, 1) := by decide +kernel
theorem dX2_bars_80 : decode cX2_bars 80 = .ok (.getfield 40, 3) := by decide +kernel
theorem dX2_bars_83 : decode cX2_bars 83 = .ok (.iconst (-1), 1) := by decide +kernel
theorem dX2_bars_84 : decode cX2_bars 84 = .ok (.if_icmp .eq 20, 3) := by decide +kernel
theorem dX2_bars_87 : decode cX2_bars 87 = .ok (.iload_n 2, 1) := by decide +kernel
theorem dX2_bars_88 : decode cX2_bars 88 = .ok (.aload_n 3, 1) := by decide +kernel
theorem dX2_bars_89 : decode cX2_bars 89 = .ok (.getfield 40, 3) := by decide +kernel
theorem dX2_bars_92 : decode cX2_bars 92 = .ok (.isub, 1) := by decide +kernel
theorem dX2_bars_93 : decode cX2_bars 93 = .ok (.aload_n 0, 1) := by decide +kernel
theorem dX2_bars_94 : decode cX2_bars 94 = .ok (.getfield 21, 3) := by decide +kernel
theorem dX2_bars_97 : decode cX2_bars 97 = .ok (.if_icmp .gt 7, 3) := by decide +kernel
theorem dX2_bars_100 : decode cX2_bars 100 = .ok (.iconst 1, 1) := by decide +kernel
theorem dX2_bars_101 : decode cX2_bars 101 = .ok (.goto 4, 3) := by decide +kernel
theorem dX2_bars_104 : decode cX2_bars 104 = .ok (.iconst 0, 1) := by decide +kernel
theorem dX2_bars_105 : decode cX2_bars 105 = .ok (.ireturn, 1) := by decide +kernel
theorem dX2_bars_106 : decode cX2_bars 106 = .ok (.aload_n 3, 1) := by decide +kernel
theorem dX2_bars_107 : decode cX2_bars 107 = .ok (.getfield 43, 3) := by decide +kernel
theorem dX2_bars_110 : decode cX2_bars 110 = .ok (.iconst (-1), 1) := by decide +kernel
theorem dX2_bars_111 : decode cX2_bars 111 = .ok (.if_icmp .eq 20, 3) := by decide +kernel
theorem dX2_bars_114 : decode cX2_bars 114 = .ok (.iload_n 2, 1) := by decide +kernel
theorem dX2_bars_115 : decode cX2_bars 115 = .ok (.aload_n 3, 1) := by decide +kernel
theorem dX2_bars_116 : decode cX2_bars 116 = .ok (.getfield 43, 3) := by decide +kernel
theorem dX2_bars_119 : decode cX2_bars 119 = .ok (.isub, 1) := by decide +kernel
theorem dX2_bars_120 : decode cX2_bars 120 = .ok (.aload_n 0, 1) := by decide +kernel
theorem dX2_bars_121 : decode cX2_bars 121 = .ok (.getfield 21, 3) := by decide +kernel
theorem dX2_bars_124 : decode cX2_bars 124 = .ok (.if_icmp .gt 7, 3) := by decide +kernel
theorem dX2_bars_127 : decode cX2_bars 127 = .ok (.iconst 1, 1) := by decide +kernel
theorem dX2_bars_128 : decode cX2_bars 128 = .ok (.goto 4, 3) := by decide +kernel
theorem dX2_bars_131 : decode cX2_bars 131 = .ok (.iconst 0, 1) := by decide +kernel
theorem dX2_bars_132 : decode cX2_bars 132 = .ok (.ireturn, 1) := by decide +kernel
theorem dX2_bars_133 : decode cX2_bars 133 = .ok (.aload_n 1, 1) := by decide +kernel
theorem dX2_bars_134 : decode cX2_bars 134 = .ok (.getfield 46, 3) := by decide +kernel
theorem dX2_bars_137 : decode cX2_bars 137 = .ok (.aload_n 0, 1) := by decide +kernel
theorem dX2_bars_138 : decode cX2_bars 138 = .ok (.getfield 21, 3) := by decide +kernel
theorem dX2_bars_141 : decode cX2_bars 141 = .ok (.if_icmp .ne 7, 3) := by decide +kernel
theorem dX2_bars_144 : decode cX2_bars 144 = .ok (.iconst 1, 1) := by decide +kernel
theorem dX2_bars_145 : decode cX2_bars 145 = .ok (.goto 4, 3) := by decide +kernel
theorem dX2_bars_148 : decode cX2_bars 148 = .ok (.iconst 0, 1) := by decide +kernel
theorem dX2_bars_149 : decode cX2_bars 149 = .ok (.ireturn, 1) := by decide +kernel
theorem dX2_bars_150 : decode cX2_bars 150 = .ok (.aload_n 3, 1) := by decide +kernel
theorem dX2_bars_151 : decode cX2_bars 151 = .ok (.getfield 49, 3) := by decide +kernel
theorem dX2_bars_154 : decode cX2_bars 154 = .ok (.ireturn, 1) := by decide +kernel
theorem dX2_leavesDoubt_0 : decode cX2_leavesDoubt 0 = .ok (.aload_n 0, 1) := by decide +kernel
theorem dX2_leavesDoubt_1 : decode cX2_leavesDoubt 1 = .ok (.getfield 15, 3) := by decide +kernel
theorem dX2_leavesDoubt_4 : decode cX2_leavesDoubt 4 = .ok (.ifCond .ne 20, 3) := by decide +kernel
theorem dX2_leavesDoubt_7 : decode cX2_leavesDoubt 7 = .ok (.iload_n 2, 1) := by decide +kernel
theorem dX2_leavesDoubt_8 : decode cX2_leavesDoubt 8 = .ok (.aload_n 1, 1) := by decide +kernel
theorem dX2_leavesDoubt_9 : decode cX2_leavesDoubt 9 = .ok (.getfield 53, 3) := by decide +kernel
theorem dX2_leavesDoubt_12 : decode cX2_leavesDoubt 12 = .ok (.isub, 1) := by decide +kernel
theorem dX2_leavesDoubt_13 : decode cX2_leavesDoubt 13 = .ok (.aload_n 0, 1) := by decide +kernel
theorem dX2_leavesDoubt_14 : decode cX2_leavesDoubt 14 = .ok (.getfield 21, 3) := by decide +kernel
theorem dX2_leavesDoubt_17 : decode cX2_leavesDoubt 17 = .ok (.if_icmp .ge 7, 3) := by decide +kernel
theorem dX2_leavesDoubt_20 : decode cX2_leavesDoubt 20 = .ok (.iconst 1, 1) := by decide +kernel
theorem dX2_leavesDoubt_21 : decode cX2_leavesDoubt 21 = .ok (.goto 4, 3) := by decide +kernel
theorem dX2_leavesDoubt_24 : decode cX2_leavesDoubt 24 = .ok (.iconst 0, 1) := by decide +kernel
theorem dX2_leavesDoubt_25 : decode cX2_leavesDoubt 25 = .ok (.ireturn, 1) := by decide +kernel
theorem dX2_looksAtLists_0 : decode cX2_looksAtLists 0 = .ok (.aload_n 0, 1) := by decide +kernel
theorem dX2_looksAtLists_1 : decode cX2_looksAtLists 1 = .ok (.getfield 15, 3) := by decide +kernel
theorem dX2_looksAtLists_4 : decode cX2_looksAtLists 4 = .ok (.ifCond .eq 15, 3) := by decide +kernel
theorem dX2_looksAtLists_7 : decode cX2_looksAtLists 7 = .ok (.aload_n 0, 1) := by decide +kernel
theorem dX2_looksAtLists_8 : decode cX2_looksAtLists 8 = .ok (.getfield 15, 3) := by decide +kernel
theorem dX2_looksAtLists_11 : decode cX2_looksAtLists 11 = .ok (.iconst 4, 1) := by decide +kernel
theorem dX2_looksAtLists_12 : decode cX2_looksAtLists 12 = .ok (.if_icmp .eq 7, 3) := by decide +kernel
theorem dX2_looksAtLists_15 : decode cX2_looksAtLists 15 = .ok (.iconst 1, 1) := by decide +kernel
theorem dX2_looksAtLists_16 : decode cX2_looksAtLists 16 = .ok (.goto 4, 3) := by decide +kernel
theorem dX2_looksAtLists_19 : decode cX2_looksAtLists 19 = .ok (.iconst 0, 1) := by decide +kernel
theorem dX2_looksAtLists_20 : decode cX2_looksAtLists 20 = .ok (.ireturn, 1) := by decide +kernel
theorem dX2_heft_0 : decode cX2_heft 0 = .ok (.bipush 10, 2) := by decide +kernel
theorem dX2_heft_2 : decode cX2_heft 2 = .ok (.aload_n 0, 1) := by decide +kernel
theorem dX2_heft_3 : decode cX2_heft 3 = .ok (.getfield 15, 3) := by decide +kernel
theorem dX2_heft_6 : decode cX2_heft 6 = .ok (.iadd, 1) := by decide +kernel
theorem dX2_heft_7 : decode cX2_heft 7 = .ok (.istore_n 1, 1) := by decide +kernel
theorem dX2_heft_8 : decode cX2_heft 8 = .ok (.aload_n 0, 1) := by decide +kernel
theorem dX2_heft_9 : decode cX2_heft 9 = .ok (.getfield 15, 3) := by decide +kernel
theorem dX2_heft_12 : decode cX2_heft 12 = .ok (.iconst 5, 1) := by decide +kernel
theorem dX2_heft_13 : decode cX2_heft 13 = .ok (.if_icmp .eq 13, 3) := by decide +kernel
theorem dX2_heft_16 : decode cX2_heft 16 = .ok (.iload_n 1, 1) := by decide +kernel
theorem dX2_heft_17 : decode cX2_heft 17 = .ok (.bipush 100, 2) := by decide +kernel
theorem dX2_heft_19 : decode cX2_heft 19 = .ok (.aload_n 0, 1) := by decide +kernel
theorem dX2_heft_20 : decode cX2_heft 20 = .ok (.getfield 21, 3) := by decide +kernel
theorem dX2_heft_23 : decode cX2_heft 23 = .ok (.iadd, 1) := by decide +kernel
theorem dX2_heft_24 : decode cX2_heft 24 = .ok (.iadd, 1) := by decide +kernel
theorem dX2_heft_25 : decode cX2_heft 25 = .ok (.istore_n 1, 1) := by decide +kernel
theorem dX2_heft_26 : decode cX2_heft 26 = .ok (.aload_n 0, 1) := by decide +kernel
theorem dX2_heft_27 : decode cX2_heft 27 = .ok (.invokevirtual 56, 3) := by decide +kernel
theorem dX2_heft_30 : decode cX2_heft 30 = .ok (.ifCond .eq 9, 3) := by decide +kernel
theorem dX2_heft_33 : decode cX2_heft 33 = .ok (.iinc 1 1000, 6) := by decide +kernel
theorem dX2_heft_39 : decode cX2_heft 39 = .ok (.aload_n 0, 1) := by decide +kernel
theorem dX2_heft_40 : decode cX2_heft 40 = .ok (.getfield 15, 3) := by decide +kernel
theorem dX2_heft_43 : decode cX2_heft 43 = .ok (.iconst 2, 1) := by decide +kernel
theorem dX2_heft_44 : decode cX2_heft 44 = .ok (.if_icmp .eq 11, 3) := by decide +kernel
theorem dX2_heft_47 : decode cX2_heft 47 = .ok (.aload_n 0, 1) := by decide +kernel
theorem dX2_heft_48 : decode cX2_heft 48 = .ok (.getfield 15, 3) := by decide +kernel
theorem dX2_heft_51 : decode cX2_heft 51 = .ok (.iconst 3, 1) := by decide +kernel
theorem dX2_heft_52 : decode cX2_heft 52 = .ok (.if_icmp .ne 9, 3) := by decide +kernel
theorem dX2_heft_55 : decode cX2_heft 55 = .ok (.iconst 2, 1) := by decide +kernel
theorem dX2_heft_56 : decode cX2_heft 56 = .ok (.iload_n 1, 1) := by decide +kernel
theorem dX2_heft_57 : decode cX2_heft 57 = .ok (.imul, 1) := by decide +kernel
theorem dX2_heft_58 : decode cX2_heft 58 = .ok (.goto 4, 3) := by decide +kernel
theorem dX2_heft_61 : decode cX2_heft 61 = .ok (.iload_n 1, 1) := by decide +kernel
theorem dX2_heft_62 : decode cX2_heft 62 = .ok (.ireturn, 1) := by decide +kernel
theorem dX2_fail_0 : decode cX2_fail 0 = .ok (.aload_n 0, 1) := by decide +kernel
theorem dX2_fail_1 : decode cX2_fail 1 = .ok (.invokevirtual 56, 3) := by decide +kernel
theorem dX2_fail_4 : decode cX2_fail 4 = .ok (.ifCond .eq 13, 3) := by decide +kernel
theorem dX2_fail_7 : decode cX2_fail 7 = .ok (.new 60, 3) := by decide +kernel
theorem dX2_fail_10 : decode cX2_fail 10 = .ok (.dup, 1) := by decide +kernel
theorem dX2_fail_11 : decode cX2_fail 11 = .ok (.ldc 62, 2) := by decide +kernel
theorem dX2_fail_13 : decode cX2_fail 13 = .ok (.invokespecial 64, 3) := by decide +kernel
theorem dX2_fail_16 : decode cX2_fail 16 = .ok (.athrow, 1) := by decide +kernel
theorem dX2_fail_17 : decode cX2_fail 17 = .ok (.return_, 1) := by decide +kernel
theorem dX3_init_0 : decode cX3_init 0 = .ok (.aload_n 0, 1) := by decide +kernel
theorem dX3_init_1 : decode cX3_init 1 = .ok (.invokespecial 3, 3) := by decide +kernel
theorem dX3_init_4 : decode cX3_init 4 = .ok (.aload_n 0, 1) := by decide +kernel
theorem dX3_init_5 : decode cX3_init 5 = .ok (.iload_n 1, 1) := by decide +kernel
theorem dX3_init_6 : decode cX3_init 6 = .ok (.putfield 9, 3) := by decide +kernel
theorem dX3_init_9 : decode cX3_init 9 = .ok (.aload_n 0, 1) := by decide +kernel
theorem dX3_init_10 : decode cX3_init 10 = .ok (.iload_n 2, 1) := by decide +kernel
theorem dX3_init_11 : decode cX3_init 11 = .ok (.putfield 15, 3) := by decide +kernel
theorem dX3_init_14 : decode cX3_init 14 = .ok (.aload_n 0, 1) := by decide +kernel
theorem dX3_init_15 : decode cX3_init 15 = .ok (.sipush 200, 3) := by decide +kernel
theorem dX3_init_18 : decode cX3_init 18 = .ok (.iload_n 1, 1) := by decide +kernel
theorem dX3_init_19 : decode cX3_init 19 = .ok (.imul, 1) := by decide +kernel
theorem dX3_init_20 : decode cX3_init 20 = .ok (.newarray .byte, 2) := by decide +kernel
theorem dX3_init_22 : decode cX3_init 22 = .ok (.putfield 19, 3) := by decide +kernel
theorem dX3_init_25 : decode cX3_init 25 = .ok (.aload_n 0, 1) := by decide +kernel
theorem dX3_init_26 : decode cX3_init 26 = .ok (.getfield 19, 3) := by decide +kernel
theorem dX3_init_29 : decode cX3_init 29 = .ok (.iconst (-1), 1) := by decide +kernel
theorem dX3_init_30 : decode cX3_init 30 = .ok (.invokestatic 23, 3) := by decide +kernel
theorem dX3_init_33 : decode cX3_init 33 = .ok (.return_, 1) := by decide +kernel
theorem dX3_code_0 : decode cX3_code 0 = .ok (.aload_n 0, 1) := by decide +kernel
theorem dX3_code_1 : decode cX3_code 1 = .ok (.getfield 19, 3) := by decide +kernel
theorem dX3_code_4 : decode cX3_code 4 = .ok (.iload_n 1, 1) := by decide +kernel
theorem dX3_code_5 : decode cX3_code 5 = .ok (.aload_n 0, 1) := by decide +kernel
theorem dX3_code_6 : decode cX3_code 6 = .ok (.getfield 9, 3) := by decide +kernel
theorem dX3_code_9 : decode cX3_code 9 = .ok (.imul, 1) := by decide +kernel
theorem dX3_code_10 : decode cX3_code 10 = .ok (.iload_n 2, 1) := by decide +kernel
theorem dX3_code_11 : decode cX3_code 11 = .ok (.iadd, 1) := by decide +kernel
theorem dX3_code_12 : decode cX3_code 12 = .ok (.baload, 1) := by decide +kernel
theorem dX3_code_13 : decode cX3_code 13 = .ok (.ireturn, 1) := by decide +kernel
theorem dX3_setCode_0 : decode cX3_setCode 0 = .ok (.aload_n 0, 1) := by decide +kernel
theorem dX3_setCode_1 : decode cX3_setCode 1 = .ok (.getfield 19, 3) := by decide +kernel
theorem dX3_setCode_4 : decode cX3_setCode 4 = .ok (.iload_n 1, 1) := by decide +kernel
theorem dX3_setCode_5 : decode cX3_setCode 5 = .ok (.aload_n 0, 1) := by decide +kernel
theorem dX3_setCode_6 : decode cX3_setCode 6 = .ok (.getfield 9, 3) := by decide +kernel
theorem dX3_setCode_9 : decode cX3_setCode 9 = .ok (.imul, 1) := by decide +kernel
theorem dX3_setCode_10 : decode cX3_setCode 10 = .ok (.iload_n 2, 1) := by decide +kernel
theorem dX3_setCode_11 : decode cX3_setCode 11 = .ok (.iadd, 1) := by decide +kernel
theorem dX3_setCode_12 : decode cX3_setCode 12 = .ok (.iload_n 3, 1) := by decide +kernel
theorem dX3_setCode_13 : decode cX3_setCode 13 = .ok (.i2b, 1) := by decide +kernel
theorem dX3_setCode_14 : decode cX3_setCode 14 = .ok (.bastore, 1) := by decide +kernel
theorem dX3_setCode_15 : decode cX3_setCode 15 = .ok (.return_, 1) := by decide +kernel
theorem dX3_holder_0 : decode cX3_holder 0 = .ok (.aload_n 0, 1) := by decide +kernel
theorem dX3_holder_1 : decode cX3_holder 1 = .ok (.iload_n 1, 1) := by decide +kernel
theorem dX3_holder_2 : decode cX3_holder 2 = .ok (.iload_n 2, 1) := by decide +kernel
theorem dX3_holder_3 : decode cX3_holder 3 = .ok (.invokevirtual 29, 3) := by decide +kernel
theorem dX3_holder_6 : decode cX3_holder 6 = .ok (.istore_n 3, 1) := by decide +kernel
theorem dX3_holder_7 : decode cX3_holder 7 = .ok (.iload_n 3, 1) := by decide +kernel
theorem dX3_holder_8 : decode cX3_holder 8 = .ok (.iconst (-1), 1) := by decide +kernel
theorem dX3_holder_9 : decode cX3_holder 9 = .ok (.if_icmp .ne 7, 3) := by decide +kernel
theorem dX3_holder_12 : decode cX3_holder 12 = .ok (.iconst (-1), 1) := by decide +kernel
theorem dX3_holder_13 : decode cX3_holder 13 = .ok (.goto 7, 3) := by decide +kernel
theorem dX3_holder_16 : decode cX3_holder 16 = .ok (.iload_n 3, 1) := by decide +kernel
theorem dX3_holder_17 : decode cX3_holder 17 = .ok (.bipush 100, 2) := by decide +kernel
theorem dX3_holder_19 : decode cX3_holder 19 = .ok (.irem, 1) := by decide +kernel
theorem dX3_holder_20 : decode cX3_holder 20 = .ok (.ireturn, 1) := by decide +kernel
theorem dX3_isVoid_0 : decode cX3_isVoid 0 = .ok (.aload_n 0, 1) := by decide +kernel
theorem dX3_isVoid_1 : decode cX3_isVoid 1 = .ok (.iload_n 1, 1) := by decide +kernel
theorem dX3_isVoid_2 : decode cX3_isVoid 2 = .ok (.iload_n 2, 1) := by decide +kernel
theorem dX3_isVoid_3 : decode cX3_isVoid 3 = .ok (.invokevirtual 29, 3) := by decide +kernel
theorem dX3_isVoid_6 : decode cX3_isVoid 6 = .ok (.bipush 100, 2) := by decide +kernel
theorem dX3_isVoid_8 : decode cX3_isVoid 8 = .ok (.if_icmp .lt 7, 3) := by decide +kernel
theorem dX3_isVoid_11 : decode cX3_isVoid 11 = .ok (.iconst 1, 1) := by decide +kernel
theorem dX3_isVoid_12 : decode cX3_isVoid 12 = .ok (.goto 4, 3) := by decide +kernel
theorem dX3_isVoid_15 : decode cX3_isVoid 15 = .ok (.iconst 0, 1) := by decide +kernel
theorem dX3_isVoid_16 : decode cX3_isVoid 16 = .ok (.ireturn, 1) := by decide +kernel
theorem dX3_firstEmpty_0 : decode cX3_firstEmpty 0 = .ok (.iconst 0, 1) := by decide +kernel
theorem dX3_firstEmpty_1 : decode cX3_firstEmpty 1 = .ok (.istore_n 2, 1) := by decide +kernel
theorem dX3_firstEmpty_2 : decode cX3_firstEmpty 2 = .ok (.iload_n 2, 1) := by decide +kernel
theorem dX3_firstEmpty_3 : decode cX3_firstEmpty 3 = .ok (.aload_n 0, 1) := by decide +kernel
theorem dX3_firstEmpty_4 : decode cX3_firstEmpty 4 = .ok (.getfield 9, 3) := by decide +kernel
theorem dX3_firstEmpty_7 : decode cX3_firstEmpty 7 = .ok (.if_icmp .ge 21, 3) := by decide +kernel
theorem dX3_firstEmpty_10 : decode cX3_firstEmpty 10 = .ok (.aload_n 0, 1) := by decide +kernel
theorem dX3_firstEmpty_11 : decode cX3_firstEmpty 11 = .ok (.iload_n 1, 1) := by decide +kernel
theorem dX3_firstEmpty_12 : decode cX3_firstEmpty 12 = .ok (.iload_n 2, 1) := by decide +kernel
theorem dX3_firstEmpty_13 : decode cX3_firstEmpty 13 = .ok (.invokevirtual 29, 3) := by decide +kernel
theorem dX3_firstEmpty_16 : decode cX3_firstEmpty 16 = .ok (.iconst (-1), 1) := by decide +kernel
theorem dX3_firstEmpty_17 : decode cX3_firstEmpty 17 = .ok (.if_icmp .ne 5, 3) := by decide +kernel
theorem dX3_firstEmpty_20 : decode cX3_firstEmpty 20 = .ok (.iload_n 2, 1) := by decide +kernel
theorem dX3_firstEmpty_21 : decode cX3_firstEmpty 21 = .ok (.ireturn, 1) := by decide +kernel
theorem dX3_firstEmpty_22 : decode cX3_firstEmpty 22 = .ok (.iinc 2 1, 3) := by decide +kernel
theorem dX3_firstEmpty_25 : decode cX3_firstEmpty 25 = .ok (.goto (-23), 3) := by decide +kernel
theorem dX3_firstEmpty_28 : decode cX3_firstEmpty 28 = .ok (.iconst (-1), 1) := by decide +kernel
theorem dX3_firstEmpty_29 : decode cX3_firstEmpty 29 = .ok (.ireturn, 1) := by decide +kernel
theorem dX3_heldAhead_0 : decode cX3_heldAhead 0 = .ok (.iconst 0, 1) := by decide +kernel
theorem dX3_heldAhead_1 : decode cX3_heldAhead 1 = .ok (.istore_n 3, 1) := by decide +kernel
theorem dX3_heldAhead_2 : decode cX3_heldAhead 2 = .ok (.iconst 0, 1) := by decide +kernel
theorem dX3_heldAhead_3 : decode cX3_heldAhead 3 = .ok (.istore 4, 2) := by decide +kernel
theorem dX3_heldAhead_5 : decode cX3_heldAhead 5 = .ok (.iload 4, 2) := by decide +kernel
theorem dX3_heldAhead_7 : decode cX3_heldAhead 7 = .ok (.iload_n 2, 1) := by decide +kernel
theorem dX3_heldAhead_8 : decode cX3_heldAhead 8 = .ok (.if_icmp .ge 23, 3) := by decide +kernel
theorem dX3_heldAhead_11 : decode cX3_heldAhead 11 = .ok (.aload_n 0, 1) := by decide +kernel
theorem dX3_heldAhead_12 : decode cX3_heldAhead 12 = .ok (.iload_n 1, 1) := by decide +kernel
theorem dX3_heldAhead_13 : decode cX3_heldAhead 13 = .ok (.iload 4, 2) := by decide +kernel
theorem dX3_heldAhead_15 : decode cX3_heldAhead 15 = .ok (.invokevirtual 29, 3) := by decide +kernel
theorem dX3_heldAhead_18 : decode cX3_heldAhead 18 = .ok (.iconst (-1), 1) := by decide +kernel
theorem dX3_heldAhead_19 : decode cX3_heldAhead 19 = .ok (.if_icmp .eq 6, 3) := by decide +kernel
theorem dX3_heldAhead_22 : decode cX3_heldAhead 22 = .ok (.iinc 3 1, 3) := by decide +kernel
theorem dX3_heldAhead_25 : decode cX3_heldAhead 25 = .ok (.iinc 4 1, 3) := by decide +kernel
theorem dX3_heldAhead_28 : decode cX3_heldAhead 28 = .ok (.goto (-23), 3) := by decide +kernel
theorem dX3_heldAhead_31 : decode cX3_heldAhead 31 = .ok (.iload_n 3, 1) := by decide +kernel
theorem dX3_heldAhead_32 : decode cX3_heldAhead 32 = .ok (.ireturn, 1) := by decide +kernel
theorem dX3_holders_0 : decode cX3_holders 0 = .ok (.iconst 0, 1) := by decide +kernel
theorem dX3_holders_1 : decode cX3_holders 1 = .ok (.istore_n 2, 1) := by decide +kernel
theorem dX3_holders_2 : decode cX3_holders 2 = .ok (.iconst 0, 1) := by decide +kernel
theorem dX3_holders_3 : decode cX3_holders 3 = .ok (.istore_n 3, 1) := by decide +kernel
theorem dX3_holders_4 : decode cX3_holders 4 = .ok (.iload_n 3, 1) := by decide +kernel
theorem dX3_holders_5 : decode cX3_holders 5 = .ok (.aload_n 0, 1) := by decide +kernel
theorem dX3_holders_6 : decode cX3_holders 6 = .ok (.getfield 9, 3) := by decide +kernel
theorem dX3_holders_9 : decode cX3_holders 9 = .ok (.if_icmp .ge 37, 3) := by decide +kernel
theorem dX3_holders_12 : decode cX3_holders 12 = .ok (.aload_n 0, 1) := by decide +kernel
theorem dX3_holders_13 : decode cX3_holders 13 = .ok (.iload_n 1, 1) := by decide +kernel
theorem dX3_holders_14 : decode cX3_holders 14 = .ok (.iload_n 3, 1) := by decide +kernel
theorem dX3_holders_15 : decode cX3_holders 15 = .ok (.invokevirtual 29, 3) := by decide +kernel
theorem dX3_holders_18 : decode cX3_holders 18 = .ok (.istore 4, 2) := by decide +kernel
theorem dX3_holders_20 : decode cX3_holders 20 = .ok (.iload 4, 2) := by decide +kernel
theorem dX3_holders_22 : decode cX3_holders 22 = .ok (.iconst (-1), 1) := by decide +kernel
theorem dX3_holders_23 : decode cX3_holders 23 = .ok (.if_icmp .eq 17, 3) := by decide +kernel
theorem dX3_holders_26 : decode cX3_holders 26 = .ok (.iload 4, 2) := by decide +kernel
theorem dX3_holders_28 : decode cX3_holders 28 = .ok (.bipush 100, 2) := by decide +kernel
theorem dX3_holders_30 : decode cX3_holders 30 = .ok (.if_icmp .ge 10, 3) := by decide +kernel
theorem dX3_holders_33 : decode cX3_holders 33 = .ok (.iload_n 2, 1) := by decide +kernel
theorem dX3_holders_34 : decode cX3_holders 34 = .ok (.iconst 1, 1) := by decide +kernel
theorem dX3_holders_35 : decode cX3_holders 35 = .ok (.iload 4, 2) := by decide +kernel
theorem dX3_holders_37 : decode cX3_holders 37 = .ok (.ishl, 1) := by decide +kernel
theorem dX3_holders_38 : decode cX3_holders 38 = .ok (.ior, 1) := by decide +kernel
theorem dX3_holders_39 : decode cX3_holders 39 = .ok (.istore_n 2, 1) := by decide +kernel
theorem dX3_holders_40 : decode cX3_holders 40 = .ok (.iinc 3 1, 3) := by decide +kernel
theorem dX3_holders_43 : decode cX3_holders 43 = .ok (.goto (-39), 3) := by decide +kernel
theorem dX3_holders_46 : decode cX3_holders 46 = .ok (.iload_n 2, 1) := by decide +kernel
theorem dX3_holders_47 : decode cX3_holders 47 = .ok (.ireturn, 1) := by decide +kernel
theorem dX4_init_0 : decode cX4_init 0 = .ok (.aload_n 0, 1) := by decide +kernel
theorem dX4_init_1 : decode cX4_init 1 = .ok (.invokespecial 3, 3) := by decide +kernel
theorem dX4_init_4 : decode cX4_init 4 = .ok (.return_, 1) := by decide +kernel
theorem dX4_look_0 : decode cX4_look 0 = .ok (.aload_n 0, 1) := by decide +kernel
theorem dX4_look_1 : decode cX4_look 1 = .ok (.iconst 0, 1) := by decide +kernel
theorem dX4_look_2 : decode cX4_look 2 = .ok (.putfield 9, 3) := by decide +kernel
theorem dX4_look_5 : decode cX4_look 5 = .ok (.aload_n 0, 1) := by decide +kernel
theorem dX4_look_6 : decode cX4_look 6 = .ok (.iconst (-1), 1) := by decide +kernel
theorem dX4_look_7 : decode cX4_look 7 = .ok (.putfield 15, 3) := by decide +kernel
theorem dX4_look_10 : decode cX4_look 10 = .ok (.aload_n 0, 1) := by decide +kernel
theorem dX4_look_11 : decode cX4_look 11 = .ok (.iconst (-1), 1) := by decide +kernel
theorem dX4_look_12 : decode cX4_look 12 = .ok (.putfield 18, 3) := by decide +kernel
theorem dX4_look_15 : decode cX4_look 15 = .ok (.iconst 0, 1) := by decide +kernel
theorem dX4_look_16 : decode cX4_look 16 = .ok (.istore 5, 2) := by decide +kernel
theorem dX4_look_18 : decode cX4_look 18 = .ok (.iload 5, 2) := by decide +kernel
theorem dX4_look_20 : decode cX4_look 20 = .ok (.iload 4, 2) := by decide +kernel
theorem dX4_look_22 : decode cX4_look 22 = .ok (.if_icmp .ge 69, 3) := by decide +kernel
theorem dX4_look_25 : decode cX4_look 25 = .ok (.aload_n 1, 1) := by decide +kernel
theorem dX4_look_26 : decode cX4_look 26 = .ok (.getfield 21, 3) := by decide +kernel
theorem dX4_look_29 : decode cX4_look 29 = .ok (.iload 5, 2) := by decide +kernel
theorem dX4_look_31 : decode cX4_look 31 = .ok (.baload, 1) := by decide +kernel
theorem dX4_look_32 : decode cX4_look 32 = .ok (.istore 6, 2) := by decide +kernel
theorem dX4_look_34 : decode cX4_look 34 = .ok (.iload 6, 2) := by decide +kernel
theorem dX4_look_36 : decode cX4_look 36 = .ok (.iconst (-1), 1) := by decide +kernel
theorem dX4_look_37 : decode cX4_look 37 = .ok (.if_icmp .eq 48, 3) := by decide +kernel
theorem dX4_look_40 : decode cX4_look 40 = .ok (.iload 6, 2) := by decide +kernel
theorem dX4_look_42 : decode cX4_look 42 = .ok (.bipush 100, 2) := by decide +kernel
theorem dX4_look_44 : decode cX4_look 44 = .ok (.if_icmp .ge 41, 3) := by decide +kernel
theorem dX4_look_47 : decode cX4_look 47 = .ok (.aload_n 0, 1) := by decide +kernel
theorem dX4_look_48 : decode cX4_look 48 = .ok (.dup, 1) := by decide +kernel
theorem dX4_look_49 : decode cX4_look 49 = .ok (.getfield 9, 3) := by decide +kernel
theorem dX4_look_52 : decode cX4_look 52 = .ok (.iconst 1, 1) := by decide +kernel
theorem dX4_look_53 : decode cX4_look 53 = .ok (.iload 6, 2) := by decide +kernel
theorem dX4_look_55 : decode cX4_look 55 = .ok (.ishl, 1) := by decide +kernel
theorem dX4_look_56 : decode cX4_look 56 = .ok (.ior, 1) := by decide +kernel
theorem dX4_look_57 : decode cX4_look 57 = .ok (.putfield 9, 3) := by decide +kernel
theorem dX4_look_60 : decode cX4_look 60 = .ok (.aload_n 0, 1) := by decide +kernel
theorem dX4_look_61 : decode cX4_look 61 = .ok (.iload 5, 2) := by decide +kernel
theorem dX4_look_63 : decode cX4_look 63 = .ok (.putfield 15, 3) := by decide +kernel
theorem dX4_look_66 : decode cX4_look 66 = .ok (.aload_n 0, 1) := by decide +kernel
theorem dX4_look_67 : decode cX4_look 67 = .ok (.iload 6, 2) := by decide +kernel
theorem dX4_look_69 : decode cX4_look 69 = .ok (.iload_n 3, 1) := by decide +kernel
theorem dX4_look_70 : decode cX4_look 70 = .ok (.if_icmp .ne 8, 3) := by decide +kernel
theorem dX4_look_73 : decode cX4_look 73 = .ok (.iload 5, 2) := by decide +kernel
theorem dX4_look_75 : decode cX4_look 75 = .ok (.goto 7, 3) := by decide +kernel
theorem dX4_look_78 : decode cX4_look 78 = .ok (.aload_n 0, 1) := by decide +kernel
theorem dX4_look_79 : decode cX4_look 79 = .ok (.getfield 18, 3) := by decide +kernel
theorem dX4_look_82 : decode cX4_look 82 = .ok (.putfield 18, 3) := by decide +kernel
theorem dX4_look_85 : decode cX4_look 85 = .ok (.iinc 5 1, 3) := by decide +kernel
theorem dX4_look_88 : decode cX4_look 88 = .ok (.goto (-70), 3) := by decide +kernel
theorem dX4_look_91 : decode cX4_look 91 = .ok (.aload_n 0, 1) := by decide +kernel
theorem dX4_look_92 : decode cX4_look 92 = .ok (.aload_n 1, 1) := by decide +kernel
theorem dX4_look_93 : decode cX4_look 93 = .ok (.getfield 27, 3) := by decide +kernel
theorem dX4_look_96 : decode cX4_look 96 = .ok (.aload_n 2, 1) := by decide +kernel
theorem dX4_look_97 : decode cX4_look 97 = .ok (.iload 4, 2) := by decide +kernel
theorem dX4_look_99 : decode cX4_look 99 = .ok (.invokevirtual 30, 3) := by decide +kernel
theorem dX4_look_102 : decode cX4_look 102 = .ok (.iand, 1) := by decide +kernel
theorem dX4_look_103 : decode cX4_look 103 = .ok (.ifCond .eq 7, 3) := by decide +kernel
theorem dX4_look_106 : decode cX4_look 106 = .ok (.iconst 1, 1) := by decide +kernel
theorem dX4_look_107 : decode cX4_look 107 = .ok (.goto 4, 3) := by decide +kernel
theorem dX4_look_110 : decode cX4_look 110 = .ok (.iconst 0, 1) := by decide +kernel
theorem dX4_look_111 : decode cX4_look 111 = .ok (.putfield 36, 3) := by decide +kernel
theorem dX4_look_114 : decode cX4_look 114 = .ok (.return_, 1) := by decide +kernel
theorem dX5_init_0 : decode cX5_init 0 = .ok (.aload_n 0, 1) := by decide +kernel
theorem dX5_init_1 : decode cX5_init 1 = .ok (.invokespecial 3, 3) := by decide +kernel
theorem dX5_init_4 : decode cX5_init 4 = .ok (.aload_n 0, 1) := by decide +kernel
theorem dX5_init_5 : decode cX5_init 5 = .ok (.sipush 200, 3) := by decide +kernel
theorem dX5_init_8 : decode cX5_init 8 = .ok (.newarray .byte, 2) := by decide +kernel
theorem dX5_init_10 : decode cX5_init 10 = .ok (.putfield 9, 3) := by decide +kernel
theorem dX5_init_13 : decode cX5_init 13 = .ok (.aload_n 0, 1) := by decide +kernel
theorem dX5_init_14 : decode cX5_init 14 = .ok (.sipush 200, 3) := by decide +kernel
theorem dX5_init_17 : decode cX5_init 17 = .ok (.putfield 15, 3) := by decide +kernel
theorem dX5_init_20 : decode cX5_init 20 = .ok (.aload_n 0, 1) := by decide +kernel
theorem dX5_init_21 : decode cX5_init 21 = .ok (.iconst 0, 1) := by decide +kernel
theorem dX5_init_22 : decode cX5_init 22 = .ok (.putfield 19, 3) := by decide +kernel
theorem dX5_init_25 : decode cX5_init 25 = .ok (.aload_n 0, 1) := by decide +kernel
theorem dX5_init_26 : decode cX5_init 26 = .ok (.iconst (-1), 1) := by decide +kernel
theorem dX5_init_27 : decode cX5_init 27 = .ok (.putfield 22, 3) := by decide +kernel
theorem dX5_init_30 : decode cX5_init 30 = .ok (.aload_n 0, 1) := by decide +kernel
theorem dX5_init_31 : decode cX5_init 31 = .ok (.iconst 0, 1) := by decide +kernel
theorem dX5_init_32 : decode cX5_init 32 = .ok (.putfield 25, 3) := by decide +kernel
theorem dX5_init_35 : decode cX5_init 35 = .ok (.aload_n 0, 1) := by decide +kernel
theorem dX5_init_36 : decode cX5_init 36 = .ok (.iload_n 1, 1) := by decide +kernel
theorem dX5_init_37 : decode cX5_init 37 = .ok (.putfield 28, 3) := by decide +kernel
theorem dX5_init_40 : decode cX5_init 40 = .ok (.aload_n 0, 1) := by decide +kernel
theorem dX5_init_41 : decode cX5_init 41 = .ok (.iload_n 2, 1) := by decide +kernel
theorem dX5_init_42 : decode cX5_init 42 = .ok (.putfield 31, 3) := by decide +kernel
theorem dX5_init_45 : decode cX5_init 45 = .ok (.aload_n 0, 1) := by decide +kernel
theorem dX5_init_46 : decode cX5_init 46 = .ok (.iload_n 3, 1) := by decide +kernel
theorem dX5_init_47 : decode cX5_init 47 = .ok (.putfield 34, 3) := by decide +kernel
theorem dX5_init_50 : decode cX5_init 50 = .ok (.aload_n 0, 1) := by decide +kernel
theorem dX5_init_51 : decode cX5_init 51 = .ok (.iload 4, 2) := by decide +kernel
theorem dX5_init_53 : decode cX5_init 53 = .ok (.putfield 37, 3) := by decide +kernel
theorem dX5_init_56 : decode cX5_init 56 = .ok (.aload_n 0, 1) := by decide +kernel
theorem dX5_init_57 : decode cX5_init 57 = .ok (.getfield 9, 3) := by decide +kernel
theorem dX5_init_60 : decode cX5_init 60 = .ok (.iconst (-1), 1) := by decide +kernel
theorem dX5_init_61 : decode cX5_init 61 = .ok (.invokestatic 40, 3) := by decide +kernel
theorem dX5_init_64 : decode cX5_init 64 = .ok (.return_, 1) := by decide +kernel
theorem dX5_hasExile_0 : decode cX5_hasExile 0 = .ok (.aload_n 0, 1) := by decide +kernel
theorem dX5_hasExile_1 : decode cX5_hasExile 1 = .ok (.getfield 19, 3) := by decide +kernel
theorem dX5_hasExile_4 : decode cX5_hasExile 4 = .ok (.aload_n 0, 1) := by decide +kernel
theorem dX5_hasExile_5 : decode cX5_hasExile 5 = .ok (.getfield 22, 3) := by decide +kernel
theorem dX5_hasExile_8 : decode cX5_hasExile 8 = .ok (.if_icmp .gt 7, 3) := by decide +kernel
theorem dX5_hasExile_11 : decode cX5_hasExile 11 = .ok (.iconst 1, 1) := by decide +kernel
theorem dX5_hasExile_12 : decode cX5_hasExile 12 = .ok (.goto 4, 3) := by decide +kernel
theorem dX5_hasExile_15 : decode cX5_hasExile 15 = .ok (.iconst 0, 1) := by decide +kernel
theorem dX5_hasExile_16 : decode cX5_hasExile 16 = .ok (.ireturn, 1) := by decide +kernel
theorem dX5_setExile_0 : decode cX5_setExile 0 = .ok (.iload_n 1, 1) := by decide +kernel
theorem dX5_setExile_1 : decode cX5_setExile 1 = .ok (.iload_n 2, 1) := by decide +kernel
theorem dX5_setExile_2 : decode cX5_setExile 2 = .ok (.if_icmp .gt 7, 3) := by decide +kernel
theorem dX5_setExile_5 : decode cX5_setExile 5 = .ok (.iconst 1, 1) := by decide +kernel
theorem dX5_setExile_6 : decode cX5_setExile 6 = .ok (.goto 4, 3) := by decide +kernel
theorem dX5_setExile_9 : decode cX5_setExile 9 = .ok (.iconst 0, 1) := by decide +kernel
theorem dX5_setExile_10 : decode cX5_setExile 10 = .ok (.istore_n 3, 1) := by decide +kernel
theorem dX5_setExile_11 : decode cX5_setExile 11 = .ok (.aload_n 0, 1) := by decide +kernel
theorem dX5_setExile_12 : decode cX5_setExile 12 = .ok (.iload_n 3, 1) := by decide +kernel
theorem dX5_setExile_13 : decode cX5_setExile 13 = .ok (.ifCond .eq 7, 3) := by decide +kernel
theorem dX5_setExile_16 : decode cX5_setExile 16 = .ok (.iload_n 1, 1) := by decide +kernel
theorem dX5_setExile_17 : decode cX5_setExile 17 = .ok (.goto 4, 3) := by decide +kernel
theorem dX5_setExile_20 : decode cX5_setExile 20 = .ok (.iconst 0, 1) := by decide +kernel
theorem dX5_setExile_21 : decode cX5_setExile 21 = .ok (.putfield 19, 3) := by decide +kernel
theorem dX5_setExile_24 : decode cX5_setExile 24 = .ok (.aload_n 0, 1) := by decide +kernel
theorem dX5_setExile_25 : decode cX5_setExile 25 = .ok (.iload_n 3, 1) := by decide +kernel
theorem dX5_setExile_26 : decode cX5_setExile 26 = .ok (.ifCond .eq 7, 3) := by decide +kernel
theorem dX5_setExile_29 : decode cX5_setExile 29 = .ok (.iload_n 2, 1) := by decide +kernel
theorem dX5_setExile_30 : decode cX5_setExile 30 = .ok (.goto 4, 3) := by decide +kernel
theorem dX5_setExile_33 : decode cX5_setExile 33 = .ok (.iconst (-1), 1) := by decide +kernel
theorem dX5_setExile_34 : decode cX5_setExile 34 = .ok (.putfield 22, 3) := by decide +kernel
theorem dX5_setExile_37 : decode cX5_setExile 37 = .ok (.return_, 1) := by decide +kernel
theorem dX5_yearsHeld_0 : decode cX5_yearsHeld 0 = .ok (.iconst 0, 1) := by decide +kernel
theorem dX5_yearsHeld_1 : decode cX5_yearsHeld 1 = .ok (.istore_n 3, 1) := by decide +kernel
theorem dX5_yearsHeld_2 : decode cX5_yearsHeld 2 = .ok (.iconst 0, 1) := by decide +kernel
theorem dX5_yearsHeld_3 : decode cX5_yearsHeld 3 = .ok (.istore 4, 2) := by decide +kernel
theorem dX5_yearsHeld_5 : decode cX5_yearsHeld 5 = .ok (.iload 4, 2) := by decide +kernel
theorem dX5_yearsHeld_7 : decode cX5_yearsHeld 7 = .ok (.iload_n 2, 1) := by decide +kernel
theorem dX5_yearsHeld_8 : decode cX5_yearsHeld 8 = .ok (.if_icmp .ge 48, 3) := by decide +kernel
theorem dX5_yearsHeld_11 : decode cX5_yearsHeld 11 = .ok (.aload_n 0, 1) := by decide +kernel
theorem dX5_yearsHeld_12 : decode cX5_yearsHeld 12 = .ok (.getfield 9, 3) := by decide +kernel
theorem dX5_yearsHeld_15 : decode cX5_yearsHeld 15 = .ok (.iload 4, 2) := by decide +kernel
theorem dX5_yearsHeld_17 : decode cX5_yearsHeld 17 = .ok (.baload, 1) := by decide +kernel
theorem dX5_yearsHeld_18 : decode cX5_yearsHeld 18 = .ok (.istore 5, 2) := by decide +kernel
theorem dX5_yearsHeld_20 : decode cX5_yearsHeld 20 = .ok (.iload 5, 2) := by decide +kernel
theorem dX5_yearsHeld_22 : decode cX5_yearsHeld 22 = .ok (.iconst (-1), 1) := by decide +kernel
theorem dX5_yearsHeld_23 : decode cX5_yearsHeld 23 = .ok (.if_icmp .eq 27, 3) := by decide +kernel
theorem dX5_yearsHeld_26 : decode cX5_yearsHeld 26 = .ok (.iload_n 1, 1) := by decide +kernel
theorem dX5_yearsHeld_27 : decode cX5_yearsHeld 27 = .ok (.iconst (-1), 1) := by decide +kernel
theorem dX5_yearsHeld_28 : decode cX5_yearsHeld 28 = .ok (.if_icmp .ne 13, 3) := by decide +kernel
theorem dX5_yearsHeld_31 : decode cX5_yearsHeld 31 = .ok (.iload 5, 2) := by decide +kernel
theorem dX5_yearsHeld_33 : decode cX5_yearsHeld 33 = .ok (.bipush 100, 2) := by decide +kernel
theorem dX5_yearsHeld_35 : decode cX5_yearsHeld 35 = .ok (.if_icmp .ge 15, 3) := by decide +kernel
theorem dX5_yearsHeld_38 : decode cX5_yearsHeld 38 = .ok (.goto 9, 3) := by decide +kernel
theorem dX5_yearsHeld_41 : decode cX5_yearsHeld 41 = .ok (.iload 5, 2) := by decide +kernel
theorem dX5_yearsHeld_43 : decode cX5_yearsHeld 43 = .ok (.iload_n 1, 1) := by decide +kernel
theorem dX5_yearsHeld_44 : decode cX5_yearsHeld 44 = .ok (.if_icmp .ne 6, 3) := by decide +kernel
theorem dX5_yearsHeld_47 : decode cX5_yearsHeld 47 = .ok (.iinc 3 1, 3) := by decide +kernel
theorem dX5_yearsHeld_50 : decode cX5_yearsHeld 50 = .ok (.iinc 4 1, 3) := by decide +kernel
theorem dX5_yearsHeld_53 : decode cX5_yearsHeld 53 = .ok (.goto (-48), 3) := by decide +kernel
theorem dX5_yearsHeld_56 : decode cX5_yearsHeld 56 = .ok (.iload_n 3, 1) := by decide +kernel
theorem dX5_yearsHeld_57 : decode cX5_yearsHeld 57 = .ok (.ireturn, 1) := by decide +kernel
theorem dX6_init_0 : decode cX6_init 0 = .ok (.aload_n 0, 1) := by decide +kernel
theorem dX6_init_1 : decode cX6_init 1 = .ok (.invokespecial 3, 3) := by decide +kernel
theorem dX6_init_4 : decode cX6_init 4 = .ok (.aload_n 0, 1) := by decide +kernel
theorem dX6_init_5 : decode cX6_init 5 = .ok (.bipush 8, 2) := by decide +kernel
theorem dX6_init_7 : decode cX6_init 7 = .ok (.anewarray 9, 3) := by decide +kernel
theorem dX6_init_10 : decode cX6_init 10 = .ok (.putfield 11, 3) := by decide +kernel
theorem dX6_init_13 : decode cX6_init 13 = .ok (.aload_n 0, 1) := by decide +kernel
theorem dX6_init_14 : decode cX6_init 14 = .ok (.bipush 24, 2) := by decide +kernel
theorem dX6_init_16 : decode cX6_init 16 = .ok (.anewarray 17, 3) := by decide +kernel
theorem dX6_init_19 : decode cX6_init 19 = .ok (.putfield 19, 3) := by decide +kernel
theorem dX6_init_22 : decode cX6_init 22 = .ok (.aload_n 0, 1) := by decide +kernel
theorem dX6_init_23 : decode cX6_init 23 = .ok (.bipush 20, 2) := by decide +kernel
theorem dX6_init_25 : decode cX6_init 25 = .ok (.anewarray 23, 3) := by decide +kernel
theorem dX6_init_28 : decode cX6_init 28 = .ok (.putfield 25, 3) := by decide +kernel
theorem dX6_init_31 : decode cX6_init 31 = .ok (.aload_n 0, 1) := by decide +kernel
theorem dX6_init_32 : decode cX6_init 32 = .ok (.iconst 0, 1) := by decide +kernel
theorem dX6_init_33 : decode cX6_init 33 = .ok (.putfield 29, 3) := by decide +kernel
theorem dX6_init_36 : decode cX6_init 36 = .ok (.aload_n 0, 1) := by decide +kernel
theorem dX6_init_37 : decode cX6_init 37 = .ok (.iconst 0, 1) := by decide +kernel
theorem dX6_init_38 : decode cX6_init 38 = .ok (.putfield 33, 3) := by decide +kernel
theorem dX6_init_41 : decode cX6_init 41 = .ok (.aload_n 0, 1) := by decide +kernel
theorem dX6_init_42 : decode cX6_init 42 = .ok (.iconst 0, 1) := by decide +kernel
theorem dX6_init_43 : decode cX6_init 43 = .ok (.putfield 36, 3) := by decide +kernel
theorem dX6_init_46 : decode cX6_init 46 = .ok (.aload_n 0, 1) := by decide +kernel
theorem dX6_init_47 : decode cX6_init 47 = .ok (.iconst 0, 1) := by decide +kernel
theorem dX6_init_48 : decode cX6_init 48 = .ok (.putfield 39, 3) := by decide +kernel
theorem dX6_init_51 : decode cX6_init 51 = .ok (.aload_n 0, 1) := by decide +kernel
theorem dX6_init_52 : decode cX6_init 52 = .ok (.iconst 0, 1) := by decide +kernel
theorem dX6_init_53 : decode cX6_init 53 = .ok (.putfield 42, 3) := by decide +kernel
theorem dX6_init_56 : decode cX6_init 56 = .ok (.aload_n 0, 1) := by decide +kernel
theorem dX6_init_57 : decode cX6_init 57 = .ok (.new 45, 3) := by decide +kernel
theorem dX6_init_60 : decode cX6_init 60 = .ok (.dup, 1) := by decide +kernel
theorem dX6_init_61 : decode cX6_init 61 = .ok (.invokespecial 47, 3) := by decide +kernel
theorem dX6_init_64 : decode cX6_init 64 = .ok (.putfield 48, 3) := by decide +kernel
theorem dX6_init_67 : decode cX6_init 67 = .ok (.return_, 1) := by decide +kernel
theorem dX6_hasOffice_0 : decode cX6_hasOffice 0 = .ok (.iload_n 1, 1) := by decide +kernel
theorem dX6_hasOffice_1 : decode cX6_hasOffice 1 = .ok (.ifCond .lt 15, 3) := by decide +kernel
theorem dX6_hasOffice_4 : decode cX6_hasOffice 4 = .ok (.iload_n 1, 1) := by decide +kernel
theorem dX6_hasOffice_5 : decode cX6_hasOffice 5 = .ok (.aload_n 0, 1) := by decide +kernel
theorem dX6_hasOffice_6 : decode cX6_hasOffice 6 = .ok (.getfield 29, 3) := by decide +kernel
theorem dX6_hasOffice_9 : decode cX6_hasOffice 9 = .ok (.if_icmp .ge 7, 3) := by decide +kernel
theorem dX6_hasOffice_12 : decode cX6_hasOffice 12 = .ok (.iconst 1, 1) := by decide +kernel
theorem dX6_hasOffice_13 : decode cX6_hasOffice 13 = .ok (.goto 4, 3) := by decide +kernel
theorem dX6_hasOffice_16 : decode cX6_hasOffice 16 = .ok (.iconst 0, 1) := by decide +kernel
theorem dX6_hasOffice_17 : decode cX6_hasOffice 17 = .ok (.ireturn, 1) := by decide +kernel
theorem dX6_hasPerson_0 : decode cX6_hasPerson 0 = .ok (.iload_n 1, 1) := by decide +kernel
theorem dX6_hasPerson_1 : decode cX6_hasPerson 1 = .ok (.ifCond .lt 15, 3) := by decide +kernel
theorem dX6_hasPerson_4 : decode cX6_hasPerson 4 = .ok (.iload_n 1, 1) := by decide +kernel
theorem dX6_hasPerson_5 : decode cX6_hasPerson 5 = .ok (.aload_n 0, 1) := by decide +kernel
theorem dX6_hasPerson_6 : decode cX6_hasPerson 6 = .ok (.getfield 33, 3) := by decide +kernel
theorem dX6_hasPerson_9 : decode cX6_hasPerson 9 = .ok (.if_icmp .ge 7, 3) := by decide +kernel
theorem dX6_hasPerson_12 : decode cX6_hasPerson 12 = .ok (.iconst 1, 1) := by decide +kernel
theorem dX6_hasPerson_13 : decode cX6_hasPerson 13 = .ok (.goto 4, 3) := by decide +kernel
theorem dX6_hasPerson_16 : decode cX6_hasPerson 16 = .ok (.iconst 0, 1) := by decide +kernel
theorem dX6_hasPerson_17 : decode cX6_hasPerson 17 = .ok (.ireturn, 1) := by decide +kernel
theorem dX6_hasLaw_0 : decode cX6_hasLaw 0 = .ok (.iload_n 1, 1) := by decide +kernel
theorem dX6_hasLaw_1 : decode cX6_hasLaw 1 = .ok (.ifCond .lt 15, 3) := by decide +kernel
theorem dX6_hasLaw_4 : decode cX6_hasLaw 4 = .ok (.iload_n 1, 1) := by decide +kernel
theorem dX6_hasLaw_5 : decode cX6_hasLaw 5 = .ok (.aload_n 0, 1) := by decide +kernel
theorem dX6_hasLaw_6 : decode cX6_hasLaw 6 = .ok (.getfield 36, 3) := by decide +kernel
theorem dX6_hasLaw_9 : decode cX6_hasLaw 9 = .ok (.if_icmp .ge 7, 3) := by decide +kernel
theorem dX6_hasLaw_12 : decode cX6_hasLaw 12 = .ok (.iconst 1, 1) := by decide +kernel
theorem dX6_hasLaw_13 : decode cX6_hasLaw 13 = .ok (.goto 4, 3) := by decide +kernel
theorem dX6_hasLaw_16 : decode cX6_hasLaw 16 = .ok (.iconst 0, 1) := by decide +kernel
theorem dX6_hasLaw_17 : decode cX6_hasLaw 17 = .ok (.ireturn, 1) := by decide +kernel
theorem dX6_hasSeat_0 : decode cX6_hasSeat 0 = .ok (.aload_n 0, 1) := by decide +kernel
theorem dX6_hasSeat_1 : decode cX6_hasSeat 1 = .ok (.iload_n 1, 1) := by decide +kernel
theorem dX6_hasSeat_2 : decode cX6_hasSeat 2 = .ok (.invokevirtual 52, 3) := by decide +kernel
theorem dX6_hasSeat_5 : decode cX6_hasSeat 5 = .ok (.ifCond .eq 31, 3) := by decide +kernel
theorem dX6_hasSeat_8 : decode cX6_hasSeat 8 = .ok (.iload_n 2, 1) := by decide +kernel
theorem dX6_hasSeat_9 : decode cX6_hasSeat 9 = .ok (.invokestatic 56, 3) := by decide +kernel
theorem dX6_hasSeat_12 : decode cX6_hasSeat 12 = .ok (.ifCond .eq 24, 3) := by decide +kernel
theorem dX6_hasSeat_15 : decode cX6_hasSeat 15 = .ok (.iload_n 3, 1) := by decide +kernel
theorem dX6_hasSeat_16 : decode cX6_hasSeat 16 = .ok (.ifCond .lt 20, 3) := by decide +kernel
theorem dX6_hasSeat_19 : decode cX6_hasSeat 19 = .ok (.iload_n 3, 1) := by decide +kernel
theorem dX6_hasSeat_20 : decode cX6_hasSeat 20 = .ok (.aload_n 0, 1) := by decide +kernel
theorem dX6_hasSeat_21 : decode cX6_hasSeat 21 = .ok (.getfield 11, 3) := by decide +kernel
theorem dX6_hasSeat_24 : decode cX6_hasSeat 24 = .ok (.iload_n 1, 1) := by decide +kernel
theorem dX6_hasSeat_25 : decode cX6_hasSeat 25 = .ok (.aaload, 1) := by decide +kernel
theorem dX6_hasSeat_26 : decode cX6_hasSeat 26 = .ok (.getfield 59, 3) := by decide +kernel
theorem dX6_hasSeat_29 : decode cX6_hasSeat 29 = .ok (.if_icmp .ge 7, 3) := by decide +kernel
theorem dX6_hasSeat_32 : decode cX6_hasSeat 32 = .ok (.iconst 1, 1) := by decide +kernel
theorem dX6_hasSeat_33 : decode cX6_hasSeat 33 = .ok (.goto 4, 3) := by decide +kernel
theorem dX6_hasSeat_36 : decode cX6_hasSeat 36 = .ok (.iconst 0, 1) := by decide +kernel
theorem dX6_hasSeat_37 : decode cX6_hasSeat 37 = .ok (.ireturn, 1) := by decide +kernel
theorem dX6_isNumberOf_0 : decode cX6_isNumberOf 0 = .ok (.iload_n 1, 1) := by decide +kernel
theorem dX6_isNumberOf_1 : decode cX6_isNumberOf 1 = .ok (.tableswitch 79 0 4 #[35, 51, 57, 57, 74], 35) := by decide +kernel
theorem dX6_isNumberOf_36 : decode cX6_isNumberOf 36 = .ok (.iload_n 2, 1) := by decide +kernel
theorem dX6_isNumberOf_37 : decode cX6_isNumberOf 37 = .ok (.ifCond .lt 13, 3) := by decide +kernel
theorem dX6_isNumberOf_40 : decode cX6_isNumberOf 40 = .ok (.iload_n 2, 1) := by decide +kernel
theorem dX6_isNumberOf_41 : decode cX6_isNumberOf 41 = .ok (.bipush 99, 2) := by decide +kernel
theorem dX6_isNumberOf_43 : decode cX6_isNumberOf 43 = .ok (.if_icmp .gt 7, 3) := by decide +kernel
theorem dX6_isNumberOf_46 : decode cX6_isNumberOf 46 = .ok (.iconst 1, 1) := by decide +kernel
theorem dX6_isNumberOf_47 : decode cX6_isNumberOf 47 = .ok (.goto 4, 3) := by decide +kernel
theorem dX6_isNumberOf_50 : decode cX6_isNumberOf 50 = .ok (.iconst 0, 1) := by decide +kernel
theorem dX6_isNumberOf_51 : decode cX6_isNumberOf 51 = .ok (.ireturn, 1) := by decide +kernel
theorem dX6_isNumberOf_52 : decode cX6_isNumberOf 52 = .ok (.aload_n 0, 1) := by decide +kernel
theorem dX6_isNumberOf_53 : decode cX6_isNumberOf 53 = .ok (.iload_n 2, 1) := by decide +kernel
theorem dX6_isNumberOf_54 : decode cX6_isNumberOf 54 = .ok (.invokevirtual 52, 3) := by decide +kernel
theorem dX6_isNumberOf_57 : decode cX6_isNumberOf 57 = .ok (.ireturn, 1) := by decide +kernel
theorem dX6_isNumberOf_58 : decode cX6_isNumberOf 58 = .ok (.iload_n 2, 1) := by decide +kernel
theorem dX6_isNumberOf_59 : decode cX6_isNumberOf 59 = .ok (.iconst 1, 1) := by decide +kernel
theorem dX6_isNumberOf_60 : decode cX6_isNumberOf 60 = .ok (.if_icmp .lt 13, 3) := by decide +kernel
theorem dX6_isNumberOf_63 : decode cX6_isNumberOf 63 = .ok (.iload_n 2, 1) := by decide +kernel
theorem dX6_isNumberOf_64 : decode cX6_isNumberOf 64 = .ok (.bipush 99, 2) := by decide +kernel
theorem dX6_isNumberOf_66 : decode cX6_isNumberOf 66 = .ok (.if_icmp .gt 7, 3) := by decide +kernel
theorem dX6_isNumberOf_69 : decode cX6_isNumberOf 69 = .ok (.iconst 1, 1) := by decide +kernel
theorem dX6_isNumberOf_70 : decode cX6_isNumberOf 70 = .ok (.goto 4, 3) := by decide +kernel
theorem dX6_isNumberOf_73 : decode cX6_isNumberOf 73 = .ok (.iconst 0, 1) := by decide +kernel
theorem dX6_isNumberOf_74 : decode cX6_isNumberOf 74 = .ok (.ireturn, 1) := by decide +kernel
theorem dX6_isNumberOf_75 : decode cX6_isNumberOf 75 = .ok (.iload_n 2, 1) := by decide +kernel
theorem dX6_isNumberOf_76 : decode cX6_isNumberOf 76 = .ok (.invokestatic 62, 3) := by decide +kernel
theorem dX6_isNumberOf_79 : decode cX6_isNumberOf 79 = .ok (.ireturn, 1) := by decide +kernel
theorem dX6_isNumberOf_80 : decode cX6_isNumberOf 80 = .ok (.iconst 1, 1) := by decide +kernel
theorem dX6_isNumberOf_81 : decode cX6_isNumberOf 81 = .ok (.ireturn, 1) := by decide +kernel
theorem dX6_addOffice_0 : decode cX6_addOffice 0 = .ok (.aload_n 0, 1) := by decide +kernel
theorem dX6_addOffice_1 : decode cX6_addOffice 1 = .ok (.getfield 11, 3) := by decide +kernel
theorem dX6_addOffice_4 : decode cX6_addOffice 4 = .ok (.aload_n 0, 1) := by decide +kernel
theorem dX6_addOffice_5 : decode cX6_addOffice 5 = .ok (.getfield 29, 3) := by decide +kernel
theorem dX6_addOffice_8 : decode cX6_addOffice 8 = .ok (.aload_n 1, 1) := by decide +kernel
theorem dX6_addOffice_9 : decode cX6_addOffice 9 = .ok (.aastore, 1) := by decide +kernel
theorem dX6_addOffice_10 : decode cX6_addOffice 10 = .ok (.aload_n 0, 1) := by decide +kernel
theorem dX6_addOffice_11 : decode cX6_addOffice 11 = .ok (.dup, 1) := by decide +kernel
theorem dX6_addOffice_12 : decode cX6_addOffice 12 = .ok (.getfield 29, 3) := by decide +kernel
theorem dX6_addOffice_15 : decode cX6_addOffice 15 = .ok (.iconst 1, 1) := by decide +kernel
theorem dX6_addOffice_16 : decode cX6_addOffice 16 = .ok (.iadd, 1) := by decide +kernel
theorem dX6_addOffice_17 : decode cX6_addOffice 17 = .ok (.putfield 29, 3) := by decide +kernel
theorem dX6_addOffice_20 : decode cX6_addOffice 20 = .ok (.aload_n 0, 1) := by decide +kernel
theorem dX6_addOffice_21 : decode cX6_addOffice 21 = .ok (.getfield 29, 3) := by decide +kernel
theorem dX6_addOffice_24 : decode cX6_addOffice 24 = .ok (.iconst 1, 1) := by decide +kernel
theorem dX6_addOffice_25 : decode cX6_addOffice 25 = .ok (.isub, 1) := by decide +kernel
theorem dX6_addOffice_26 : decode cX6_addOffice 26 = .ok (.ireturn, 1) := by decide +kernel
theorem dX6_addLaw_0 : decode cX6_addLaw 0 = .ok (.aload_n 0, 1) := by decide +kernel
theorem dX6_addLaw_1 : decode cX6_addLaw 1 = .ok (.getfield 25, 3) := by decide +kernel
theorem dX6_addLaw_4 : decode cX6_addLaw 4 = .ok (.aload_n 0, 1) := by decide +kernel
theorem dX6_addLaw_5 : decode cX6_addLaw 5 = .ok (.getfield 36, 3) := by decide +kernel
theorem dX6_addLaw_8 : decode cX6_addLaw 8 = .ok (.aload_n 1, 1) := by decide +kernel
theorem dX6_addLaw_9 : decode cX6_addLaw 9 = .ok (.aastore, 1) := by decide +kernel
theorem dX6_addLaw_10 : decode cX6_addLaw 10 = .ok (.aload_n 0, 1) := by decide +kernel
theorem dX6_addLaw_11 : decode cX6_addLaw 11 = .ok (.dup, 1) := by decide +kernel
theorem dX6_addLaw_12 : decode cX6_addLaw 12 = .ok (.getfield 36, 3) := by decide +kernel
theorem dX6_addLaw_15 : decode cX6_addLaw 15 = .ok (.iconst 1, 1) := by decide +kernel
theorem dX6_addLaw_16 : decode cX6_addLaw 16 = .ok (.iadd, 1) := by decide +kernel
theorem dX6_addLaw_17 : decode cX6_addLaw 17 = .ok (.putfield 36, 3) := by decide +kernel
theorem dX6_addLaw_20 : decode cX6_addLaw 20 = .ok (.aload_n 0, 1) := by decide +kernel
theorem dX6_addLaw_21 : decode cX6_addLaw 21 = .ok (.getfield 36, 3) := by decide +kernel
theorem dX6_addLaw_24 : decode cX6_addLaw 24 = .ok (.iconst 1, 1) := by decide +kernel
theorem dX6_addLaw_25 : decode cX6_addLaw 25 = .ok (.isub, 1) := by decide +kernel
theorem dX6_addLaw_26 : decode cX6_addLaw 26 = .ok (.ireturn, 1) := by decide +kernel
theorem dX6_addPerson_0 : decode cX6_addPerson 0 = .ok (.aload_n 0, 1) := by decide +kernel
theorem dX6_addPerson_1 : decode cX6_addPerson 1 = .ok (.getfield 33, 3) := by decide +kernel
theorem dX6_addPerson_4 : decode cX6_addPerson 4 = .ok (.istore_n 2, 1) := by decide +kernel
theorem dX6_addPerson_5 : decode cX6_addPerson 5 = .ok (.aload_n 0, 1) := by decide +kernel
theorem dX6_addPerson_6 : decode cX6_addPerson 6 = .ok (.getfield 19, 3) := by decide +kernel
theorem dX6_addPerson_9 : decode cX6_addPerson 9 = .ok (.iload_n 2, 1) := by decide +kernel
theorem dX6_addPerson_10 : decode cX6_addPerson 10 = .ok (.aload_n 1, 1) := by decide +kernel
theorem dX6_addPerson_11 : decode cX6_addPerson 11 = .ok (.aastore, 1) := by decide +kernel
theorem dX6_addPerson_12 : decode cX6_addPerson 12 = .ok (.aload_n 0, 1) := by decide +kernel
theorem dX6_addPerson_13 : decode cX6_addPerson 13 = .ok (.dup, 1) := by decide +kernel
theorem dX6_addPerson_14 : decode cX6_addPerson 14 = .ok (.getfield 33, 3) := by decide +kernel
theorem dX6_addPerson_17 : decode cX6_addPerson 17 = .ok (.iconst 1, 1) := by decide +kernel
theorem dX6_addPerson_18 : decode cX6_addPerson 18 = .ok (.iadd, 1) := by decide +kernel
theorem dX6_addPerson_19 : decode cX6_addPerson 19 = .ok (.putfield 33, 3) := by decide +kernel
theorem dX6_addPerson_22 : decode cX6_addPerson 22 = .ok (.aload_n 1, 1) := by decide +kernel
theorem dX6_addPerson_23 : decode cX6_addPerson 23 = .ok (.getfield 65, 3) := by decide +kernel
theorem dX6_addPerson_26 : decode cX6_addPerson 26 = .ok (.iconst (-1), 1) := by decide +kernel
theorem dX6_addPerson_27 : decode cX6_addPerson 27 = .ok (.if_icmp .eq 47, 3) := by decide +kernel
theorem dX6_addPerson_30 : decode cX6_addPerson 30 = .ok (.aload_n 0, 1) := by decide +kernel
theorem dX6_addPerson_31 : decode cX6_addPerson 31 = .ok (.iload_n 2, 1) := by decide +kernel
theorem dX6_addPerson_32 : decode cX6_addPerson 32 = .ok (.aload_n 1, 1) := by decide +kernel
theorem dX6_addPerson_33 : decode cX6_addPerson 33 = .ok (.getfield 65, 3) := by decide +kernel
theorem dX6_addPerson_36 : decode cX6_addPerson 36 = .ok (.invokevirtual 68, 3) := by decide +kernel
theorem dX6_addPerson_39 : decode cX6_addPerson 39 = .ok (.iconst 0, 1) := by decide +kernel
theorem dX6_addPerson_40 : decode cX6_addPerson 40 = .ok (.istore_n 3, 1) := by decide +kernel
theorem dX6_addPerson_41 : decode cX6_addPerson 41 = .ok (.iload_n 3, 1) := by decide +kernel
theorem dX6_addPerson_42 : decode cX6_addPerson 42 = .ok (.iload_n 2, 1) := by decide +kernel
theorem dX6_addPerson_43 : decode cX6_addPerson 43 = .ok (.if_icmp .ge 31, 3) := by decide +kernel
theorem dX6_addPerson_46 : decode cX6_addPerson 46 = .ok (.aload_n 0, 1) := by decide +kernel
theorem dX6_addPerson_47 : decode cX6_addPerson 47 = .ok (.getfield 19, 3) := by decide +kernel
theorem dX6_addPerson_50 : decode cX6_addPerson 50 = .ok (.iload_n 3, 1) := by decide +kernel
theorem dX6_addPerson_51 : decode cX6_addPerson 51 = .ok (.aaload, 1) := by decide +kernel
theorem dX6_addPerson_52 : decode cX6_addPerson 52 = .ok (.getfield 65, 3) := by decide +kernel
theorem dX6_addPerson_55 : decode cX6_addPerson 55 = .ok (.aload_n 1, 1) := by decide +kernel
theorem dX6_addPerson_56 : decode cX6_addPerson 56 = .ok (.getfield 65, 3) := by decide +kernel
theorem dX6_addPerson_59 : decode cX6_addPerson 59 = .ok (.if_icmp .ne 9, 3) := by decide +kernel
theorem dX6_addPerson_62 : decode cX6_addPerson 62 = .ok (.aload_n 0, 1) := by decide +kernel
theorem dX6_addPerson_63 : decode cX6_addPerson 63 = .ok (.iload_n 2, 1) := by decide +kernel
theorem dX6_addPerson_64 : decode cX6_addPerson 64 = .ok (.iload_n 3, 1) := by decide +kernel
theorem dX6_addPerson_65 : decode cX6_addPerson 65 = .ok (.invokevirtual 68, 3) := by decide +kernel
theorem dX6_addPerson_68 : decode cX6_addPerson 68 = .ok (.iinc 3 1, 3) := by decide +kernel
theorem dX6_addPerson_71 : decode cX6_addPerson 71 = .ok (.goto (-30), 3) := by decide +kernel
theorem dX6_addPerson_74 : decode cX6_addPerson 74 = .ok (.iload_n 2, 1) := by decide +kernel
theorem dX6_addPerson_75 : decode cX6_addPerson 75 = .ok (.ireturn, 1) := by decide +kernel
theorem dX6_tie_0 : decode cX6_tie 0 = .ok (.aload_n 0, 1) := by decide +kernel
theorem dX6_tie_1 : decode cX6_tie 1 = .ok (.getfield 19, 3) := by decide +kernel
theorem dX6_tie_4 : decode cX6_tie 4 = .ok (.iload_n 1, 1) := by decide +kernel
theorem dX6_tie_5 : decode cX6_tie 5 = .ok (.aaload, 1) := by decide +kernel
theorem dX6_tie_6 : decode cX6_tie 6 = .ok (.dup, 1) := by decide +kernel
theorem dX6_tie_7 : decode cX6_tie 7 = .ok (.getfield 72, 3) := by decide +kernel
theorem dX6_tie_10 : decode cX6_tie 10 = .ok (.iconst 1, 1) := by decide +kernel
theorem dX6_tie_11 : decode cX6_tie 11 = .ok (.iload_n 2, 1) := by decide +kernel
theorem dX6_tie_12 : decode cX6_tie 12 = .ok (.ishl, 1) := by decide +kernel
theorem dX6_tie_13 : decode cX6_tie 13 = .ok (.ior, 1) := by decide +kernel
theorem dX6_tie_14 : decode cX6_tie 14 = .ok (.putfield 72, 3) := by decide +kernel
theorem dX6_tie_17 : decode cX6_tie 17 = .ok (.aload_n 0, 1) := by decide +kernel
theorem dX6_tie_18 : decode cX6_tie 18 = .ok (.getfield 19, 3) := by decide +kernel
theorem dX6_tie_21 : decode cX6_tie 21 = .ok (.iload_n 2, 1) := by decide +kernel
theorem dX6_tie_22 : decode cX6_tie 22 = .ok (.aaload, 1) := by decide +kernel
theorem dX6_tie_23 : decode cX6_tie 23 = .ok (.dup, 1) := by decide +kernel
theorem dX6_tie_24 : decode cX6_tie 24 = .ok (.getfield 72, 3) := by decide +kernel
theorem dX6_tie_27 : decode cX6_tie 27 = .ok (.iconst 1, 1) := by decide +kernel
theorem dX6_tie_28 : decode cX6_tie 28 = .ok (.iload_n 1, 1) := by decide +kernel
theorem dX6_tie_29 : decode cX6_tie 29 = .ok (.ishl, 1) := by decide +kernel
theorem dX6_tie_30 : decode cX6_tie 30 = .ok (.ior, 1) := by decide +kernel
theorem dX6_tie_31 : decode cX6_tie 31 = .ok (.putfield 72, 3) := by decide +kernel
theorem dX6_tie_34 : decode cX6_tie 34 = .ok (.return_, 1) := by decide +kernel
theorem dX6_put_0 : decode cX6_put 0 = .ok (.aload_n 0, 1) := by decide +kernel
theorem dX6_put_1 : decode cX6_put 1 = .ok (.getfield 11, 3) := by decide +kernel
theorem dX6_put_4 : decode cX6_put 4 = .ok (.iload_n 2, 1) := by decide +kernel
theorem dX6_put_5 : decode cX6_put 5 = .ok (.aaload, 1) := by decide +kernel
theorem dX6_put_6 : decode cX6_put 6 = .ok (.iload_n 3, 1) := by decide +kernel
theorem dX6_put_7 : decode cX6_put 7 = .ok (.iload 4, 2) := by decide +kernel
theorem dX6_put_9 : decode cX6_put 9 = .ok (.iload_n 1, 1) := by decide +kernel
theorem dX6_put_10 : decode cX6_put 10 = .ok (.invokevirtual 75, 3) := by decide +kernel
theorem dX6_put_13 : decode cX6_put 13 = .ok (.aload_n 0, 1) := by decide +kernel
theorem dX6_put_14 : decode cX6_put 14 = .ok (.getfield 19, 3) := by decide +kernel
theorem dX6_put_17 : decode cX6_put 17 = .ok (.iload_n 1, 1) := by decide +kernel
theorem dX6_put_18 : decode cX6_put 18 = .ok (.aaload, 1) := by decide +kernel
theorem dX6_put_19 : decode cX6_put 19 = .ok (.getfield 79, 3) := by decide +kernel
theorem dX6_put_22 : decode cX6_put 22 = .ok (.iload_n 3, 1) := by decide +kernel
theorem dX6_put_23 : decode cX6_put 23 = .ok (.iload_n 2, 1) := by decide +kernel
theorem dX6_put_24 : decode cX6_put 24 = .ok (.i2b, 1) := by decide +kernel
theorem dX6_put_25 : decode cX6_put 25 = .ok (.bastore, 1) := by decide +kernel
theorem dX6_put_26 : decode cX6_put 26 = .ok (.aload_n 0, 1) := by decide +kernel
theorem dX6_put_27 : decode cX6_put 27 = .ok (.dup, 1) := by decide +kernel
theorem dX6_put_28 : decode cX6_put 28 = .ok (.getfield 39, 3) := by decide +kernel
theorem dX6_put_31 : decode cX6_put 31 = .ok (.iconst 1, 1) := by decide +kernel
theorem dX6_put_32 : decode cX6_put 32 = .ok (.iadd, 1) := by decide +kernel
theorem dX6_put_33 : decode cX6_put 33 = .ok (.putfield 39, 3) := by decide +kernel
theorem dX6_put_36 : decode cX6_put 36 = .ok (.return_, 1) := by decide +kernel
theorem dX6_vacate_0 : decode cX6_vacate 0 = .ok (.aload_n 0, 1) := by decide +kernel
theorem dX6_vacate_1 : decode cX6_vacate 1 = .ok (.getfield 11, 3) := by decide +kernel
theorem dX6_vacate_4 : decode cX6_vacate 4 = .ok (.iload_n 2, 1) := by decide +kernel
theorem dX6_vacate_5 : decode cX6_vacate 5 = .ok (.aaload, 1) := by decide +kernel
theorem dX6_vacate_6 : decode cX6_vacate 6 = .ok (.iload_n 3, 1) := by decide +kernel
theorem dX6_vacate_7 : decode cX6_vacate 7 = .ok (.iload 4, 2) := by decide +kernel
theorem dX6_vacate_9 : decode cX6_vacate 9 = .ok (.invokevirtual 83, 3) := by decide +kernel
theorem dX6_vacate_12 : decode cX6_vacate 12 = .ok (.ifCond .eq 13, 3) := by decide +kernel
theorem dX6_vacate_15 : decode cX6_vacate 15 = .ok (.aload_n 0, 1) := by decide +kernel
theorem dX6_vacate_16 : decode cX6_vacate 16 = .ok (.dup, 1) := by decide +kernel
theorem dX6_vacate_17 : decode cX6_vacate 17 = .ok (.getfield 42, 3) := by decide +kernel
theorem dX6_vacate_20 : decode cX6_vacate 20 = .ok (.iconst 1, 1) := by decide +kernel
theorem dX6_vacate_21 : decode cX6_vacate 21 = .ok (.isub, 1) := by decide +kernel
theorem dX6_vacate_22 : decode cX6_vacate 22 = .ok (.putfield 42, 3) := by decide +kernel
theorem dX6_vacate_25 : decode cX6_vacate 25 = .ok (.aload_n 0, 1) := by decide +kernel
theorem dX6_vacate_26 : decode cX6_vacate 26 = .ok (.getfield 11, 3) := by decide +kernel
theorem dX6_vacate_29 : decode cX6_vacate 29 = .ok (.iload_n 2, 1) := by decide +kernel
theorem dX6_vacate_30 : decode cX6_vacate 30 = .ok (.aaload, 1) := by decide +kernel
theorem dX6_vacate_31 : decode cX6_vacate 31 = .ok (.iload_n 3, 1) := by decide +kernel
theorem dX6_vacate_32 : decode cX6_vacate 32 = .ok (.iload 4, 2) := by decide +kernel
theorem dX6_vacate_34 : decode cX6_vacate 34 = .ok (.iconst (-1), 1) := by decide +kernel
theorem dX6_vacate_35 : decode cX6_vacate 35 = .ok (.invokevirtual 75, 3) := by decide +kernel
theorem dX6_vacate_38 : decode cX6_vacate 38 = .ok (.aload_n 0, 1) := by decide +kernel
theorem dX6_vacate_39 : decode cX6_vacate 39 = .ok (.getfield 19, 3) := by decide +kernel
theorem dX6_vacate_42 : decode cX6_vacate 42 = .ok (.iload_n 1, 1) := by decide +kernel
theorem dX6_vacate_43 : decode cX6_vacate 43 = .ok (.aaload, 1) := by decide +kernel
theorem dX6_vacate_44 : decode cX6_vacate 44 = .ok (.getfield 79, 3) := by decide +kernel
theorem dX6_vacate_47 : decode cX6_vacate 47 = .ok (.iload_n 3, 1) := by decide +kernel
theorem dX6_vacate_48 : decode cX6_vacate 48 = .ok (.iconst (-1), 1) := by decide +kernel
theorem dX6_vacate_49 : decode cX6_vacate 49 = .ok (.bastore, 1) := by decide +kernel
theorem dX6_vacate_50 : decode cX6_vacate 50 = .ok (.aload_n 0, 1) := by decide +kernel
theorem dX6_vacate_51 : decode cX6_vacate 51 = .ok (.dup, 1) := by decide +kernel
theorem dX6_vacate_52 : decode cX6_vacate 52 = .ok (.getfield 39, 3) := by decide +kernel
theorem dX6_vacate_55 : decode cX6_vacate 55 = .ok (.iconst 1, 1) := by decide +kernel
theorem dX6_vacate_56 : decode cX6_vacate 56 = .ok (.isub, 1) := by decide +kernel
theorem dX6_vacate_57 : decode cX6_vacate 57 = .ok (.putfield 39, 3) := by decide +kernel
theorem dX6_vacate_60 : decode cX6_vacate 60 = .ok (.return_, 1) := by decide +kernel
theorem dX6_mark_0 : decode cX6_mark 0 = .ok (.iload 5, 2) := by decide +kernel
theorem dX6_mark_2 : decode cX6_mark 2 = .ok (.ifCond .eq 8, 3) := by decide +kernel
theorem dX6_mark_5 : decode cX6_mark 5 = .ok (.bipush 100, 2) := by decide +kernel
theorem dX6_mark_7 : decode cX6_mark 7 = .ok (.goto 4, 3) := by decide +kernel
theorem dX6_mark_10 : decode cX6_mark 10 = .ok (.iconst 0, 1) := by decide +kernel
theorem dX6_mark_11 : decode cX6_mark 11 = .ok (.istore 6, 2) := by decide +kernel
theorem dX6_mark_13 : decode cX6_mark 13 = .ok (.aload_n 0, 1) := by decide +kernel
theorem dX6_mark_14 : decode cX6_mark 14 = .ok (.getfield 11, 3) := by decide +kernel
theorem dX6_mark_17 : decode cX6_mark 17 = .ok (.iload_n 2, 1) := by decide +kernel
theorem dX6_mark_18 : decode cX6_mark 18 = .ok (.aaload, 1) := by decide +kernel
theorem dX6_mark_19 : decode cX6_mark 19 = .ok (.iload_n 3, 1) := by decide +kernel
theorem dX6_mark_20 : decode cX6_mark 20 = .ok (.iload 4, 2) := by decide +kernel
theorem dX6_mark_22 : decode cX6_mark 22 = .ok (.iload_n 1, 1) := by decide +kernel
theorem dX6_mark_23 : decode cX6_mark 23 = .ok (.iload 6, 2) := by decide +kernel
theorem dX6_mark_25 : decode cX6_mark 25 = .ok (.iadd, 1) := by decide +kernel
theorem dX6_mark_26 : decode cX6_mark 26 = .ok (.invokevirtual 75, 3) := by decide +kernel
theorem dX6_mark_29 : decode cX6_mark 29 = .ok (.aload_n 0, 1) := by decide +kernel
theorem dX6_mark_30 : decode cX6_mark 30 = .ok (.getfield 19, 3) := by decide +kernel
theorem dX6_mark_33 : decode cX6_mark 33 = .ok (.iload_n 1, 1) := by decide +kernel
theorem dX6_mark_34 : decode cX6_mark 34 = .ok (.aaload, 1) := by decide +kernel
theorem dX6_mark_35 : decode cX6_mark 35 = .ok (.getfield 79, 3) := by decide +kernel
theorem dX6_mark_38 : decode cX6_mark 38 = .ok (.iload_n 3, 1) := by decide +kernel
theorem dX6_mark_39 : decode cX6_mark 39 = .ok (.iload_n 2, 1) := by decide +kernel
theorem dX6_mark_40 : decode cX6_mark 40 = .ok (.iload 6, 2) := by decide +kernel
theorem dX6_mark_42 : decode cX6_mark 42 = .ok (.iadd, 1) := by decide +kernel
theorem dX6_mark_43 : decode cX6_mark 43 = .ok (.i2b, 1) := by decide +kernel
theorem dX6_mark_44 : decode cX6_mark 44 = .ok (.bastore, 1) := by decide +kernel
theorem dX6_mark_45 : decode cX6_mark 45 = .ok (.aload_n 0, 1) := by decide +kernel
theorem dX6_mark_46 : decode cX6_mark 46 = .ok (.dup, 1) := by decide +kernel
theorem dX6_mark_47 : decode cX6_mark 47 = .ok (.getfield 42, 3) := by decide +kernel
theorem dX6_mark_50 : decode cX6_mark 50 = .ok (.iload 5, 2) := by decide +kernel
theorem dX6_mark_52 : decode cX6_mark 52 = .ok (.ifCond .eq 7, 3) := by decide +kernel
theorem dX6_mark_55 : decode cX6_mark 55 = .ok (.iconst 1, 1) := by decide +kernel
theorem dX6_mark_56 : decode cX6_mark 56 = .ok (.goto 4, 3) := by decide +kernel
theorem dX6_mark_59 : decode cX6_mark 59 = .ok (.iconst (-1), 1) := by decide +kernel
theorem dX6_mark_60 : decode cX6_mark 60 = .ok (.iadd, 1) := by decide +kernel
theorem dX6_mark_61 : decode cX6_mark 61 = .ok (.putfield 42, 3) := by decide +kernel
theorem dX6_mark_64 : decode cX6_mark 64 = .ok (.return_, 1) := by decide +kernel
theorem dX6_firstBar_0 : decode cX6_firstBar 0 = .ok (.aload_n 0, 1) := by decide +kernel
theorem dX6_firstBar_1 : decode cX6_firstBar 1 = .ok (.getfield 19, 3) := by decide +kernel
theorem dX6_firstBar_4 : decode cX6_firstBar 4 = .ok (.iload_n 1, 1) := by decide +kernel
theorem dX6_firstBar_5 : decode cX6_firstBar 5 = .ok (.aaload, 1) := by decide +kernel
theorem dX6_firstBar_6 : decode cX6_firstBar 6 = .ok (.astore 5, 2) := by decide +kernel
theorem dX6_firstBar_8 : decode cX6_firstBar 8 = .ok (.iload_n 3, 1) := by decide +kernel
theorem dX6_firstBar_9 : decode cX6_firstBar 9 = .ok (.aload 5, 2) := by decide +kernel
theorem dX6_firstBar_11 : decode cX6_firstBar 11 = .ok (.getfield 87, 3) := by decide +kernel
theorem dX6_firstBar_14 : decode cX6_firstBar 14 = .ok (.if_icmp .lt 6, 3) := by decide +kernel
theorem dX6_firstBar_17 : decode cX6_firstBar 17 = .ok (.bipush (-4), 2) := by decide +kernel
theorem dX6_firstBar_19 : decode cX6_firstBar 19 = .ok (.ireturn, 1) := by decide +kernel
theorem dX6_firstBar_20 : decode cX6_firstBar 20 = .ok (.iload_n 3, 1) := by decide +kernel
theorem dX6_firstBar_21 : decode cX6_firstBar 21 = .ok (.aload 5, 2) := by decide +kernel
theorem dX6_firstBar_23 : decode cX6_firstBar 23 = .ok (.getfield 90, 3) := by decide +kernel
theorem dX6_firstBar_26 : decode cX6_firstBar 26 = .ok (.if_icmp .ge 6, 3) := by decide +kernel
theorem dX6_firstBar_29 : decode cX6_firstBar 29 = .ok (.bipush (-5), 2) := by decide +kernel
theorem dX6_firstBar_31 : decode cX6_firstBar 31 = .ok (.ireturn, 1) := by decide +kernel
theorem dX6_firstBar_32 : decode cX6_firstBar 32 = .ok (.iload_n 3, 1) := by decide +kernel
theorem dX6_firstBar_33 : decode cX6_firstBar 33 = .ok (.aload 5, 2) := by decide +kernel
theorem dX6_firstBar_35 : decode cX6_firstBar 35 = .ok (.getfield 93, 3) := by decide +kernel
theorem dX6_firstBar_38 : decode cX6_firstBar 38 = .ok (.if_icmp .lt 15, 3) := by decide +kernel
theorem dX6_firstBar_41 : decode cX6_firstBar 41 = .ok (.iload_n 3, 1) := by decide +kernel
theorem dX6_firstBar_42 : decode cX6_firstBar 42 = .ok (.aload 5, 2) := by decide +kernel
theorem dX6_firstBar_44 : decode cX6_firstBar 44 = .ok (.getfield 96, 3) := by decide +kernel
theorem dX6_firstBar_47 : decode cX6_firstBar 47 = .ok (.if_icmp .gt 6, 3) := by decide +kernel
theorem dX6_firstBar_50 : decode cX6_firstBar 50 = .ok (.bipush (-6), 2) := by decide +kernel
theorem dX6_firstBar_52 : decode cX6_firstBar 52 = .ok (.ireturn, 1) := by decide +kernel
theorem dX6_firstBar_53 : decode cX6_firstBar 53 = .ok (.iload 4, 2) := by decide +kernel
theorem dX6_firstBar_55 : decode cX6_firstBar 55 = .ok (.ifCond .eq 17, 3) := by decide +kernel
theorem dX6_firstBar_58 : decode cX6_firstBar 58 = .ok (.aload 5, 2) := by decide +kernel
theorem dX6_firstBar_60 : decode cX6_firstBar 60 = .ok (.getfield 79, 3) := by decide +kernel
theorem dX6_firstBar_63 : decode cX6_firstBar 63 = .ok (.iload_n 3, 1) := by decide +kernel
theorem dX6_firstBar_64 : decode cX6_firstBar 64 = .ok (.baload, 1) := by decide +kernel
theorem dX6_firstBar_65 : decode cX6_firstBar 65 = .ok (.iconst (-1), 1) := by decide +kernel
theorem dX6_firstBar_66 : decode cX6_firstBar 66 = .ok (.if_icmp .eq 6, 3) := by decide +kernel
theorem dX6_firstBar_69 : decode cX6_firstBar 69 = .ok (.bipush (-7), 2) := by decide +kernel
theorem dX6_firstBar_71 : decode cX6_firstBar 71 = .ok (.ireturn, 1) := by decide +kernel
theorem dX6_firstBar_72 : decode cX6_firstBar 72 = .ok (.aload_n 0, 1) := by decide +kernel
theorem dX6_firstBar_73 : decode cX6_firstBar 73 = .ok (.getfield 11, 3) := by decide +kernel
theorem dX6_firstBar_76 : decode cX6_firstBar 76 = .ok (.iload_n 2, 1) := by decide +kernel
theorem dX6_firstBar_77 : decode cX6_firstBar 77 = .ok (.aaload, 1) := by decide +kernel
theorem dX6_firstBar_78 : decode cX6_firstBar 78 = .ok (.getfield 99, 3) := by decide +kernel
theorem dX6_firstBar_81 : decode cX6_firstBar 81 = .ok (.ifCond .eq 6, 3) := by decide +kernel
theorem dX6_firstBar_84 : decode cX6_firstBar 84 = .ok (.bipush (-2), 2) := by decide +kernel
theorem dX6_firstBar_86 : decode cX6_firstBar 86 = .ok (.ireturn, 1) := by decide +kernel
theorem dX6_firstBar_87 : decode cX6_firstBar 87 = .ok (.aload_n 0, 1) := by decide +kernel
theorem dX6_firstBar_88 : decode cX6_firstBar 88 = .ok (.getfield 48, 3) := by decide +kernel
theorem dX6_firstBar_91 : decode cX6_firstBar 91 = .ok (.aload 5, 2) := by decide +kernel
theorem dX6_firstBar_93 : decode cX6_firstBar 93 = .ok (.aload_n 0, 1) := by decide +kernel
theorem dX6_firstBar_94 : decode cX6_firstBar 94 = .ok (.getfield 11, 3) := by decide +kernel
theorem dX6_firstBar_97 : decode cX6_firstBar 97 = .ok (.iload_n 2, 1) := by decide +kernel
theorem dX6_firstBar_98 : decode cX6_firstBar 98 = .ok (.aaload, 1) := by decide +kernel
theorem dX6_firstBar_99 : decode cX6_firstBar 99 = .ok (.iload_n 2, 1) := by decide +kernel
theorem dX6_firstBar_100 : decode cX6_firstBar 100 = .ok (.iload_n 3, 1) := by decide +kernel
theorem dX6_firstBar_101 : decode cX6_firstBar 101 = .ok (.invokevirtual 103, 3) := by decide +kernel
theorem dX6_firstBar_104 : decode cX6_firstBar 104 = .ok (.iconst 0, 1) := by decide +kernel
theorem dX6_firstBar_105 : decode cX6_firstBar 105 = .ok (.istore 6, 2) := by decide +kernel
theorem dX6_firstBar_107 : decode cX6_firstBar 107 = .ok (.iload 6, 2) := by decide +kernel
theorem dX6_firstBar_109 : decode cX6_firstBar 109 = .ok (.aload_n 0, 1) := by decide +kernel
theorem dX6_firstBar_110 : decode cX6_firstBar 110 = .ok (.getfield 36, 3) := by decide +kernel
theorem dX6_firstBar_113 : decode cX6_firstBar 113 = .ok (.if_icmp .ge 47, 3) := by decide +kernel
theorem dX6_firstBar_116 : decode cX6_firstBar 116 = .ok (.aload_n 0, 1) := by decide +kernel
theorem dX6_firstBar_117 : decode cX6_firstBar 117 = .ok (.getfield 25, 3) := by decide +kernel
theorem dX6_firstBar_120 : decode cX6_firstBar 120 = .ok (.iload 6, 2) := by decide +kernel
theorem dX6_firstBar_122 : decode cX6_firstBar 122 = .ok (.aaload, 1) := by decide +kernel
theorem dX6_firstBar_123 : decode cX6_firstBar 123 = .ok (.iload_n 2, 1) := by decide +kernel
theorem dX6_firstBar_124 : decode cX6_firstBar 124 = .ok (.iload_n 3, 1) := by decide +kernel
theorem dX6_firstBar_125 : decode cX6_firstBar 125 = .ok (.invokevirtual 107, 3) := by decide +kernel
theorem dX6_firstBar_128 : decode cX6_firstBar 128 = .ok (.ifCond .eq 26, 3) := by decide +kernel
theorem dX6_firstBar_131 : decode cX6_firstBar 131 = .ok (.aload_n 0, 1) := by decide +kernel
theorem dX6_firstBar_132 : decode cX6_firstBar 132 = .ok (.getfield 25, 3) := by decide +kernel
theorem dX6_firstBar_135 : decode cX6_firstBar 135 = .ok (.iload 6, 2) := by decide +kernel
theorem dX6_firstBar_137 : decode cX6_firstBar 137 = .ok (.aaload, 1) := by decide +kernel
theorem dX6_firstBar_138 : decode cX6_firstBar 138 = .ok (.aload 5, 2) := by decide +kernel
theorem dX6_firstBar_140 : decode cX6_firstBar 140 = .ok (.iload_n 3, 1) := by decide +kernel
theorem dX6_firstBar_141 : decode cX6_firstBar 141 = .ok (.aload_n 0, 1) := by decide +kernel
theorem dX6_firstBar_142 : decode cX6_firstBar 142 = .ok (.getfield 48, 3) := by decide +kernel
theorem dX6_firstBar_145 : decode cX6_firstBar 145 = .ok (.invokevirtual 110, 3) := by decide +kernel
theorem dX6_firstBar_148 : decode cX6_firstBar 148 = .ok (.ifCond .eq 6, 3) := by decide +kernel
theorem dX6_firstBar_151 : decode cX6_firstBar 151 = .ok (.iload 6, 2) := by decide +kernel
theorem dX6_firstBar_153 : decode cX6_firstBar 153 = .ok (.ireturn, 1) := by decide +kernel
theorem dX6_firstBar_154 : decode cX6_firstBar 154 = .ok (.iinc 6 1, 3) := by decide +kernel
theorem dX6_firstBar_157 : decode cX6_firstBar 157 = .ok (.goto (-50), 3) := by decide +kernel
theorem dX6_firstBar_160 : decode cX6_firstBar 160 = .ok (.bipush (-2), 2) := by decide +kernel
theorem dX6_firstBar_162 : decode cX6_firstBar 162 = .ok (.ireturn, 1) := by decide +kernel
theorem dX6_level_0 : decode cX6_level 0 = .ok (.aload_n 0, 1) := by decide +kernel
theorem dX6_level_1 : decode cX6_level 1 = .ok (.iload_n 1, 1) := by decide +kernel
theorem dX6_level_2 : decode cX6_level 2 = .ok (.iload_n 2, 1) := by decide +kernel
theorem dX6_level_3 : decode cX6_level 3 = .ok (.iload_n 3, 1) := by decide +kernel
theorem dX6_level_4 : decode cX6_level 4 = .ok (.iconst 1, 1) := by decide +kernel
theorem dX6_level_5 : decode cX6_level 5 = .ok (.invokevirtual 114, 3) := by decide +kernel
theorem dX6_level_8 : decode cX6_level 8 = .ok (.bipush (-2), 2) := by decide +kernel
theorem dX6_level_10 : decode cX6_level 10 = .ok (.if_icmp .eq 5, 3) := by decide +kernel
theorem dX6_level_13 : decode cX6_level 13 = .ok (.iconst 0, 1) := by decide +kernel
theorem dX6_level_14 : decode cX6_level 14 = .ok (.ireturn, 1) := by decide +kernel
theorem dX6_level_15 : decode cX6_level 15 = .ok (.aload_n 0, 1) := by decide +kernel
theorem dX6_level_16 : decode cX6_level 16 = .ok (.getfield 11, 3) := by decide +kernel
theorem dX6_level_19 : decode cX6_level 19 = .ok (.iload_n 2, 1) := by decide +kernel
theorem dX6_level_20 : decode cX6_level 20 = .ok (.aaload, 1) := by decide +kernel
theorem dX6_level_21 : decode cX6_level 21 = .ok (.getfield 99, 3) := by decide +kernel
theorem dX6_level_24 : decode cX6_level 24 = .ok (.ifCond .eq 5, 3) := by decide +kernel
theorem dX6_level_27 : decode cX6_level 27 = .ok (.iconst 2, 1) := by decide +kernel
theorem dX6_level_28 : decode cX6_level 28 = .ok (.ireturn, 1) := by decide +kernel
theorem dX6_level_29 : decode cX6_level 29 = .ok (.iconst 0, 1) := by decide +kernel
theorem dX6_level_30 : decode cX6_level 30 = .ok (.istore 4, 2) := by decide +kernel
theorem dX6_level_32 : decode cX6_level 32 = .ok (.iload 4, 2) := by decide +kernel
theorem dX6_level_34 : decode cX6_level 34 = .ok (.aload_n 0, 1) := by decide +kernel
theorem dX6_level_35 : decode cX6_level 35 = .ok (.getfield 36, 3) := by decide +kernel
theorem dX6_level_38 : decode cX6_level 38 = .ok (.if_icmp .ge 46, 3) := by decide +kernel
theorem dX6_level_41 : decode cX6_level 41 = .ok (.aload_n 0, 1) := by decide +kernel
theorem dX6_level_42 : decode cX6_level 42 = .ok (.getfield 25, 3) := by decide +kernel
theorem dX6_level_45 : decode cX6_level 45 = .ok (.iload 4, 2) := by decide +kernel
theorem dX6_level_47 : decode cX6_level 47 = .ok (.aaload, 1) := by decide +kernel
theorem dX6_level_48 : decode cX6_level 48 = .ok (.iload_n 2, 1) := by decide +kernel
theorem dX6_level_49 : decode cX6_level 49 = .ok (.iload_n 3, 1) := by decide +kernel
theorem dX6_level_50 : decode cX6_level 50 = .ok (.invokevirtual 107, 3) := by decide +kernel
theorem dX6_level_53 : decode cX6_level 53 = .ok (.ifCond .eq 25, 3) := by decide +kernel
theorem dX6_level_56 : decode cX6_level 56 = .ok (.aload_n 0, 1) := by decide +kernel
theorem dX6_level_57 : decode cX6_level 57 = .ok (.getfield 25, 3) := by decide +kernel
theorem dX6_level_60 : decode cX6_level 60 = .ok (.iload 4, 2) := by decide +kernel
theorem dX6_level_62 : decode cX6_level 62 = .ok (.aaload, 1) := by decide +kernel
theorem dX6_level_63 : decode cX6_level 63 = .ok (.aload_n 0, 1) := by decide +kernel
theorem dX6_level_64 : decode cX6_level 64 = .ok (.getfield 19, 3) := by decide +kernel
theorem dX6_level_67 : decode cX6_level 67 = .ok (.iload_n 1, 1) := by decide +kernel
theorem dX6_level_68 : decode cX6_level 68 = .ok (.aaload, 1) := by decide +kernel
theorem dX6_level_69 : decode cX6_level 69 = .ok (.iload_n 3, 1) := by decide +kernel
theorem dX6_level_70 : decode cX6_level 70 = .ok (.invokevirtual 118, 3) := by decide +kernel
theorem dX6_level_73 : decode cX6_level 73 = .ok (.ifCond .eq 5, 3) := by decide +kernel
theorem dX6_level_76 : decode cX6_level 76 = .ok (.iconst 1, 1) := by decide +kernel
theorem dX6_level_77 : decode cX6_level 77 = .ok (.ireturn, 1) := by decide +kernel
theorem dX6_level_78 : decode cX6_level 78 = .ok (.iinc 4 1, 3) := by decide +kernel
theorem dX6_level_81 : decode cX6_level 81 = .ok (.goto (-49), 3) := by decide +kernel
theorem dX6_level_84 : decode cX6_level 84 = .ok (.iconst 2, 1) := by decide +kernel
theorem dX6_level_85 : decode cX6_level 85 = .ok (.ireturn, 1) := by decide +kernel
theorem dX6_breachesIn_0 : decode cX6_breachesIn 0 = .ok (.aload_n 0, 1) := by decide +kernel
theorem dX6_breachesIn_1 : decode cX6_breachesIn 1 = .ok (.getfield 11, 3) := by decide +kernel
theorem dX6_breachesIn_4 : decode cX6_breachesIn 4 = .ok (.iload_n 1, 1) := by decide +kernel
theorem dX6_breachesIn_5 : decode cX6_breachesIn 5 = .ok (.aaload, 1) := by decide +kernel
theorem dX6_breachesIn_6 : decode cX6_breachesIn 6 = .ok (.astore_n 3, 1) := by decide +kernel
theorem dX6_breachesIn_7 : decode cX6_breachesIn 7 = .ok (.iconst 0, 1) := by decide +kernel
theorem dX6_breachesIn_8 : decode cX6_breachesIn 8 = .ok (.istore 4, 2) := by decide +kernel
theorem dX6_breachesIn_10 : decode cX6_breachesIn 10 = .ok (.iconst 0, 1) := by decide +kernel
theorem dX6_breachesIn_11 : decode cX6_breachesIn 11 = .ok (.istore 5, 2) := by decide +kernel
theorem dX6_breachesIn_13 : decode cX6_breachesIn 13 = .ok (.iload 5, 2) := by decide +kernel
theorem dX6_breachesIn_15 : decode cX6_breachesIn 15 = .ok (.aload_n 3, 1) := by decide +kernel
theorem dX6_breachesIn_16 : decode cX6_breachesIn 16 = .ok (.getfield 59, 3) := by decide +kernel
theorem dX6_breachesIn_19 : decode cX6_breachesIn 19 = .ok (.if_icmp .ge 48, 3) := by decide +kernel
theorem dX6_breachesIn_22 : decode cX6_breachesIn 22 = .ok (.aload_n 3, 1) := by decide +kernel
theorem dX6_breachesIn_23 : decode cX6_breachesIn 23 = .ok (.iload_n 2, 1) := by decide +kernel
theorem dX6_breachesIn_24 : decode cX6_breachesIn 24 = .ok (.iload 5, 2) := by decide +kernel
theorem dX6_breachesIn_26 : decode cX6_breachesIn 26 = .ok (.invokevirtual 122, 3) := by decide +kernel
theorem dX6_breachesIn_29 : decode cX6_breachesIn 29 = .ok (.istore 6, 2) := by decide +kernel
theorem dX6_breachesIn_31 : decode cX6_breachesIn 31 = .ok (.iload 6, 2) := by decide +kernel
theorem dX6_breachesIn_33 : decode cX6_breachesIn 33 = .ok (.iconst (-1), 1) := by decide +kernel
theorem dX6_breachesIn_34 : decode cX6_breachesIn 34 = .ok (.if_icmp .eq 27, 3) := by decide +kernel
theorem dX6_breachesIn_37 : decode cX6_breachesIn 37 = .ok (.iload 6, 2) := by decide +kernel
theorem dX6_breachesIn_39 : decode cX6_breachesIn 39 = .ok (.bipush 100, 2) := by decide +kernel
theorem dX6_breachesIn_41 : decode cX6_breachesIn 41 = .ok (.if_icmp .ge 20, 3) := by decide +kernel
theorem dX6_breachesIn_44 : decode cX6_breachesIn 44 = .ok (.aload_n 0, 1) := by decide +kernel
theorem dX6_breachesIn_45 : decode cX6_breachesIn 45 = .ok (.iload 6, 2) := by decide +kernel
theorem dX6_breachesIn_47 : decode cX6_breachesIn 47 = .ok (.iload_n 1, 1) := by decide +kernel
theorem dX6_breachesIn_48 : decode cX6_breachesIn 48 = .ok (.iload_n 2, 1) := by decide +kernel
theorem dX6_breachesIn_49 : decode cX6_breachesIn 49 = .ok (.iconst 0, 1) := by decide +kernel
theorem dX6_breachesIn_50 : decode cX6_breachesIn 50 = .ok (.invokevirtual 114, 3) := by decide +kernel
theorem dX6_breachesIn_53 : decode cX6_breachesIn 53 = .ok (.bipush (-2), 2) := by decide +kernel
theorem dX6_breachesIn_55 : decode cX6_breachesIn 55 = .ok (.if_icmp .eq 6, 3) := by decide +kernel
theorem dX6_breachesIn_58 : decode cX6_breachesIn 58 = .ok (.iinc 4 1, 3) := by decide +kernel
theorem dX6_breachesIn_61 : decode cX6_breachesIn 61 = .ok (.iinc 5 1, 3) := by decide +kernel
theorem dX6_breachesIn_64 : decode cX6_breachesIn 64 = .ok (.goto (-51), 3) := by decide +kernel
theorem dX6_breachesIn_67 : decode cX6_breachesIn 67 = .ok (.iload 4, 2) := by decide +kernel
theorem dX6_breachesIn_69 : decode cX6_breachesIn 69 = .ok (.ireturn, 1) := by decide +kernel
theorem dX6_kinLawBinds_0 : decode cX6_kinLawBinds 0 = .ok (.aload_n 0, 1) := by decide +kernel
theorem dX6_kinLawBinds_1 : decode cX6_kinLawBinds 1 = .ok (.getfield 11, 3) := by decide +kernel
theorem dX6_kinLawBinds_4 : decode cX6_kinLawBinds 4 = .ok (.iload_n 1, 1) := by decide +kernel
theorem dX6_kinLawBinds_5 : decode cX6_kinLawBinds 5 = .ok (.aaload, 1) := by decide +kernel
theorem dX6_kinLawBinds_6 : decode cX6_kinLawBinds 6 = .ok (.getfield 99, 3) := by decide +kernel
theorem dX6_kinLawBinds_9 : decode cX6_kinLawBinds 9 = .ok (.ifCond .eq 5, 3) := by decide +kernel
theorem dX6_kinLawBinds_12 : decode cX6_kinLawBinds 12 = .ok (.iconst 0, 1) := by decide +kernel
theorem dX6_kinLawBinds_13 : decode cX6_kinLawBinds 13 = .ok (.ireturn, 1) := by decide +kernel
theorem dX6_kinLawBinds_14 : decode cX6_kinLawBinds 14 = .ok (.iconst 0, 1) := by decide +kernel
theorem dX6_kinLawBinds_15 : decode cX6_kinLawBinds 15 = .ok (.istore_n 3, 1) := by decide +kernel
theorem dX6_kinLawBinds_16 : decode cX6_kinLawBinds 16 = .ok (.iload_n 3, 1) := by decide +kernel
theorem dX6_kinLawBinds_17 : decode cX6_kinLawBinds 17 = .ok (.aload_n 0, 1) := by decide +kernel
theorem dX6_kinLawBinds_18 : decode cX6_kinLawBinds 18 = .ok (.getfield 36, 3) := by decide +kernel
theorem dX6_kinLawBinds_21 : decode cX6_kinLawBinds 21 = .ok (.if_icmp .ge 38, 3) := by decide +kernel
theorem dX6_kinLawBinds_24 : decode cX6_kinLawBinds 24 = .ok (.aload_n 0, 1) := by decide +kernel
theorem dX6_kinLawBinds_25 : decode cX6_kinLawBinds 25 = .ok (.getfield 25, 3) := by decide +kernel
theorem dX6_kinLawBinds_28 : decode cX6_kinLawBinds 28 = .ok (.iload_n 3, 1) := by decide +kernel
theorem dX6_kinLawBinds_29 : decode cX6_kinLawBinds 29 = .ok (.aaload, 1) := by decide +kernel
theorem dX6_kinLawBinds_30 : decode cX6_kinLawBinds 30 = .ok (.getfield 126, 3) := by decide +kernel
theorem dX6_kinLawBinds_33 : decode cX6_kinLawBinds 33 = .ok (.iconst 5, 1) := by decide +kernel
theorem dX6_kinLawBinds_34 : decode cX6_kinLawBinds 34 = .ok (.if_icmp .ne 19, 3) := by decide +kernel
theorem dX6_kinLawBinds_37 : decode cX6_kinLawBinds 37 = .ok (.aload_n 0, 1) := by decide +kernel
theorem dX6_kinLawBinds_38 : decode cX6_kinLawBinds 38 = .ok (.getfield 25, 3) := by decide +kernel
theorem dX6_kinLawBinds_41 : decode cX6_kinLawBinds 41 = .ok (.iload_n 3, 1) := by decide +kernel
theorem dX6_kinLawBinds_42 : decode cX6_kinLawBinds 42 = .ok (.aaload, 1) := by decide +kernel
theorem dX6_kinLawBinds_43 : decode cX6_kinLawBinds 43 = .ok (.iload_n 1, 1) := by decide +kernel
theorem dX6_kinLawBinds_44 : decode cX6_kinLawBinds 44 = .ok (.iload_n 2, 1) := by decide +kernel
theorem dX6_kinLawBinds_45 : decode cX6_kinLawBinds 45 = .ok (.invokevirtual 107, 3) := by decide +kernel
theorem dX6_kinLawBinds_48 : decode cX6_kinLawBinds 48 = .ok (.ifCond .eq 5, 3) := by decide +kernel
theorem dX6_kinLawBinds_51 : decode cX6_kinLawBinds 51 = .ok (.iconst 1, 1) := by decide +kernel
theorem dX6_kinLawBinds_52 : decode cX6_kinLawBinds 52 = .ok (.ireturn, 1) := by decide +kernel
theorem dX6_kinLawBinds_53 : decode cX6_kinLawBinds 53 = .ok (.iinc 3 1, 3) := by decide +kernel
theorem dX6_kinLawBinds_56 : decode cX6_kinLawBinds 56 = .ok (.goto (-40), 3) := by decide +kernel
theorem dX6_kinLawBinds_59 : decode cX6_kinLawBinds 59 = .ok (.iconst 0, 1) := by decide +kernel
theorem dX6_kinLawBinds_60 : decode cX6_kinLawBinds 60 = .ok (.ireturn, 1) := by decide +kernel
theorem dX7_init_0 : decode cX7_init 0 = .ok (.aload_n 0, 1) := by decide +kernel
theorem dX7_init_1 : decode cX7_init 1 = .ok (.invokespecial 3, 3) := by decide +kernel
theorem dX7_init_4 : decode cX7_init 4 = .ok (.aload_n 0, 1) := by decide +kernel
theorem dX7_init_5 : decode cX7_init 5 = .ok (.iconst 0, 1) := by decide +kernel
theorem dX7_init_6 : decode cX7_init 6 = .ok (.putfield 9, 3) := by decide +kernel
theorem dX7_init_9 : decode cX7_init 9 = .ok (.aload_n 0, 1) := by decide +kernel
theorem dX7_init_10 : decode cX7_init 10 = .ok (.aconst_null, 1) := by decide +kernel
theorem dX7_init_11 : decode cX7_init 11 = .ok (.putfield 15, 3) := by decide +kernel
theorem dX7_init_14 : decode cX7_init 14 = .ok (.aload_n 0, 1) := by decide +kernel
theorem dX7_init_15 : decode cX7_init 15 = .ok (.iconst 0, 1) := by decide +kernel
theorem dX7_init_16 : decode cX7_init 16 = .ok (.putfield 19, 3) := by decide +kernel
theorem dX7_init_19 : decode cX7_init 19 = .ok (.aload_n 0, 1) := by decide +kernel
theorem dX7_init_20 : decode cX7_init 20 = .ok (.sipush 200, 3) := by decide +kernel
theorem dX7_init_23 : decode cX7_init 23 = .ok (.newarray .byte, 2) := by decide +kernel
theorem dX7_init_25 : decode cX7_init 25 = .ok (.putfield 22, 3) := by decide +kernel
theorem dX7_init_28 : decode cX7_init 28 = .ok (.aload_n 0, 1) := by decide +kernel
theorem dX7_init_29 : decode cX7_init 29 = .ok (.bipush 60, 2) := by decide +kernel
theorem dX7_init_31 : decode cX7_init 31 = .ok (.newarray .int, 2) := by decide +kernel
theorem dX7_init_33 : decode cX7_init 33 = .ok (.putfield 26, 3) := by decide +kernel
theorem dX7_init_36 : decode cX7_init 36 = .ok (.return_, 1) := by decide +kernel
theorem dX7_isRow_0 : decode cX7_isRow 0 = .ok (.aload_n 0, 1) := by decide +kernel
theorem dX7_isRow_1 : decode cX7_isRow 1 = .ok (.getfield 9, 3) := by decide +kernel
theorem dX7_isRow_4 : decode cX7_isRow 4 = .ok (.iconst 3, 1) := by decide +kernel
theorem dX7_isRow_5 : decode cX7_isRow 5 = .ok (.if_icmp .eq 11, 3) := by decide +kernel
theorem dX7_isRow_8 : decode cX7_isRow 8 = .ok (.aload_n 0, 1) := by decide +kernel
theorem dX7_isRow_9 : decode cX7_isRow 9 = .ok (.getfield 9, 3) := by decide +kernel
theorem dX7_isRow_12 : decode cX7_isRow 12 = .ok (.iconst 4, 1) := by decide +kernel
theorem dX7_isRow_13 : decode cX7_isRow 13 = .ok (.if_icmp .ne 7, 3) := by decide +kernel
theorem dX7_isRow_16 : decode cX7_isRow 16 = .ok (.iconst 1, 1) := by decide +kernel
theorem dX7_isRow_17 : decode cX7_isRow 17 = .ok (.goto 4, 3) := by decide +kernel
theorem dX7_isRow_20 : decode cX7_isRow 20 = .ok (.iconst 0, 1) := by decide +kernel
theorem dX7_isRow_21 : decode cX7_isRow 21 = .ok (.ireturn, 1) := by decide +kernel
theorem dX7_hasSpan_0 : decode cX7_hasSpan 0 = .ok (.iload_n 1, 1) := by decide +kernel
theorem dX7_hasSpan_1 : decode cX7_hasSpan 1 = .ok (.ifCond .lt 29, 3) := by decide +kernel
theorem dX7_hasSpan_4 : decode cX7_hasSpan 4 = .ok (.iload_n 2, 1) := by decide +kernel
theorem dX7_hasSpan_5 : decode cX7_hasSpan 5 = .ok (.ifCond .lt 25, 3) := by decide +kernel
theorem dX7_hasSpan_8 : decode cX7_hasSpan 8 = .ok (.iload_n 2, 1) := by decide +kernel
theorem dX7_hasSpan_9 : decode cX7_hasSpan 9 = .ok (.aload_n 0, 1) := by decide +kernel
theorem dX7_hasSpan_10 : decode cX7_hasSpan 10 = .ok (.getfield 19, 3) := by decide +kernel
theorem dX7_hasSpan_13 : decode cX7_hasSpan 13 = .ok (.if_icmp .gt 17, 3) := by decide +kernel
theorem dX7_hasSpan_16 : decode cX7_hasSpan 16 = .ok (.iload_n 1, 1) := by decide +kernel
theorem dX7_hasSpan_17 : decode cX7_hasSpan 17 = .ok (.aload_n 0, 1) := by decide +kernel
theorem dX7_hasSpan_18 : decode cX7_hasSpan 18 = .ok (.getfield 19, 3) := by decide +kernel
theorem dX7_hasSpan_21 : decode cX7_hasSpan 21 = .ok (.iload_n 2, 1) := by decide +kernel
theorem dX7_hasSpan_22 : decode cX7_hasSpan 22 = .ok (.isub, 1) := by decide +kernel
theorem dX7_hasSpan_23 : decode cX7_hasSpan 23 = .ok (.if_icmp .gt 7, 3) := by decide +kernel
theorem dX7_hasSpan_26 : decode cX7_hasSpan 26 = .ok (.iconst 1, 1) := by decide +kernel
theorem dX7_hasSpan_27 : decode cX7_hasSpan 27 = .ok (.goto 4, 3) := by decide +kernel
theorem dX7_hasSpan_30 : decode cX7_hasSpan 30 = .ok (.iconst 0, 1) := by decide +kernel
theorem dX7_hasSpan_31 : decode cX7_hasSpan 31 = .ok (.ireturn, 1) := by decide +kernel
theorem dX7_at_0 : decode cX7_at 0 = .ok (.aload_n 0, 1) := by decide +kernel
theorem dX7_at_1 : decode cX7_at 1 = .ok (.getfield 9, 3) := by decide +kernel
theorem dX7_at_4 : decode cX7_at 4 = .ok (.iconst 3, 1) := by decide +kernel
theorem dX7_at_5 : decode cX7_at 5 = .ok (.if_icmp .ne 13, 3) := by decide +kernel
theorem dX7_at_8 : decode cX7_at 8 = .ok (.aload_n 0, 1) := by decide +kernel
theorem dX7_at_9 : decode cX7_at 9 = .ok (.getfield 22, 3) := by decide +kernel
theorem dX7_at_12 : decode cX7_at 12 = .ok (.iload_n 1, 1) := by decide +kernel
theorem dX7_at_13 : decode cX7_at 13 = .ok (.baload, 1) := by decide +kernel
theorem dX7_at_14 : decode cX7_at 14 = .ok (.i2l, 1) := by decide +kernel
theorem dX7_at_15 : decode cX7_at 15 = .ok (.goto 10, 3) := by decide +kernel
theorem dX7_at_18 : decode cX7_at 18 = .ok (.aload_n 0, 1) := by decide +kernel
theorem dX7_at_19 : decode cX7_at 19 = .ok (.getfield 26, 3) := by decide +kernel
theorem dX7_at_22 : decode cX7_at 22 = .ok (.iload_n 1, 1) := by decide +kernel
theorem dX7_at_23 : decode cX7_at 23 = .ok (.iaload, 1) := by decide +kernel
theorem dX7_at_24 : decode cX7_at 24 = .ok (.i2l, 1) := by decide +kernel
theorem dX7_at_25 : decode cX7_at 25 = .ok (.lreturn, 1) := by decide +kernel
theorem dX7_clear_0 : decode cX7_clear 0 = .ok (.aload_n 0, 1) := by decide +kernel
theorem dX7_clear_1 : decode cX7_clear 1 = .ok (.iconst 0, 1) := by decide +kernel
theorem dX7_clear_2 : decode cX7_clear 2 = .ok (.iconst 0, 1) := by decide +kernel
theorem dX7_clear_3 : decode cX7_clear 3 = .ok (.invokevirtual 30, 3) := by decide +kernel
theorem dX7_clear_6 : decode cX7_clear 6 = .ok (.return_, 1) := by decide +kernel
theorem dX7_keepLaw_0 : decode cX7_keepLaw 0 = .ok (.aload_n 0, 1) := by decide +kernel
theorem dX7_keepLaw_1 : decode cX7_keepLaw 1 = .ok (.iconst 1, 1) := by decide +kernel
theorem dX7_keepLaw_2 : decode cX7_keepLaw 2 = .ok (.iconst 0, 1) := by decide +kernel
theorem dX7_keepLaw_3 : decode cX7_keepLaw 3 = .ok (.invokevirtual 30, 3) := by decide +kernel
theorem dX7_keepLaw_6 : decode cX7_keepLaw 6 = .ok (.aload_n 0, 1) := by decide +kernel
theorem dX7_keepLaw_7 : decode cX7_keepLaw 7 = .ok (.aload_n 1, 1) := by decide +kernel
theorem dX7_keepLaw_8 : decode cX7_keepLaw 8 = .ok (.putfield 15, 3) := by decide +kernel
theorem dX7_keepLaw_11 : decode cX7_keepLaw 11 = .ok (.return_, 1) := by decide +kernel
theorem dX7_keepHolders_0 : decode cX7_keepHolders 0 = .ok (.aload_n 0, 1) := by decide +kernel
theorem dX7_keepHolders_1 : decode cX7_keepHolders 1 = .ok (.iconst 3, 1) := by decide +kernel
theorem dX7_keepHolders_2 : decode cX7_keepHolders 2 = .ok (.sipush 200, 3) := by decide +kernel
theorem dX7_keepHolders_5 : decode cX7_keepHolders 5 = .ok (.invokevirtual 30, 3) := by decide +kernel
theorem dX7_keepHolders_8 : decode cX7_keepHolders 8 = .ok (.iconst 0, 1) := by decide +kernel
theorem dX7_keepHolders_9 : decode cX7_keepHolders 9 = .ok (.istore_n 2, 1) := by decide +kernel
theorem dX7_keepHolders_10 : decode cX7_keepHolders 10 = .ok (.iload_n 2, 1) := by decide +kernel
theorem dX7_keepHolders_11 : decode cX7_keepHolders 11 = .ok (.sipush 200, 3) := by decide +kernel
theorem dX7_keepHolders_14 : decode cX7_keepHolders 14 = .ok (.if_icmp .ge 22, 3) := by decide +kernel
theorem dX7_keepHolders_17 : decode cX7_keepHolders 17 = .ok (.aload_n 0, 1) := by decide +kernel
theorem dX7_keepHolders_18 : decode cX7_keepHolders 18 = .ok (.getfield 22, 3) := by decide +kernel
theorem dX7_keepHolders_21 : decode cX7_keepHolders 21 = .ok (.iload_n 2, 1) := by decide +kernel
theorem dX7_keepHolders_22 : decode cX7_keepHolders 22 = .ok (.aload_n 1, 1) := by decide +kernel
theorem dX7_keepHolders_23 : decode cX7_keepHolders 23 = .ok (.iload_n 2, 1) := by decide +kernel
theorem dX7_keepHolders_24 : decode cX7_keepHolders 24 = .ok (.iconst 0, 1) := by decide +kernel
theorem dX7_keepHolders_25 : decode cX7_keepHolders 25 = .ok (.invokevirtual 34, 3) := by decide +kernel
theorem dX7_keepHolders_28 : decode cX7_keepHolders 28 = .ok (.i2b, 1) := by decide +kernel
theorem dX7_keepHolders_29 : decode cX7_keepHolders 29 = .ok (.bastore, 1) := by decide +kernel
theorem dX7_keepHolders_30 : decode cX7_keepHolders 30 = .ok (.iinc 2 1, 3) := by decide +kernel
theorem dX7_keepHolders_33 : decode cX7_keepHolders 33 = .ok (.goto (-23), 3) := by decide +kernel
theorem dX7_keepHolders_36 : decode cX7_keepHolders 36 = .ok (.return_, 1) := by decide +kernel
theorem dX7_keepLife_0 : decode cX7_keepLife 0 = .ok (.aload_n 0, 1) := by decide +kernel
theorem dX7_keepLife_1 : decode cX7_keepLife 1 = .ok (.iconst 4, 1) := by decide +kernel
theorem dX7_keepLife_2 : decode cX7_keepLife 2 = .ok (.iconst 5, 1) := by decide +kernel
theorem dX7_keepLife_3 : decode cX7_keepLife 3 = .ok (.invokevirtual 30, 3) := by decide +kernel
theorem dX7_keepLife_6 : decode cX7_keepLife 6 = .ok (.aload_n 0, 1) := by decide +kernel
theorem dX7_keepLife_7 : decode cX7_keepLife 7 = .ok (.getfield 26, 3) := by decide +kernel
theorem dX7_keepLife_10 : decode cX7_keepLife 10 = .ok (.iconst 0, 1) := by decide +kernel
theorem dX7_keepLife_11 : decode cX7_keepLife 11 = .ok (.aload_n 1, 1) := by decide +kernel
theorem dX7_keepLife_12 : decode cX7_keepLife 12 = .ok (.getfield 40, 3) := by decide +kernel
theorem dX7_keepLife_15 : decode cX7_keepLife 15 = .ok (.iastore, 1) := by decide +kernel
theorem dX7_keepLife_16 : decode cX7_keepLife 16 = .ok (.aload_n 0, 1) := by decide +kernel
theorem dX7_keepLife_17 : decode cX7_keepLife 17 = .ok (.getfield 26, 3) := by decide +kernel
theorem dX7_keepLife_20 : decode cX7_keepLife 20 = .ok (.iconst 1, 1) := by decide +kernel
theorem dX7_keepLife_21 : decode cX7_keepLife 21 = .ok (.aload_n 1, 1) := by decide +kernel
theorem dX7_keepLife_22 : decode cX7_keepLife 22 = .ok (.getfield 45, 3) := by decide +kernel
theorem dX7_keepLife_25 : decode cX7_keepLife 25 = .ok (.iastore, 1) := by decide +kernel
theorem dX7_keepLife_26 : decode cX7_keepLife 26 = .ok (.aload_n 0, 1) := by decide +kernel
theorem dX7_keepLife_27 : decode cX7_keepLife 27 = .ok (.getfield 26, 3) := by decide +kernel
theorem dX7_keepLife_30 : decode cX7_keepLife 30 = .ok (.iconst 2, 1) := by decide +kernel
theorem dX7_keepLife_31 : decode cX7_keepLife 31 = .ok (.aload_n 1, 1) := by decide +kernel
theorem dX7_keepLife_32 : decode cX7_keepLife 32 = .ok (.getfield 48, 3) := by decide +kernel
theorem dX7_keepLife_35 : decode cX7_keepLife 35 = .ok (.iastore, 1) := by decide +kernel
theorem dX7_keepLife_36 : decode cX7_keepLife 36 = .ok (.aload_n 0, 1) := by decide +kernel
theorem dX7_keepLife_37 : decode cX7_keepLife 37 = .ok (.getfield 26, 3) := by decide +kernel
theorem dX7_keepLife_40 : decode cX7_keepLife 40 = .ok (.iconst 3, 1) := by decide +kernel
theorem dX7_keepLife_41 : decode cX7_keepLife 41 = .ok (.aload_n 1, 1) := by decide +kernel
theorem dX7_keepLife_42 : decode cX7_keepLife 42 = .ok (.getfield 51, 3) := by decide +kernel
theorem dX7_keepLife_45 : decode cX7_keepLife 45 = .ok (.iastore, 1) := by decide +kernel
theorem dX7_keepLife_46 : decode cX7_keepLife 46 = .ok (.aload_n 0, 1) := by decide +kernel
theorem dX7_keepLife_47 : decode cX7_keepLife 47 = .ok (.getfield 26, 3) := by decide +kernel
theorem dX7_keepLife_50 : decode cX7_keepLife 50 = .ok (.iconst 4, 1) := by decide +kernel
theorem dX7_keepLife_51 : decode cX7_keepLife 51 = .ok (.aload_n 1, 1) := by decide +kernel
theorem dX7_keepLife_52 : decode cX7_keepLife 52 = .ok (.getfield 54, 3) := by decide +kernel
theorem dX7_keepLife_55 : decode cX7_keepLife 55 = .ok (.iastore, 1) := by decide +kernel
theorem dX7_keepLife_56 : decode cX7_keepLife 56 = .ok (.return_, 1) := by decide +kernel
theorem dX7_keepZeros_0 : decode cX7_keepZeros 0 = .ok (.aload_n 0, 1) := by decide +kernel
theorem dX7_keepZeros_1 : decode cX7_keepZeros 1 = .ok (.iload_n 1, 1) := by decide +kernel
theorem dX7_keepZeros_2 : decode cX7_keepZeros 2 = .ok (.iload_n 2, 1) := by decide +kernel
theorem dX7_keepZeros_3 : decode cX7_keepZeros 3 = .ok (.invokevirtual 30, 3) := by decide +kernel
theorem dX7_keepZeros_6 : decode cX7_keepZeros 6 = .ok (.aload_n 0, 1) := by decide +kernel
theorem dX7_keepZeros_7 : decode cX7_keepZeros 7 = .ok (.getfield 22, 3) := by decide +kernel
theorem dX7_keepZeros_10 : decode cX7_keepZeros 10 = .ok (.iconst 0, 1) := by decide +kernel
theorem dX7_keepZeros_11 : decode cX7_keepZeros 11 = .ok (.invokestatic 57, 3) := by decide +kernel
theorem dX7_keepZeros_14 : decode cX7_keepZeros 14 = .ok (.aload_n 0, 1) := by decide +kernel
theorem dX7_keepZeros_15 : decode cX7_keepZeros 15 = .ok (.getfield 26, 3) := by decide +kernel
theorem dX7_keepZeros_18 : decode cX7_keepZeros 18 = .ok (.iconst 0, 1) := by decide +kernel
theorem dX7_keepZeros_19 : decode cX7_keepZeros 19 = .ok (.invokestatic 63, 3) := by decide +kernel
theorem dX7_keepZeros_22 : decode cX7_keepZeros 22 = .ok (.return_, 1) := by decide +kernel
theorem dX7_copyTo_0 : decode cX7_copyTo 0 = .ok (.aload_n 0, 1) := by decide +kernel
theorem dX7_copyTo_1 : decode cX7_copyTo 1 = .ok (.getfield 9, 3) := by decide +kernel
theorem dX7_copyTo_4 : decode cX7_copyTo 4 = .ok (.iconst 3, 1) := by decide +kernel
theorem dX7_copyTo_5 : decode cX7_copyTo 5 = .ok (.if_icmp .ne 21, 3) := by decide +kernel
theorem dX7_copyTo_8 : decode cX7_copyTo 8 = .ok (.aload_n 0, 1) := by decide +kernel
theorem dX7_copyTo_9 : decode cX7_copyTo 9 = .ok (.getfield 22, 3) := by decide +kernel
theorem dX7_copyTo_12 : decode cX7_copyTo 12 = .ok (.iload_n 2, 1) := by decide +kernel
theorem dX7_copyTo_13 : decode cX7_copyTo 13 = .ok (.aload_n 1, 1) := by decide +kernel
theorem dX7_copyTo_14 : decode cX7_copyTo 14 = .ok (.getfield 22, 3) := by decide +kernel
theorem dX7_copyTo_17 : decode cX7_copyTo 17 = .ok (.iload_n 3, 1) := by decide +kernel
theorem dX7_copyTo_18 : decode cX7_copyTo 18 = .ok (.iload 4, 2) := by decide +kernel
theorem dX7_copyTo_20 : decode cX7_copyTo 20 = .ok (.invokestatic 66, 3) := by decide +kernel
theorem dX7_copyTo_23 : decode cX7_copyTo 23 = .ok (.goto 18, 3) := by decide +kernel
theorem dX7_copyTo_26 : decode cX7_copyTo 26 = .ok (.aload_n 0, 1) := by decide +kernel
theorem dX7_copyTo_27 : decode cX7_copyTo 27 = .ok (.getfield 26, 3) := by decide +kernel
theorem dX7_copyTo_30 : decode cX7_copyTo 30 = .ok (.iload_n 2, 1) := by decide +kernel
theorem dX7_copyTo_31 : decode cX7_copyTo 31 = .ok (.aload_n 1, 1) := by decide +kernel
theorem dX7_copyTo_32 : decode cX7_copyTo 32 = .ok (.getfield 26, 3) := by decide +kernel
theorem dX7_copyTo_35 : decode cX7_copyTo 35 = .ok (.iload_n 3, 1) := by decide +kernel
theorem dX7_copyTo_36 : decode cX7_copyTo 36 = .ok (.iload 4, 2) := by decide +kernel
theorem dX7_copyTo_38 : decode cX7_copyTo 38 = .ok (.invokestatic 66, 3) := by decide +kernel
theorem dX7_copyTo_41 : decode cX7_copyTo 41 = .ok (.return_, 1) := by decide +kernel
theorem dX7_become_0 : decode cX7_become 0 = .ok (.aload_n 0, 1) := by decide +kernel
theorem dX7_become_1 : decode cX7_become 1 = .ok (.iload_n 1, 1) := by decide +kernel
theorem dX7_become_2 : decode cX7_become 2 = .ok (.putfield 9, 3) := by decide +kernel
theorem dX7_become_5 : decode cX7_become 5 = .ok (.aload_n 0, 1) := by decide +kernel
theorem dX7_become_6 : decode cX7_become 6 = .ok (.iload_n 2, 1) := by decide +kernel
theorem dX7_become_7 : decode cX7_become 7 = .ok (.putfield 19, 3) := by decide +kernel
theorem dX7_become_10 : decode cX7_become 10 = .ok (.aload_n 0, 1) := by decide +kernel
theorem dX7_become_11 : decode cX7_become 11 = .ok (.aconst_null, 1) := by decide +kernel
theorem dX7_become_12 : decode cX7_become 12 = .ok (.putfield 15, 3) := by decide +kernel
theorem dX7_become_15 : decode cX7_become 15 = .ok (.return_, 1) := by decide +kernel
theorem dX8_init_0 : decode cX8_init 0 = .ok (.aload_n 0, 1) := by decide +kernel
theorem dX8_init_1 : decode cX8_init 1 = .ok (.invokespecial 3, 3) := by decide +kernel
theorem dX8_init_4 : decode cX8_init 4 = .ok (.aload_n 0, 1) := by decide +kernel
theorem dX8_init_5 : decode cX8_init 5 = .ok (.new 9, 3) := by decide +kernel
theorem dX8_init_8 : decode cX8_init 8 = .ok (.dup, 1) := by decide +kernel
theorem dX8_init_9 : decode cX8_init 9 = .ok (.invokespecial 11, 3) := by decide +kernel
theorem dX8_init_12 : decode cX8_init 12 = .ok (.putfield 12, 3) := by decide +kernel
theorem dX8_init_15 : decode cX8_init 15 = .ok (.aload_n 0, 1) := by decide +kernel
theorem dX8_init_16 : decode cX8_init 16 = .ok (.new 16, 3) := by decide +kernel
theorem dX8_init_19 : decode cX8_init 19 = .ok (.dup, 1) := by decide +kernel
theorem dX8_init_20 : decode cX8_init 20 = .ok (.invokespecial 18, 3) := by decide +kernel
theorem dX8_init_23 : decode cX8_init 23 = .ok (.putfield 19, 3) := by decide +kernel
theorem dX8_init_26 : decode cX8_init 26 = .ok (.aload_n 0, 1) := by decide +kernel
theorem dX8_init_27 : decode cX8_init 27 = .ok (.new 23, 3) := by decide +kernel
theorem dX8_init_30 : decode cX8_init 30 = .ok (.dup, 1) := by decide +kernel
theorem dX8_init_31 : decode cX8_init 31 = .ok (.invokespecial 25, 3) := by decide +kernel
theorem dX8_init_34 : decode cX8_init 34 = .ok (.putfield 26, 3) := by decide +kernel
theorem dX8_init_37 : decode cX8_init 37 = .ok (.aload_n 0, 1) := by decide +kernel
theorem dX8_init_38 : decode cX8_init 38 = .ok (.bipush 8, 2) := by decide +kernel
theorem dX8_init_40 : decode cX8_init 40 = .ok (.anewarray 30, 3) := by decide +kernel
theorem dX8_init_43 : decode cX8_init 43 = .ok (.putfield 32, 3) := by decide +kernel
theorem dX8_init_46 : decode cX8_init 46 = .ok (.aload_n 0, 1) := by decide +kernel
theorem dX8_init_47 : decode cX8_init 47 = .ok (.bipush 35, 2) := by decide +kernel
theorem dX8_init_49 : decode cX8_init 49 = .ok (.newarray .int, 2) := by decide +kernel
theorem dX8_init_51 : decode cX8_init 51 = .ok (.putfield 36, 3) := by decide +kernel
theorem dX8_init_54 : decode cX8_init 54 = .ok (.iconst 0, 1) := by decide +kernel
theorem dX8_init_55 : decode cX8_init 55 = .ok (.istore_n 1, 1) := by decide +kernel
theorem dX8_init_56 : decode cX8_init 56 = .ok (.iload_n 1, 1) := by decide +kernel
theorem dX8_init_57 : decode cX8_init 57 = .ok (.bipush 8, 2) := by decide +kernel
theorem dX8_init_59 : decode cX8_init 59 = .ok (.if_icmp .ge 22, 3) := by decide +kernel
theorem dX8_init_62 : decode cX8_init 62 = .ok (.aload_n 0, 1) := by decide +kernel
theorem dX8_init_63 : decode cX8_init 63 = .ok (.getfield 32, 3) := by decide +kernel
theorem dX8_init_66 : decode cX8_init 66 = .ok (.iload_n 1, 1) := by decide +kernel
theorem dX8_init_67 : decode cX8_init 67 = .ok (.new 30, 3) := by decide +kernel
theorem dX8_init_70 : decode cX8_init 70 = .ok (.dup, 1) := by decide +kernel
theorem dX8_init_71 : decode cX8_init 71 = .ok (.invokespecial 40, 3) := by decide +kernel
theorem dX8_init_74 : decode cX8_init 74 = .ok (.aastore, 1) := by decide +kernel
theorem dX8_init_75 : decode cX8_init 75 = .ok (.iinc 1 1, 3) := by decide +kernel
theorem dX8_init_78 : decode cX8_init 78 = .ok (.goto (-22), 3) := by decide +kernel
theorem dX8_init_81 : decode cX8_init 81 = .ok (.return_, 1) := by decide +kernel
theorem dX8_office_0 : decode cX8_office 0 = .ok (.iload_n 1, 1) := by decide +kernel
theorem dX8_office_1 : decode cX8_office 1 = .ok (.iconst 1, 1) := by decide +kernel
theorem dX8_office_2 : decode cX8_office 2 = .ok (.if_icmp .lt 8, 3) := by decide +kernel
theorem dX8_office_5 : decode cX8_office 5 = .ok (.iload_n 1, 1) := by decide +kernel
theorem dX8_office_6 : decode cX8_office 6 = .ok (.iconst 3, 1) := by decide +kernel
theorem dX8_office_7 : decode cX8_office 7 = .ok (.if_icmp .le 5, 3) := by decide +kernel
theorem dX8_office_10 : decode cX8_office 10 = .ok (.iconst (-1), 1) := by decide +kernel
theorem dX8_office_11 : decode cX8_office 11 = .ok (.ireturn, 1) := by decide +kernel
theorem dX8_office_12 : decode cX8_office 12 = .ok (.aload_n 0, 1) := by decide +kernel
theorem dX8_office_13 : decode cX8_office 13 = .ok (.getfield 12, 3) := by decide +kernel
theorem dX8_office_16 : decode cX8_office 16 = .ok (.getfield 41, 3) := by decide +kernel
theorem dX8_office_19 : decode cX8_office 19 = .ok (.bipush 8, 2) := by decide +kernel
theorem dX8_office_21 : decode cX8_office 21 = .ok (.if_icmp .lt 6, 3) := by decide +kernel
theorem dX8_office_24 : decode cX8_office 24 = .ok (.bipush (-2), 2) := by decide +kernel
theorem dX8_office_26 : decode cX8_office 26 = .ok (.ireturn, 1) := by decide +kernel
theorem dX8_office_27 : decode cX8_office 27 = .ok (.aload_n 0, 1) := by decide +kernel
theorem dX8_office_28 : decode cX8_office 28 = .ok (.getfield 12, 3) := by decide +kernel
theorem dX8_office_31 : decode cX8_office 31 = .ok (.new 45, 3) := by decide +kernel
theorem dX8_office_34 : decode cX8_office 34 = .ok (.dup, 1) := by decide +kernel
theorem dX8_office_35 : decode cX8_office 35 = .ok (.iload_n 1, 1) := by decide +kernel
theorem dX8_office_36 : decode cX8_office 36 = .ok (.iload_n 2, 1) := by decide +kernel
theorem dX8_office_37 : decode cX8_office 37 = .ok (.invokespecial 47, 3) := by decide +kernel
theorem dX8_office_40 : decode cX8_office 40 = .ok (.invokevirtual 50, 3) := by decide +kernel
theorem dX8_office_43 : decode cX8_office 43 = .ok (.ireturn, 1) := by decide +kernel
theorem dX8_person_0 : decode cX8_person 0 = .ok (.iload_n 1, 1) := by decide +kernel
theorem dX8_person_1 : decode cX8_person 1 = .ok (.invokestatic 54, 3) := by decide +kernel
theorem dX8_person_4 : decode cX8_person 4 = .ok (.ifCond .eq 11, 3) := by decide +kernel
theorem dX8_person_7 : decode cX8_person 7 = .ok (.iload_n 2, 1) := by decide +kernel
theorem dX8_person_8 : decode cX8_person 8 = .ok (.iload_n 3, 1) := by decide +kernel
theorem dX8_person_9 : decode cX8_person 9 = .ok (.invokestatic 58, 3) := by decide +kernel
theorem dX8_person_12 : decode cX8_person 12 = .ok (.ifCond .ne 5, 3) := by decide +kernel
theorem dX8_person_15 : decode cX8_person 15 = .ok (.iconst (-1), 1) := by decide +kernel
theorem dX8_person_16 : decode cX8_person 16 = .ok (.ireturn, 1) := by decide +kernel
theorem dX8_person_17 : decode cX8_person 17 = .ok (.iload 4, 2) := by decide +kernel
theorem dX8_person_19 : decode cX8_person 19 = .ok (.iconst (-1), 1) := by decide +kernel
theorem dX8_person_20 : decode cX8_person 20 = .ok (.if_icmp .eq 17, 3) := by decide +kernel
theorem dX8_person_23 : decode cX8_person 23 = .ok (.aload_n 0, 1) := by decide +kernel
theorem dX8_person_24 : decode cX8_person 24 = .ok (.getfield 12, 3) := by decide +kernel
theorem dX8_person_27 : decode cX8_person 27 = .ok (.iload 4, 2) := by decide +kernel
theorem dX8_person_29 : decode cX8_person 29 = .ok (.invokevirtual 62, 3) := by decide +kernel
theorem dX8_person_32 : decode cX8_person 32 = .ok (.ifCond .ne 5, 3) := by decide +kernel
theorem dX8_person_35 : decode cX8_person 35 = .ok (.iconst (-1), 1) := by decide +kernel
theorem dX8_person_36 : decode cX8_person 36 = .ok (.ireturn, 1) := by decide +kernel
theorem dX8_person_37 : decode cX8_person 37 = .ok (.aload_n 0, 1) := by decide +kernel
theorem dX8_person_38 : decode cX8_person 38 = .ok (.getfield 12, 3) := by decide +kernel
theorem dX8_person_41 : decode cX8_person 41 = .ok (.getfield 65, 3) := by decide +kernel
theorem dX8_person_44 : decode cX8_person 44 = .ok (.bipush 24, 2) := by decide +kernel
theorem dX8_person_46 : decode cX8_person 46 = .ok (.if_icmp .lt 6, 3) := by decide +kernel
theorem dX8_person_49 : decode cX8_person 49 = .ok (.bipush (-2), 2) := by decide +kernel
theorem dX8_person_51 : decode cX8_person 51 = .ok (.ireturn, 1) := by decide +kernel
theorem dX8_person_52 : decode cX8_person 52 = .ok (.aload_n 0, 1) := by decide +kernel
theorem dX8_person_53 : decode cX8_person 53 = .ok (.getfield 12, 3) := by decide +kernel
theorem dX8_person_56 : decode cX8_person 56 = .ok (.new 68, 3) := by decide +kernel
theorem dX8_person_59 : decode cX8_person 59 = .ok (.dup, 1) := by decide +kernel
theorem dX8_person_60 : decode cX8_person 60 = .ok (.iload_n 1, 1) := by decide +kernel
theorem dX8_person_61 : decode cX8_person 61 = .ok (.iload_n 2, 1) := by decide +kernel
theorem dX8_person_62 : decode cX8_person 62 = .ok (.iload_n 3, 1) := by decide +kernel
theorem dX8_person_63 : decode cX8_person 63 = .ok (.iload 4, 2) := by decide +kernel
theorem dX8_person_65 : decode cX8_person 65 = .ok (.invokespecial 70, 3) := by decide +kernel
theorem dX8_person_68 : decode cX8_person 68 = .ok (.invokevirtual 73, 3) := by decide +kernel
theorem dX8_person_71 : decode cX8_person 71 = .ok (.ireturn, 1) := by decide +kernel
theorem dX8_death_0 : decode cX8_death 0 = .ok (.aload_n 0, 1) := by decide +kernel
theorem dX8_death_1 : decode cX8_death 1 = .ok (.getfield 12, 3) := by decide +kernel
theorem dX8_death_4 : decode cX8_death 4 = .ok (.iload_n 1, 1) := by decide +kernel
theorem dX8_death_5 : decode cX8_death 5 = .ok (.invokevirtual 62, 3) := by decide +kernel
theorem dX8_death_8 : decode cX8_death 8 = .ok (.ifCond .eq 14, 3) := by decide +kernel
theorem dX8_death_11 : decode cX8_death 11 = .ok (.iload_n 2, 1) := by decide +kernel
theorem dX8_death_12 : decode cX8_death 12 = .ok (.ifCond .lt 10, 3) := by decide +kernel
theorem dX8_death_15 : decode cX8_death 15 = .ok (.iload_n 2, 1) := by decide +kernel
theorem dX8_death_16 : decode cX8_death 16 = .ok (.sipush 200, 3) := by decide +kernel
theorem dX8_death_19 : decode cX8_death 19 = .ok (.if_icmp .le 5, 3) := by decide +kernel
theorem dX8_death_22 : decode cX8_death 22 = .ok (.iconst (-1), 1) := by decide +kernel
theorem dX8_death_23 : decode cX8_death 23 = .ok (.ireturn, 1) := by decide +kernel
theorem dX8_death_24 : decode cX8_death 24 = .ok (.aload_n 0, 1) := by decide +kernel
theorem dX8_death_25 : decode cX8_death 25 = .ok (.getfield 12, 3) := by decide +kernel
theorem dX8_death_28 : decode cX8_death 28 = .ok (.getfield 77, 3) := by decide +kernel
theorem dX8_death_31 : decode cX8_death 31 = .ok (.iload_n 1, 1) := by decide +kernel
theorem dX8_death_32 : decode cX8_death 32 = .ok (.aaload, 1) := by decide +kernel
theorem dX8_death_33 : decode cX8_death 33 = .ok (.astore_n 3, 1) := by decide +kernel
theorem dX8_death_34 : decode cX8_death 34 = .ok (.aload_n 3, 1) := by decide +kernel
theorem dX8_death_35 : decode cX8_death 35 = .ok (.getfield 81, 3) := by decide +kernel
theorem dX8_death_38 : decode cX8_death 38 = .ok (.istore 4, 2) := by decide +kernel
theorem dX8_death_40 : decode cX8_death 40 = .ok (.aload_n 3, 1) := by decide +kernel
theorem dX8_death_41 : decode cX8_death 41 = .ok (.iload_n 2, 1) := by decide +kernel
theorem dX8_death_42 : decode cX8_death 42 = .ok (.putfield 81, 3) := by decide +kernel
theorem dX8_death_45 : decode cX8_death 45 = .ok (.iload 4, 2) := by decide +kernel
theorem dX8_death_47 : decode cX8_death 47 = .ok (.ireturn, 1) := by decide +kernel
theorem dX8_exile_0 : decode cX8_exile 0 = .ok (.aload_n 0, 1) := by decide +kernel
theorem dX8_exile_1 : decode cX8_exile 1 = .ok (.getfield 12, 3) := by decide +kernel
theorem dX8_exile_4 : decode cX8_exile 4 = .ok (.iload_n 1, 1) := by decide +kernel
theorem dX8_exile_5 : decode cX8_exile 5 = .ok (.invokevirtual 62, 3) := by decide +kernel
theorem dX8_exile_8 : decode cX8_exile 8 = .ok (.ifCond .eq 17, 3) := by decide +kernel
theorem dX8_exile_11 : decode cX8_exile 11 = .ok (.iload_n 2, 1) := by decide +kernel
theorem dX8_exile_12 : decode cX8_exile 12 = .ok (.invokestatic 84, 3) := by decide +kernel
theorem dX8_exile_15 : decode cX8_exile 15 = .ok (.ifCond .eq 10, 3) := by decide +kernel
theorem dX8_exile_18 : decode cX8_exile 18 = .ok (.iload_n 3, 1) := by decide +kernel
theorem dX8_exile_19 : decode cX8_exile 19 = .ok (.invokestatic 84, 3) := by decide +kernel
theorem dX8_exile_22 : decode cX8_exile 22 = .ok (.ifCond .ne 5, 3) := by decide +kernel
theorem dX8_exile_25 : decode cX8_exile 25 = .ok (.iconst (-1), 1) := by decide +kernel
theorem dX8_exile_26 : decode cX8_exile 26 = .ok (.ireturn, 1) := by decide +kernel
theorem dX8_exile_27 : decode cX8_exile 27 = .ok (.aload_n 0, 1) := by decide +kernel
theorem dX8_exile_28 : decode cX8_exile 28 = .ok (.getfield 12, 3) := by decide +kernel
theorem dX8_exile_31 : decode cX8_exile 31 = .ok (.getfield 77, 3) := by decide +kernel
theorem dX8_exile_34 : decode cX8_exile 34 = .ok (.iload_n 1, 1) := by decide +kernel
theorem dX8_exile_35 : decode cX8_exile 35 = .ok (.aaload, 1) := by decide +kernel
theorem dX8_exile_36 : decode cX8_exile 36 = .ok (.astore 4, 2) := by decide +kernel
theorem dX8_exile_38 : decode cX8_exile 38 = .ok (.aload 4, 2) := by decide +kernel
theorem dX8_exile_40 : decode cX8_exile 40 = .ok (.invokevirtual 87, 3) := by decide +kernel
theorem dX8_exile_43 : decode cX8_exile 43 = .ok (.ifCond .eq 7, 3) := by decide +kernel
theorem dX8_exile_46 : decode cX8_exile 46 = .ok (.iconst 1, 1) := by decide +kernel
theorem dX8_exile_47 : decode cX8_exile 47 = .ok (.goto 4, 3) := by decide +kernel
theorem dX8_exile_50 : decode cX8_exile 50 = .ok (.iconst 0, 1) := by decide +kernel
theorem dX8_exile_51 : decode cX8_exile 51 = .ok (.istore 5, 2) := by decide +kernel
theorem dX8_exile_53 : decode cX8_exile 53 = .ok (.aload 4, 2) := by decide +kernel
theorem dX8_exile_55 : decode cX8_exile 55 = .ok (.iload_n 2, 1) := by decide +kernel
theorem dX8_exile_56 : decode cX8_exile 56 = .ok (.iload_n 3, 1) := by decide +kernel
theorem dX8_exile_57 : decode cX8_exile 57 = .ok (.invokevirtual 91, 3) := by decide +kernel
theorem dX8_exile_60 : decode cX8_exile 60 = .ok (.iload 5, 2) := by decide +kernel
theorem dX8_exile_62 : decode cX8_exile 62 = .ok (.ireturn, 1) := by decide +kernel
theorem dX8_birth_0 : decode cX8_birth 0 = .ok (.aload_n 0, 1) := by decide +kernel
theorem dX8_birth_1 : decode cX8_birth 1 = .ok (.getfield 12, 3) := by decide +kernel
theorem dX8_birth_4 : decode cX8_birth 4 = .ok (.iload_n 1, 1) := by decide +kernel
theorem dX8_birth_5 : decode cX8_birth 5 = .ok (.invokevirtual 62, 3) := by decide +kernel
theorem dX8_birth_8 : decode cX8_birth 8 = .ok (.ifCond .eq 11, 3) := by decide +kernel
theorem dX8_birth_11 : decode cX8_birth 11 = .ok (.iload_n 2, 1) := by decide +kernel
theorem dX8_birth_12 : decode cX8_birth 12 = .ok (.iload_n 3, 1) := by decide +kernel
theorem dX8_birth_13 : decode cX8_birth 13 = .ok (.invokestatic 58, 3) := by decide +kernel
theorem dX8_birth_16 : decode cX8_birth 16 = .ok (.ifCond .ne 5, 3) := by decide +kernel
theorem dX8_birth_19 : decode cX8_birth 19 = .ok (.iconst (-1), 1) := by decide +kernel
theorem dX8_birth_20 : decode cX8_birth 20 = .ok (.ireturn, 1) := by decide +kernel
theorem dX8_birth_21 : decode cX8_birth 21 = .ok (.aload_n 0, 1) := by decide +kernel
theorem dX8_birth_22 : decode cX8_birth 22 = .ok (.getfield 12, 3) := by decide +kernel
theorem dX8_birth_25 : decode cX8_birth 25 = .ok (.getfield 77, 3) := by decide +kernel
theorem dX8_birth_28 : decode cX8_birth 28 = .ok (.iload_n 1, 1) := by decide +kernel
theorem dX8_birth_29 : decode cX8_birth 29 = .ok (.aaload, 1) := by decide +kernel
theorem dX8_birth_30 : decode cX8_birth 30 = .ok (.astore 4, 2) := by decide +kernel
theorem dX8_birth_32 : decode cX8_birth 32 = .ok (.aload 4, 2) := by decide +kernel
theorem dX8_birth_34 : decode cX8_birth 34 = .ok (.getfield 95, 3) := by decide +kernel
theorem dX8_birth_37 : decode cX8_birth 37 = .ok (.iload_n 2, 1) := by decide +kernel
theorem dX8_birth_38 : decode cX8_birth 38 = .ok (.if_icmp .ne 16, 3) := by decide +kernel
theorem dX8_birth_41 : decode cX8_birth 41 = .ok (.aload 4, 2) := by decide +kernel
theorem dX8_birth_43 : decode cX8_birth 43 = .ok (.getfield 98, 3) := by decide +kernel
theorem dX8_birth_46 : decode cX8_birth 46 = .ok (.iload_n 3, 1) := by decide +kernel
theorem dX8_birth_47 : decode cX8_birth 47 = .ok (.if_icmp .ne 7, 3) := by decide +kernel
theorem dX8_birth_50 : decode cX8_birth 50 = .ok (.iconst 1, 1) := by decide +kernel
theorem dX8_birth_51 : decode cX8_birth 51 = .ok (.goto 4, 3) := by decide +kernel
theorem dX8_birth_54 : decode cX8_birth 54 = .ok (.iconst 0, 1) := by decide +kernel
theorem dX8_birth_55 : decode cX8_birth 55 = .ok (.istore 5, 2) := by decide +kernel
theorem dX8_birth_57 : decode cX8_birth 57 = .ok (.aload 4, 2) := by decide +kernel
theorem dX8_birth_59 : decode cX8_birth 59 = .ok (.iload_n 2, 1) := by decide +kernel
theorem dX8_birth_60 : decode cX8_birth 60 = .ok (.putfield 95, 3) := by decide +kernel
theorem dX8_birth_63 : decode cX8_birth 63 = .ok (.aload 4, 2) := by decide +kernel
theorem dX8_birth_65 : decode cX8_birth 65 = .ok (.iload_n 3, 1) := by decide +kernel
theorem dX8_birth_66 : decode cX8_birth 66 = .ok (.putfield 98, 3) := by decide +kernel
theorem dX8_birth_69 : decode cX8_birth 69 = .ok (.iload 5, 2) := by decide +kernel
theorem dX8_birth_71 : decode cX8_birth 71 = .ok (.ifCond .eq 7, 3) := by decide +kernel
theorem dX8_birth_74 : decode cX8_birth 74 = .ok (.iconst 0, 1) := by decide +kernel
theorem dX8_birth_75 : decode cX8_birth 75 = .ok (.goto 4, 3) := by decide +kernel
theorem dX8_birth_78 : decode cX8_birth 78 = .ok (.iconst 1, 1) := by decide +kernel
theorem dX8_birth_79 : decode cX8_birth 79 = .ok (.ireturn, 1) := by decide +kernel
theorem dX8_law_0 : decode cX8_law 0 = .ok (.iload_n 1, 1) := by decide +kernel
theorem dX8_law_1 : decode cX8_law 1 = .ok (.ifCond .lt 32, 3) := by decide +kernel
theorem dX8_law_4 : decode cX8_law 4 = .ok (.iload_n 1, 1) := by decide +kernel
theorem dX8_law_5 : decode cX8_law 5 = .ok (.bipush 10, 2) := by decide +kernel
theorem dX8_law_7 : decode cX8_law 7 = .ok (.idiv, 1) := by decide +kernel
theorem dX8_law_8 : decode cX8_law 8 = .ok (.iconst 5, 1) := by decide +kernel
theorem dX8_law_9 : decode cX8_law 9 = .ok (.if_icmp .gt 24, 3) := by decide +kernel
theorem dX8_law_12 : decode cX8_law 12 = .ok (.iload_n 3, 1) := by decide +kernel
theorem dX8_law_13 : decode cX8_law 13 = .ok (.invokestatic 84, 3) := by decide +kernel
theorem dX8_law_16 : decode cX8_law 16 = .ok (.ifCond .eq 17, 3) := by decide +kernel
theorem dX8_law_19 : decode cX8_law 19 = .ok (.iload 4, 2) := by decide +kernel
theorem dX8_law_21 : decode cX8_law 21 = .ok (.iload_n 3, 1) := by decide +kernel
theorem dX8_law_22 : decode cX8_law 22 = .ok (.if_icmp .le 11, 3) := by decide +kernel
theorem dX8_law_25 : decode cX8_law 25 = .ok (.iload 4, 2) := by decide +kernel
theorem dX8_law_27 : decode cX8_law 27 = .ok (.sipush 200, 3) := by decide +kernel
theorem dX8_law_30 : decode cX8_law 30 = .ok (.if_icmp .le 5, 3) := by decide +kernel
theorem dX8_law_33 : decode cX8_law 33 = .ok (.iconst (-1), 1) := by decide +kernel
theorem dX8_law_34 : decode cX8_law 34 = .ok (.ireturn, 1) := by decide +kernel
theorem dX8_law_35 : decode cX8_law 35 = .ok (.iload_n 1, 1) := by decide +kernel
theorem dX8_law_36 : decode cX8_law 36 = .ok (.bipush 10, 2) := by decide +kernel
theorem dX8_law_38 : decode cX8_law 38 = .ok (.idiv, 1) := by decide +kernel
theorem dX8_law_39 : decode cX8_law 39 = .ok (.istore 5, 2) := by decide +kernel
theorem dX8_law_41 : decode cX8_law 41 = .ok (.iload_n 1, 1) := by decide +kernel
theorem dX8_law_42 : decode cX8_law 42 = .ok (.bipush 10, 2) := by decide +kernel
theorem dX8_law_44 : decode cX8_law 44 = .ok (.irem, 1) := by decide +kernel
theorem dX8_law_45 : decode cX8_law 45 = .ok (.iconst 1, 1) := by decide +kernel
theorem dX8_law_46 : decode cX8_law 46 = .ok (.isub, 1) := by decide +kernel
theorem dX8_law_47 : decode cX8_law 47 = .ok (.istore 6, 2) := by decide +kernel
theorem dX8_law_49 : decode cX8_law 49 = .ok (.iload 6, 2) := by decide +kernel
theorem dX8_law_51 : decode cX8_law 51 = .ok (.iconst (-1), 1) := by decide +kernel
theorem dX8_law_52 : decode cX8_law 52 = .ok (.if_icmp .eq 17, 3) := by decide +kernel
theorem dX8_law_55 : decode cX8_law 55 = .ok (.aload_n 0, 1) := by decide +kernel
theorem dX8_law_56 : decode cX8_law 56 = .ok (.getfield 12, 3) := by decide +kernel
theorem dX8_law_59 : decode cX8_law 59 = .ok (.iload 6, 2) := by decide +kernel
theorem dX8_law_61 : decode cX8_law 61 = .ok (.invokevirtual 101, 3) := by decide +kernel
theorem dX8_law_64 : decode cX8_law 64 = .ok (.ifCond .ne 5, 3) := by decide +kernel
theorem dX8_law_67 : decode cX8_law 67 = .ok (.iconst (-1), 1) := by decide +kernel
theorem dX8_law_68 : decode cX8_law 68 = .ok (.ireturn, 1) := by decide +kernel
theorem dX8_law_69 : decode cX8_law 69 = .ok (.aload_n 0, 1) := by decide +kernel
theorem dX8_law_70 : decode cX8_law 70 = .ok (.getfield 12, 3) := by decide +kernel
theorem dX8_law_73 : decode cX8_law 73 = .ok (.iload 5, 2) := by decide +kernel
theorem dX8_law_75 : decode cX8_law 75 = .ok (.iload_n 2, 1) := by decide +kernel
theorem dX8_law_76 : decode cX8_law 76 = .ok (.invokevirtual 104, 3) := by decide +kernel
theorem dX8_law_79 : decode cX8_law 79 = .ok (.ifCond .ne 5, 3) := by decide +kernel
theorem dX8_law_82 : decode cX8_law 82 = .ok (.iconst (-1), 1) := by decide +kernel
theorem dX8_law_83 : decode cX8_law 83 = .ok (.ireturn, 1) := by decide +kernel
theorem dX8_law_84 : decode cX8_law 84 = .ok (.aload_n 0, 1) := by decide +kernel
theorem dX8_law_85 : decode cX8_law 85 = .ok (.getfield 12, 3) := by decide +kernel
theorem dX8_law_88 : decode cX8_law 88 = .ok (.getfield 107, 3) := by decide +kernel
theorem dX8_law_91 : decode cX8_law 91 = .ok (.bipush 20, 2) := by decide +kernel
theorem dX8_law_93 : decode cX8_law 93 = .ok (.if_icmp .lt 6, 3) := by decide +kernel
theorem dX8_law_96 : decode cX8_law 96 = .ok (.bipush (-2), 2) := by decide +kernel
theorem dX8_law_98 : decode cX8_law 98 = .ok (.ireturn, 1) := by decide +kernel
theorem dX8_law_99 : decode cX8_law 99 = .ok (.aload_n 0, 1) := by decide +kernel
theorem dX8_law_100 : decode cX8_law 100 = .ok (.getfield 12, 3) := by decide +kernel
theorem dX8_law_103 : decode cX8_law 103 = .ok (.new 110, 3) := by decide +kernel
theorem dX8_law_106 : decode cX8_law 106 = .ok (.dup, 1) := by decide +kernel
theorem dX8_law_107 : decode cX8_law 107 = .ok (.aload_n 0, 1) := by decide +kernel
theorem dX8_law_108 : decode cX8_law 108 = .ok (.getfield 12, 3) := by decide +kernel
theorem dX8_law_111 : decode cX8_law 111 = .ok (.getfield 107, 3) := by decide +kernel
theorem dX8_law_114 : decode cX8_law 114 = .ok (.iload 5, 2) := by decide +kernel
theorem dX8_law_116 : decode cX8_law 116 = .ok (.iload 6, 2) := by decide +kernel
theorem dX8_law_118 : decode cX8_law 118 = .ok (.iload_n 2, 1) := by decide +kernel
theorem dX8_law_119 : decode cX8_law 119 = .ok (.iload_n 3, 1) := by decide +kernel
theorem dX8_law_120 : decode cX8_law 120 = .ok (.iload 4, 2) := by decide +kernel
theorem dX8_law_122 : decode cX8_law 122 = .ok (.invokespecial 112, 3) := by decide +kernel
theorem dX8_law_125 : decode cX8_law 125 = .ok (.invokevirtual 115, 3) := by decide +kernel
theorem dX8_law_128 : decode cX8_law 128 = .ok (.ireturn, 1) := by decide +kernel
theorem dX8_repeal_0 : decode cX8_repeal 0 = .ok (.aload_n 0, 1) := by decide +kernel
theorem dX8_repeal_1 : decode cX8_repeal 1 = .ok (.getfield 12, 3) := by decide +kernel
theorem dX8_repeal_4 : decode cX8_repeal 4 = .ok (.iload_n 1, 1) := by decide +kernel
theorem dX8_repeal_5 : decode cX8_repeal 5 = .ok (.invokevirtual 119, 3) := by decide +kernel
theorem dX8_repeal_8 : decode cX8_repeal 8 = .ok (.ifCond .ne 5, 3) := by decide +kernel
theorem dX8_repeal_11 : decode cX8_repeal 11 = .ok (.iconst (-1), 1) := by decide +kernel
theorem dX8_repeal_12 : decode cX8_repeal 12 = .ok (.ireturn, 1) := by decide +kernel
theorem dX8_repeal_13 : decode cX8_repeal 13 = .ok (.aload_n 0, 1) := by decide +kernel
theorem dX8_repeal_14 : decode cX8_repeal 14 = .ok (.getfield 12, 3) := by decide +kernel
theorem dX8_repeal_17 : decode cX8_repeal 17 = .ok (.getfield 122, 3) := by decide +kernel
theorem dX8_repeal_20 : decode cX8_repeal 20 = .ok (.iload_n 1, 1) := by decide +kernel
theorem dX8_repeal_21 : decode cX8_repeal 21 = .ok (.aaload, 1) := by decide +kernel
theorem dX8_repeal_22 : decode cX8_repeal 22 = .ok (.astore_n 3, 1) := by decide +kernel
theorem dX8_repeal_23 : decode cX8_repeal 23 = .ok (.iload_n 2, 1) := by decide +kernel
theorem dX8_repeal_24 : decode cX8_repeal 24 = .ok (.aload_n 3, 1) := by decide +kernel
theorem dX8_repeal_25 : decode cX8_repeal 25 = .ok (.getfield 126, 3) := by decide +kernel
theorem dX8_repeal_28 : decode cX8_repeal 28 = .ok (.if_icmp .le 11, 3) := by decide +kernel
theorem dX8_repeal_31 : decode cX8_repeal 31 = .ok (.iload_n 2, 1) := by decide +kernel
theorem dX8_repeal_32 : decode cX8_repeal 32 = .ok (.aload_n 3, 1) := by decide +kernel
theorem dX8_repeal_33 : decode cX8_repeal 33 = .ok (.getfield 129, 3) := by decide +kernel
theorem dX8_repeal_36 : decode cX8_repeal 36 = .ok (.if_icmp .le 5, 3) := by decide +kernel
theorem dX8_repeal_39 : decode cX8_repeal 39 = .ok (.iconst (-1), 1) := by decide +kernel
theorem dX8_repeal_40 : decode cX8_repeal 40 = .ok (.ireturn, 1) := by decide +kernel
theorem dX8_repeal_41 : decode cX8_repeal 41 = .ok (.aload_n 3, 1) := by decide +kernel
theorem dX8_repeal_42 : decode cX8_repeal 42 = .ok (.getfield 129, 3) := by decide +kernel
theorem dX8_repeal_45 : decode cX8_repeal 45 = .ok (.istore 4, 2) := by decide +kernel
theorem dX8_repeal_47 : decode cX8_repeal 47 = .ok (.aload_n 3, 1) := by decide +kernel
theorem dX8_repeal_48 : decode cX8_repeal 48 = .ok (.iload_n 2, 1) := by decide +kernel
theorem dX8_repeal_49 : decode cX8_repeal 49 = .ok (.putfield 129, 3) := by decide +kernel
theorem dX8_repeal_52 : decode cX8_repeal 52 = .ok (.iload 4, 2) := by decide +kernel
theorem dX8_repeal_54 : decode cX8_repeal 54 = .ok (.ireturn, 1) := by decide +kernel
theorem dX8_stone_0 : decode cX8_stone 0 = .ok (.aload_n 0, 1) := by decide +kernel
theorem dX8_stone_1 : decode cX8_stone 1 = .ok (.getfield 12, 3) := by decide +kernel
theorem dX8_stone_4 : decode cX8_stone 4 = .ok (.iload_n 1, 1) := by decide +kernel
theorem dX8_stone_5 : decode cX8_stone 5 = .ok (.invokevirtual 62, 3) := by decide +kernel
theorem dX8_stone_8 : decode cX8_stone 8 = .ok (.ifCond .eq 21, 3) := by decide +kernel
theorem dX8_stone_11 : decode cX8_stone 11 = .ok (.aload_n 0, 1) := by decide +kernel
theorem dX8_stone_12 : decode cX8_stone 12 = .ok (.getfield 12, 3) := by decide +kernel
theorem dX8_stone_15 : decode cX8_stone 15 = .ok (.iload_n 2, 1) := by decide +kernel
theorem dX8_stone_16 : decode cX8_stone 16 = .ok (.invokevirtual 101, 3) := by decide +kernel
theorem dX8_stone_19 : decode cX8_stone 19 = .ok (.ifCond .eq 10, 3) := by decide +kernel
theorem dX8_stone_22 : decode cX8_stone 22 = .ok (.iload_n 3, 1) := by decide +kernel
theorem dX8_stone_23 : decode cX8_stone 23 = .ok (.invokestatic 84, 3) := by decide +kernel
theorem dX8_stone_26 : decode cX8_stone 26 = .ok (.ifCond .ne 5, 3) := by decide +kernel
theorem dX8_stone_29 : decode cX8_stone 29 = .ok (.iconst (-1), 1) := by decide +kernel
theorem dX8_stone_30 : decode cX8_stone 30 = .ok (.ireturn, 1) := by decide +kernel
theorem dX8_stone_31 : decode cX8_stone 31 = .ok (.aload_n 0, 1) := by decide +kernel
theorem dX8_stone_32 : decode cX8_stone 32 = .ok (.getfield 12, 3) := by decide +kernel
theorem dX8_stone_35 : decode cX8_stone 35 = .ok (.getfield 132, 3) := by decide +kernel
theorem dX8_stone_38 : decode cX8_stone 38 = .ok (.iload_n 2, 1) := by decide +kernel
theorem dX8_stone_39 : decode cX8_stone 39 = .ok (.aaload, 1) := by decide +kernel
theorem dX8_stone_40 : decode cX8_stone 40 = .ok (.iload_n 3, 1) := by decide +kernel
theorem dX8_stone_41 : decode cX8_stone 41 = .ok (.invokevirtual 136, 3) := by decide +kernel
theorem dX8_stone_44 : decode cX8_stone 44 = .ok (.istore 4, 2) := by decide +kernel
theorem dX8_stone_46 : decode cX8_stone 46 = .ok (.iload 4, 2) := by decide +kernel
theorem dX8_stone_48 : decode cX8_stone 48 = .ok (.iconst (-1), 1) := by decide +kernel
theorem dX8_stone_49 : decode cX8_stone 49 = .ok (.if_icmp .eq 21, 3) := by decide +kernel
theorem dX8_stone_52 : decode cX8_stone 52 = .ok (.aload_n 0, 1) := by decide +kernel
theorem dX8_stone_53 : decode cX8_stone 53 = .ok (.getfield 12, 3) := by decide +kernel
theorem dX8_stone_56 : decode cX8_stone 56 = .ok (.getfield 77, 3) := by decide +kernel
theorem dX8_stone_59 : decode cX8_stone 59 = .ok (.iload_n 1, 1) := by decide +kernel
theorem dX8_stone_60 : decode cX8_stone 60 = .ok (.aaload, 1) := by decide +kernel
theorem dX8_stone_61 : decode cX8_stone 61 = .ok (.getfield 140, 3) := by decide +kernel
theorem dX8_stone_64 : decode cX8_stone 64 = .ok (.iload_n 3, 1) := by decide +kernel
theorem dX8_stone_65 : decode cX8_stone 65 = .ok (.baload, 1) := by decide +kernel
theorem dX8_stone_66 : decode cX8_stone 66 = .ok (.iconst (-1), 1) := by decide +kernel
theorem dX8_stone_67 : decode cX8_stone 67 = .ok (.if_icmp .eq 6, 3) := by decide +kernel
theorem dX8_stone_70 : decode cX8_stone 70 = .ok (.bipush (-3), 2) := by decide +kernel
theorem dX8_stone_72 : decode cX8_stone 72 = .ok (.ireturn, 1) := by decide +kernel
theorem dX8_stone_73 : decode cX8_stone 73 = .ok (.aload_n 0, 1) := by decide +kernel
theorem dX8_stone_74 : decode cX8_stone 74 = .ok (.getfield 12, 3) := by decide +kernel
theorem dX8_stone_77 : decode cX8_stone 77 = .ok (.iload_n 1, 1) := by decide +kernel
theorem dX8_stone_78 : decode cX8_stone 78 = .ok (.iload_n 2, 1) := by decide +kernel
theorem dX8_stone_79 : decode cX8_stone 79 = .ok (.iload_n 3, 1) := by decide +kernel
theorem dX8_stone_80 : decode cX8_stone 80 = .ok (.iload 4, 2) := by decide +kernel
theorem dX8_stone_82 : decode cX8_stone 82 = .ok (.invokevirtual 144, 3) := by decide +kernel
theorem dX8_stone_85 : decode cX8_stone 85 = .ok (.iload 4, 2) := by decide +kernel
theorem dX8_stone_87 : decode cX8_stone 87 = .ok (.ireturn, 1) := by decide +kernel
theorem dX8_empty_0 : decode cX8_empty 0 = .ok (.aload_n 0, 1) := by decide +kernel
theorem dX8_empty_1 : decode cX8_empty 1 = .ok (.getfield 12, 3) := by decide +kernel
theorem dX8_empty_4 : decode cX8_empty 4 = .ok (.iload_n 1, 1) := by decide +kernel
theorem dX8_empty_5 : decode cX8_empty 5 = .ok (.iload_n 2, 1) := by decide +kernel
theorem dX8_empty_6 : decode cX8_empty 6 = .ok (.iload_n 3, 1) := by decide +kernel
theorem dX8_empty_7 : decode cX8_empty 7 = .ok (.invokevirtual 147, 3) := by decide +kernel
theorem dX8_empty_10 : decode cX8_empty 10 = .ok (.ifCond .ne 5, 3) := by decide +kernel
theorem dX8_empty_13 : decode cX8_empty 13 = .ok (.iconst (-1), 1) := by decide +kernel
theorem dX8_empty_14 : decode cX8_empty 14 = .ok (.ireturn, 1) := by decide +kernel
theorem dX8_empty_15 : decode cX8_empty 15 = .ok (.aload_n 0, 1) := by decide +kernel
theorem dX8_empty_16 : decode cX8_empty 16 = .ok (.getfield 12, 3) := by decide +kernel
theorem dX8_empty_19 : decode cX8_empty 19 = .ok (.getfield 132, 3) := by decide +kernel
theorem dX8_empty_22 : decode cX8_empty 22 = .ok (.iload_n 1, 1) := by decide +kernel
theorem dX8_empty_23 : decode cX8_empty 23 = .ok (.aaload, 1) := by decide +kernel
theorem dX8_empty_24 : decode cX8_empty 24 = .ok (.iload_n 2, 1) := by decide +kernel
theorem dX8_empty_25 : decode cX8_empty 25 = .ok (.iload_n 3, 1) := by decide +kernel
theorem dX8_empty_26 : decode cX8_empty 26 = .ok (.invokevirtual 151, 3) := by decide +kernel
theorem dX8_empty_29 : decode cX8_empty 29 = .ok (.istore 4, 2) := by decide +kernel
theorem dX8_empty_31 : decode cX8_empty 31 = .ok (.iload 4, 2) := by decide +kernel
theorem dX8_empty_33 : decode cX8_empty 33 = .ok (.iconst (-1), 1) := by decide +kernel
theorem dX8_empty_34 : decode cX8_empty 34 = .ok (.if_icmp .ne 6, 3) := by decide +kernel
theorem dX8_empty_37 : decode cX8_empty 37 = .ok (.bipush (-3), 2) := by decide +kernel
theorem dX8_empty_39 : decode cX8_empty 39 = .ok (.ireturn, 1) := by decide +kernel
theorem dX8_empty_40 : decode cX8_empty 40 = .ok (.aload_n 0, 1) := by decide +kernel
theorem dX8_empty_41 : decode cX8_empty 41 = .ok (.getfield 12, 3) := by decide +kernel
theorem dX8_empty_44 : decode cX8_empty 44 = .ok (.iload 4, 2) := by decide +kernel
theorem dX8_empty_46 : decode cX8_empty 46 = .ok (.iload_n 1, 1) := by decide +kernel
theorem dX8_empty_47 : decode cX8_empty 47 = .ok (.iload_n 2, 1) := by decide +kernel
theorem dX8_empty_48 : decode cX8_empty 48 = .ok (.iload_n 3, 1) := by decide +kernel
theorem dX8_empty_49 : decode cX8_empty 49 = .ok (.invokevirtual 155, 3) := by decide +kernel
theorem dX8_empty_52 : decode cX8_empty 52 = .ok (.iload 4, 2) := by decide +kernel
theorem dX8_empty_54 : decode cX8_empty 54 = .ok (.ireturn, 1) := by decide +kernel
theorem dX8_annul_0 : decode cX8_annul 0 = .ok (.aload_n 0, 1) := by decide +kernel
theorem dX8_annul_1 : decode cX8_annul 1 = .ok (.getfield 12, 3) := by decide +kernel
theorem dX8_annul_4 : decode cX8_annul 4 = .ok (.iload_n 1, 1) := by decide +kernel
theorem dX8_annul_5 : decode cX8_annul 5 = .ok (.iload_n 2, 1) := by decide +kernel
theorem dX8_annul_6 : decode cX8_annul 6 = .ok (.iload_n 3, 1) := by decide +kernel
theorem dX8_annul_7 : decode cX8_annul 7 = .ok (.invokevirtual 147, 3) := by decide +kernel
theorem dX8_annul_10 : decode cX8_annul 10 = .ok (.ifCond .ne 5, 3) := by decide +kernel
theorem dX8_annul_13 : decode cX8_annul 13 = .ok (.iconst (-1), 1) := by decide +kernel
theorem dX8_annul_14 : decode cX8_annul 14 = .ok (.ireturn, 1) := by decide +kernel
theorem dX8_annul_15 : decode cX8_annul 15 = .ok (.aload_n 0, 1) := by decide +kernel
theorem dX8_annul_16 : decode cX8_annul 16 = .ok (.getfield 12, 3) := by decide +kernel
theorem dX8_annul_19 : decode cX8_annul 19 = .ok (.getfield 132, 3) := by decide +kernel
theorem dX8_annul_22 : decode cX8_annul 22 = .ok (.iload_n 1, 1) := by decide +kernel
theorem dX8_annul_23 : decode cX8_annul 23 = .ok (.aaload, 1) := by decide +kernel
theorem dX8_annul_24 : decode cX8_annul 24 = .ok (.iload_n 2, 1) := by decide +kernel
theorem dX8_annul_25 : decode cX8_annul 25 = .ok (.iload_n 3, 1) := by decide +kernel
theorem dX8_annul_26 : decode cX8_annul 26 = .ok (.invokevirtual 151, 3) := by decide +kernel
theorem dX8_annul_29 : decode cX8_annul 29 = .ok (.istore 5, 2) := by decide +kernel
theorem dX8_annul_31 : decode cX8_annul 31 = .ok (.iload 5, 2) := by decide +kernel
theorem dX8_annul_33 : decode cX8_annul 33 = .ok (.iconst (-1), 1) := by decide +kernel
theorem dX8_annul_34 : decode cX8_annul 34 = .ok (.if_icmp .ne 6, 3) := by decide +kernel
theorem dX8_annul_37 : decode cX8_annul 37 = .ok (.bipush (-3), 2) := by decide +kernel
theorem dX8_annul_39 : decode cX8_annul 39 = .ok (.ireturn, 1) := by decide +kernel
theorem dX8_annul_40 : decode cX8_annul 40 = .ok (.aload_n 0, 1) := by decide +kernel
theorem dX8_annul_41 : decode cX8_annul 41 = .ok (.getfield 12, 3) := by decide +kernel
theorem dX8_annul_44 : decode cX8_annul 44 = .ok (.getfield 132, 3) := by decide +kernel
theorem dX8_annul_47 : decode cX8_annul 47 = .ok (.iload_n 1, 1) := by decide +kernel
theorem dX8_annul_48 : decode cX8_annul 48 = .ok (.aaload, 1) := by decide +kernel
theorem dX8_annul_49 : decode cX8_annul 49 = .ok (.iload_n 2, 1) := by decide +kernel
theorem dX8_annul_50 : decode cX8_annul 50 = .ok (.iload_n 3, 1) := by decide +kernel
theorem dX8_annul_51 : decode cX8_annul 51 = .ok (.invokevirtual 158, 3) := by decide +kernel
theorem dX8_annul_54 : decode cX8_annul 54 = .ok (.iload 4, 2) := by decide +kernel
theorem dX8_annul_56 : decode cX8_annul 56 = .ok (.if_icmp .ne 5, 3) := by decide +kernel
theorem dX8_annul_59 : decode cX8_annul 59 = .ok (.iconst 0, 1) := by decide +kernel
theorem dX8_annul_60 : decode cX8_annul 60 = .ok (.ireturn, 1) := by decide +kernel
theorem dX8_annul_61 : decode cX8_annul 61 = .ok (.aload_n 0, 1) := by decide +kernel
theorem dX8_annul_62 : decode cX8_annul 62 = .ok (.getfield 12, 3) := by decide +kernel
theorem dX8_annul_65 : decode cX8_annul 65 = .ok (.iload 5, 2) := by decide +kernel
theorem dX8_annul_67 : decode cX8_annul 67 = .ok (.iload_n 1, 1) := by decide +kernel
theorem dX8_annul_68 : decode cX8_annul 68 = .ok (.iload_n 2, 1) := by decide +kernel
theorem dX8_annul_69 : decode cX8_annul 69 = .ok (.iload_n 3, 1) := by decide +kernel
theorem dX8_annul_70 : decode cX8_annul 70 = .ok (.iload 4, 2) := by decide +kernel
theorem dX8_annul_72 : decode cX8_annul 72 = .ok (.invokevirtual 161, 3) := by decide +kernel
theorem dX8_annul_75 : decode cX8_annul 75 = .ok (.iconst 1, 1) := by decide +kernel
theorem dX8_annul_76 : decode cX8_annul 76 = .ok (.ireturn, 1) := by decide +kernel
theorem dX8_seat_0 : decode cX8_seat 0 = .ok (.aload_n 0, 1) := by decide +kernel
theorem dX8_seat_1 : decode cX8_seat 1 = .ok (.getfield 12, 3) := by decide +kernel
theorem dX8_seat_4 : decode cX8_seat 4 = .ok (.iload_n 1, 1) := by decide +kernel
theorem dX8_seat_5 : decode cX8_seat 5 = .ok (.iload_n 2, 1) := by decide +kernel
theorem dX8_seat_6 : decode cX8_seat 6 = .ok (.iload_n 3, 1) := by decide +kernel
theorem dX8_seat_7 : decode cX8_seat 7 = .ok (.invokevirtual 147, 3) := by decide +kernel
theorem dX8_seat_10 : decode cX8_seat 10 = .ok (.ifCond .ne 5, 3) := by decide +kernel
theorem dX8_seat_13 : decode cX8_seat 13 = .ok (.iconst (-1), 1) := by decide +kernel
theorem dX8_seat_14 : decode cX8_seat 14 = .ok (.ireturn, 1) := by decide +kernel
theorem dX8_seat_15 : decode cX8_seat 15 = .ok (.aload_n 0, 1) := by decide +kernel
theorem dX8_seat_16 : decode cX8_seat 16 = .ok (.getfield 12, 3) := by decide +kernel
theorem dX8_seat_19 : decode cX8_seat 19 = .ok (.getfield 132, 3) := by decide +kernel
theorem dX8_seat_22 : decode cX8_seat 22 = .ok (.iload_n 1, 1) := by decide +kernel
theorem dX8_seat_23 : decode cX8_seat 23 = .ok (.aaload, 1) := by decide +kernel
theorem dX8_seat_24 : decode cX8_seat 24 = .ok (.iload_n 2, 1) := by decide +kernel
theorem dX8_seat_25 : decode cX8_seat 25 = .ok (.iload_n 3, 1) := by decide +kernel
theorem dX8_seat_26 : decode cX8_seat 26 = .ok (.invokevirtual 165, 3) := by decide +kernel
theorem dX8_seat_29 : decode cX8_seat 29 = .ok (.istore 4, 2) := by decide +kernel
theorem dX8_seat_31 : decode cX8_seat 31 = .ok (.iload 4, 2) := by decide +kernel
theorem dX8_seat_33 : decode cX8_seat 33 = .ok (.iconst (-1), 1) := by decide +kernel
theorem dX8_seat_34 : decode cX8_seat 34 = .ok (.if_icmp .ne 8, 3) := by decide +kernel
theorem dX8_seat_37 : decode cX8_seat 37 = .ok (.bipush (-2), 2) := by decide +kernel
theorem dX8_seat_39 : decode cX8_seat 39 = .ok (.goto 5, 3) := by decide +kernel
theorem dX8_seat_42 : decode cX8_seat 42 = .ok (.iload 4, 2) := by decide +kernel
theorem dX8_seat_44 : decode cX8_seat 44 = .ok (.ireturn, 1) := by decide +kernel
theorem dX8_holds_0 : decode cX8_holds 0 = .ok (.aload_n 0, 1) := by decide +kernel
theorem dX8_holds_1 : decode cX8_holds 1 = .ok (.getfield 12, 3) := by decide +kernel
theorem dX8_holds_4 : decode cX8_holds 4 = .ok (.iload_n 1, 1) := by decide +kernel
theorem dX8_holds_5 : decode cX8_holds 5 = .ok (.invokevirtual 62, 3) := by decide +kernel
theorem dX8_holds_8 : decode cX8_holds 8 = .ok (.ifCond .eq 10, 3) := by decide +kernel
theorem dX8_holds_11 : decode cX8_holds 11 = .ok (.iload_n 2, 1) := by decide +kernel
theorem dX8_holds_12 : decode cX8_holds 12 = .ok (.invokestatic 84, 3) := by decide +kernel
theorem dX8_holds_15 : decode cX8_holds 15 = .ok (.ifCond .ne 5, 3) := by decide +kernel
theorem dX8_holds_18 : decode cX8_holds 18 = .ok (.iconst (-1), 1) := by decide +kernel
theorem dX8_holds_19 : decode cX8_holds 19 = .ok (.ireturn, 1) := by decide +kernel
theorem dX8_holds_20 : decode cX8_holds 20 = .ok (.aload_n 0, 1) := by decide +kernel
theorem dX8_holds_21 : decode cX8_holds 21 = .ok (.getfield 12, 3) := by decide +kernel
theorem dX8_holds_24 : decode cX8_holds 24 = .ok (.getfield 77, 3) := by decide +kernel
theorem dX8_holds_27 : decode cX8_holds 27 = .ok (.iload_n 1, 1) := by decide +kernel
theorem dX8_holds_28 : decode cX8_holds 28 = .ok (.aaload, 1) := by decide +kernel
theorem dX8_holds_29 : decode cX8_holds 29 = .ok (.getfield 140, 3) := by decide +kernel
theorem dX8_holds_32 : decode cX8_holds 32 = .ok (.iload_n 2, 1) := by decide +kernel
theorem dX8_holds_33 : decode cX8_holds 33 = .ok (.baload, 1) := by decide +kernel
theorem dX8_holds_34 : decode cX8_holds 34 = .ok (.istore_n 3, 1) := by decide +kernel
theorem dX8_holds_35 : decode cX8_holds 35 = .ok (.iload_n 3, 1) := by decide +kernel
theorem dX8_holds_36 : decode cX8_holds 36 = .ok (.iconst (-1), 1) := by decide +kernel
theorem dX8_holds_37 : decode cX8_holds 37 = .ok (.if_icmp .ne 8, 3) := by decide +kernel
theorem dX8_holds_40 : decode cX8_holds 40 = .ok (.bipush (-2), 2) := by decide +kernel
theorem dX8_holds_42 : decode cX8_holds 42 = .ok (.goto 7, 3) := by decide +kernel
theorem dX8_holds_45 : decode cX8_holds 45 = .ok (.iload_n 3, 1) := by decide +kernel
theorem dX8_holds_46 : decode cX8_holds 46 = .ok (.bipush 100, 2) := by decide +kernel
theorem dX8_holds_48 : decode cX8_holds 48 = .ok (.irem, 1) := by decide +kernel
theorem dX8_holds_49 : decode cX8_holds 49 = .ok (.ireturn, 1) := by decide +kernel
theorem dX8_held_0 : decode cX8_held 0 = .ok (.aload_n 0, 1) := by decide +kernel
theorem dX8_held_1 : decode cX8_held 1 = .ok (.getfield 12, 3) := by decide +kernel
theorem dX8_held_4 : decode cX8_held 4 = .ok (.iload_n 1, 1) := by decide +kernel
theorem dX8_held_5 : decode cX8_held 5 = .ok (.invokevirtual 62, 3) := by decide +kernel
theorem dX8_held_8 : decode cX8_held 8 = .ok (.ifCond .eq 10, 3) := by decide +kernel
theorem dX8_held_11 : decode cX8_held 11 = .ok (.iload_n 3, 1) := by decide +kernel
theorem dX8_held_12 : decode cX8_held 12 = .ok (.invokestatic 84, 3) := by decide +kernel
theorem dX8_held_15 : decode cX8_held 15 = .ok (.ifCond .ne 5, 3) := by decide +kernel
theorem dX8_held_18 : decode cX8_held 18 = .ok (.iconst (-1), 1) := by decide +kernel
theorem dX8_held_19 : decode cX8_held 19 = .ok (.ireturn, 1) := by decide +kernel
theorem dX8_held_20 : decode cX8_held 20 = .ok (.iload_n 2, 1) := by decide +kernel
theorem dX8_held_21 : decode cX8_held 21 = .ok (.iconst (-1), 1) := by decide +kernel
theorem dX8_held_22 : decode cX8_held 22 = .ok (.if_icmp .eq 16, 3) := by decide +kernel
theorem dX8_held_25 : decode cX8_held 25 = .ok (.aload_n 0, 1) := by decide +kernel
theorem dX8_held_26 : decode cX8_held 26 = .ok (.getfield 12, 3) := by decide +kernel
theorem dX8_held_29 : decode cX8_held 29 = .ok (.iload_n 2, 1) := by decide +kernel
theorem dX8_held_30 : decode cX8_held 30 = .ok (.invokevirtual 101, 3) := by decide +kernel
theorem dX8_held_33 : decode cX8_held 33 = .ok (.ifCond .ne 5, 3) := by decide +kernel
theorem dX8_held_36 : decode cX8_held 36 = .ok (.iconst (-1), 1) := by decide +kernel
theorem dX8_held_37 : decode cX8_held 37 = .ok (.ireturn, 1) := by decide +kernel
theorem dX8_held_38 : decode cX8_held 38 = .ok (.aload_n 0, 1) := by decide +kernel
theorem dX8_held_39 : decode cX8_held 39 = .ok (.getfield 12, 3) := by decide +kernel
theorem dX8_held_42 : decode cX8_held 42 = .ok (.getfield 77, 3) := by decide +kernel
theorem dX8_held_45 : decode cX8_held 45 = .ok (.iload_n 1, 1) := by decide +kernel
theorem dX8_held_46 : decode cX8_held 46 = .ok (.aaload, 1) := by decide +kernel
theorem dX8_held_47 : decode cX8_held 47 = .ok (.iload_n 2, 1) := by decide +kernel
theorem dX8_held_48 : decode cX8_held 48 = .ok (.iload_n 3, 1) := by decide +kernel
theorem dX8_held_49 : decode cX8_held 49 = .ok (.invokevirtual 168, 3) := by decide +kernel
theorem dX8_held_52 : decode cX8_held 52 = .ok (.ireturn, 1) := by decide +kernel
theorem dX8_could_0 : decode cX8_could 0 = .ok (.aload_n 0, 1) := by decide +kernel
theorem dX8_could_1 : decode cX8_could 1 = .ok (.getfield 12, 3) := by decide +kernel
theorem dX8_could_4 : decode cX8_could 4 = .ok (.iload_n 1, 1) := by decide +kernel
theorem dX8_could_5 : decode cX8_could 5 = .ok (.invokevirtual 62, 3) := by decide +kernel
theorem dX8_could_8 : decode cX8_could 8 = .ok (.ifCond .eq 21, 3) := by decide +kernel
theorem dX8_could_11 : decode cX8_could 11 = .ok (.aload_n 0, 1) := by decide +kernel
theorem dX8_could_12 : decode cX8_could 12 = .ok (.getfield 12, 3) := by decide +kernel
theorem dX8_could_15 : decode cX8_could 15 = .ok (.iload_n 2, 1) := by decide +kernel
theorem dX8_could_16 : decode cX8_could 16 = .ok (.invokevirtual 101, 3) := by decide +kernel
theorem dX8_could_19 : decode cX8_could 19 = .ok (.ifCond .eq 10, 3) := by decide +kernel
theorem dX8_could_22 : decode cX8_could 22 = .ok (.iload_n 3, 1) := by decide +kernel
theorem dX8_could_23 : decode cX8_could 23 = .ok (.invokestatic 84, 3) := by decide +kernel
theorem dX8_could_26 : decode cX8_could 26 = .ok (.ifCond .ne 5, 3) := by decide +kernel
theorem dX8_could_29 : decode cX8_could 29 = .ok (.iconst (-1), 1) := by decide +kernel
theorem dX8_could_30 : decode cX8_could 30 = .ok (.ireturn, 1) := by decide +kernel
theorem dX8_could_31 : decode cX8_could 31 = .ok (.iload 4, 2) := by decide +kernel
theorem dX8_could_33 : decode cX8_could 33 = .ok (.ifCond .ne 14, 3) := by decide +kernel
theorem dX8_could_36 : decode cX8_could 36 = .ok (.aload_n 0, 1) := by decide +kernel
theorem dX8_could_37 : decode cX8_could 37 = .ok (.getfield 12, 3) := by decide +kernel
theorem dX8_could_40 : decode cX8_could 40 = .ok (.iload_n 1, 1) := by decide +kernel
theorem dX8_could_41 : decode cX8_could 41 = .ok (.iload_n 2, 1) := by decide +kernel
theorem dX8_could_42 : decode cX8_could 42 = .ok (.iload_n 3, 1) := by decide +kernel
theorem dX8_could_43 : decode cX8_could 43 = .ok (.invokevirtual 171, 3) := by decide +kernel
theorem dX8_could_46 : decode cX8_could 46 = .ok (.ireturn, 1) := by decide +kernel
theorem dX8_could_47 : decode cX8_could 47 = .ok (.iload 4, 2) := by decide +kernel
theorem dX8_could_49 : decode cX8_could 49 = .ok (.iconst 1, 1) := by decide +kernel
theorem dX8_could_50 : decode cX8_could 50 = .ok (.if_icmp .ne 17, 3) := by decide +kernel
theorem dX8_could_53 : decode cX8_could 53 = .ok (.aload_n 0, 1) := by decide +kernel
theorem dX8_could_54 : decode cX8_could 54 = .ok (.getfield 12, 3) := by decide +kernel
theorem dX8_could_57 : decode cX8_could 57 = .ok (.iload_n 1, 1) := by decide +kernel
theorem dX8_could_58 : decode cX8_could 58 = .ok (.iload_n 2, 1) := by decide +kernel
theorem dX8_could_59 : decode cX8_could 59 = .ok (.iload_n 3, 1) := by decide +kernel
theorem dX8_could_60 : decode cX8_could 60 = .ok (.iconst 1, 1) := by decide +kernel
theorem dX8_could_61 : decode cX8_could 61 = .ok (.invokevirtual 175, 3) := by decide +kernel
theorem dX8_could_64 : decode cX8_could 64 = .ok (.goto 4, 3) := by decide +kernel
theorem dX8_could_67 : decode cX8_could 67 = .ok (.iconst (-1), 1) := by decide +kernel
theorem dX8_could_68 : decode cX8_could 68 = .ok (.ireturn, 1) := by decide +kernel
theorem dX8_first_0 : decode cX8_first 0 = .ok (.aload_n 0, 1) := by decide +kernel
theorem dX8_first_1 : decode cX8_first 1 = .ok (.getfield 12, 3) := by decide +kernel
theorem dX8_first_4 : decode cX8_first 4 = .ok (.iload_n 1, 1) := by decide +kernel
theorem dX8_first_5 : decode cX8_first 5 = .ok (.invokevirtual 62, 3) := by decide +kernel
theorem dX8_first_8 : decode cX8_first 8 = .ok (.ifCond .eq 21, 3) := by decide +kernel
theorem dX8_first_11 : decode cX8_first 11 = .ok (.aload_n 0, 1) := by decide +kernel
theorem dX8_first_12 : decode cX8_first 12 = .ok (.getfield 12, 3) := by decide +kernel
theorem dX8_first_15 : decode cX8_first 15 = .ok (.iload_n 2, 1) := by decide +kernel
theorem dX8_first_16 : decode cX8_first 16 = .ok (.invokevirtual 101, 3) := by decide +kernel
theorem dX8_first_19 : decode cX8_first 19 = .ok (.ifCond .eq 10, 3) := by decide +kernel
theorem dX8_first_22 : decode cX8_first 22 = .ok (.iload_n 3, 1) := by decide +kernel
theorem dX8_first_23 : decode cX8_first 23 = .ok (.invokestatic 84, 3) := by decide +kernel
theorem dX8_first_26 : decode cX8_first 26 = .ok (.ifCond .ne 5, 3) := by decide +kernel
theorem dX8_first_29 : decode cX8_first 29 = .ok (.iconst (-1), 1) := by decide +kernel
theorem dX8_first_30 : decode cX8_first 30 = .ok (.ireturn, 1) := by decide +kernel
theorem dX8_first_31 : decode cX8_first 31 = .ok (.iload 4, 2) := by decide +kernel
theorem dX8_first_33 : decode cX8_first 33 = .ok (.ifCond .eq 7, 3) := by decide +kernel
theorem dX8_first_36 : decode cX8_first 36 = .ok (.iconst 2, 1) := by decide +kernel
theorem dX8_first_37 : decode cX8_first 37 = .ok (.goto 4, 3) := by decide +kernel
theorem dX8_first_40 : decode cX8_first 40 = .ok (.iconst 1, 1) := by decide +kernel
theorem dX8_first_41 : decode cX8_first 41 = .ok (.istore 5, 2) := by decide +kernel
theorem dX8_first_43 : decode cX8_first 43 = .ok (.iload_n 3, 1) := by decide +kernel
theorem dX8_first_44 : decode cX8_first 44 = .ok (.istore 6, 2) := by decide +kernel
theorem dX8_first_46 : decode cX8_first 46 = .ok (.iload 6, 2) := by decide +kernel
theorem dX8_first_48 : decode cX8_first 48 = .ok (.sipush 200, 3) := by decide +kernel
theorem dX8_first_51 : decode cX8_first 51 = .ok (.if_icmp .ge 28, 3) := by decide +kernel
theorem dX8_first_54 : decode cX8_first 54 = .ok (.aload_n 0, 1) := by decide +kernel
theorem dX8_first_55 : decode cX8_first 55 = .ok (.getfield 12, 3) := by decide +kernel
theorem dX8_first_58 : decode cX8_first 58 = .ok (.iload_n 1, 1) := by decide +kernel
theorem dX8_first_59 : decode cX8_first 59 = .ok (.iload_n 2, 1) := by decide +kernel
theorem dX8_first_60 : decode cX8_first 60 = .ok (.iload 6, 2) := by decide +kernel
theorem dX8_first_62 : decode cX8_first 62 = .ok (.invokevirtual 171, 3) := by decide +kernel
theorem dX8_first_65 : decode cX8_first 65 = .ok (.iload 5, 2) := by decide +kernel
theorem dX8_first_67 : decode cX8_first 67 = .ok (.if_icmp .lt 6, 3) := by decide +kernel
theorem dX8_first_70 : decode cX8_first 70 = .ok (.iload 6, 2) := by decide +kernel
theorem dX8_first_72 : decode cX8_first 72 = .ok (.ireturn, 1) := by decide +kernel
theorem dX8_first_73 : decode cX8_first 73 = .ok (.iinc 6 1, 3) := by decide +kernel
theorem dX8_first_76 : decode cX8_first 76 = .ok (.goto (-30), 3) := by decide +kernel
theorem dX8_first_79 : decode cX8_first 79 = .ok (.bipush (-2), 2) := by decide +kernel
theorem dX8_first_81 : decode cX8_first 81 = .ok (.ireturn, 1) := by decide +kernel
theorem dX8_who_0 : decode cX8_who 0 = .ok (.aload_n 0, 1) := by decide +kernel
theorem dX8_who_1 : decode cX8_who 1 = .ok (.getfield 12, 3) := by decide +kernel
theorem dX8_who_4 : decode cX8_who 4 = .ok (.iload_n 1, 1) := by decide +kernel
theorem dX8_who_5 : decode cX8_who 5 = .ok (.invokevirtual 101, 3) := by decide +kernel
theorem dX8_who_8 : decode cX8_who 8 = .ok (.ifCond .eq 10, 3) := by decide +kernel
theorem dX8_who_11 : decode cX8_who 11 = .ok (.iload_n 2, 1) := by decide +kernel
theorem dX8_who_12 : decode cX8_who 12 = .ok (.invokestatic 84, 3) := by decide +kernel
theorem dX8_who_15 : decode cX8_who 15 = .ok (.ifCond .ne 5, 3) := by decide +kernel
theorem dX8_who_18 : decode cX8_who 18 = .ok (.iconst (-1), 1) := by decide +kernel
theorem dX8_who_19 : decode cX8_who 19 = .ok (.ireturn, 1) := by decide +kernel
theorem dX8_who_20 : decode cX8_who 20 = .ok (.iload_n 3, 1) := by decide +kernel
theorem dX8_who_21 : decode cX8_who 21 = .ok (.ifCond .eq 7, 3) := by decide +kernel
theorem dX8_who_24 : decode cX8_who 24 = .ok (.iconst 2, 1) := by decide +kernel
theorem dX8_who_25 : decode cX8_who 25 = .ok (.goto 4, 3) := by decide +kernel
theorem dX8_who_28 : decode cX8_who 28 = .ok (.iconst 1, 1) := by decide +kernel
theorem dX8_who_29 : decode cX8_who 29 = .ok (.istore 4, 2) := by decide +kernel
theorem dX8_who_31 : decode cX8_who 31 = .ok (.iconst 0, 1) := by decide +kernel
theorem dX8_who_32 : decode cX8_who 32 = .ok (.istore 5, 2) := by decide +kernel
theorem dX8_who_34 : decode cX8_who 34 = .ok (.iconst 0, 1) := by decide +kernel
theorem dX8_who_35 : decode cX8_who 35 = .ok (.istore 6, 2) := by decide +kernel
theorem dX8_who_37 : decode cX8_who 37 = .ok (.iload 6, 2) := by decide +kernel
theorem dX8_who_39 : decode cX8_who 39 = .ok (.aload_n 0, 1) := by decide +kernel
theorem dX8_who_40 : decode cX8_who 40 = .ok (.getfield 12, 3) := by decide +kernel
theorem dX8_who_43 : decode cX8_who 43 = .ok (.getfield 65, 3) := by decide +kernel
theorem dX8_who_46 : decode cX8_who 46 = .ok (.if_icmp .ge 28, 3) := by decide +kernel
theorem dX8_who_49 : decode cX8_who 49 = .ok (.aload_n 0, 1) := by decide +kernel
theorem dX8_who_50 : decode cX8_who 50 = .ok (.getfield 12, 3) := by decide +kernel
theorem dX8_who_53 : decode cX8_who 53 = .ok (.iload 6, 2) := by decide +kernel
theorem dX8_who_55 : decode cX8_who 55 = .ok (.iload_n 1, 1) := by decide +kernel
theorem dX8_who_56 : decode cX8_who 56 = .ok (.iload_n 2, 1) := by decide +kernel
theorem dX8_who_57 : decode cX8_who 57 = .ok (.invokevirtual 171, 3) := by decide +kernel
theorem dX8_who_60 : decode cX8_who 60 = .ok (.iload 4, 2) := by decide +kernel
theorem dX8_who_62 : decode cX8_who 62 = .ok (.if_icmp .lt 6, 3) := by decide +kernel
theorem dX8_who_65 : decode cX8_who 65 = .ok (.iinc 5 1, 3) := by decide +kernel
theorem dX8_who_68 : decode cX8_who 68 = .ok (.iinc 6 1, 3) := by decide +kernel
theorem dX8_who_71 : decode cX8_who 71 = .ok (.goto (-34), 3) := by decide +kernel
theorem dX8_who_74 : decode cX8_who 74 = .ok (.iload 5, 2) := by decide +kernel
theorem dX8_who_76 : decode cX8_who 76 = .ok (.ireturn, 1) := by decide +kernel
theorem dX8_breaches_0 : decode cX8_breaches 0 = .ok (.iconst 0, 1) := by decide +kernel
theorem dX8_breaches_1 : decode cX8_breaches 1 = .ok (.istore_n 1, 1) := by decide +kernel
theorem dX8_breaches_2 : decode cX8_breaches 2 = .ok (.iconst 0, 1) := by decide +kernel
theorem dX8_breaches_3 : decode cX8_breaches 3 = .ok (.istore_n 2, 1) := by decide +kernel
theorem dX8_breaches_4 : decode cX8_breaches 4 = .ok (.iload_n 2, 1) := by decide +kernel
theorem dX8_breaches_5 : decode cX8_breaches 5 = .ok (.sipush 200, 3) := by decide +kernel
theorem dX8_breaches_8 : decode cX8_breaches 8 = .ok (.if_icmp .ge 40, 3) := by decide +kernel
theorem dX8_breaches_11 : decode cX8_breaches 11 = .ok (.iconst 0, 1) := by decide +kernel
theorem dX8_breaches_12 : decode cX8_breaches 12 = .ok (.istore_n 3, 1) := by decide +kernel
theorem dX8_breaches_13 : decode cX8_breaches 13 = .ok (.iload_n 3, 1) := by decide +kernel
theorem dX8_breaches_14 : decode cX8_breaches 14 = .ok (.aload_n 0, 1) := by decide +kernel
theorem dX8_breaches_15 : decode cX8_breaches 15 = .ok (.getfield 12, 3) := by decide +kernel
theorem dX8_breaches_18 : decode cX8_breaches 18 = .ok (.getfield 41, 3) := by decide +kernel
theorem dX8_breaches_21 : decode cX8_breaches 21 = .ok (.if_icmp .ge 21, 3) := by decide +kernel
theorem dX8_breaches_24 : decode cX8_breaches 24 = .ok (.iload_n 1, 1) := by decide +kernel
theorem dX8_breaches_25 : decode cX8_breaches 25 = .ok (.aload_n 0, 1) := by decide +kernel
theorem dX8_breaches_26 : decode cX8_breaches 26 = .ok (.getfield 12, 3) := by decide +kernel
theorem dX8_breaches_29 : decode cX8_breaches 29 = .ok (.iload_n 3, 1) := by decide +kernel
theorem dX8_breaches_30 : decode cX8_breaches 30 = .ok (.iload_n 2, 1) := by decide +kernel
theorem dX8_breaches_31 : decode cX8_breaches 31 = .ok (.invokevirtual 179, 3) := by decide +kernel
theorem dX8_breaches_34 : decode cX8_breaches 34 = .ok (.iadd, 1) := by decide +kernel
theorem dX8_breaches_35 : decode cX8_breaches 35 = .ok (.istore_n 1, 1) := by decide +kernel
theorem dX8_breaches_36 : decode cX8_breaches 36 = .ok (.iinc 3 1, 3) := by decide +kernel
theorem dX8_breaches_39 : decode cX8_breaches 39 = .ok (.goto (-26), 3) := by decide +kernel
theorem dX8_breaches_42 : decode cX8_breaches 42 = .ok (.iinc 2 1, 3) := by decide +kernel
theorem dX8_breaches_45 : decode cX8_breaches 45 = .ok (.goto (-41), 3) := by decide +kernel
theorem dX8_breaches_48 : decode cX8_breaches 48 = .ok (.iload_n 1, 1) := by decide +kernel
theorem dX8_breaches_49 : decode cX8_breaches 49 = .ok (.ireturn, 1) := by decide +kernel
theorem dX8_breach_0 : decode cX8_breach 0 = .ok (.iload_n 1, 1) := by decide +kernel
theorem dX8_breach_1 : decode cX8_breach 1 = .ok (.ifCond .ge 5, 3) := by decide +kernel
theorem dX8_breach_4 : decode cX8_breach 4 = .ok (.iconst (-1), 1) := by decide +kernel
theorem dX8_breach_5 : decode cX8_breach 5 = .ok (.ireturn, 1) := by decide +kernel
theorem dX8_breach_6 : decode cX8_breach 6 = .ok (.iconst 0, 1) := by decide +kernel
theorem dX8_breach_7 : decode cX8_breach 7 = .ok (.istore_n 2, 1) := by decide +kernel
theorem dX8_breach_8 : decode cX8_breach 8 = .ok (.iconst 0, 1) := by decide +kernel
theorem dX8_breach_9 : decode cX8_breach 9 = .ok (.istore_n 3, 1) := by decide +kernel
theorem dX8_breach_10 : decode cX8_breach 10 = .ok (.iload_n 3, 1) := by decide +kernel
theorem dX8_breach_11 : decode cX8_breach 11 = .ok (.sipush 200, 3) := by decide +kernel
theorem dX8_breach_14 : decode cX8_breach 14 = .ok (.if_icmp .ge 57, 3) := by decide +kernel
theorem dX8_breach_17 : decode cX8_breach 17 = .ok (.iconst 0, 1) := by decide +kernel
theorem dX8_breach_18 : decode cX8_breach 18 = .ok (.istore 4, 2) := by decide +kernel
theorem dX8_breach_20 : decode cX8_breach 20 = .ok (.iload 4, 2) := by decide +kernel
theorem dX8_breach_22 : decode cX8_breach 22 = .ok (.aload_n 0, 1) := by decide +kernel
theorem dX8_breach_23 : decode cX8_breach 23 = .ok (.getfield 12, 3) := by decide +kernel
theorem dX8_breach_26 : decode cX8_breach 26 = .ok (.getfield 41, 3) := by decide +kernel
theorem dX8_breach_29 : decode cX8_breach 29 = .ok (.if_icmp .ge 36, 3) := by decide +kernel
theorem dX8_breach_32 : decode cX8_breach 32 = .ok (.iload_n 2, 1) := by decide +kernel
theorem dX8_breach_33 : decode cX8_breach 33 = .ok (.aload_n 0, 1) := by decide +kernel
theorem dX8_breach_34 : decode cX8_breach 34 = .ok (.getfield 12, 3) := by decide +kernel
theorem dX8_breach_37 : decode cX8_breach 37 = .ok (.iload 4, 2) := by decide +kernel
theorem dX8_breach_39 : decode cX8_breach 39 = .ok (.iload_n 3, 1) := by decide +kernel
theorem dX8_breach_40 : decode cX8_breach 40 = .ok (.invokevirtual 179, 3) := by decide +kernel
theorem dX8_breach_43 : decode cX8_breach 43 = .ok (.iadd, 1) := by decide +kernel
theorem dX8_breach_44 : decode cX8_breach 44 = .ok (.istore_n 2, 1) := by decide +kernel
theorem dX8_breach_45 : decode cX8_breach 45 = .ok (.iload_n 2, 1) := by decide +kernel
theorem dX8_breach_46 : decode cX8_breach 46 = .ok (.iload_n 1, 1) := by decide +kernel
theorem dX8_breach_47 : decode cX8_breach 47 = .ok (.if_icmp .le 12, 3) := by decide +kernel
theorem dX8_breach_50 : decode cX8_breach 50 = .ok (.sipush 1000, 3) := by decide +kernel
theorem dX8_breach_53 : decode cX8_breach 53 = .ok (.iload 4, 2) := by decide +kernel
theorem dX8_breach_55 : decode cX8_breach 55 = .ok (.imul, 1) := by decide +kernel
theorem dX8_breach_56 : decode cX8_breach 56 = .ok (.iload_n 3, 1) := by decide +kernel
theorem dX8_breach_57 : decode cX8_breach 57 = .ok (.iadd, 1) := by decide +kernel
theorem dX8_breach_58 : decode cX8_breach 58 = .ok (.ireturn, 1) := by decide +kernel
theorem dX8_breach_59 : decode cX8_breach 59 = .ok (.iinc 4 1, 3) := by decide +kernel
theorem dX8_breach_62 : decode cX8_breach 62 = .ok (.goto (-42), 3) := by decide +kernel
theorem dX8_breach_65 : decode cX8_breach 65 = .ok (.iinc 3 1, 3) := by decide +kernel
theorem dX8_breach_68 : decode cX8_breach 68 = .ok (.goto (-58), 3) := by decide +kernel
theorem dX8_breach_71 : decode cX8_breach 71 = .ok (.bipush (-3), 2) := by decide +kernel
theorem dX8_breach_73 : decode cX8_breach 73 = .ok (.ireturn, 1) := by decide +kernel
theorem dX8_fillings_0 : decode cX8_fillings 0 = .ok (.iload_n 1, 1) := by decide +kernel
theorem dX8_fillings_1 : decode cX8_fillings 1 = .ok (.invokestatic 84, 3) := by decide +kernel
theorem dX8_fillings_4 : decode cX8_fillings 4 = .ok (.ifCond .ne 5, 3) := by decide +kernel
theorem dX8_fillings_7 : decode cX8_fillings 7 = .ok (.iconst (-1), 1) := by decide +kernel
theorem dX8_fillings_8 : decode cX8_fillings 8 = .ok (.ireturn, 1) := by decide +kernel
theorem dX8_fillings_9 : decode cX8_fillings 9 = .ok (.aload_n 0, 1) := by decide +kernel
theorem dX8_fillings_10 : decode cX8_fillings 10 = .ok (.getfield 19, 3) := by decide +kernel
theorem dX8_fillings_13 : decode cX8_fillings 13 = .ok (.aload_n 0, 1) := by decide +kernel
theorem dX8_fillings_14 : decode cX8_fillings 14 = .ok (.getfield 12, 3) := by decide +kernel
theorem dX8_fillings_17 : decode cX8_fillings 17 = .ok (.iload_n 1, 1) := by decide +kernel
theorem dX8_fillings_18 : decode cX8_fillings 18 = .ok (.iconst (-1), 1) := by decide +kernel
theorem dX8_fillings_19 : decode cX8_fillings 19 = .ok (.iconst (-1), 1) := by decide +kernel
theorem dX8_fillings_20 : decode cX8_fillings 20 = .ok (.iconst 0, 1) := by decide +kernel
theorem dX8_fillings_21 : decode cX8_fillings 21 = .ok (.invokevirtual 182, 3) := by decide +kernel
theorem dX8_fillings_24 : decode cX8_fillings 24 = .ok (.aload_n 0, 1) := by decide +kernel
theorem dX8_fillings_25 : decode cX8_fillings 25 = .ok (.getfield 19, 3) := by decide +kernel
theorem dX8_fillings_28 : decode cX8_fillings 28 = .ok (.getfield 186, 3) := by decide +kernel
theorem dX8_fillings_31 : decode cX8_fillings 31 = .ok (.ifCond .eq 8, 3) := by decide +kernel
theorem dX8_fillings_34 : decode cX8_fillings 34 = .ok (.bipush (-8), 2) := by decide +kernel
theorem dX8_fillings_36 : decode cX8_fillings 36 = .ok (.goto 10, 3) := by decide +kernel
theorem dX8_fillings_39 : decode cX8_fillings 39 = .ok (.aload_n 0, 1) := by decide +kernel
theorem dX8_fillings_40 : decode cX8_fillings 40 = .ok (.getfield 19, 3) := by decide +kernel
theorem dX8_fillings_43 : decode cX8_fillings 43 = .ok (.getfield 190, 3) := by decide +kernel
theorem dX8_fillings_46 : decode cX8_fillings 46 = .ok (.ireturn, 1) := by decide +kernel
theorem dX8_fill_0 : decode cX8_fill 0 = .ok (.iload_n 1, 1) := by decide +kernel
theorem dX8_fill_1 : decode cX8_fill 1 = .ok (.invokestatic 84, 3) := by decide +kernel
theorem dX8_fill_4 : decode cX8_fill 4 = .ok (.ifCond .ne 5, 3) := by decide +kernel
theorem dX8_fill_7 : decode cX8_fill 7 = .ok (.iconst (-1), 1) := by decide +kernel
theorem dX8_fill_8 : decode cX8_fill 8 = .ok (.ireturn, 1) := by decide +kernel
theorem dX8_fill_9 : decode cX8_fill 9 = .ok (.aload_n 0, 1) := by decide +kernel
theorem dX8_fill_10 : decode cX8_fill 10 = .ok (.getfield 19, 3) := by decide +kernel
theorem dX8_fill_13 : decode cX8_fill 13 = .ok (.aload_n 0, 1) := by decide +kernel
theorem dX8_fill_14 : decode cX8_fill 14 = .ok (.getfield 12, 3) := by decide +kernel
theorem dX8_fill_17 : decode cX8_fill 17 = .ok (.iload_n 1, 1) := by decide +kernel
theorem dX8_fill_18 : decode cX8_fill 18 = .ok (.iconst (-1), 1) := by decide +kernel
theorem dX8_fill_19 : decode cX8_fill 19 = .ok (.iconst (-1), 1) := by decide +kernel
theorem dX8_fill_20 : decode cX8_fill 20 = .ok (.iconst 1, 1) := by decide +kernel
theorem dX8_fill_21 : decode cX8_fill 21 = .ok (.invokevirtual 182, 3) := by decide +kernel
theorem dX8_fill_24 : decode cX8_fill 24 = .ok (.aload_n 0, 1) := by decide +kernel
theorem dX8_fill_25 : decode cX8_fill 25 = .ok (.getfield 19, 3) := by decide +kernel
theorem dX8_fill_28 : decode cX8_fill 28 = .ok (.getfield 186, 3) := by decide +kernel
theorem dX8_fill_31 : decode cX8_fill 31 = .ok (.ifCond .eq 6, 3) := by decide +kernel
theorem dX8_fill_34 : decode cX8_fill 34 = .ok (.bipush (-8), 2) := by decide +kernel
theorem dX8_fill_36 : decode cX8_fill 36 = .ok (.ireturn, 1) := by decide +kernel
theorem dX8_fill_37 : decode cX8_fill 37 = .ok (.aload_n 0, 1) := by decide +kernel
theorem dX8_fill_38 : decode cX8_fill 38 = .ok (.getfield 19, 3) := by decide +kernel
theorem dX8_fill_41 : decode cX8_fill 41 = .ok (.getfield 190, 3) := by decide +kernel
theorem dX8_fill_44 : decode cX8_fill 44 = .ok (.ifCond .ne 6, 3) := by decide +kernel
theorem dX8_fill_47 : decode cX8_fill 47 = .ok (.bipush (-9), 2) := by decide +kernel
theorem dX8_fill_49 : decode cX8_fill 49 = .ok (.ireturn, 1) := by decide +kernel
theorem dX8_fill_50 : decode cX8_fill 50 = .ok (.aload_n 0, 1) := by decide +kernel
theorem dX8_fill_51 : decode cX8_fill 51 = .ok (.getfield 19, 3) := by decide +kernel
theorem dX8_fill_54 : decode cX8_fill 54 = .ok (.aload_n 0, 1) := by decide +kernel
theorem dX8_fill_55 : decode cX8_fill 55 = .ok (.getfield 12, 3) := by decide +kernel
theorem dX8_fill_58 : decode cX8_fill 58 = .ok (.iload_n 1, 1) := by decide +kernel
theorem dX8_fill_59 : decode cX8_fill 59 = .ok (.invokevirtual 193, 3) := by decide +kernel
theorem dX8_fill_62 : decode cX8_fill 62 = .ok (.aload_n 0, 1) := by decide +kernel
theorem dX8_fill_63 : decode cX8_fill 63 = .ok (.getfield 19, 3) := by decide +kernel
theorem dX8_fill_66 : decode cX8_fill 66 = .ok (.getfield 197, 3) := by decide +kernel
theorem dX8_fill_69 : decode cX8_fill 69 = .ok (.ireturn, 1) := by decide +kernel
theorem dX8_among_0 : decode cX8_among 0 = .ok (.aload_n 0, 1) := by decide +kernel
theorem dX8_among_1 : decode cX8_among 1 = .ok (.getfield 12, 3) := by decide +kernel
theorem dX8_among_4 : decode cX8_among 4 = .ok (.iload_n 1, 1) := by decide +kernel
theorem dX8_among_5 : decode cX8_among 5 = .ok (.invokevirtual 62, 3) := by decide +kernel
theorem dX8_among_8 : decode cX8_among 8 = .ok (.ifCond .eq 21, 3) := by decide +kernel
theorem dX8_among_11 : decode cX8_among 11 = .ok (.aload_n 0, 1) := by decide +kernel
theorem dX8_among_12 : decode cX8_among 12 = .ok (.getfield 12, 3) := by decide +kernel
theorem dX8_among_15 : decode cX8_among 15 = .ok (.iload_n 2, 1) := by decide +kernel
theorem dX8_among_16 : decode cX8_among 16 = .ok (.invokevirtual 101, 3) := by decide +kernel
theorem dX8_among_19 : decode cX8_among 19 = .ok (.ifCond .eq 10, 3) := by decide +kernel
theorem dX8_among_22 : decode cX8_among 22 = .ok (.iload_n 3, 1) := by decide +kernel
theorem dX8_among_23 : decode cX8_among 23 = .ok (.invokestatic 84, 3) := by decide +kernel
theorem dX8_among_26 : decode cX8_among 26 = .ok (.ifCond .ne 5, 3) := by decide +kernel
theorem dX8_among_29 : decode cX8_among 29 = .ok (.iconst (-1), 1) := by decide +kernel
theorem dX8_among_30 : decode cX8_among 30 = .ok (.ireturn, 1) := by decide +kernel
theorem dX8_among_31 : decode cX8_among 31 = .ok (.aload_n 0, 1) := by decide +kernel
theorem dX8_among_32 : decode cX8_among 32 = .ok (.getfield 19, 3) := by decide +kernel
theorem dX8_among_35 : decode cX8_among 35 = .ok (.aload_n 0, 1) := by decide +kernel
theorem dX8_among_36 : decode cX8_among 36 = .ok (.getfield 12, 3) := by decide +kernel
theorem dX8_among_39 : decode cX8_among 39 = .ok (.iload_n 3, 1) := by decide +kernel
theorem dX8_among_40 : decode cX8_among 40 = .ok (.iload_n 1, 1) := by decide +kernel
theorem dX8_among_41 : decode cX8_among 41 = .ok (.iload_n 2, 1) := by decide +kernel
theorem dX8_among_42 : decode cX8_among 42 = .ok (.iconst 0, 1) := by decide +kernel
theorem dX8_among_43 : decode cX8_among 43 = .ok (.invokevirtual 182, 3) := by decide +kernel
theorem dX8_among_46 : decode cX8_among 46 = .ok (.aload_n 0, 1) := by decide +kernel
theorem dX8_among_47 : decode cX8_among 47 = .ok (.getfield 19, 3) := by decide +kernel
theorem dX8_among_50 : decode cX8_among 50 = .ok (.getfield 186, 3) := by decide +kernel
theorem dX8_among_53 : decode cX8_among 53 = .ok (.ifCond .eq 8, 3) := by decide +kernel
theorem dX8_among_56 : decode cX8_among 56 = .ok (.bipush (-8), 2) := by decide +kernel
theorem dX8_among_58 : decode cX8_among 58 = .ok (.goto 10, 3) := by decide +kernel
theorem dX8_among_61 : decode cX8_among 61 = .ok (.aload_n 0, 1) := by decide +kernel
theorem dX8_among_62 : decode cX8_among 62 = .ok (.getfield 19, 3) := by decide +kernel
theorem dX8_among_65 : decode cX8_among 65 = .ok (.getfield 200, 3) := by decide +kernel
theorem dX8_among_68 : decode cX8_among 68 = .ok (.ireturn, 1) := by decide +kernel
theorem dX8_election_0 : decode cX8_election 0 = .ok (.iload_n 1, 1) := by decide +kernel
theorem dX8_election_1 : decode cX8_election 1 = .ok (.iconst 2, 1) := by decide +kernel
theorem dX8_election_2 : decode cX8_election 2 = .ok (.if_icmp .lt 8, 3) := by decide +kernel
theorem dX8_election_5 : decode cX8_election 5 = .ok (.iload_n 1, 1) := by decide +kernel
theorem dX8_election_6 : decode cX8_election 6 = .ok (.iconst 4, 1) := by decide +kernel
theorem dX8_election_7 : decode cX8_election 7 = .ok (.if_icmp .le 5, 3) := by decide +kernel
theorem dX8_election_10 : decode cX8_election 10 = .ok (.iconst (-1), 1) := by decide +kernel
theorem dX8_election_11 : decode cX8_election 11 = .ok (.ireturn, 1) := by decide +kernel
theorem dX8_election_12 : decode cX8_election 12 = .ok (.iload_n 2, 1) := by decide +kernel
theorem dX8_election_13 : decode cX8_election 13 = .ok (.iconst 1, 1) := by decide +kernel
theorem dX8_election_14 : decode cX8_election 14 = .ok (.if_icmp .lt 13, 3) := by decide +kernel
theorem dX8_election_17 : decode cX8_election 17 = .ok (.iload_n 2, 1) := by decide +kernel
theorem dX8_election_18 : decode cX8_election 18 = .ok (.iconst 2, 1) := by decide +kernel
theorem dX8_election_19 : decode cX8_election 19 = .ok (.if_icmp .gt 8, 3) := by decide +kernel
theorem dX8_election_22 : decode cX8_election 22 = .ok (.iload_n 2, 1) := by decide +kernel
theorem dX8_election_23 : decode cX8_election 23 = .ok (.iload_n 1, 1) := by decide +kernel
theorem dX8_election_24 : decode cX8_election 24 = .ok (.if_icmp .lt 5, 3) := by decide +kernel
theorem dX8_election_27 : decode cX8_election 27 = .ok (.iconst (-1), 1) := by decide +kernel
theorem dX8_election_28 : decode cX8_election 28 = .ok (.ireturn, 1) := by decide +kernel
theorem dX8_election_29 : decode cX8_election 29 = .ok (.aload_n 0, 1) := by decide +kernel
theorem dX8_election_30 : decode cX8_election 30 = .ok (.getfield 26, 3) := by decide +kernel
theorem dX8_election_33 : decode cX8_election 33 = .ok (.getfield 203, 3) := by decide +kernel
theorem dX8_election_36 : decode cX8_election 36 = .ok (.istore_n 3, 1) := by decide +kernel
theorem dX8_election_37 : decode cX8_election 37 = .ok (.aload_n 0, 1) := by decide +kernel
theorem dX8_election_38 : decode cX8_election 38 = .ok (.getfield 26, 3) := by decide +kernel
theorem dX8_election_41 : decode cX8_election 41 = .ok (.iload_n 1, 1) := by decide +kernel
theorem dX8_election_42 : decode cX8_election 42 = .ok (.iload_n 2, 1) := by decide +kernel
theorem dX8_election_43 : decode cX8_election 43 = .ok (.invokevirtual 206, 3) := by decide +kernel
theorem dX8_election_46 : decode cX8_election 46 = .ok (.iload_n 3, 1) := by decide +kernel
theorem dX8_election_47 : decode cX8_election 47 = .ok (.ireturn, 1) := by decide +kernel
theorem dX8_vote_0 : decode cX8_vote 0 = .ok (.iload_n 1, 1) := by decide +kernel
theorem dX8_vote_1 : decode cX8_vote 1 = .ok (.ifCond .lt 20, 3) := by decide +kernel
theorem dX8_vote_4 : decode cX8_vote 4 = .ok (.iload_n 1, 1) := by decide +kernel
theorem dX8_vote_5 : decode cX8_vote 5 = .ok (.bipush 35, 2) := by decide +kernel
theorem dX8_vote_7 : decode cX8_vote 7 = .ok (.if_icmp .ge 14, 3) := by decide +kernel
theorem dX8_vote_10 : decode cX8_vote 10 = .ok (.aload_n 0, 1) := by decide +kernel
theorem dX8_vote_11 : decode cX8_vote 11 = .ok (.getfield 26, 3) := by decide +kernel
theorem dX8_vote_14 : decode cX8_vote 14 = .ok (.iload_n 2, 1) := by decide +kernel
theorem dX8_vote_15 : decode cX8_vote 15 = .ok (.invokevirtual 209, 3) := by decide +kernel
theorem dX8_vote_18 : decode cX8_vote 18 = .ok (.ifCond .ne 5, 3) := by decide +kernel
theorem dX8_vote_21 : decode cX8_vote 21 = .ok (.iconst (-1), 1) := by decide +kernel
theorem dX8_vote_22 : decode cX8_vote 22 = .ok (.ireturn, 1) := by decide +kernel
theorem dX8_vote_23 : decode cX8_vote 23 = .ok (.aload_n 0, 1) := by decide +kernel
theorem dX8_vote_24 : decode cX8_vote 24 = .ok (.getfield 26, 3) := by decide +kernel
theorem dX8_vote_27 : decode cX8_vote 27 = .ok (.iload_n 1, 1) := by decide +kernel
theorem dX8_vote_28 : decode cX8_vote 28 = .ok (.iload_n 2, 1) := by decide +kernel
theorem dX8_vote_29 : decode cX8_vote 29 = .ok (.invokevirtual 212, 3) := by decide +kernel
theorem dX8_vote_32 : decode cX8_vote 32 = .ok (.ifCond .eq 7, 3) := by decide +kernel
theorem dX8_vote_35 : decode cX8_vote 35 = .ok (.iconst 1, 1) := by decide +kernel
theorem dX8_vote_36 : decode cX8_vote 36 = .ok (.goto 4, 3) := by decide +kernel
theorem dX8_vote_39 : decode cX8_vote 39 = .ok (.iconst 0, 1) := by decide +kernel
theorem dX8_vote_40 : decode cX8_vote 40 = .ok (.ireturn, 1) := by decide +kernel
theorem dX8_elected_0 : decode cX8_elected 0 = .ok (.lload_n 1, 1) := by decide +kernel
theorem dX8_elected_1 : decode cX8_elected 1 = .ok (.lconst 0, 1) := by decide +kernel
theorem dX8_elected_2 : decode cX8_elected 2 = .ok (.lcmp, 1) := by decide +kernel
theorem dX8_elected_3 : decode cX8_elected 3 = .ok (.ifCond .lt 29, 3) := by decide +kernel
theorem dX8_elected_6 : decode cX8_elected 6 = .ok (.iload_n 3, 1) := by decide +kernel
theorem dX8_elected_7 : decode cX8_elected 7 = .ok (.ifCond .lt 25, 3) := by decide +kernel
theorem dX8_elected_10 : decode cX8_elected 10 = .ok (.iload_n 3, 1) := by decide +kernel
theorem dX8_elected_11 : decode cX8_elected 11 = .ok (.aload_n 0, 1) := by decide +kernel
theorem dX8_elected_12 : decode cX8_elected 12 = .ok (.getfield 26, 3) := by decide +kernel
theorem dX8_elected_15 : decode cX8_elected 15 = .ok (.getfield 215, 3) := by decide +kernel
theorem dX8_elected_18 : decode cX8_elected 18 = .ok (.if_icmp .ge 14, 3) := by decide +kernel
theorem dX8_elected_21 : decode cX8_elected 21 = .ok (.iload 4, 2) := by decide +kernel
theorem dX8_elected_23 : decode cX8_elected 23 = .ok (.ifCond .lt 9, 3) := by decide +kernel
theorem dX8_elected_26 : decode cX8_elected 26 = .ok (.iload 4, 2) := by decide +kernel
theorem dX8_elected_28 : decode cX8_elected 28 = .ok (.iconst 1, 1) := by decide +kernel
theorem dX8_elected_29 : decode cX8_elected 29 = .ok (.if_icmp .le 5, 3) := by decide +kernel
theorem dX8_elected_32 : decode cX8_elected 32 = .ok (.iconst (-1), 1) := by decide +kernel
theorem dX8_elected_33 : decode cX8_elected 33 = .ok (.ireturn, 1) := by decide +kernel
theorem dX8_elected_34 : decode cX8_elected 34 = .ok (.aload_n 0, 1) := by decide +kernel
theorem dX8_elected_35 : decode cX8_elected 35 = .ok (.getfield 26, 3) := by decide +kernel
theorem dX8_elected_38 : decode cX8_elected 38 = .ok (.lload_n 1, 1) := by decide +kernel
theorem dX8_elected_39 : decode cX8_elected 39 = .ok (.invokevirtual 218, 3) := by decide +kernel
theorem dX8_elected_42 : decode cX8_elected 42 = .ok (.iload 4, 2) := by decide +kernel
theorem dX8_elected_44 : decode cX8_elected 44 = .ok (.ifCond .ne 15, 3) := by decide +kernel
theorem dX8_elected_47 : decode cX8_elected 47 = .ok (.aload_n 0, 1) := by decide +kernel
theorem dX8_elected_48 : decode cX8_elected 48 = .ok (.getfield 26, 3) := by decide +kernel
theorem dX8_elected_51 : decode cX8_elected 51 = .ok (.getfield 222, 3) := by decide +kernel
theorem dX8_elected_54 : decode cX8_elected 54 = .ok (.iload_n 3, 1) := by decide +kernel
theorem dX8_elected_55 : decode cX8_elected 55 = .ok (.iaload, 1) := by decide +kernel
theorem dX8_elected_56 : decode cX8_elected 56 = .ok (.goto 12, 3) := by decide +kernel
theorem dX8_elected_59 : decode cX8_elected 59 = .ok (.aload_n 0, 1) := by decide +kernel
theorem dX8_elected_60 : decode cX8_elected 60 = .ok (.getfield 26, 3) := by decide +kernel
theorem dX8_elected_63 : decode cX8_elected 63 = .ok (.getfield 225, 3) := by decide +kernel
theorem dX8_elected_66 : decode cX8_elected 66 = .ok (.iload_n 3, 1) := by decide +kernel
theorem dX8_elected_67 : decode cX8_elected 67 = .ok (.iaload, 1) := by decide +kernel
theorem dX8_elected_68 : decode cX8_elected 68 = .ok (.ireturn, 1) := by decide +kernel
theorem dX8_sure_0 : decode cX8_sure 0 = .ok (.lload_n 1, 1) := by decide +kernel
theorem dX8_sure_1 : decode cX8_sure 1 = .ok (.lconst 0, 1) := by decide +kernel
theorem dX8_sure_2 : decode cX8_sure 2 = .ok (.lcmp, 1) := by decide +kernel
theorem dX8_sure_3 : decode cX8_sure 3 = .ok (.ifCond .ge 7, 3) := by decide +kernel
theorem dX8_sure_6 : decode cX8_sure 6 = .ok (.iconst (-1), 1) := by decide +kernel
theorem dX8_sure_7 : decode cX8_sure 7 = .ok (.goto 11, 3) := by decide +kernel
theorem dX8_sure_10 : decode cX8_sure 10 = .ok (.aload_n 0, 1) := by decide +kernel
theorem dX8_sure_11 : decode cX8_sure 11 = .ok (.getfield 26, 3) := by decide +kernel
theorem dX8_sure_14 : decode cX8_sure 14 = .ok (.lload_n 1, 1) := by decide +kernel
theorem dX8_sure_15 : decode cX8_sure 15 = .ok (.invokevirtual 228, 3) := by decide +kernel
theorem dX8_sure_18 : decode cX8_sure 18 = .ok (.ireturn, 1) := by decide +kernel
theorem dX8_drawn_0 : decode cX8_drawn 0 = .ok (.iload_n 1, 1) := by decide +kernel
theorem dX8_drawn_1 : decode cX8_drawn 1 = .ok (.iconst 1, 1) := by decide +kernel
theorem dX8_drawn_2 : decode cX8_drawn 2 = .ok (.if_icmp .lt 26, 3) := by decide +kernel
theorem dX8_drawn_5 : decode cX8_drawn 5 = .ok (.iload_n 1, 1) := by decide +kernel
theorem dX8_drawn_6 : decode cX8_drawn 6 = .ok (.bipush 35, 2) := by decide +kernel
theorem dX8_drawn_8 : decode cX8_drawn 8 = .ok (.if_icmp .gt 20, 3) := by decide +kernel
theorem dX8_drawn_11 : decode cX8_drawn 11 = .ok (.lload_n 2, 1) := by decide +kernel
theorem dX8_drawn_12 : decode cX8_drawn 12 = .ok (.lconst 0, 1) := by decide +kernel
theorem dX8_drawn_13 : decode cX8_drawn 13 = .ok (.lcmp, 1) := by decide +kernel
theorem dX8_drawn_14 : decode cX8_drawn 14 = .ok (.ifCond .lt 14, 3) := by decide +kernel
theorem dX8_drawn_17 : decode cX8_drawn 17 = .ok (.iload 4, 2) := by decide +kernel
theorem dX8_drawn_19 : decode cX8_drawn 19 = .ok (.ifCond .lt 9, 3) := by decide +kernel
theorem dX8_drawn_22 : decode cX8_drawn 22 = .ok (.iload 4, 2) := by decide +kernel
theorem dX8_drawn_24 : decode cX8_drawn 24 = .ok (.iload_n 1, 1) := by decide +kernel
theorem dX8_drawn_25 : decode cX8_drawn 25 = .ok (.if_icmp .lt 5, 3) := by decide +kernel
theorem dX8_drawn_28 : decode cX8_drawn 28 = .ok (.iconst (-1), 1) := by decide +kernel
theorem dX8_drawn_29 : decode cX8_drawn 29 = .ok (.ireturn, 1) := by decide +kernel
theorem dX8_drawn_30 : decode cX8_drawn 30 = .ok (.aload_n 0, 1) := by decide +kernel
theorem dX8_drawn_31 : decode cX8_drawn 31 = .ok (.getfield 36, 3) := by decide +kernel
theorem dX8_drawn_34 : decode cX8_drawn 34 = .ok (.iload_n 1, 1) := by decide +kernel
theorem dX8_drawn_35 : decode cX8_drawn 35 = .ok (.lload_n 2, 1) := by decide +kernel
theorem dX8_drawn_36 : decode cX8_drawn 36 = .ok (.invokestatic 232, 3) := by decide +kernel
theorem dX8_drawn_39 : decode cX8_drawn 39 = .ok (.aload_n 0, 1) := by decide +kernel
theorem dX8_drawn_40 : decode cX8_drawn 40 = .ok (.getfield 36, 3) := by decide +kernel
theorem dX8_drawn_43 : decode cX8_drawn 43 = .ok (.iload 4, 2) := by decide +kernel
theorem dX8_drawn_45 : decode cX8_drawn 45 = .ok (.iaload, 1) := by decide +kernel
theorem dX8_drawn_46 : decode cX8_drawn 46 = .ok (.ireturn, 1) := by decide +kernel
theorem dX8_province_0 : decode cX8_province 0 = .ok (.aload_n 0, 1) := by decide +kernel
theorem dX8_province_1 : decode cX8_province 1 = .ok (.getfield 12, 3) := by decide +kernel
theorem dX8_province_4 : decode cX8_province 4 = .ok (.iload_n 1, 1) := by decide +kernel
theorem dX8_province_5 : decode cX8_province 5 = .ok (.iload_n 2, 1) := by decide +kernel
theorem dX8_province_6 : decode cX8_province 6 = .ok (.iload_n 3, 1) := by decide +kernel
theorem dX8_province_7 : decode cX8_province 7 = .ok (.invokevirtual 147, 3) := by decide +kernel
theorem dX8_province_10 : decode cX8_province 10 = .ok (.ifCond .eq 23, 3) := by decide +kernel
theorem dX8_province_13 : decode cX8_province 13 = .ok (.iload 4, 2) := by decide +kernel
theorem dX8_province_15 : decode cX8_province 15 = .ok (.iconst 1, 1) := by decide +kernel
theorem dX8_province_16 : decode cX8_province 16 = .ok (.if_icmp .lt 17, 3) := by decide +kernel
theorem dX8_province_19 : decode cX8_province 19 = .ok (.iload 4, 2) := by decide +kernel
theorem dX8_province_21 : decode cX8_province 21 = .ok (.bipush 9, 2) := by decide +kernel
theorem dX8_province_23 : decode cX8_province 23 = .ok (.if_icmp .gt 10, 3) := by decide +kernel
theorem dX8_province_26 : decode cX8_province 26 = .ok (.lload 5, 2) := by decide +kernel
theorem dX8_province_28 : decode cX8_province 28 = .ok (.lconst 0, 1) := by decide +kernel
theorem dX8_province_29 : decode cX8_province 29 = .ok (.lcmp, 1) := by decide +kernel
theorem dX8_province_30 : decode cX8_province 30 = .ok (.ifCond .ge 5, 3) := by decide +kernel
theorem dX8_province_33 : decode cX8_province 33 = .ok (.iconst (-1), 1) := by decide +kernel
theorem dX8_province_34 : decode cX8_province 34 = .ok (.ireturn, 1) := by decide +kernel
theorem dX8_province_35 : decode cX8_province 35 = .ok (.aload_n 0, 1) := by decide +kernel
theorem dX8_province_36 : decode cX8_province 36 = .ok (.getfield 12, 3) := by decide +kernel
theorem dX8_province_39 : decode cX8_province 39 = .ok (.getfield 132, 3) := by decide +kernel
theorem dX8_province_42 : decode cX8_province 42 = .ok (.iload_n 1, 1) := by decide +kernel
theorem dX8_province_43 : decode cX8_province 43 = .ok (.aaload, 1) := by decide +kernel
theorem dX8_province_44 : decode cX8_province 44 = .ok (.astore 7, 2) := by decide +kernel
theorem dX8_province_46 : decode cX8_province 46 = .ok (.aload 7, 2) := by decide +kernel
theorem dX8_province_48 : decode cX8_province 48 = .ok (.iload_n 2, 1) := by decide +kernel
theorem dX8_province_49 : decode cX8_province 49 = .ok (.iload_n 3, 1) := by decide +kernel
theorem dX8_province_50 : decode cX8_province 50 = .ok (.invokevirtual 151, 3) := by decide +kernel
theorem dX8_province_53 : decode cX8_province 53 = .ok (.iconst (-1), 1) := by decide +kernel
theorem dX8_province_54 : decode cX8_province 54 = .ok (.if_icmp .ne 6, 3) := by decide +kernel
theorem dX8_province_57 : decode cX8_province 57 = .ok (.bipush (-3), 2) := by decide +kernel
theorem dX8_province_59 : decode cX8_province 59 = .ok (.ireturn, 1) := by decide +kernel
theorem dX8_province_60 : decode cX8_province 60 = .ok (.aload 7, 2) := by decide +kernel
theorem dX8_province_62 : decode cX8_province 62 = .ok (.iload_n 2, 1) := by decide +kernel
theorem dX8_province_63 : decode cX8_province 63 = .ok (.iload_n 3, 1) := by decide +kernel
theorem dX8_province_64 : decode cX8_province 64 = .ok (.invokevirtual 236, 3) := by decide +kernel
theorem dX8_province_67 : decode cX8_province 67 = .ok (.istore 8, 2) := by decide +kernel
theorem dX8_province_69 : decode cX8_province 69 = .ok (.iload 8, 2) := by decide +kernel
theorem dX8_province_71 : decode cX8_province 71 = .ok (.iload 4, 2) := by decide +kernel
theorem dX8_province_73 : decode cX8_province 73 = .ok (.if_icmp .lt 6, 3) := by decide +kernel
theorem dX8_province_76 : decode cX8_province 76 = .ok (.bipush (-2), 2) := by decide +kernel
theorem dX8_province_78 : decode cX8_province 78 = .ok (.ireturn, 1) := by decide +kernel
theorem dX8_province_79 : decode cX8_province 79 = .ok (.aload_n 0, 1) := by decide +kernel
theorem dX8_province_80 : decode cX8_province 80 = .ok (.getfield 36, 3) := by decide +kernel
theorem dX8_province_83 : decode cX8_province 83 = .ok (.iload 4, 2) := by decide +kernel
theorem dX8_province_85 : decode cX8_province 85 = .ok (.lload 5, 2) := by decide +kernel
theorem dX8_province_87 : decode cX8_province 87 = .ok (.invokestatic 232, 3) := by decide +kernel
theorem dX8_province_90 : decode cX8_province 90 = .ok (.aload_n 0, 1) := by decide +kernel
theorem dX8_province_91 : decode cX8_province 91 = .ok (.getfield 36, 3) := by decide +kernel
theorem dX8_province_94 : decode cX8_province 94 = .ok (.iload 8, 2) := by decide +kernel
theorem dX8_province_96 : decode cX8_province 96 = .ok (.iaload, 1) := by decide +kernel
theorem dX8_province_97 : decode cX8_province 97 = .ok (.ireturn, 1) := by decide +kernel
theorem dX8_count_0 : decode cX8_count 0 = .ok (.iload_n 1, 1) := by decide +kernel
theorem dX8_count_1 : decode cX8_count 1 = .ok (.tableswitch 87 0 5 #[39, 47, 55, 63, 71, 79], 39) := by decide +kernel
theorem dX8_count_40 : decode cX8_count 40 = .ok (.aload_n 0, 1) := by decide +kernel
theorem dX8_count_41 : decode cX8_count 41 = .ok (.getfield 12, 3) := by decide +kernel
theorem dX8_count_44 : decode cX8_count 44 = .ok (.getfield 41, 3) := by decide +kernel
theorem dX8_count_47 : decode cX8_count 47 = .ok (.ireturn, 1) := by decide +kernel
theorem dX8_count_48 : decode cX8_count 48 = .ok (.aload_n 0, 1) := by decide +kernel
theorem dX8_count_49 : decode cX8_count 49 = .ok (.getfield 12, 3) := by decide +kernel
theorem dX8_count_52 : decode cX8_count 52 = .ok (.getfield 65, 3) := by decide +kernel
theorem dX8_count_55 : decode cX8_count 55 = .ok (.ireturn, 1) := by decide +kernel
theorem dX8_count_56 : decode cX8_count 56 = .ok (.aload_n 0, 1) := by decide +kernel
theorem dX8_count_57 : decode cX8_count 57 = .ok (.getfield 12, 3) := by decide +kernel
theorem dX8_count_60 : decode cX8_count 60 = .ok (.getfield 107, 3) := by decide +kernel
theorem dX8_count_63 : decode cX8_count 63 = .ok (.ireturn, 1) := by decide +kernel
theorem dX8_count_64 : decode cX8_count 64 = .ok (.aload_n 0, 1) := by decide +kernel
theorem dX8_count_65 : decode cX8_count 65 = .ok (.getfield 12, 3) := by decide +kernel
theorem dX8_count_68 : decode cX8_count 68 = .ok (.getfield 239, 3) := by decide +kernel
theorem dX8_count_71 : decode cX8_count 71 = .ok (.ireturn, 1) := by decide +kernel
theorem dX8_count_72 : decode cX8_count 72 = .ok (.aload_n 0, 1) := by decide +kernel
theorem dX8_count_73 : decode cX8_count 73 = .ok (.getfield 12, 3) := by decide +kernel
theorem dX8_count_76 : decode cX8_count 76 = .ok (.getfield 242, 3) := by decide +kernel
theorem dX8_count_79 : decode cX8_count 79 = .ok (.ireturn, 1) := by decide +kernel
theorem dX8_count_80 : decode cX8_count 80 = .ok (.aload_n 0, 1) := by decide +kernel
theorem dX8_count_81 : decode cX8_count 81 = .ok (.getfield 26, 3) := by decide +kernel
theorem dX8_count_84 : decode cX8_count 84 = .ok (.getfield 203, 3) := by decide +kernel
theorem dX8_count_87 : decode cX8_count 87 = .ok (.ireturn, 1) := by decide +kernel
theorem dX8_count_88 : decode cX8_count 88 = .ok (.iconst (-1), 1) := by decide +kernel
theorem dX8_count_89 : decode cX8_count 89 = .ok (.ireturn, 1) := by decide +kernel
theorem dX8_keep_0 : decode cX8_keep 0 = .ok (.iload_n 1, 1) := by decide +kernel
theorem dX8_keep_1 : decode cX8_keep 1 = .ok (.invokestatic 245, 3) := by decide +kernel
theorem dX8_keep_4 : decode cX8_keep 4 = .ok (.ifCond .ne 5, 3) := by decide +kernel
theorem dX8_keep_7 : decode cX8_keep 7 = .ok (.iconst (-1), 1) := by decide +kernel
theorem dX8_keep_8 : decode cX8_keep 8 = .ok (.ireturn, 1) := by decide +kernel
theorem dX8_keep_9 : decode cX8_keep 9 = .ok (.aload_n 0, 1) := by decide +kernel
theorem dX8_keep_10 : decode cX8_keep 10 = .ok (.getfield 32, 3) := by decide +kernel
theorem dX8_keep_13 : decode cX8_keep 13 = .ok (.iload_n 1, 1) := by decide +kernel
theorem dX8_keep_14 : decode cX8_keep 14 = .ok (.aaload, 1) := by decide +kernel
theorem dX8_keep_15 : decode cX8_keep 15 = .ok (.astore 4, 2) := by decide +kernel
theorem dX8_keep_17 : decode cX8_keep 17 = .ok (.iload_n 2, 1) := by decide +kernel
theorem dX8_keep_18 : decode cX8_keep 18 = .ok (.ifCond .ne 11, 3) := by decide +kernel
theorem dX8_keep_21 : decode cX8_keep 21 = .ok (.aload 4, 2) := by decide +kernel
theorem dX8_keep_23 : decode cX8_keep 23 = .ok (.invokevirtual 248, 3) := by decide +kernel
theorem dX8_keep_26 : decode cX8_keep 26 = .ok (.goto 104, 3) := by decide +kernel
theorem dX8_keep_29 : decode cX8_keep 29 = .ok (.iload_n 2, 1) := by decide +kernel
theorem dX8_keep_30 : decode cX8_keep 30 = .ok (.iconst 1, 1) := by decide +kernel
theorem dX8_keep_31 : decode cX8_keep 31 = .ok (.if_icmp .ne 31, 3) := by decide +kernel
theorem dX8_keep_34 : decode cX8_keep 34 = .ok (.aload_n 0, 1) := by decide +kernel
theorem dX8_keep_35 : decode cX8_keep 35 = .ok (.getfield 12, 3) := by decide +kernel
theorem dX8_keep_38 : decode cX8_keep 38 = .ok (.iload_n 3, 1) := by decide +kernel
theorem dX8_keep_39 : decode cX8_keep 39 = .ok (.invokevirtual 119, 3) := by decide +kernel
theorem dX8_keep_42 : decode cX8_keep 42 = .ok (.ifCond .eq 20, 3) := by decide +kernel
theorem dX8_keep_45 : decode cX8_keep 45 = .ok (.aload 4, 2) := by decide +kernel
theorem dX8_keep_47 : decode cX8_keep 47 = .ok (.aload_n 0, 1) := by decide +kernel
theorem dX8_keep_48 : decode cX8_keep 48 = .ok (.getfield 12, 3) := by decide +kernel
theorem dX8_keep_51 : decode cX8_keep 51 = .ok (.getfield 122, 3) := by decide +kernel
theorem dX8_keep_54 : decode cX8_keep 54 = .ok (.iload_n 3, 1) := by decide +kernel
theorem dX8_keep_55 : decode cX8_keep 55 = .ok (.aaload, 1) := by decide +kernel
theorem dX8_keep_56 : decode cX8_keep 56 = .ok (.invokevirtual 251, 3) := by decide +kernel
theorem dX8_keep_59 : decode cX8_keep 59 = .ok (.goto 71, 3) := by decide +kernel
theorem dX8_keep_62 : decode cX8_keep 62 = .ok (.iload_n 2, 1) := by decide +kernel
theorem dX8_keep_63 : decode cX8_keep 63 = .ok (.iconst 3, 1) := by decide +kernel
theorem dX8_keep_64 : decode cX8_keep 64 = .ok (.if_icmp .ne 31, 3) := by decide +kernel
theorem dX8_keep_67 : decode cX8_keep 67 = .ok (.aload_n 0, 1) := by decide +kernel
theorem dX8_keep_68 : decode cX8_keep 68 = .ok (.getfield 12, 3) := by decide +kernel
theorem dX8_keep_71 : decode cX8_keep 71 = .ok (.iload_n 3, 1) := by decide +kernel
theorem dX8_keep_72 : decode cX8_keep 72 = .ok (.invokevirtual 101, 3) := by decide +kernel
theorem dX8_keep_75 : decode cX8_keep 75 = .ok (.ifCond .eq 20, 3) := by decide +kernel
theorem dX8_keep_78 : decode cX8_keep 78 = .ok (.aload 4, 2) := by decide +kernel
theorem dX8_keep_80 : decode cX8_keep 80 = .ok (.aload_n 0, 1) := by decide +kernel
theorem dX8_keep_81 : decode cX8_keep 81 = .ok (.getfield 12, 3) := by decide +kernel
theorem dX8_keep_84 : decode cX8_keep 84 = .ok (.getfield 132, 3) := by decide +kernel
theorem dX8_keep_87 : decode cX8_keep 87 = .ok (.iload_n 3, 1) := by decide +kernel
theorem dX8_keep_88 : decode cX8_keep 88 = .ok (.aaload, 1) := by decide +kernel
theorem dX8_keep_89 : decode cX8_keep 89 = .ok (.invokevirtual 255, 3) := by decide +kernel
theorem dX8_keep_92 : decode cX8_keep 92 = .ok (.goto 38, 3) := by decide +kernel
theorem dX8_keep_95 : decode cX8_keep 95 = .ok (.iload_n 2, 1) := by decide +kernel
theorem dX8_keep_96 : decode cX8_keep 96 = .ok (.iconst 4, 1) := by decide +kernel
theorem dX8_keep_97 : decode cX8_keep 97 = .ok (.if_icmp .ne 31, 3) := by decide +kernel
theorem dX8_keep_100 : decode cX8_keep 100 = .ok (.aload_n 0, 1) := by decide +kernel
theorem dX8_keep_101 : decode cX8_keep 101 = .ok (.getfield 12, 3) := by decide +kernel
theorem dX8_keep_104 : decode cX8_keep 104 = .ok (.iload_n 3, 1) := by decide +kernel
theorem dX8_keep_105 : decode cX8_keep 105 = .ok (.invokevirtual 62, 3) := by decide +kernel
theorem dX8_keep_108 : decode cX8_keep 108 = .ok (.ifCond .eq 20, 3) := by decide +kernel
theorem dX8_keep_111 : decode cX8_keep 111 = .ok (.aload 4, 2) := by decide +kernel
theorem dX8_keep_113 : decode cX8_keep 113 = .ok (.aload_n 0, 1) := by decide +kernel
theorem dX8_keep_114 : decode cX8_keep 114 = .ok (.getfield 12, 3) := by decide +kernel
theorem dX8_keep_117 : decode cX8_keep 117 = .ok (.getfield 77, 3) := by decide +kernel
theorem dX8_keep_120 : decode cX8_keep 120 = .ok (.iload_n 3, 1) := by decide +kernel
theorem dX8_keep_121 : decode cX8_keep 121 = .ok (.aaload, 1) := by decide +kernel
theorem dX8_keep_122 : decode cX8_keep 122 = .ok (.invokevirtual 259, 3) := by decide +kernel
theorem dX8_keep_125 : decode cX8_keep 125 = .ok (.goto 5, 3) := by decide +kernel
theorem dX8_keep_128 : decode cX8_keep 128 = .ok (.iconst (-1), 1) := by decide +kernel
theorem dX8_keep_129 : decode cX8_keep 129 = .ok (.ireturn, 1) := by decide +kernel
theorem dX8_keep_130 : decode cX8_keep 130 = .ok (.iconst 0, 1) := by decide +kernel
theorem dX8_keep_131 : decode cX8_keep 131 = .ok (.ireturn, 1) := by decide +kernel
theorem dX8_make_0 : decode cX8_make 0 = .ok (.iload_n 1, 1) := by decide +kernel
theorem dX8_make_1 : decode cX8_make 1 = .ok (.invokestatic 245, 3) := by decide +kernel
theorem dX8_make_4 : decode cX8_make 4 = .ok (.ifCond .eq 19, 3) := by decide +kernel
theorem dX8_make_7 : decode cX8_make 7 = .ok (.iload_n 2, 1) := by decide +kernel
theorem dX8_make_8 : decode cX8_make 8 = .ok (.iconst 3, 1) := by decide +kernel
theorem dX8_make_9 : decode cX8_make 9 = .ok (.if_icmp .eq 8, 3) := by decide +kernel
theorem dX8_make_12 : decode cX8_make 12 = .ok (.iload_n 2, 1) := by decide +kernel
theorem dX8_make_13 : decode cX8_make 13 = .ok (.iconst 4, 1) := by decide +kernel
theorem dX8_make_14 : decode cX8_make 14 = .ok (.if_icmp .ne 9, 3) := by decide +kernel
theorem dX8_make_17 : decode cX8_make 17 = .ok (.iload_n 3, 1) := by decide +kernel
theorem dX8_make_18 : decode cX8_make 18 = .ok (.bipush 60, 2) := by decide +kernel
theorem dX8_make_20 : decode cX8_make 20 = .ok (.if_icmp .le 5, 3) := by decide +kernel
theorem dX8_make_23 : decode cX8_make 23 = .ok (.iconst (-1), 1) := by decide +kernel
theorem dX8_make_24 : decode cX8_make 24 = .ok (.ireturn, 1) := by decide +kernel
theorem dX8_make_25 : decode cX8_make 25 = .ok (.iload_n 3, 1) := by decide +kernel
theorem dX8_make_26 : decode cX8_make 26 = .ok (.ifCond .ge 6, 3) := by decide +kernel
theorem dX8_make_29 : decode cX8_make 29 = .ok (.bipush (-14), 2) := by decide +kernel
theorem dX8_make_31 : decode cX8_make 31 = .ok (.ireturn, 1) := by decide +kernel
theorem dX8_make_32 : decode cX8_make 32 = .ok (.aload_n 0, 1) := by decide +kernel
theorem dX8_make_33 : decode cX8_make 33 = .ok (.getfield 32, 3) := by decide +kernel
theorem dX8_make_36 : decode cX8_make 36 = .ok (.iload_n 1, 1) := by decide +kernel
theorem dX8_make_37 : decode cX8_make 37 = .ok (.aaload, 1) := by decide +kernel
theorem dX8_make_38 : decode cX8_make 38 = .ok (.iload_n 2, 1) := by decide +kernel
theorem dX8_make_39 : decode cX8_make 39 = .ok (.iload_n 3, 1) := by decide +kernel
theorem dX8_make_40 : decode cX8_make 40 = .ok (.invokevirtual 263, 3) := by decide +kernel
theorem dX8_make_43 : decode cX8_make 43 = .ok (.iconst 0, 1) := by decide +kernel
theorem dX8_make_44 : decode cX8_make 44 = .ok (.ireturn, 1) := by decide +kernel
theorem dX8_element_0 : decode cX8_element 0 = .ok (.iload_n 1, 1) := by decide +kernel
theorem dX8_element_1 : decode cX8_element 1 = .ok (.invokestatic 245, 3) := by decide +kernel
theorem dX8_element_4 : decode cX8_element 4 = .ok (.ifCond .ne 14, 3) := by decide +kernel
theorem dX8_element_7 : decode cX8_element 7 = .ok (.new 266, 3) := by decide +kernel
theorem dX8_element_10 : decode cX8_element 10 = .ok (.dup, 1) := by decide +kernel
theorem dX8_element_11 : decode cX8_element 11 = .ok (.ldc_w 268, 3) := by decide +kernel
theorem dX8_element_14 : decode cX8_element 14 = .ok (.invokespecial 270, 3) := by decide +kernel
theorem dX8_element_17 : decode cX8_element 17 = .ok (.athrow, 1) := by decide +kernel
theorem dX8_element_18 : decode cX8_element 18 = .ok (.aload_n 0, 1) := by decide +kernel
theorem dX8_element_19 : decode cX8_element 19 = .ok (.getfield 32, 3) := by decide +kernel
theorem dX8_element_22 : decode cX8_element 22 = .ok (.iload_n 1, 1) := by decide +kernel
theorem dX8_element_23 : decode cX8_element 23 = .ok (.aaload, 1) := by decide +kernel
theorem dX8_element_24 : decode cX8_element 24 = .ok (.astore_n 3, 1) := by decide +kernel
theorem dX8_element_25 : decode cX8_element 25 = .ok (.aload_n 3, 1) := by decide +kernel
theorem dX8_element_26 : decode cX8_element 26 = .ok (.invokevirtual 273, 3) := by decide +kernel
theorem dX8_element_29 : decode cX8_element 29 = .ok (.ifCond .ne 14, 3) := by decide +kernel
theorem dX8_element_32 : decode cX8_element 32 = .ok (.new 276, 3) := by decide +kernel
theorem dX8_element_35 : decode cX8_element 35 = .ok (.dup, 1) := by decide +kernel
theorem dX8_element_36 : decode cX8_element 36 = .ok (.ldc_w 278, 3) := by decide +kernel
theorem dX8_element_39 : decode cX8_element 39 = .ok (.invokespecial 280, 3) := by decide +kernel
theorem dX8_element_42 : decode cX8_element 42 = .ok (.athrow, 1) := by decide +kernel
theorem dX8_element_43 : decode cX8_element 43 = .ok (.iload_n 2, 1) := by decide +kernel
theorem dX8_element_44 : decode cX8_element 44 = .ok (.ifCond .lt 11, 3) := by decide +kernel
theorem dX8_element_47 : decode cX8_element 47 = .ok (.iload_n 2, 1) := by decide +kernel
theorem dX8_element_48 : decode cX8_element 48 = .ok (.aload_n 3, 1) := by decide +kernel
theorem dX8_element_49 : decode cX8_element 49 = .ok (.getfield 281, 3) := by decide +kernel
theorem dX8_element_52 : decode cX8_element 52 = .ok (.if_icmp .lt 14, 3) := by decide +kernel
theorem dX8_element_55 : decode cX8_element 55 = .ok (.new 276, 3) := by decide +kernel
theorem dX8_element_58 : decode cX8_element 58 = .ok (.dup, 1) := by decide +kernel
theorem dX8_element_59 : decode cX8_element 59 = .ok (.ldc_w 284, 3) := by decide +kernel
theorem dX8_element_62 : decode cX8_element 62 = .ok (.invokespecial 280, 3) := by decide +kernel
theorem dX8_element_65 : decode cX8_element 65 = .ok (.athrow, 1) := by decide +kernel
theorem dX8_element_66 : decode cX8_element 66 = .ok (.aload_n 3, 1) := by decide +kernel
theorem dX8_element_67 : decode cX8_element 67 = .ok (.iload_n 2, 1) := by decide +kernel
theorem dX8_element_68 : decode cX8_element 68 = .ok (.invokevirtual 286, 3) := by decide +kernel
theorem dX8_element_71 : decode cX8_element 71 = .ok (.lreturn, 1) := by decide +kernel
theorem dX8_copy_0 : decode cX8_copy 0 = .ok (.iload_n 1, 1) := by decide +kernel
theorem dX8_copy_1 : decode cX8_copy 1 = .ok (.invokestatic 245, 3) := by decide +kernel
theorem dX8_copy_4 : decode cX8_copy 4 = .ok (.ifCond .eq 10, 3) := by decide +kernel
theorem dX8_copy_7 : decode cX8_copy 7 = .ok (.iload_n 3, 1) := by decide +kernel
theorem dX8_copy_8 : decode cX8_copy 8 = .ok (.invokestatic 245, 3) := by decide +kernel
theorem dX8_copy_11 : decode cX8_copy 11 = .ok (.ifCond .ne 5, 3) := by decide +kernel
theorem dX8_copy_14 : decode cX8_copy 14 = .ok (.iconst (-1), 1) := by decide +kernel
theorem dX8_copy_15 : decode cX8_copy 15 = .ok (.ireturn, 1) := by decide +kernel
theorem dX8_copy_16 : decode cX8_copy 16 = .ok (.aload_n 0, 1) := by decide +kernel
theorem dX8_copy_17 : decode cX8_copy 17 = .ok (.getfield 32, 3) := by decide +kernel
theorem dX8_copy_20 : decode cX8_copy 20 = .ok (.iload_n 1, 1) := by decide +kernel
theorem dX8_copy_21 : decode cX8_copy 21 = .ok (.aaload, 1) := by decide +kernel
theorem dX8_copy_22 : decode cX8_copy 22 = .ok (.astore 6, 2) := by decide +kernel
theorem dX8_copy_24 : decode cX8_copy 24 = .ok (.aload_n 0, 1) := by decide +kernel
theorem dX8_copy_25 : decode cX8_copy 25 = .ok (.getfield 32, 3) := by decide +kernel
theorem dX8_copy_28 : decode cX8_copy 28 = .ok (.iload_n 3, 1) := by decide +kernel
theorem dX8_copy_29 : decode cX8_copy 29 = .ok (.aaload, 1) := by decide +kernel
theorem dX8_copy_30 : decode cX8_copy 30 = .ok (.astore 7, 2) := by decide +kernel
theorem dX8_copy_32 : decode cX8_copy 32 = .ok (.aload 6, 2) := by decide +kernel
theorem dX8_copy_34 : decode cX8_copy 34 = .ok (.getfield 290, 3) := by decide +kernel
theorem dX8_copy_37 : decode cX8_copy 37 = .ok (.ifCond .eq 11, 3) := by decide +kernel
theorem dX8_copy_40 : decode cX8_copy 40 = .ok (.aload 7, 2) := by decide +kernel
theorem dX8_copy_42 : decode cX8_copy 42 = .ok (.getfield 290, 3) := by decide +kernel
theorem dX8_copy_45 : decode cX8_copy 45 = .ok (.ifCond .ne 6, 3) := by decide +kernel
theorem dX8_copy_48 : decode cX8_copy 48 = .ok (.bipush (-11), 2) := by decide +kernel
theorem dX8_copy_50 : decode cX8_copy 50 = .ok (.ireturn, 1) := by decide +kernel
theorem dX8_copy_51 : decode cX8_copy 51 = .ok (.aload 6, 2) := by decide +kernel
theorem dX8_copy_53 : decode cX8_copy 53 = .ok (.invokevirtual 273, 3) := by decide +kernel
theorem dX8_copy_56 : decode cX8_copy 56 = .ok (.ifCond .eq 16, 3) := by decide +kernel
theorem dX8_copy_59 : decode cX8_copy 59 = .ok (.aload 6, 2) := by decide +kernel
theorem dX8_copy_61 : decode cX8_copy 61 = .ok (.getfield 290, 3) := by decide +kernel
theorem dX8_copy_64 : decode cX8_copy 64 = .ok (.aload 7, 2) := by decide +kernel
theorem dX8_copy_66 : decode cX8_copy 66 = .ok (.getfield 290, 3) := by decide +kernel
theorem dX8_copy_69 : decode cX8_copy 69 = .ok (.if_icmp .eq 6, 3) := by decide +kernel
theorem dX8_copy_72 : decode cX8_copy 72 = .ok (.bipush (-12), 2) := by decide +kernel
theorem dX8_copy_74 : decode cX8_copy 74 = .ok (.ireturn, 1) := by decide +kernel
theorem dX8_copy_75 : decode cX8_copy 75 = .ok (.aload 6, 2) := by decide +kernel
theorem dX8_copy_77 : decode cX8_copy 77 = .ok (.iload_n 2, 1) := by decide +kernel
theorem dX8_copy_78 : decode cX8_copy 78 = .ok (.iload 5, 2) := by decide +kernel
theorem dX8_copy_80 : decode cX8_copy 80 = .ok (.invokevirtual 293, 3) := by decide +kernel
theorem dX8_copy_83 : decode cX8_copy 83 = .ok (.ifCond .eq 15, 3) := by decide +kernel
theorem dX8_copy_86 : decode cX8_copy 86 = .ok (.aload 7, 2) := by decide +kernel
theorem dX8_copy_88 : decode cX8_copy 88 = .ok (.iload 4, 2) := by decide +kernel
theorem dX8_copy_90 : decode cX8_copy 90 = .ok (.iload 5, 2) := by decide +kernel
theorem dX8_copy_92 : decode cX8_copy 92 = .ok (.invokevirtual 293, 3) := by decide +kernel
theorem dX8_copy_95 : decode cX8_copy 95 = .ok (.ifCond .ne 6, 3) := by decide +kernel
theorem dX8_copy_98 : decode cX8_copy 98 = .ok (.bipush (-13), 2) := by decide +kernel
theorem dX8_copy_100 : decode cX8_copy 100 = .ok (.ireturn, 1) := by decide +kernel
theorem dX8_copy_101 : decode cX8_copy 101 = .ok (.aload 6, 2) := by decide +kernel
theorem dX8_copy_103 : decode cX8_copy 103 = .ok (.aload 7, 2) := by decide +kernel
theorem dX8_copy_105 : decode cX8_copy 105 = .ok (.iload_n 2, 1) := by decide +kernel
theorem dX8_copy_106 : decode cX8_copy 106 = .ok (.iload 4, 2) := by decide +kernel
theorem dX8_copy_108 : decode cX8_copy 108 = .ok (.iload 5, 2) := by decide +kernel
theorem dX8_copy_110 : decode cX8_copy 110 = .ok (.invokevirtual 296, 3) := by decide +kernel
theorem dX8_copy_113 : decode cX8_copy 113 = .ok (.iload 5, 2) := by decide +kernel
theorem dX8_copy_115 : decode cX8_copy 115 = .ok (.ireturn, 1) := by decide +kernel
theorem dX8_weight_0 : decode cX8_weight 0 = .ok (.aload_n 0, 1) := by decide +kernel
theorem dX8_weight_1 : decode cX8_weight 1 = .ok (.iload_n 1, 1) := by decide +kernel
theorem dX8_weight_2 : decode cX8_weight 2 = .ok (.invokevirtual 300, 3) := by decide +kernel
theorem dX8_weight_5 : decode cX8_weight 5 = .ok (.istore_n 2, 1) := by decide +kernel
theorem dX8_weight_6 : decode cX8_weight 6 = .ok (.iload_n 2, 1) := by decide +kernel
theorem dX8_weight_7 : decode cX8_weight 7 = .ok (.ifCond .eq 7, 3) := by decide +kernel
theorem dX8_weight_10 : decode cX8_weight 10 = .ok (.iload_n 2, 1) := by decide +kernel
theorem dX8_weight_11 : decode cX8_weight 11 = .ok (.goto 15, 3) := by decide +kernel
theorem dX8_weight_14 : decode cX8_weight 14 = .ok (.aload_n 0, 1) := by decide +kernel
theorem dX8_weight_15 : decode cX8_weight 15 = .ok (.getfield 32, 3) := by decide +kernel
theorem dX8_weight_18 : decode cX8_weight 18 = .ok (.iload_n 1, 1) := by decide +kernel
theorem dX8_weight_19 : decode cX8_weight 19 = .ok (.aaload, 1) := by decide +kernel
theorem dX8_weight_20 : decode cX8_weight 20 = .ok (.getfield 303, 3) := by decide +kernel
theorem dX8_weight_23 : decode cX8_weight 23 = .ok (.invokevirtual 307, 3) := by decide +kernel
theorem dX8_weight_26 : decode cX8_weight 26 = .ok (.ireturn, 1) := by decide +kernel
theorem dX8_toss_0 : decode cX8_toss 0 = .ok (.aload_n 0, 1) := by decide +kernel
theorem dX8_toss_1 : decode cX8_toss 1 = .ok (.iload_n 1, 1) := by decide +kernel
theorem dX8_toss_2 : decode cX8_toss 2 = .ok (.invokevirtual 300, 3) := by decide +kernel
theorem dX8_toss_5 : decode cX8_toss 5 = .ok (.istore_n 2, 1) := by decide +kernel
theorem dX8_toss_6 : decode cX8_toss 6 = .ok (.iload_n 2, 1) := by decide +kernel
theorem dX8_toss_7 : decode cX8_toss 7 = .ok (.ifCond .eq 5, 3) := by decide +kernel
theorem dX8_toss_10 : decode cX8_toss 10 = .ok (.iload_n 2, 1) := by decide +kernel
theorem dX8_toss_11 : decode cX8_toss 11 = .ok (.ireturn, 1) := by decide +kernel
theorem dX8_toss_12 : decode cX8_toss 12 = .ok (.aload_n 0, 1) := by decide +kernel
theorem dX8_toss_13 : decode cX8_toss 13 = .ok (.getfield 32, 3) := by decide +kernel
theorem dX8_toss_16 : decode cX8_toss 16 = .ok (.iload_n 1, 1) := by decide +kernel
theorem dX8_toss_17 : decode cX8_toss 17 = .ok (.aaload, 1) := by decide +kernel
theorem dX8_toss_18 : decode cX8_toss 18 = .ok (.getfield 303, 3) := by decide +kernel
theorem dX8_toss_21 : decode cX8_toss 21 = .ok (.astore_n 3, 1) := by decide +kernel
theorem dX8_toss_22 : decode cX8_toss 22 = .ok (.aload_n 3, 1) := by decide +kernel
theorem dX8_toss_23 : decode cX8_toss 23 = .ok (.invokevirtual 311, 3) := by decide +kernel
theorem dX8_toss_26 : decode cX8_toss 26 = .ok (.goto 10, 3) := by decide +kernel
theorem dX8_toss_29 : decode cX8_toss 29 = .ok (.astore 4, 2) := by decide +kernel
theorem dX8_toss_31 : decode cX8_toss 31 = .ok (.aload_n 3, 1) := by decide +kernel
theorem dX8_toss_32 : decode cX8_toss 32 = .ok (.getfield 314, 3) := by decide +kernel
theorem dX8_toss_35 : decode cX8_toss 35 = .ok (.ireturn, 1) := by decide +kernel
theorem dX8_toss_36 : decode cX8_toss 36 = .ok (.bipush (-15), 2) := by decide +kernel
theorem dX8_toss_38 : decode cX8_toss 38 = .ok (.ireturn, 1) := by decide +kernel
theorem dX8_refusalOfLaw_0 : decode cX8_refusalOfLaw 0 = .ok (.iload_n 1, 1) := by decide +kernel
theorem dX8_refusalOfLaw_1 : decode cX8_refusalOfLaw 1 = .ok (.invokestatic 245, 3) := by decide +kernel
theorem dX8_refusalOfLaw_4 : decode cX8_refusalOfLaw 4 = .ok (.ifCond .ne 5, 3) := by decide +kernel
theorem dX8_refusalOfLaw_7 : decode cX8_refusalOfLaw 7 = .ok (.iconst (-1), 1) := by decide +kernel
theorem dX8_refusalOfLaw_8 : decode cX8_refusalOfLaw 8 = .ok (.ireturn, 1) := by decide +kernel
theorem dX8_refusalOfLaw_9 : decode cX8_refusalOfLaw 9 = .ok (.aload_n 0, 1) := by decide +kernel
theorem dX8_refusalOfLaw_10 : decode cX8_refusalOfLaw 10 = .ok (.getfield 32, 3) := by decide +kernel
theorem dX8_refusalOfLaw_13 : decode cX8_refusalOfLaw 13 = .ok (.iload_n 1, 1) := by decide +kernel
theorem dX8_refusalOfLaw_14 : decode cX8_refusalOfLaw 14 = .ok (.aaload, 1) := by decide +kernel
theorem dX8_refusalOfLaw_15 : decode cX8_refusalOfLaw 15 = .ok (.getfield 290, 3) := by decide +kernel
theorem dX8_refusalOfLaw_18 : decode cX8_refusalOfLaw 18 = .ok (.ifCond .ne 6, 3) := by decide +kernel
theorem dX8_refusalOfLaw_21 : decode cX8_refusalOfLaw 21 = .ok (.bipush (-11), 2) := by decide +kernel
theorem dX8_refusalOfLaw_23 : decode cX8_refusalOfLaw 23 = .ok (.ireturn, 1) := by decide +kernel
theorem dX8_refusalOfLaw_24 : decode cX8_refusalOfLaw 24 = .ok (.aload_n 0, 1) := by decide +kernel
theorem dX8_refusalOfLaw_25 : decode cX8_refusalOfLaw 25 = .ok (.getfield 32, 3) := by decide +kernel
theorem dX8_refusalOfLaw_28 : decode cX8_refusalOfLaw 28 = .ok (.iload_n 1, 1) := by decide +kernel
theorem dX8_refusalOfLaw_29 : decode cX8_refusalOfLaw 29 = .ok (.aaload, 1) := by decide +kernel
theorem dX8_refusalOfLaw_30 : decode cX8_refusalOfLaw 30 = .ok (.getfield 303, 3) := by decide +kernel
theorem dX8_refusalOfLaw_33 : decode cX8_refusalOfLaw 33 = .ok (.ifnonnull 8, 3) := by decide +kernel
theorem dX8_refusalOfLaw_36 : decode cX8_refusalOfLaw 36 = .ok (.bipush (-12), 2) := by decide +kernel
theorem dX8_refusalOfLaw_38 : decode cX8_refusalOfLaw 38 = .ok (.goto 4, 3) := by decide +kernel
theorem dX8_refusalOfLaw_41 : decode cX8_refusalOfLaw 41 = .ok (.iconst 0, 1) := by decide +kernel
theorem dX8_refusalOfLaw_42 : decode cX8_refusalOfLaw 42 = .ok (.ireturn, 1) := by decide +kernel
theorem dX8_isYear_0 : decode cX8_isYear 0 = .ok (.iload_n 0, 1) := by decide +kernel
theorem dX8_isYear_1 : decode cX8_isYear 1 = .ok (.ifCond .lt 14, 3) := by decide +kernel
theorem dX8_isYear_4 : decode cX8_isYear 4 = .ok (.iload_n 0, 1) := by decide +kernel
theorem dX8_isYear_5 : decode cX8_isYear 5 = .ok (.sipush 200, 3) := by decide +kernel
theorem dX8_isYear_8 : decode cX8_isYear 8 = .ok (.if_icmp .ge 7, 3) := by decide +kernel
theorem dX8_isYear_11 : decode cX8_isYear 11 = .ok (.iconst 1, 1) := by decide +kernel
theorem dX8_isYear_12 : decode cX8_isYear 12 = .ok (.goto 4, 3) := by decide +kernel
theorem dX8_isYear_15 : decode cX8_isYear 15 = .ok (.iconst 0, 1) := by decide +kernel
theorem dX8_isYear_16 : decode cX8_isYear 16 = .ok (.ireturn, 1) := by decide +kernel
theorem dX8_isOrder_0 : decode cX8_isOrder 0 = .ok (.iload_n 0, 1) := by decide +kernel
theorem dX8_isOrder_1 : decode cX8_isOrder 1 = .ok (.ifCond .eq 8, 3) := by decide +kernel
theorem dX8_isOrder_4 : decode cX8_isOrder 4 = .ok (.iload_n 0, 1) := by decide +kernel
theorem dX8_isOrder_5 : decode cX8_isOrder 5 = .ok (.iconst 1, 1) := by decide +kernel
theorem dX8_isOrder_6 : decode cX8_isOrder 6 = .ok (.if_icmp .ne 7, 3) := by decide +kernel
theorem dX8_isOrder_9 : decode cX8_isOrder 9 = .ok (.iconst 1, 1) := by decide +kernel
theorem dX8_isOrder_10 : decode cX8_isOrder 10 = .ok (.goto 4, 3) := by decide +kernel
theorem dX8_isOrder_13 : decode cX8_isOrder 13 = .ok (.iconst 0, 1) := by decide +kernel
theorem dX8_isOrder_14 : decode cX8_isOrder 14 = .ok (.ireturn, 1) := by decide +kernel
theorem dX8_isBirth_0 : decode cX8_isBirth 0 = .ok (.iload_n 0, 1) := by decide +kernel
theorem dX8_isBirth_1 : decode cX8_isBirth 1 = .ok (.bipush (-50), 2) := by decide +kernel
theorem dX8_isBirth_3 : decode cX8_isBirth 3 = .ok (.if_icmp .lt 19, 3) := by decide +kernel
theorem dX8_isBirth_6 : decode cX8_isBirth 6 = .ok (.iload_n 0, 1) := by decide +kernel
theorem dX8_isBirth_7 : decode cX8_isBirth 7 = .ok (.iload_n 1, 1) := by decide +kernel
theorem dX8_isBirth_8 : decode cX8_isBirth 8 = .ok (.if_icmp .gt 14, 3) := by decide +kernel
theorem dX8_isBirth_11 : decode cX8_isBirth 11 = .ok (.iload_n 1, 1) := by decide +kernel
theorem dX8_isBirth_12 : decode cX8_isBirth 12 = .ok (.sipush 200, 3) := by decide +kernel
theorem dX8_isBirth_15 : decode cX8_isBirth 15 = .ok (.if_icmp .ge 7, 3) := by decide +kernel
theorem dX8_isBirth_18 : decode cX8_isBirth 18 = .ok (.iconst 1, 1) := by decide +kernel
theorem dX8_isBirth_19 : decode cX8_isBirth 19 = .ok (.goto 4, 3) := by decide +kernel
theorem dX8_isBirth_22 : decode cX8_isBirth 22 = .ok (.iconst 0, 1) := by decide +kernel
theorem dX8_isBirth_23 : decode cX8_isBirth 23 = .ok (.ireturn, 1) := by decide +kernel
theorem dX8_isShelf_0 : decode cX8_isShelf 0 = .ok (.iload_n 0, 1) := by decide +kernel
theorem dX8_isShelf_1 : decode cX8_isShelf 1 = .ok (.ifCond .lt 13, 3) := by decide +kernel
theorem dX8_isShelf_4 : decode cX8_isShelf 4 = .ok (.iload_n 0, 1) := by decide +kernel
theorem dX8_isShelf_5 : decode cX8_isShelf 5 = .ok (.bipush 8, 2) := by decide +kernel
theorem dX8_isShelf_7 : decode cX8_isShelf 7 = .ok (.if_icmp .ge 7, 3) := by decide +kernel
theorem dX8_isShelf_10 : decode cX8_isShelf 10 = .ok (.iconst 1, 1) := by decide +kernel
theorem dX8_isShelf_11 : decode cX8_isShelf 11 = .ok (.goto 4, 3) := by decide +kernel
theorem dX8_isShelf_14 : decode cX8_isShelf 14 = .ok (.iconst 0, 1) := by decide +kernel
theorem dX8_isShelf_15 : decode cX8_isShelf 15 = .ok (.ireturn, 1) := by decide +kernel
theorem dX8_draw_0 : decode cX8_draw 0 = .ok (.iconst 0, 1) := by decide +kernel
theorem dX8_draw_1 : decode cX8_draw 1 = .ok (.istore 4, 2) := by decide +kernel
theorem dX8_draw_3 : decode cX8_draw 3 = .ok (.iload 4, 2) := by decide +kernel
theorem dX8_draw_5 : decode cX8_draw 5 = .ok (.iload_n 1, 1) := by decide +kernel
theorem dX8_draw_6 : decode cX8_draw 6 = .ok (.if_icmp .ge 15, 3) := by decide +kernel
theorem dX8_draw_9 : decode cX8_draw 9 = .ok (.aload_n 0, 1) := by decide +kernel
theorem dX8_draw_10 : decode cX8_draw 10 = .ok (.iload 4, 2) := by decide +kernel
theorem dX8_draw_12 : decode cX8_draw 12 = .ok (.iload 4, 2) := by decide +kernel
theorem dX8_draw_14 : decode cX8_draw 14 = .ok (.iastore, 1) := by decide +kernel
theorem dX8_draw_15 : decode cX8_draw 15 = .ok (.iinc 4 1, 3) := by decide +kernel
theorem dX8_draw_18 : decode cX8_draw 18 = .ok (.goto (-15), 3) := by decide +kernel
theorem dX8_draw_21 : decode cX8_draw 21 = .ok (.lload_n 2, 1) := by decide +kernel
theorem dX8_draw_22 : decode cX8_draw 22 = .ok (.lstore 4, 2) := by decide +kernel
theorem dX8_draw_24 : decode cX8_draw 24 = .ok (.iconst 0, 1) := by decide +kernel
theorem dX8_draw_25 : decode cX8_draw 25 = .ok (.istore 6, 2) := by decide +kernel
theorem dX8_draw_27 : decode cX8_draw 27 = .ok (.iload 6, 2) := by decide +kernel
theorem dX8_draw_29 : decode cX8_draw 29 = .ok (.iload_n 1, 1) := by decide +kernel
theorem dX8_draw_30 : decode cX8_draw 30 = .ok (.if_icmp .ge 74, 3) := by decide +kernel
theorem dX8_draw_33 : decode cX8_draw 33 = .ok (.iload_n 1, 1) := by decide +kernel
theorem dX8_draw_34 : decode cX8_draw 34 = .ok (.iload 6, 2) := by decide +kernel
theorem dX8_draw_36 : decode cX8_draw 36 = .ok (.isub, 1) := by decide +kernel
theorem dX8_draw_37 : decode cX8_draw 37 = .ok (.istore 7, 2) := by decide +kernel
theorem dX8_draw_39 : decode cX8_draw 39 = .ok (.iload 6, 2) := by decide +kernel
theorem dX8_draw_41 : decode cX8_draw 41 = .ok (.lload 4, 2) := by decide +kernel
theorem dX8_draw_43 : decode cX8_draw 43 = .ok (.iload 7, 2) := by decide +kernel
theorem dX8_draw_45 : decode cX8_draw 45 = .ok (.i2l, 1) := by decide +kernel
theorem dX8_draw_46 : decode cX8_draw 46 = .ok (.lrem, 1) := by decide +kernel
theorem dX8_draw_47 : decode cX8_draw 47 = .ok (.l2i, 1) := by decide +kernel
theorem dX8_draw_48 : decode cX8_draw 48 = .ok (.iadd, 1) := by decide +kernel
theorem dX8_draw_49 : decode cX8_draw 49 = .ok (.istore 8, 2) := by decide +kernel
theorem dX8_draw_51 : decode cX8_draw 51 = .ok (.lload 4, 2) := by decide +kernel
theorem dX8_draw_53 : decode cX8_draw 53 = .ok (.iload 7, 2) := by decide +kernel
theorem dX8_draw_55 : decode cX8_draw 55 = .ok (.i2l, 1) := by decide +kernel
theorem dX8_draw_56 : decode cX8_draw 56 = .ok (.ldiv, 1) := by decide +kernel
theorem dX8_draw_57 : decode cX8_draw 57 = .ok (.lstore 4, 2) := by decide +kernel
theorem dX8_draw_59 : decode cX8_draw 59 = .ok (.aload_n 0, 1) := by decide +kernel
theorem dX8_draw_60 : decode cX8_draw 60 = .ok (.iload 8, 2) := by decide +kernel
theorem dX8_draw_62 : decode cX8_draw 62 = .ok (.iaload, 1) := by decide +kernel
theorem dX8_draw_63 : decode cX8_draw 63 = .ok (.istore 9, 2) := by decide +kernel
theorem dX8_draw_65 : decode cX8_draw 65 = .ok (.iload 8, 2) := by decide +kernel
theorem dX8_draw_67 : decode cX8_draw 67 = .ok (.istore 10, 2) := by decide +kernel
theorem dX8_draw_69 : decode cX8_draw 69 = .ok (.iload 10, 2) := by decide +kernel
theorem dX8_draw_71 : decode cX8_draw 71 = .ok (.iload 6, 2) := by decide +kernel
theorem dX8_draw_73 : decode cX8_draw 73 = .ok (.if_icmp .le 19, 3) := by decide +kernel
theorem dX8_draw_76 : decode cX8_draw 76 = .ok (.aload_n 0, 1) := by decide +kernel
theorem dX8_draw_77 : decode cX8_draw 77 = .ok (.iload 10, 2) := by decide +kernel
theorem dX8_draw_79 : decode cX8_draw 79 = .ok (.aload_n 0, 1) := by decide +kernel
theorem dX8_draw_80 : decode cX8_draw 80 = .ok (.iload 10, 2) := by decide +kernel
theorem dX8_draw_82 : decode cX8_draw 82 = .ok (.iconst 1, 1) := by decide +kernel
theorem dX8_draw_83 : decode cX8_draw 83 = .ok (.isub, 1) := by decide +kernel
theorem dX8_draw_84 : decode cX8_draw 84 = .ok (.iaload, 1) := by decide +kernel
theorem dX8_draw_85 : decode cX8_draw 85 = .ok (.iastore, 1) := by decide +kernel
theorem dX8_draw_86 : decode cX8_draw 86 = .ok (.iinc 10 (-1), 3) := by decide +kernel
theorem dX8_draw_89 : decode cX8_draw 89 = .ok (.goto (-20), 3) := by decide +kernel
theorem dX8_draw_92 : decode cX8_draw 92 = .ok (.aload_n 0, 1) := by decide +kernel
theorem dX8_draw_93 : decode cX8_draw 93 = .ok (.iload 6, 2) := by decide +kernel
theorem dX8_draw_95 : decode cX8_draw 95 = .ok (.iload 9, 2) := by decide +kernel
theorem dX8_draw_97 : decode cX8_draw 97 = .ok (.iastore, 1) := by decide +kernel
theorem dX8_draw_98 : decode cX8_draw 98 = .ok (.iinc 6 1, 3) := by decide +kernel
theorem dX8_draw_101 : decode cX8_draw 101 = .ok (.goto (-74), 3) := by decide +kernel
theorem dX8_draw_104 : decode cX8_draw 104 = .ok (.return_, 1) := by decide +kernel
theorem dJ6_bitCount_0f7a4_0 : decode cJ6_bitCount_0f7a4 0 = .ok (.iload_n 0, 1) := by decide +kernel
theorem dJ6_bitCount_0f7a4_1 : decode cJ6_bitCount_0f7a4 1 = .ok (.iload_n 0, 1) := by decide +kernel
theorem dJ6_bitCount_0f7a4_2 : decode cJ6_bitCount_0f7a4 2 = .ok (.iconst 1, 1) := by decide +kernel
theorem dJ6_bitCount_0f7a4_3 : decode cJ6_bitCount_0f7a4 3 = .ok (.iushr, 1) := by decide +kernel
theorem dJ6_bitCount_0f7a4_4 : decode cJ6_bitCount_0f7a4 4 = .ok (.ldc_w 265, 3) := by decide +kernel
theorem dJ6_bitCount_0f7a4_7 : decode cJ6_bitCount_0f7a4 7 = .ok (.iand, 1) := by decide +kernel
theorem dJ6_bitCount_0f7a4_8 : decode cJ6_bitCount_0f7a4 8 = .ok (.isub, 1) := by decide +kernel
theorem dJ6_bitCount_0f7a4_9 : decode cJ6_bitCount_0f7a4 9 = .ok (.istore_n 0, 1) := by decide +kernel
theorem dJ6_bitCount_0f7a4_10 : decode cJ6_bitCount_0f7a4 10 = .ok (.iload_n 0, 1) := by decide +kernel
theorem dJ6_bitCount_0f7a4_11 : decode cJ6_bitCount_0f7a4 11 = .ok (.ldc_w 266, 3) := by decide +kernel
theorem dJ6_bitCount_0f7a4_14 : decode cJ6_bitCount_0f7a4 14 = .ok (.iand, 1) := by decide +kernel
theorem dJ6_bitCount_0f7a4_15 : decode cJ6_bitCount_0f7a4 15 = .ok (.iload_n 0, 1) := by decide +kernel
theorem dJ6_bitCount_0f7a4_16 : decode cJ6_bitCount_0f7a4 16 = .ok (.iconst 2, 1) := by decide +kernel
theorem dJ6_bitCount_0f7a4_17 : decode cJ6_bitCount_0f7a4 17 = .ok (.iushr, 1) := by decide +kernel
theorem dJ6_bitCount_0f7a4_18 : decode cJ6_bitCount_0f7a4 18 = .ok (.ldc_w 266, 3) := by decide +kernel
theorem dJ6_bitCount_0f7a4_21 : decode cJ6_bitCount_0f7a4 21 = .ok (.iand, 1) := by decide +kernel
theorem dJ6_bitCount_0f7a4_22 : decode cJ6_bitCount_0f7a4 22 = .ok (.iadd, 1) := by decide +kernel
theorem dJ6_bitCount_0f7a4_23 : decode cJ6_bitCount_0f7a4 23 = .ok (.istore_n 0, 1) := by decide +kernel
theorem dJ6_bitCount_0f7a4_24 : decode cJ6_bitCount_0f7a4 24 = .ok (.iload_n 0, 1) := by decide +kernel
theorem dJ6_bitCount_0f7a4_25 : decode cJ6_bitCount_0f7a4 25 = .ok (.iload_n 0, 1) := by decide +kernel
theorem dJ6_bitCount_0f7a4_26 : decode cJ6_bitCount_0f7a4 26 = .ok (.iconst 4, 1) := by decide +kernel
theorem dJ6_bitCount_0f7a4_27 : decode cJ6_bitCount_0f7a4 27 = .ok (.iushr, 1) := by decide +kernel
theorem dJ6_bitCount_0f7a4_28 : decode cJ6_bitCount_0f7a4 28 = .ok (.iadd, 1) := by decide +kernel
theorem dJ6_bitCount_0f7a4_29 : decode cJ6_bitCount_0f7a4 29 = .ok (.ldc_w 267, 3) := by decide +kernel
theorem dJ6_bitCount_0f7a4_32 : decode cJ6_bitCount_0f7a4 32 = .ok (.iand, 1) := by decide +kernel
theorem dJ6_bitCount_0f7a4_33 : decode cJ6_bitCount_0f7a4 33 = .ok (.istore_n 0, 1) := by decide +kernel
theorem dJ6_bitCount_0f7a4_34 : decode cJ6_bitCount_0f7a4 34 = .ok (.iload_n 0, 1) := by decide +kernel
theorem dJ6_bitCount_0f7a4_35 : decode cJ6_bitCount_0f7a4 35 = .ok (.iload_n 0, 1) := by decide +kernel
theorem dJ6_bitCount_0f7a4_36 : decode cJ6_bitCount_0f7a4 36 = .ok (.bipush 8, 2) := by decide +kernel
theorem dJ6_bitCount_0f7a4_38 : decode cJ6_bitCount_0f7a4 38 = .ok (.iushr, 1) := by decide +kernel
theorem dJ6_bitCount_0f7a4_39 : decode cJ6_bitCount_0f7a4 39 = .ok (.iadd, 1) := by decide +kernel
theorem dJ6_bitCount_0f7a4_40 : decode cJ6_bitCount_0f7a4 40 = .ok (.istore_n 0, 1) := by decide +kernel
theorem dJ6_bitCount_0f7a4_41 : decode cJ6_bitCount_0f7a4 41 = .ok (.iload_n 0, 1) := by decide +kernel
theorem dJ6_bitCount_0f7a4_42 : decode cJ6_bitCount_0f7a4 42 = .ok (.iload_n 0, 1) := by decide +kernel
theorem dJ6_bitCount_0f7a4_43 : decode cJ6_bitCount_0f7a4 43 = .ok (.bipush 16, 2) := by decide +kernel
theorem dJ6_bitCount_0f7a4_45 : decode cJ6_bitCount_0f7a4 45 = .ok (.iushr, 1) := by decide +kernel
theorem dJ6_bitCount_0f7a4_46 : decode cJ6_bitCount_0f7a4 46 = .ok (.iadd, 1) := by decide +kernel
theorem dJ6_bitCount_0f7a4_47 : decode cJ6_bitCount_0f7a4 47 = .ok (.istore_n 0, 1) := by decide +kernel
theorem dJ6_bitCount_0f7a4_48 : decode cJ6_bitCount_0f7a4 48 = .ok (.iload_n 0, 1) := by decide +kernel
theorem dJ6_bitCount_0f7a4_49 : decode cJ6_bitCount_0f7a4 49 = .ok (.bipush 63, 2) := by decide +kernel
theorem dJ6_bitCount_0f7a4_51 : decode cJ6_bitCount_0f7a4 51 = .ok (.iand, 1) := by decide +kernel
theorem dJ6_bitCount_0f7a4_52 : decode cJ6_bitCount_0f7a4 52 = .ok (.ireturn, 1) := by decide +kernel
theorem dJ7_fill_53178_0 : decode cJ7_fill_53178 0 = .ok (.iconst 0, 1) := by decide +kernel
theorem dJ7_fill_53178_1 : decode cJ7_fill_53178 1 = .ok (.istore_n 2, 1) := by decide +kernel
theorem dJ7_fill_53178_2 : decode cJ7_fill_53178 2 = .ok (.aload_n 0, 1) := by decide +kernel
theorem dJ7_fill_53178_3 : decode cJ7_fill_53178 3 = .ok (.arraylength, 1) := by decide +kernel
theorem dJ7_fill_53178_4 : decode cJ7_fill_53178 4 = .ok (.istore_n 3, 1) := by decide +kernel
theorem dJ7_fill_53178_5 : decode cJ7_fill_53178 5 = .ok (.iload_n 2, 1) := by decide +kernel
theorem dJ7_fill_53178_6 : decode cJ7_fill_53178 6 = .ok (.iload_n 3, 1) := by decide +kernel
theorem dJ7_fill_53178_7 : decode cJ7_fill_53178 7 = .ok (.if_icmp .ge 13, 3) := by decide +kernel
theorem dJ7_fill_53178_10 : decode cJ7_fill_53178 10 = .ok (.aload_n 0, 1) := by decide +kernel
theorem dJ7_fill_53178_11 : decode cJ7_fill_53178 11 = .ok (.iload_n 2, 1) := by decide +kernel
theorem dJ7_fill_53178_12 : decode cJ7_fill_53178 12 = .ok (.iload_n 1, 1) := by decide +kernel
theorem dJ7_fill_53178_13 : decode cJ7_fill_53178 13 = .ok (.iastore, 1) := by decide +kernel
theorem dJ7_fill_53178_14 : decode cJ7_fill_53178 14 = .ok (.iinc 2 1, 3) := by decide +kernel
theorem dJ7_fill_53178_17 : decode cJ7_fill_53178 17 = .ok (.goto (-12), 3) := by decide +kernel
theorem dJ7_fill_53178_20 : decode cJ7_fill_53178 20 = .ok (.return_, 1) := by decide +kernel
theorem dJ7_fill_031fb_0 : decode cJ7_fill_031fb 0 = .ok (.iconst 0, 1) := by decide +kernel
theorem dJ7_fill_031fb_1 : decode cJ7_fill_031fb 1 = .ok (.istore_n 2, 1) := by decide +kernel
theorem dJ7_fill_031fb_2 : decode cJ7_fill_031fb 2 = .ok (.aload_n 0, 1) := by decide +kernel
theorem dJ7_fill_031fb_3 : decode cJ7_fill_031fb 3 = .ok (.arraylength, 1) := by decide +kernel
theorem dJ7_fill_031fb_4 : decode cJ7_fill_031fb 4 = .ok (.istore_n 3, 1) := by decide +kernel
theorem dJ7_fill_031fb_5 : decode cJ7_fill_031fb 5 = .ok (.iload_n 2, 1) := by decide +kernel
theorem dJ7_fill_031fb_6 : decode cJ7_fill_031fb 6 = .ok (.iload_n 3, 1) := by decide +kernel
theorem dJ7_fill_031fb_7 : decode cJ7_fill_031fb 7 = .ok (.if_icmp .ge 13, 3) := by decide +kernel
theorem dJ7_fill_031fb_10 : decode cJ7_fill_031fb 10 = .ok (.aload_n 0, 1) := by decide +kernel
theorem dJ7_fill_031fb_11 : decode cJ7_fill_031fb 11 = .ok (.iload_n 2, 1) := by decide +kernel
theorem dJ7_fill_031fb_12 : decode cJ7_fill_031fb 12 = .ok (.iload_n 1, 1) := by decide +kernel
theorem dJ7_fill_031fb_13 : decode cJ7_fill_031fb 13 = .ok (.bastore, 1) := by decide +kernel
theorem dJ7_fill_031fb_14 : decode cJ7_fill_031fb 14 = .ok (.iinc 2 1, 3) := by decide +kernel
theorem dJ7_fill_031fb_17 : decode cJ7_fill_031fb 17 = .ok (.goto (-12), 3) := by decide +kernel
theorem dJ7_fill_031fb_20 : decode cJ7_fill_031fb 20 = .ok (.return_, 1) := by decide +kernel
end
section
theorem dX9_thrown_0 : decode cX9_thrown 0 = .ok (.aload_n 0, 1) := by decide +kernel
theorem dX9_thrown_1 : decode cX9_thrown 1 = .ok (.getfield 1, 3) := by decide +kernel
theorem dX9_thrown_4 : decode cX9_thrown 4 = .ok (.ireturn, 1) := by decide +kernel
theorem dX9_in_0 : decode cX9_in 0 = .ok (.iload_n 1, 1) := by decide +kernel
theorem dX9_in_1 : decode cX9_in 1 = .ok (.iload_n 2, 1) := by decide +kernel
theorem dX9_in_2 : decode cX9_in 2 = .ok (.if_icmp .lt 12, 3) := by decide +kernel
theorem dX9_in_5 : decode cX9_in 5 = .ok (.iload_n 1, 1) := by decide +kernel
theorem dX9_in_6 : decode cX9_in 6 = .ok (.iload_n 3, 1) := by decide +kernel
theorem dX9_in_7 : decode cX9_in 7 = .ok (.if_icmp .gt 7, 3) := by decide +kernel
theorem dX9_in_10 : decode cX9_in 10 = .ok (.iconst 1, 1) := by decide +kernel
theorem dX9_in_11 : decode cX9_in 11 = .ok (.goto 4, 3) := by decide +kernel
theorem dX9_in_14 : decode cX9_in 14 = .ok (.iconst 0, 1) := by decide +kernel
theorem dX9_in_15 : decode cX9_in 15 = .ok (.ireturn, 1) := by decide +kernel
theorem dX9_init_0 : decode cX9_init 0 = .ok (.aload_n 0, 1) := by decide +kernel
theorem dX9_init_1 : decode cX9_init 1 = .ok (.invokespecial 7, 3) := by decide +kernel
theorem dX9_init_4 : decode cX9_init 4 = .ok (.aload_n 0, 1) := by decide +kernel
theorem dX9_init_5 : decode cX9_init 5 = .ok (.iconst 0, 1) := by decide +kernel
theorem dX9_init_6 : decode cX9_init 6 = .ok (.putfield 1, 3) := by decide +kernel
theorem dX9_init_9 : decode cX9_init 9 = .ok (.aload_n 0, 1) := by decide +kernel
theorem dX9_init_10 : decode cX9_init 10 = .ok (.iconst 0, 1) := by decide +kernel
theorem dX9_init_11 : decode cX9_init 11 = .ok (.putfield 13, 3) := by decide +kernel
theorem dX9_init_14 : decode cX9_init 14 = .ok (.aload_n 0, 1) := by decide +kernel
theorem dX9_init_15 : decode cX9_init 15 = .ok (.iconst 0, 1) := by decide +kernel
theorem dX9_init_16 : decode cX9_init 16 = .ok (.putfield 16, 3) := by decide +kernel
theorem dX9_init_19 : decode cX9_init 19 = .ok (.aload_n 0, 1) := by decide +kernel
theorem dX9_init_20 : decode cX9_init 20 = .ok (.iconst 0, 1) := by decide +kernel
theorem dX9_init_21 : decode cX9_init 21 = .ok (.putfield 19, 3) := by decide +kernel
theorem dX9_init_24 : decode cX9_init 24 = .ok (.aload_n 0, 1) := by decide +kernel
theorem dX9_init_25 : decode cX9_init 25 = .ok (.bipush 8, 2) := by decide +kernel
theorem dX9_init_27 : decode cX9_init 27 = .ok (.newarray .int, 2) := by decide +kernel
theorem dX9_init_29 : decode cX9_init 29 = .ok (.putfield 22, 3) := by decide +kernel
theorem dX9_init_32 : decode cX9_init 32 = .ok (.aload_n 0, 1) := by decide +kernel
theorem dX9_init_33 : decode cX9_init 33 = .ok (.bipush 8, 2) := by decide +kernel
theorem dX9_init_35 : decode cX9_init 35 = .ok (.newarray .boolean, 2) := by decide +kernel
theorem dX9_init_37 : decode cX9_init 37 = .ok (.putfield 26, 3) := by decide +kernel
theorem dX9_init_40 : decode cX9_init 40 = .ok (.aload_n 0, 1) := by decide +kernel
theorem dX9_init_41 : decode cX9_init 41 = .ok (.bipush 24, 2) := by decide +kernel
theorem dX9_init_43 : decode cX9_init 43 = .ok (.newarray .int, 2) := by decide +kernel
theorem dX9_init_45 : decode cX9_init 45 = .ok (.putfield 30, 3) := by decide +kernel
theorem dX9_init_48 : decode cX9_init 48 = .ok (.aload_n 0, 1) := by decide +kernel
theorem dX9_init_49 : decode cX9_init 49 = .ok (.bipush 24, 2) := by decide +kernel
theorem dX9_init_51 : decode cX9_init 51 = .ok (.newarray .int, 2) := by decide +kernel
theorem dX9_init_53 : decode cX9_init 53 = .ok (.putfield 33, 3) := by decide +kernel
theorem dX9_init_56 : decode cX9_init 56 = .ok (.aload_n 0, 1) := by decide +kernel
theorem dX9_init_57 : decode cX9_init 57 = .ok (.bipush 24, 2) := by decide +kernel
theorem dX9_init_59 : decode cX9_init 59 = .ok (.newarray .int, 2) := by decide +kernel
theorem dX9_init_61 : decode cX9_init 61 = .ok (.putfield 36, 3) := by decide +kernel
theorem dX9_init_64 : decode cX9_init 64 = .ok (.aload_n 0, 1) := by decide +kernel
theorem dX9_init_65 : decode cX9_init 65 = .ok (.bipush 24, 2) := by decide +kernel
theorem dX9_init_67 : decode cX9_init 67 = .ok (.newarray .int, 2) := by decide +kernel
theorem dX9_init_69 : decode cX9_init 69 = .ok (.putfield 39, 3) := by decide +kernel
theorem dX9_init_72 : decode cX9_init 72 = .ok (.aload_n 0, 1) := by decide +kernel
theorem dX9_init_73 : decode cX9_init 73 = .ok (.bipush 24, 2) := by decide +kernel
theorem dX9_init_75 : decode cX9_init 75 = .ok (.newarray .int, 2) := by decide +kernel
theorem dX9_init_77 : decode cX9_init 77 = .ok (.putfield 42, 3) := by decide +kernel
theorem dX9_init_80 : decode cX9_init 80 = .ok (.aload_n 0, 1) := by decide +kernel
theorem dX9_init_81 : decode cX9_init 81 = .ok (.bipush 24, 2) := by decide +kernel
theorem dX9_init_83 : decode cX9_init 83 = .ok (.newarray .int, 2) := by decide +kernel
theorem dX9_init_85 : decode cX9_init 85 = .ok (.putfield 45, 3) := by decide +kernel
theorem dX9_init_88 : decode cX9_init 88 = .ok (.aload_n 0, 1) := by decide +kernel
theorem dX9_init_89 : decode cX9_init 89 = .ok (.bipush 24, 2) := by decide +kernel
theorem dX9_init_91 : decode cX9_init 91 = .ok (.newarray .int, 2) := by decide +kernel
theorem dX9_init_93 : decode cX9_init 93 = .ok (.putfield 48, 3) := by decide +kernel
theorem dX9_init_96 : decode cX9_init 96 = .ok (.aload_n 0, 1) := by decide +kernel
theorem dX9_init_97 : decode cX9_init 97 = .ok (.bipush 20, 2) := by decide +kernel
theorem dX9_init_99 : decode cX9_init 99 = .ok (.newarray .int, 2) := by decide +kernel
theorem dX9_init_101 : decode cX9_init 101 = .ok (.putfield 51, 3) := by decide +kernel
theorem dX9_init_104 : decode cX9_init 104 = .ok (.aload_n 0, 1) := by decide +kernel
theorem dX9_init_105 : decode cX9_init 105 = .ok (.bipush 20, 2) := by decide +kernel
theorem dX9_init_107 : decode cX9_init 107 = .ok (.newarray .int, 2) := by decide +kernel
theorem dX9_init_109 : decode cX9_init 109 = .ok (.putfield 54, 3) := by decide +kernel
theorem dX9_init_112 : decode cX9_init 112 = .ok (.aload_n 0, 1) := by decide +kernel
theorem dX9_init_113 : decode cX9_init 113 = .ok (.bipush 20, 2) := by decide +kernel
theorem dX9_init_115 : decode cX9_init 115 = .ok (.newarray .int, 2) := by decide +kernel
theorem dX9_init_117 : decode cX9_init 117 = .ok (.putfield 57, 3) := by decide +kernel
theorem dX9_init_120 : decode cX9_init 120 = .ok (.aload_n 0, 1) := by decide +kernel
theorem dX9_init_121 : decode cX9_init 121 = .ok (.bipush 20, 2) := by decide +kernel
theorem dX9_init_123 : decode cX9_init 123 = .ok (.newarray .int, 2) := by decide +kernel
theorem dX9_init_125 : decode cX9_init 125 = .ok (.putfield 60, 3) := by decide +kernel
theorem dX9_init_128 : decode cX9_init 128 = .ok (.aload_n 0, 1) := by decide +kernel
theorem dX9_init_129 : decode cX9_init 129 = .ok (.bipush 20, 2) := by decide +kernel
theorem dX9_init_131 : decode cX9_init 131 = .ok (.newarray .int, 2) := by decide +kernel
theorem dX9_init_133 : decode cX9_init 133 = .ok (.putfield 63, 3) := by decide +kernel
theorem dX9_init_136 : decode cX9_init 136 = .ok (.aload_n 0, 1) := by decide +kernel
theorem dX9_init_137 : decode cX9_init 137 = .ok (.sipush 4800, 3) := by decide +kernel
theorem dX9_init_140 : decode cX9_init 140 = .ok (.newarray .int, 2) := by decide +kernel
theorem dX9_init_142 : decode cX9_init 142 = .ok (.putfield 66, 3) := by decide +kernel
theorem dX9_init_145 : decode cX9_init 145 = .ok (.aload_n 0, 1) := by decide +kernel
theorem dX9_init_146 : decode cX9_init 146 = .ok (.sipush 4800, 3) := by decide +kernel
theorem dX9_init_149 : decode cX9_init 149 = .ok (.newarray .boolean, 2) := by decide +kernel
theorem dX9_init_151 : decode cX9_init 151 = .ok (.putfield 69, 3) := by decide +kernel
theorem dX9_init_154 : decode cX9_init 154 = .ok (.aload_n 0, 1) := by decide +kernel
theorem dX9_init_155 : decode cX9_init 155 = .ok (.sipush 4800, 3) := by decide +kernel
theorem dX9_init_158 : decode cX9_init 158 = .ok (.newarray .int, 2) := by decide +kernel
theorem dX9_init_160 : decode cX9_init 160 = .ok (.putfield 72, 3) := by decide +kernel
theorem dX9_init_163 : decode cX9_init 163 = .ok (.aload_n 0, 1) := by decide +kernel
theorem dX9_init_164 : decode cX9_init 164 = .ok (.iconst 0, 1) := by decide +kernel
theorem dX9_init_165 : decode cX9_init 165 = .ok (.putfield 75, 3) := by decide +kernel
theorem dX9_init_168 : decode cX9_init 168 = .ok (.aload_n 0, 1) := by decide +kernel
theorem dX9_init_169 : decode cX9_init 169 = .ok (.iconst 0, 1) := by decide +kernel
theorem dX9_init_170 : decode cX9_init 170 = .ok (.putfield 78, 3) := by decide +kernel
theorem dX9_init_173 : decode cX9_init 173 = .ok (.aload_n 0, 1) := by decide +kernel
theorem dX9_init_174 : decode cX9_init 174 = .ok (.iconst 0, 1) := by decide +kernel
theorem dX9_init_175 : decode cX9_init 175 = .ok (.putfield 81, 3) := by decide +kernel
theorem dX9_init_178 : decode cX9_init 178 = .ok (.aload_n 0, 1) := by decide +kernel
theorem dX9_init_179 : decode cX9_init 179 = .ok (.iconst 0, 1) := by decide +kernel
theorem dX9_init_180 : decode cX9_init 180 = .ok (.putfield 84, 3) := by decide +kernel
theorem dX9_init_183 : decode cX9_init 183 = .ok (.aload_n 0, 1) := by decide +kernel
theorem dX9_init_184 : decode cX9_init 184 = .ok (.iconst 0, 1) := by decide +kernel
theorem dX9_init_185 : decode cX9_init 185 = .ok (.putfield 87, 3) := by decide +kernel
theorem dX9_init_188 : decode cX9_init 188 = .ok (.aload_n 0, 1) := by decide +kernel
theorem dX9_init_189 : decode cX9_init 189 = .ok (.iconst 0, 1) := by decide +kernel
theorem dX9_init_190 : decode cX9_init 190 = .ok (.putfield 90, 3) := by decide +kernel
theorem dX9_init_193 : decode cX9_init 193 = .ok (.aload_n 0, 1) := by decide +kernel
theorem dX9_init_194 : decode cX9_init 194 = .ok (.bipush 24, 2) := by decide +kernel
theorem dX9_init_196 : decode cX9_init 196 = .ok (.newarray .int, 2) := by decide +kernel
theorem dX9_init_198 : decode cX9_init 198 = .ok (.putfield 93, 3) := by decide +kernel
theorem dX9_init_201 : decode cX9_init 201 = .ok (.aload_n 0, 1) := by decide +kernel
theorem dX9_init_202 : decode cX9_init 202 = .ok (.bipush 24, 2) := by decide +kernel
theorem dX9_init_204 : decode cX9_init 204 = .ok (.newarray .int, 2) := by decide +kernel
theorem dX9_init_206 : decode cX9_init 206 = .ok (.putfield 96, 3) := by decide +kernel
theorem dX9_init_209 : decode cX9_init 209 = .ok (.aload_n 0, 1) := by decide +kernel
theorem dX9_init_210 : decode cX9_init 210 = .ok (.iconst 2, 1) := by decide +kernel
theorem dX9_init_211 : decode cX9_init 211 = .ok (.putfield 99, 3) := by decide +kernel
theorem dX9_init_214 : decode cX9_init 214 = .ok (.aload_n 0, 1) := by decide +kernel
theorem dX9_init_215 : decode cX9_init 215 = .ok (.iconst 1, 1) := by decide +kernel
theorem dX9_init_216 : decode cX9_init 216 = .ok (.putfield 102, 3) := by decide +kernel
theorem dX9_init_219 : decode cX9_init 219 = .ok (.aload_n 0, 1) := by decide +kernel
theorem dX9_init_220 : decode cX9_init 220 = .ok (.bipush 35, 2) := by decide +kernel
theorem dX9_init_222 : decode cX9_init 222 = .ok (.newarray .int, 2) := by decide +kernel
theorem dX9_init_224 : decode cX9_init 224 = .ok (.putfield 105, 3) := by decide +kernel
theorem dX9_init_227 : decode cX9_init 227 = .ok (.aload_n 0, 1) := by decide +kernel
theorem dX9_init_228 : decode cX9_init 228 = .ok (.bipush 35, 2) := by decide +kernel
theorem dX9_init_230 : decode cX9_init 230 = .ok (.newarray .int, 2) := by decide +kernel
theorem dX9_init_232 : decode cX9_init 232 = .ok (.putfield 108, 3) := by decide +kernel
theorem dX9_init_235 : decode cX9_init 235 = .ok (.aload_n 0, 1) := by decide +kernel
theorem dX9_init_236 : decode cX9_init 236 = .ok (.bipush 35, 2) := by decide +kernel
theorem dX9_init_238 : decode cX9_init 238 = .ok (.newarray .int, 2) := by decide +kernel
theorem dX9_init_240 : decode cX9_init 240 = .ok (.putfield 111, 3) := by decide +kernel
theorem dX9_init_243 : decode cX9_init 243 = .ok (.aload_n 0, 1) := by decide +kernel
theorem dX9_init_244 : decode cX9_init 244 = .ok (.iconst 4, 1) := by decide +kernel
theorem dX9_init_245 : decode cX9_init 245 = .ok (.newarray .int, 2) := by decide +kernel
theorem dX9_init_247 : decode cX9_init 247 = .ok (.putfield 114, 3) := by decide +kernel
theorem dX9_init_250 : decode cX9_init 250 = .ok (.aload_n 0, 1) := by decide +kernel
theorem dX9_init_251 : decode cX9_init 251 = .ok (.iconst 4, 1) := by decide +kernel
theorem dX9_init_252 : decode cX9_init 252 = .ok (.newarray .int, 2) := by decide +kernel
theorem dX9_init_254 : decode cX9_init 254 = .ok (.putfield 117, 3) := by decide +kernel
theorem dX9_init_257 : decode cX9_init 257 = .ok (.aload_n 0, 1) := by decide +kernel
theorem dX9_init_258 : decode cX9_init 258 = .ok (.iconst 2, 1) := by decide +kernel
theorem dX9_init_259 : decode cX9_init 259 = .ok (.newarray .int, 2) := by decide +kernel
theorem dX9_init_261 : decode cX9_init 261 = .ok (.putfield 120, 3) := by decide +kernel
theorem dX9_init_264 : decode cX9_init 264 = .ok (.aload_n 0, 1) := by decide +kernel
theorem dX9_init_265 : decode cX9_init 265 = .ok (.iconst 2, 1) := by decide +kernel
theorem dX9_init_266 : decode cX9_init 266 = .ok (.newarray .int, 2) := by decide +kernel
theorem dX9_init_268 : decode cX9_init 268 = .ok (.putfield 123, 3) := by decide +kernel
theorem dX9_init_271 : decode cX9_init 271 = .ok (.aload_n 0, 1) := by decide +kernel
theorem dX9_init_272 : decode cX9_init 272 = .ok (.iconst 0, 1) := by decide +kernel
theorem dX9_init_273 : decode cX9_init 273 = .ok (.putfield 126, 3) := by decide +kernel
theorem dX9_init_276 : decode cX9_init 276 = .ok (.aload_n 0, 1) := by decide +kernel
theorem dX9_init_277 : decode cX9_init 277 = .ok (.iconst 4, 1) := by decide +kernel
theorem dX9_init_278 : decode cX9_init 278 = .ok (.newarray .boolean, 2) := by decide +kernel
theorem dX9_init_280 : decode cX9_init 280 = .ok (.putfield 129, 3) := by decide +kernel
theorem dX9_init_283 : decode cX9_init 283 = .ok (.aload_n 0, 1) := by decide +kernel
theorem dX9_init_284 : decode cX9_init 284 = .ok (.bipush 8, 2) := by decide +kernel
theorem dX9_init_286 : decode cX9_init 286 = .ok (.newarray .int, 2) := by decide +kernel
theorem dX9_init_288 : decode cX9_init 288 = .ok (.putfield 132, 3) := by decide +kernel
theorem dX9_init_291 : decode cX9_init 291 = .ok (.aload_n 0, 1) := by decide +kernel
theorem dX9_init_292 : decode cX9_init 292 = .ok (.bipush 8, 2) := by decide +kernel
theorem dX9_init_294 : decode cX9_init 294 = .ok (.newarray .int, 2) := by decide +kernel
theorem dX9_init_296 : decode cX9_init 296 = .ok (.putfield 135, 3) := by decide +kernel
theorem dX9_init_299 : decode cX9_init 299 = .ok (.aload_n 0, 1) := by decide +kernel
theorem dX9_init_300 : decode cX9_init 300 = .ok (.bipush 8, 2) := by decide +kernel
theorem dX9_init_302 : decode cX9_init 302 = .ok (.newarray .int, 2) := by decide +kernel
theorem dX9_init_304 : decode cX9_init 304 = .ok (.putfield 138, 3) := by decide +kernel
theorem dX9_init_307 : decode cX9_init 307 = .ok (.aload_n 0, 1) := by decide +kernel
theorem dX9_init_308 : decode cX9_init 308 = .ok (.sipush 1600, 3) := by decide +kernel
theorem dX9_init_311 : decode cX9_init 311 = .ok (.newarray .int, 2) := by decide +kernel
theorem dX9_init_313 : decode cX9_init 313 = .ok (.putfield 141, 3) := by decide +kernel
theorem dX9_init_316 : decode cX9_init 316 = .ok (.aload_n 0, 1) := by decide +kernel
theorem dX9_init_317 : decode cX9_init 317 = .ok (.sipush 200, 3) := by decide +kernel
theorem dX9_init_320 : decode cX9_init 320 = .ok (.newarray .int, 2) := by decide +kernel
theorem dX9_init_322 : decode cX9_init 322 = .ok (.putfield 144, 3) := by decide +kernel
theorem dX9_init_325 : decode cX9_init 325 = .ok (.iconst 0, 1) := by decide +kernel
theorem dX9_init_326 : decode cX9_init 326 = .ok (.istore_n 1, 1) := by decide +kernel
theorem dX9_init_327 : decode cX9_init 327 = .ok (.iload_n 1, 1) := by decide +kernel
theorem dX9_init_328 : decode cX9_init 328 = .ok (.sipush 4800, 3) := by decide +kernel
theorem dX9_init_331 : decode cX9_init 331 = .ok (.if_icmp .ge 23, 3) := by decide +kernel
theorem dX9_init_334 : decode cX9_init 334 = .ok (.aload_n 0, 1) := by decide +kernel
theorem dX9_init_335 : decode cX9_init 335 = .ok (.getfield 66, 3) := by decide +kernel
theorem dX9_init_338 : decode cX9_init 338 = .ok (.iload_n 1, 1) := by decide +kernel
theorem dX9_init_339 : decode cX9_init 339 = .ok (.iconst (-1), 1) := by decide +kernel
theorem dX9_init_340 : decode cX9_init 340 = .ok (.iastore, 1) := by decide +kernel
theorem dX9_init_341 : decode cX9_init 341 = .ok (.aload_n 0, 1) := by decide +kernel
theorem dX9_init_342 : decode cX9_init 342 = .ok (.getfield 72, 3) := by decide +kernel
theorem dX9_init_345 : decode cX9_init 345 = .ok (.iload_n 1, 1) := by decide +kernel
theorem dX9_init_346 : decode cX9_init 346 = .ok (.iconst (-1), 1) := by decide +kernel
theorem dX9_init_347 : decode cX9_init 347 = .ok (.iastore, 1) := by decide +kernel
theorem dX9_init_348 : decode cX9_init 348 = .ok (.iinc 1 1, 3) := by decide +kernel
theorem dX9_init_351 : decode cX9_init 351 = .ok (.goto (-24), 3) := by decide +kernel
theorem dX9_init_354 : decode cX9_init 354 = .ok (.return_, 1) := by decide +kernel
theorem dX9_isOffice_0 : decode cX9_isOffice 0 = .ok (.aload_n 0, 1) := by decide +kernel
theorem dX9_isOffice_1 : decode cX9_isOffice 1 = .ok (.iload_n 1, 1) := by decide +kernel
theorem dX9_isOffice_2 : decode cX9_isOffice 2 = .ok (.iconst 0, 1) := by decide +kernel
theorem dX9_isOffice_3 : decode cX9_isOffice 3 = .ok (.aload_n 0, 1) := by decide +kernel
theorem dX9_isOffice_4 : decode cX9_isOffice 4 = .ok (.getfield 13, 3) := by decide +kernel
theorem dX9_isOffice_7 : decode cX9_isOffice 7 = .ok (.iconst 1, 1) := by decide +kernel
theorem dX9_isOffice_8 : decode cX9_isOffice 8 = .ok (.isub, 1) := by decide +kernel
theorem dX9_isOffice_9 : decode cX9_isOffice 9 = .ok (.invokevirtual 147, 3) := by decide +kernel
theorem dX9_isOffice_12 : decode cX9_isOffice 12 = .ok (.ireturn, 1) := by decide +kernel
theorem dX9_isPerson_0 : decode cX9_isPerson 0 = .ok (.aload_n 0, 1) := by decide +kernel
theorem dX9_isPerson_1 : decode cX9_isPerson 1 = .ok (.iload_n 1, 1) := by decide +kernel
theorem dX9_isPerson_2 : decode cX9_isPerson 2 = .ok (.iconst 0, 1) := by decide +kernel
theorem dX9_isPerson_3 : decode cX9_isPerson 3 = .ok (.aload_n 0, 1) := by decide +kernel
theorem dX9_isPerson_4 : decode cX9_isPerson 4 = .ok (.getfield 16, 3) := by decide +kernel
theorem dX9_isPerson_7 : decode cX9_isPerson 7 = .ok (.iconst 1, 1) := by decide +kernel
theorem dX9_isPerson_8 : decode cX9_isPerson 8 = .ok (.isub, 1) := by decide +kernel
theorem dX9_isPerson_9 : decode cX9_isPerson 9 = .ok (.invokevirtual 147, 3) := by decide +kernel
theorem dX9_isPerson_12 : decode cX9_isPerson 12 = .ok (.ireturn, 1) := by decide +kernel
theorem dX9_isYear_0 : decode cX9_isYear 0 = .ok (.aload_n 0, 1) := by decide +kernel
theorem dX9_isYear_1 : decode cX9_isYear 1 = .ok (.iload_n 1, 1) := by decide +kernel
theorem dX9_isYear_2 : decode cX9_isYear 2 = .ok (.iconst 0, 1) := by decide +kernel
theorem dX9_isYear_3 : decode cX9_isYear 3 = .ok (.sipush 199, 3) := by decide +kernel
theorem dX9_isYear_6 : decode cX9_isYear 6 = .ok (.invokevirtual 147, 3) := by decide +kernel
theorem dX9_isYear_9 : decode cX9_isYear 9 = .ok (.ireturn, 1) := by decide +kernel
theorem dX9_at_0 : decode cX9_at 0 = .ok (.sipush 200, 3) := by decide +kernel
theorem dX9_at_3 : decode cX9_at 3 = .ok (.iload_n 1, 1) := by decide +kernel
theorem dX9_at_4 : decode cX9_at 4 = .ok (.imul, 1) := by decide +kernel
theorem dX9_at_5 : decode cX9_at 5 = .ok (.iload_n 2, 1) := by decide +kernel
theorem dX9_at_6 : decode cX9_at 6 = .ok (.iadd, 1) := by decide +kernel
theorem dX9_at_7 : decode cX9_at 7 = .ok (.iconst 3, 1) := by decide +kernel
theorem dX9_at_8 : decode cX9_at 8 = .ok (.imul, 1) := by decide +kernel
theorem dX9_at_9 : decode cX9_at 9 = .ok (.iload_n 3, 1) := by decide +kernel
theorem dX9_at_10 : decode cX9_at 10 = .ok (.iadd, 1) := by decide +kernel
theorem dX9_at_11 : decode cX9_at 11 = .ok (.ireturn, 1) := by decide +kernel
theorem dX9_office_0 : decode cX9_office 0 = .ok (.aload_n 0, 1) := by decide +kernel
theorem dX9_office_1 : decode cX9_office 1 = .ok (.iload_n 1, 1) := by decide +kernel
theorem dX9_office_2 : decode cX9_office 2 = .ok (.iconst 1, 1) := by decide +kernel
theorem dX9_office_3 : decode cX9_office 3 = .ok (.iconst 3, 1) := by decide +kernel
theorem dX9_office_4 : decode cX9_office 4 = .ok (.invokevirtual 147, 3) := by decide +kernel
theorem dX9_office_7 : decode cX9_office 7 = .ok (.ifCond .ne 5, 3) := by decide +kernel
theorem dX9_office_10 : decode cX9_office 10 = .ok (.iconst (-1), 1) := by decide +kernel
theorem dX9_office_11 : decode cX9_office 11 = .ok (.ireturn, 1) := by decide +kernel
theorem dX9_office_12 : decode cX9_office 12 = .ok (.aload_n 0, 1) := by decide +kernel
theorem dX9_office_13 : decode cX9_office 13 = .ok (.getfield 13, 3) := by decide +kernel
theorem dX9_office_16 : decode cX9_office 16 = .ok (.bipush 8, 2) := by decide +kernel
theorem dX9_office_18 : decode cX9_office 18 = .ok (.if_icmp .ne 6, 3) := by decide +kernel
theorem dX9_office_21 : decode cX9_office 21 = .ok (.bipush (-2), 2) := by decide +kernel
theorem dX9_office_23 : decode cX9_office 23 = .ok (.ireturn, 1) := by decide +kernel
theorem dX9_office_24 : decode cX9_office 24 = .ok (.aload_n 0, 1) := by decide +kernel
theorem dX9_office_25 : decode cX9_office 25 = .ok (.getfield 22, 3) := by decide +kernel
theorem dX9_office_28 : decode cX9_office 28 = .ok (.aload_n 0, 1) := by decide +kernel
theorem dX9_office_29 : decode cX9_office 29 = .ok (.getfield 13, 3) := by decide +kernel
theorem dX9_office_32 : decode cX9_office 32 = .ok (.iload_n 1, 1) := by decide +kernel
theorem dX9_office_33 : decode cX9_office 33 = .ok (.iastore, 1) := by decide +kernel
theorem dX9_office_34 : decode cX9_office 34 = .ok (.aload_n 0, 1) := by decide +kernel
theorem dX9_office_35 : decode cX9_office 35 = .ok (.getfield 26, 3) := by decide +kernel
theorem dX9_office_38 : decode cX9_office 38 = .ok (.aload_n 0, 1) := by decide +kernel
theorem dX9_office_39 : decode cX9_office 39 = .ok (.getfield 13, 3) := by decide +kernel
theorem dX9_office_42 : decode cX9_office 42 = .ok (.iload_n 2, 1) := by decide +kernel
theorem dX9_office_43 : decode cX9_office 43 = .ok (.bastore, 1) := by decide +kernel
theorem dX9_office_44 : decode cX9_office 44 = .ok (.aload_n 0, 1) := by decide +kernel
theorem dX9_office_45 : decode cX9_office 45 = .ok (.dup, 1) := by decide +kernel
theorem dX9_office_46 : decode cX9_office 46 = .ok (.getfield 13, 3) := by decide +kernel
theorem dX9_office_49 : decode cX9_office 49 = .ok (.iconst 1, 1) := by decide +kernel
theorem dX9_office_50 : decode cX9_office 50 = .ok (.iadd, 1) := by decide +kernel
theorem dX9_office_51 : decode cX9_office 51 = .ok (.putfield 13, 3) := by decide +kernel
theorem dX9_office_54 : decode cX9_office 54 = .ok (.aload_n 0, 1) := by decide +kernel
theorem dX9_office_55 : decode cX9_office 55 = .ok (.getfield 13, 3) := by decide +kernel
theorem dX9_office_58 : decode cX9_office 58 = .ok (.iconst 1, 1) := by decide +kernel
theorem dX9_office_59 : decode cX9_office 59 = .ok (.isub, 1) := by decide +kernel
theorem dX9_office_60 : decode cX9_office 60 = .ok (.ireturn, 1) := by decide +kernel
theorem dX9_isSpan_0 : decode cX9_isSpan 0 = .ok (.aload_n 0, 1) := by decide +kernel
theorem dX9_isSpan_1 : decode cX9_isSpan 1 = .ok (.iload_n 1, 1) := by decide +kernel
theorem dX9_isSpan_2 : decode cX9_isSpan 2 = .ok (.bipush (-50), 2) := by decide +kernel
theorem dX9_isSpan_4 : decode cX9_isSpan 4 = .ok (.sipush 199, 3) := by decide +kernel
theorem dX9_isSpan_7 : decode cX9_isSpan 7 = .ok (.invokevirtual 147, 3) := by decide +kernel
theorem dX9_isSpan_10 : decode cX9_isSpan 10 = .ok (.ifCond .eq 19, 3) := by decide +kernel
theorem dX9_isSpan_13 : decode cX9_isSpan 13 = .ok (.aload_n 0, 1) := by decide +kernel
theorem dX9_isSpan_14 : decode cX9_isSpan 14 = .ok (.iload_n 2, 1) := by decide +kernel
theorem dX9_isSpan_15 : decode cX9_isSpan 15 = .ok (.iload_n 1, 1) := by decide +kernel
theorem dX9_isSpan_16 : decode cX9_isSpan 16 = .ok (.sipush 199, 3) := by decide +kernel
theorem dX9_isSpan_19 : decode cX9_isSpan 19 = .ok (.invokevirtual 147, 3) := by decide +kernel
theorem dX9_isSpan_22 : decode cX9_isSpan 22 = .ok (.ifCond .eq 7, 3) := by decide +kernel
theorem dX9_isSpan_25 : decode cX9_isSpan 25 = .ok (.iconst 1, 1) := by decide +kernel
theorem dX9_isSpan_26 : decode cX9_isSpan 26 = .ok (.goto 4, 3) := by decide +kernel
theorem dX9_isSpan_29 : decode cX9_isSpan 29 = .ok (.iconst 0, 1) := by decide +kernel
theorem dX9_isSpan_30 : decode cX9_isSpan 30 = .ok (.ireturn, 1) := by decide +kernel
theorem dX9_person_0 : decode cX9_person 0 = .ok (.aload_n 0, 1) := by decide +kernel
theorem dX9_person_1 : decode cX9_person 1 = .ok (.iload_n 1, 1) := by decide +kernel
theorem dX9_person_2 : decode cX9_person 2 = .ok (.iconst 0, 1) := by decide +kernel
theorem dX9_person_3 : decode cX9_person 3 = .ok (.iconst 1, 1) := by decide +kernel
theorem dX9_person_4 : decode cX9_person 4 = .ok (.invokevirtual 147, 3) := by decide +kernel
theorem dX9_person_7 : decode cX9_person 7 = .ok (.ifCond .eq 28, 3) := by decide +kernel
theorem dX9_person_10 : decode cX9_person 10 = .ok (.aload_n 0, 1) := by decide +kernel
theorem dX9_person_11 : decode cX9_person 11 = .ok (.iload_n 2, 1) := by decide +kernel
theorem dX9_person_12 : decode cX9_person 12 = .ok (.iload_n 3, 1) := by decide +kernel
theorem dX9_person_13 : decode cX9_person 13 = .ok (.invokevirtual 151, 3) := by decide +kernel
theorem dX9_person_16 : decode cX9_person 16 = .ok (.ifCond .eq 19, 3) := by decide +kernel
theorem dX9_person_19 : decode cX9_person 19 = .ok (.aload_n 0, 1) := by decide +kernel
theorem dX9_person_20 : decode cX9_person 20 = .ok (.iload 4, 2) := by decide +kernel
theorem dX9_person_22 : decode cX9_person 22 = .ok (.iconst (-1), 1) := by decide +kernel
theorem dX9_person_23 : decode cX9_person 23 = .ok (.aload_n 0, 1) := by decide +kernel
theorem dX9_person_24 : decode cX9_person 24 = .ok (.getfield 16, 3) := by decide +kernel
theorem dX9_person_27 : decode cX9_person 27 = .ok (.iconst 1, 1) := by decide +kernel
theorem dX9_person_28 : decode cX9_person 28 = .ok (.isub, 1) := by decide +kernel
theorem dX9_person_29 : decode cX9_person 29 = .ok (.invokevirtual 147, 3) := by decide +kernel
theorem dX9_person_32 : decode cX9_person 32 = .ok (.ifCond .ne 5, 3) := by decide +kernel
theorem dX9_person_35 : decode cX9_person 35 = .ok (.iconst (-1), 1) := by decide +kernel
theorem dX9_person_36 : decode cX9_person 36 = .ok (.ireturn, 1) := by decide +kernel
theorem dX9_person_37 : decode cX9_person 37 = .ok (.aload_n 0, 1) := by decide +kernel
theorem dX9_person_38 : decode cX9_person 38 = .ok (.getfield 16, 3) := by decide +kernel
theorem dX9_person_41 : decode cX9_person 41 = .ok (.bipush 24, 2) := by decide +kernel
theorem dX9_person_43 : decode cX9_person 43 = .ok (.if_icmp .ne 6, 3) := by decide +kernel
theorem dX9_person_46 : decode cX9_person 46 = .ok (.bipush (-2), 2) := by decide +kernel
theorem dX9_person_48 : decode cX9_person 48 = .ok (.ireturn, 1) := by decide +kernel
theorem dX9_person_49 : decode cX9_person 49 = .ok (.aload_n 0, 1) := by decide +kernel
theorem dX9_person_50 : decode cX9_person 50 = .ok (.getfield 30, 3) := by decide +kernel
theorem dX9_person_53 : decode cX9_person 53 = .ok (.aload_n 0, 1) := by decide +kernel
theorem dX9_person_54 : decode cX9_person 54 = .ok (.getfield 16, 3) := by decide +kernel
theorem dX9_person_57 : decode cX9_person 57 = .ok (.iload_n 1, 1) := by decide +kernel
theorem dX9_person_58 : decode cX9_person 58 = .ok (.iastore, 1) := by decide +kernel
theorem dX9_person_59 : decode cX9_person 59 = .ok (.aload_n 0, 1) := by decide +kernel
theorem dX9_person_60 : decode cX9_person 60 = .ok (.getfield 33, 3) := by decide +kernel
theorem dX9_person_63 : decode cX9_person 63 = .ok (.aload_n 0, 1) := by decide +kernel
theorem dX9_person_64 : decode cX9_person 64 = .ok (.getfield 16, 3) := by decide +kernel
theorem dX9_person_67 : decode cX9_person 67 = .ok (.iload_n 2, 1) := by decide +kernel
theorem dX9_person_68 : decode cX9_person 68 = .ok (.iastore, 1) := by decide +kernel
theorem dX9_person_69 : decode cX9_person 69 = .ok (.aload_n 0, 1) := by decide +kernel
theorem dX9_person_70 : decode cX9_person 70 = .ok (.getfield 36, 3) := by decide +kernel
theorem dX9_person_73 : decode cX9_person 73 = .ok (.aload_n 0, 1) := by decide +kernel
theorem dX9_person_74 : decode cX9_person 74 = .ok (.getfield 16, 3) := by decide +kernel
theorem dX9_person_77 : decode cX9_person 77 = .ok (.iload_n 3, 1) := by decide +kernel
theorem dX9_person_78 : decode cX9_person 78 = .ok (.iastore, 1) := by decide +kernel
theorem dX9_person_79 : decode cX9_person 79 = .ok (.aload_n 0, 1) := by decide +kernel
theorem dX9_person_80 : decode cX9_person 80 = .ok (.getfield 39, 3) := by decide +kernel
theorem dX9_person_83 : decode cX9_person 83 = .ok (.aload_n 0, 1) := by decide +kernel
theorem dX9_person_84 : decode cX9_person 84 = .ok (.getfield 16, 3) := by decide +kernel
theorem dX9_person_87 : decode cX9_person 87 = .ok (.iload 4, 2) := by decide +kernel
theorem dX9_person_89 : decode cX9_person 89 = .ok (.iastore, 1) := by decide +kernel
theorem dX9_person_90 : decode cX9_person 90 = .ok (.aload_n 0, 1) := by decide +kernel
theorem dX9_person_91 : decode cX9_person 91 = .ok (.getfield 42, 3) := by decide +kernel
theorem dX9_person_94 : decode cX9_person 94 = .ok (.aload_n 0, 1) := by decide +kernel
theorem dX9_person_95 : decode cX9_person 95 = .ok (.getfield 16, 3) := by decide +kernel
theorem dX9_person_98 : decode cX9_person 98 = .ok (.sipush 200, 3) := by decide +kernel
theorem dX9_person_101 : decode cX9_person 101 = .ok (.iastore, 1) := by decide +kernel
theorem dX9_person_102 : decode cX9_person 102 = .ok (.aload_n 0, 1) := by decide +kernel
theorem dX9_person_103 : decode cX9_person 103 = .ok (.getfield 45, 3) := by decide +kernel
theorem dX9_person_106 : decode cX9_person 106 = .ok (.aload_n 0, 1) := by decide +kernel
theorem dX9_person_107 : decode cX9_person 107 = .ok (.getfield 16, 3) := by decide +kernel
theorem dX9_person_110 : decode cX9_person 110 = .ok (.iconst 0, 1) := by decide +kernel
theorem dX9_person_111 : decode cX9_person 111 = .ok (.iastore, 1) := by decide +kernel
theorem dX9_person_112 : decode cX9_person 112 = .ok (.aload_n 0, 1) := by decide +kernel
theorem dX9_person_113 : decode cX9_person 113 = .ok (.getfield 48, 3) := by decide +kernel
theorem dX9_person_116 : decode cX9_person 116 = .ok (.aload_n 0, 1) := by decide +kernel
theorem dX9_person_117 : decode cX9_person 117 = .ok (.getfield 16, 3) := by decide +kernel
theorem dX9_person_120 : decode cX9_person 120 = .ok (.iconst (-1), 1) := by decide +kernel
theorem dX9_person_121 : decode cX9_person 121 = .ok (.iastore, 1) := by decide +kernel
theorem dX9_person_122 : decode cX9_person 122 = .ok (.aload_n 0, 1) := by decide +kernel
theorem dX9_person_123 : decode cX9_person 123 = .ok (.dup, 1) := by decide +kernel
theorem dX9_person_124 : decode cX9_person 124 = .ok (.getfield 16, 3) := by decide +kernel
theorem dX9_person_127 : decode cX9_person 127 = .ok (.iconst 1, 1) := by decide +kernel
theorem dX9_person_128 : decode cX9_person 128 = .ok (.iadd, 1) := by decide +kernel
theorem dX9_person_129 : decode cX9_person 129 = .ok (.putfield 16, 3) := by decide +kernel
theorem dX9_person_132 : decode cX9_person 132 = .ok (.aload_n 0, 1) := by decide +kernel
theorem dX9_person_133 : decode cX9_person 133 = .ok (.getfield 16, 3) := by decide +kernel
theorem dX9_person_136 : decode cX9_person 136 = .ok (.iconst 1, 1) := by decide +kernel
theorem dX9_person_137 : decode cX9_person 137 = .ok (.isub, 1) := by decide +kernel
theorem dX9_person_138 : decode cX9_person 138 = .ok (.ireturn, 1) := by decide +kernel
theorem dX9_death_0 : decode cX9_death 0 = .ok (.aload_n 0, 1) := by decide +kernel
theorem dX9_death_1 : decode cX9_death 1 = .ok (.iload_n 1, 1) := by decide +kernel
theorem dX9_death_2 : decode cX9_death 2 = .ok (.invokevirtual 155, 3) := by decide +kernel
theorem dX9_death_5 : decode cX9_death 5 = .ok (.ifCond .eq 15, 3) := by decide +kernel
theorem dX9_death_8 : decode cX9_death 8 = .ok (.aload_n 0, 1) := by decide +kernel
theorem dX9_death_9 : decode cX9_death 9 = .ok (.iload_n 2, 1) := by decide +kernel
theorem dX9_death_10 : decode cX9_death 10 = .ok (.iconst 0, 1) := by decide +kernel
theorem dX9_death_11 : decode cX9_death 11 = .ok (.sipush 200, 3) := by decide +kernel
theorem dX9_death_14 : decode cX9_death 14 = .ok (.invokevirtual 147, 3) := by decide +kernel
theorem dX9_death_17 : decode cX9_death 17 = .ok (.ifCond .ne 5, 3) := by decide +kernel
theorem dX9_death_20 : decode cX9_death 20 = .ok (.iconst (-1), 1) := by decide +kernel
theorem dX9_death_21 : decode cX9_death 21 = .ok (.ireturn, 1) := by decide +kernel
theorem dX9_death_22 : decode cX9_death 22 = .ok (.aload_n 0, 1) := by decide +kernel
theorem dX9_death_23 : decode cX9_death 23 = .ok (.getfield 42, 3) := by decide +kernel
theorem dX9_death_26 : decode cX9_death 26 = .ok (.iload_n 1, 1) := by decide +kernel
theorem dX9_death_27 : decode cX9_death 27 = .ok (.iaload, 1) := by decide +kernel
theorem dX9_death_28 : decode cX9_death 28 = .ok (.istore_n 3, 1) := by decide +kernel
theorem dX9_death_29 : decode cX9_death 29 = .ok (.aload_n 0, 1) := by decide +kernel
theorem dX9_death_30 : decode cX9_death 30 = .ok (.getfield 42, 3) := by decide +kernel
theorem dX9_death_33 : decode cX9_death 33 = .ok (.iload_n 1, 1) := by decide +kernel
theorem dX9_death_34 : decode cX9_death 34 = .ok (.iload_n 2, 1) := by decide +kernel
theorem dX9_death_35 : decode cX9_death 35 = .ok (.iastore, 1) := by decide +kernel
theorem dX9_death_36 : decode cX9_death 36 = .ok (.iload_n 3, 1) := by decide +kernel
theorem dX9_death_37 : decode cX9_death 37 = .ok (.ireturn, 1) := by decide +kernel
theorem dX9_exile_0 : decode cX9_exile 0 = .ok (.aload_n 0, 1) := by decide +kernel
theorem dX9_exile_1 : decode cX9_exile 1 = .ok (.iload_n 1, 1) := by decide +kernel
theorem dX9_exile_2 : decode cX9_exile 2 = .ok (.invokevirtual 155, 3) := by decide +kernel
theorem dX9_exile_5 : decode cX9_exile 5 = .ok (.ifCond .eq 19, 3) := by decide +kernel
theorem dX9_exile_8 : decode cX9_exile 8 = .ok (.aload_n 0, 1) := by decide +kernel
theorem dX9_exile_9 : decode cX9_exile 9 = .ok (.iload_n 2, 1) := by decide +kernel
theorem dX9_exile_10 : decode cX9_exile 10 = .ok (.invokevirtual 159, 3) := by decide +kernel
theorem dX9_exile_13 : decode cX9_exile 13 = .ok (.ifCond .eq 11, 3) := by decide +kernel
theorem dX9_exile_16 : decode cX9_exile 16 = .ok (.aload_n 0, 1) := by decide +kernel
theorem dX9_exile_17 : decode cX9_exile 17 = .ok (.iload_n 3, 1) := by decide +kernel
theorem dX9_exile_18 : decode cX9_exile 18 = .ok (.invokevirtual 159, 3) := by decide +kernel
theorem dX9_exile_21 : decode cX9_exile 21 = .ok (.ifCond .ne 5, 3) := by decide +kernel
theorem dX9_exile_24 : decode cX9_exile 24 = .ok (.iconst (-1), 1) := by decide +kernel
theorem dX9_exile_25 : decode cX9_exile 25 = .ok (.ireturn, 1) := by decide +kernel
theorem dX9_exile_26 : decode cX9_exile 26 = .ok (.aload_n 0, 1) := by decide +kernel
theorem dX9_exile_27 : decode cX9_exile 27 = .ok (.getfield 45, 3) := by decide +kernel
theorem dX9_exile_30 : decode cX9_exile 30 = .ok (.iload_n 1, 1) := by decide +kernel
theorem dX9_exile_31 : decode cX9_exile 31 = .ok (.iaload, 1) := by decide +kernel
theorem dX9_exile_32 : decode cX9_exile 32 = .ok (.aload_n 0, 1) := by decide +kernel
theorem dX9_exile_33 : decode cX9_exile 33 = .ok (.getfield 48, 3) := by decide +kernel
theorem dX9_exile_36 : decode cX9_exile 36 = .ok (.iload_n 1, 1) := by decide +kernel
theorem dX9_exile_37 : decode cX9_exile 37 = .ok (.iaload, 1) := by decide +kernel
theorem dX9_exile_38 : decode cX9_exile 38 = .ok (.if_icmp .gt 7, 3) := by decide +kernel
theorem dX9_exile_41 : decode cX9_exile 41 = .ok (.iconst 1, 1) := by decide +kernel
theorem dX9_exile_42 : decode cX9_exile 42 = .ok (.goto 4, 3) := by decide +kernel
theorem dX9_exile_45 : decode cX9_exile 45 = .ok (.iconst 0, 1) := by decide +kernel
theorem dX9_exile_46 : decode cX9_exile 46 = .ok (.istore 4, 2) := by decide +kernel
theorem dX9_exile_48 : decode cX9_exile 48 = .ok (.aload_n 0, 1) := by decide +kernel
theorem dX9_exile_49 : decode cX9_exile 49 = .ok (.getfield 45, 3) := by decide +kernel
theorem dX9_exile_52 : decode cX9_exile 52 = .ok (.iload_n 1, 1) := by decide +kernel
theorem dX9_exile_53 : decode cX9_exile 53 = .ok (.iload_n 2, 1) := by decide +kernel
theorem dX9_exile_54 : decode cX9_exile 54 = .ok (.iload_n 3, 1) := by decide +kernel
theorem dX9_exile_55 : decode cX9_exile 55 = .ok (.if_icmp .le 7, 3) := by decide +kernel
theorem dX9_exile_58 : decode cX9_exile 58 = .ok (.iconst 0, 1) := by decide +kernel
theorem dX9_exile_59 : decode cX9_exile 59 = .ok (.goto 4, 3) := by decide +kernel
theorem dX9_exile_62 : decode cX9_exile 62 = .ok (.iload_n 2, 1) := by decide +kernel
theorem dX9_exile_63 : decode cX9_exile 63 = .ok (.iastore, 1) := by decide +kernel
theorem dX9_exile_64 : decode cX9_exile 64 = .ok (.aload_n 0, 1) := by decide +kernel
theorem dX9_exile_65 : decode cX9_exile 65 = .ok (.getfield 48, 3) := by decide +kernel
theorem dX9_exile_68 : decode cX9_exile 68 = .ok (.iload_n 1, 1) := by decide +kernel
theorem dX9_exile_69 : decode cX9_exile 69 = .ok (.iload_n 2, 1) := by decide +kernel
theorem dX9_exile_70 : decode cX9_exile 70 = .ok (.iload_n 3, 1) := by decide +kernel
theorem dX9_exile_71 : decode cX9_exile 71 = .ok (.if_icmp .le 7, 3) := by decide +kernel
theorem dX9_exile_74 : decode cX9_exile 74 = .ok (.iconst (-1), 1) := by decide +kernel
theorem dX9_exile_75 : decode cX9_exile 75 = .ok (.goto 4, 3) := by decide +kernel
theorem dX9_exile_78 : decode cX9_exile 78 = .ok (.iload_n 3, 1) := by decide +kernel
theorem dX9_exile_79 : decode cX9_exile 79 = .ok (.iastore, 1) := by decide +kernel
theorem dX9_exile_80 : decode cX9_exile 80 = .ok (.iload 4, 2) := by decide +kernel
theorem dX9_exile_82 : decode cX9_exile 82 = .ok (.ireturn, 1) := by decide +kernel
theorem dX9_birth_0 : decode cX9_birth 0 = .ok (.aload_n 0, 1) := by decide +kernel
theorem dX9_birth_1 : decode cX9_birth 1 = .ok (.iload_n 1, 1) := by decide +kernel
theorem dX9_birth_2 : decode cX9_birth 2 = .ok (.invokevirtual 155, 3) := by decide +kernel
theorem dX9_birth_5 : decode cX9_birth 5 = .ok (.ifCond .eq 12, 3) := by decide +kernel
theorem dX9_birth_8 : decode cX9_birth 8 = .ok (.aload_n 0, 1) := by decide +kernel
theorem dX9_birth_9 : decode cX9_birth 9 = .ok (.iload_n 2, 1) := by decide +kernel
theorem dX9_birth_10 : decode cX9_birth 10 = .ok (.iload_n 3, 1) := by decide +kernel
theorem dX9_birth_11 : decode cX9_birth 11 = .ok (.invokevirtual 151, 3) := by decide +kernel
theorem dX9_birth_14 : decode cX9_birth 14 = .ok (.ifCond .ne 5, 3) := by decide +kernel
theorem dX9_birth_17 : decode cX9_birth 17 = .ok (.iconst (-1), 1) := by decide +kernel
theorem dX9_birth_18 : decode cX9_birth 18 = .ok (.ireturn, 1) := by decide +kernel
theorem dX9_birth_19 : decode cX9_birth 19 = .ok (.aload_n 0, 1) := by decide +kernel
theorem dX9_birth_20 : decode cX9_birth 20 = .ok (.getfield 33, 3) := by decide +kernel
theorem dX9_birth_23 : decode cX9_birth 23 = .ok (.iload_n 1, 1) := by decide +kernel
theorem dX9_birth_24 : decode cX9_birth 24 = .ok (.iaload, 1) := by decide +kernel
theorem dX9_birth_25 : decode cX9_birth 25 = .ok (.iload_n 2, 1) := by decide +kernel
theorem dX9_birth_26 : decode cX9_birth 26 = .ok (.if_icmp .ne 17, 3) := by decide +kernel
theorem dX9_birth_29 : decode cX9_birth 29 = .ok (.aload_n 0, 1) := by decide +kernel
theorem dX9_birth_30 : decode cX9_birth 30 = .ok (.getfield 36, 3) := by decide +kernel
theorem dX9_birth_33 : decode cX9_birth 33 = .ok (.iload_n 1, 1) := by decide +kernel
theorem dX9_birth_34 : decode cX9_birth 34 = .ok (.iaload, 1) := by decide +kernel
theorem dX9_birth_35 : decode cX9_birth 35 = .ok (.iload_n 3, 1) := by decide +kernel
theorem dX9_birth_36 : decode cX9_birth 36 = .ok (.if_icmp .ne 7, 3) := by decide +kernel
theorem dX9_birth_39 : decode cX9_birth 39 = .ok (.iconst 0, 1) := by decide +kernel
theorem dX9_birth_40 : decode cX9_birth 40 = .ok (.goto 4, 3) := by decide +kernel
theorem dX9_birth_43 : decode cX9_birth 43 = .ok (.iconst 1, 1) := by decide +kernel
theorem dX9_birth_44 : decode cX9_birth 44 = .ok (.istore 4, 2) := by decide +kernel
theorem dX9_birth_46 : decode cX9_birth 46 = .ok (.aload_n 0, 1) := by decide +kernel
theorem dX9_birth_47 : decode cX9_birth 47 = .ok (.getfield 33, 3) := by decide +kernel
theorem dX9_birth_50 : decode cX9_birth 50 = .ok (.iload_n 1, 1) := by decide +kernel
theorem dX9_birth_51 : decode cX9_birth 51 = .ok (.iload_n 2, 1) := by decide +kernel
theorem dX9_birth_52 : decode cX9_birth 52 = .ok (.iastore, 1) := by decide +kernel
theorem dX9_birth_53 : decode cX9_birth 53 = .ok (.aload_n 0, 1) := by decide +kernel
theorem dX9_birth_54 : decode cX9_birth 54 = .ok (.getfield 36, 3) := by decide +kernel
theorem dX9_birth_57 : decode cX9_birth 57 = .ok (.iload_n 1, 1) := by decide +kernel
theorem dX9_birth_58 : decode cX9_birth 58 = .ok (.iload_n 3, 1) := by decide +kernel
theorem dX9_birth_59 : decode cX9_birth 59 = .ok (.iastore, 1) := by decide +kernel
theorem dX9_birth_60 : decode cX9_birth 60 = .ok (.iload 4, 2) := by decide +kernel
theorem dX9_birth_62 : decode cX9_birth 62 = .ok (.ireturn, 1) := by decide +kernel
theorem dX9_law_0 : decode cX9_law 0 = .ok (.iload_n 1, 1) := by decide +kernel
theorem dX9_law_1 : decode cX9_law 1 = .ok (.bipush 10, 2) := by decide +kernel
theorem dX9_law_3 : decode cX9_law 3 = .ok (.idiv, 1) := by decide +kernel
theorem dX9_law_4 : decode cX9_law 4 = .ok (.istore 5, 2) := by decide +kernel
theorem dX9_law_6 : decode cX9_law 6 = .ok (.iload_n 1, 1) := by decide +kernel
theorem dX9_law_7 : decode cX9_law 7 = .ok (.bipush 10, 2) := by decide +kernel
theorem dX9_law_9 : decode cX9_law 9 = .ok (.irem, 1) := by decide +kernel
theorem dX9_law_10 : decode cX9_law 10 = .ok (.iconst 1, 1) := by decide +kernel
theorem dX9_law_11 : decode cX9_law 11 = .ok (.isub, 1) := by decide +kernel
theorem dX9_law_12 : decode cX9_law 12 = .ok (.istore 6, 2) := by decide +kernel
theorem dX9_law_14 : decode cX9_law 14 = .ok (.iload_n 1, 1) := by decide +kernel
theorem dX9_law_15 : decode cX9_law 15 = .ok (.ifCond .lt 61, 3) := by decide +kernel
theorem dX9_law_18 : decode cX9_law 18 = .ok (.aload_n 0, 1) := by decide +kernel
theorem dX9_law_19 : decode cX9_law 19 = .ok (.iload 5, 2) := by decide +kernel
theorem dX9_law_21 : decode cX9_law 21 = .ok (.iconst 0, 1) := by decide +kernel
theorem dX9_law_22 : decode cX9_law 22 = .ok (.iconst 5, 1) := by decide +kernel
theorem dX9_law_23 : decode cX9_law 23 = .ok (.invokevirtual 147, 3) := by decide +kernel
theorem dX9_law_26 : decode cX9_law 26 = .ok (.ifCond .eq 50, 3) := by decide +kernel
theorem dX9_law_29 : decode cX9_law 29 = .ok (.aload_n 0, 1) := by decide +kernel
theorem dX9_law_30 : decode cX9_law 30 = .ok (.iload 6, 2) := by decide +kernel
theorem dX9_law_32 : decode cX9_law 32 = .ok (.iconst (-1), 1) := by decide +kernel
theorem dX9_law_33 : decode cX9_law 33 = .ok (.aload_n 0, 1) := by decide +kernel
theorem dX9_law_34 : decode cX9_law 34 = .ok (.getfield 13, 3) := by decide +kernel
theorem dX9_law_37 : decode cX9_law 37 = .ok (.iconst 1, 1) := by decide +kernel
theorem dX9_law_38 : decode cX9_law 38 = .ok (.isub, 1) := by decide +kernel
theorem dX9_law_39 : decode cX9_law 39 = .ok (.invokevirtual 147, 3) := by decide +kernel
theorem dX9_law_42 : decode cX9_law 42 = .ok (.ifCond .eq 34, 3) := by decide +kernel
theorem dX9_law_45 : decode cX9_law 45 = .ok (.aload_n 0, 1) := by decide +kernel
theorem dX9_law_46 : decode cX9_law 46 = .ok (.iload_n 3, 1) := by decide +kernel
theorem dX9_law_47 : decode cX9_law 47 = .ok (.invokevirtual 159, 3) := by decide +kernel
theorem dX9_law_50 : decode cX9_law 50 = .ok (.ifCond .eq 26, 3) := by decide +kernel
theorem dX9_law_53 : decode cX9_law 53 = .ok (.aload_n 0, 1) := by decide +kernel
theorem dX9_law_54 : decode cX9_law 54 = .ok (.iload 4, 2) := by decide +kernel
theorem dX9_law_56 : decode cX9_law 56 = .ok (.iconst 1, 1) := by decide +kernel
theorem dX9_law_57 : decode cX9_law 57 = .ok (.sipush 200, 3) := by decide +kernel
theorem dX9_law_60 : decode cX9_law 60 = .ok (.invokevirtual 147, 3) := by decide +kernel
theorem dX9_law_63 : decode cX9_law 63 = .ok (.ifCond .eq 13, 3) := by decide +kernel
theorem dX9_law_66 : decode cX9_law 66 = .ok (.iload_n 3, 1) := by decide +kernel
theorem dX9_law_67 : decode cX9_law 67 = .ok (.iload 4, 2) := by decide +kernel
theorem dX9_law_69 : decode cX9_law 69 = .ok (.if_icmp .ge 7, 3) := by decide +kernel
theorem dX9_law_72 : decode cX9_law 72 = .ok (.iconst 1, 1) := by decide +kernel
theorem dX9_law_73 : decode cX9_law 73 = .ok (.goto 4, 3) := by decide +kernel
theorem dX9_law_76 : decode cX9_law 76 = .ok (.iconst 0, 1) := by decide +kernel
theorem dX9_law_77 : decode cX9_law 77 = .ok (.istore 7, 2) := by decide +kernel
theorem dX9_law_79 : decode cX9_law 79 = .ok (.iload 7, 2) := by decide +kernel
theorem dX9_law_81 : decode cX9_law 81 = .ok (.ifCond .eq 79, 3) := by decide +kernel
theorem dX9_law_84 : decode cX9_law 84 = .ok (.iload 5, 2) := by decide +kernel
theorem dX9_law_86 : decode cX9_law 86 = .ok (.ifCond .ne 14, 3) := by decide +kernel
theorem dX9_law_89 : decode cX9_law 89 = .ok (.aload_n 0, 1) := by decide +kernel
theorem dX9_law_90 : decode cX9_law 90 = .ok (.iload_n 2, 1) := by decide +kernel
theorem dX9_law_91 : decode cX9_law 91 = .ok (.iconst 0, 1) := by decide +kernel
theorem dX9_law_92 : decode cX9_law 92 = .ok (.bipush 99, 2) := by decide +kernel
theorem dX9_law_94 : decode cX9_law 94 = .ok (.invokevirtual 147, 3) := by decide +kernel
theorem dX9_law_97 : decode cX9_law 97 = .ok (.goto 61, 3) := by decide +kernel
theorem dX9_law_100 : decode cX9_law 100 = .ok (.iload 5, 2) := by decide +kernel
theorem dX9_law_102 : decode cX9_law 102 = .ok (.iconst 1, 1) := by decide +kernel
theorem dX9_law_103 : decode cX9_law 103 = .ok (.if_icmp .ne 11, 3) := by decide +kernel
theorem dX9_law_106 : decode cX9_law 106 = .ok (.aload_n 0, 1) := by decide +kernel
theorem dX9_law_107 : decode cX9_law 107 = .ok (.iload_n 2, 1) := by decide +kernel
theorem dX9_law_108 : decode cX9_law 108 = .ok (.invokevirtual 162, 3) := by decide +kernel
theorem dX9_law_111 : decode cX9_law 111 = .ok (.goto 47, 3) := by decide +kernel
theorem dX9_law_114 : decode cX9_law 114 = .ok (.iload 5, 2) := by decide +kernel
theorem dX9_law_116 : decode cX9_law 116 = .ok (.iconst 2, 1) := by decide +kernel
theorem dX9_law_117 : decode cX9_law 117 = .ok (.if_icmp .eq 9, 3) := by decide +kernel
theorem dX9_law_120 : decode cX9_law 120 = .ok (.iload 5, 2) := by decide +kernel
theorem dX9_law_122 : decode cX9_law 122 = .ok (.iconst 3, 1) := by decide +kernel
theorem dX9_law_123 : decode cX9_law 123 = .ok (.if_icmp .ne 14, 3) := by decide +kernel
theorem dX9_law_126 : decode cX9_law 126 = .ok (.aload_n 0, 1) := by decide +kernel
theorem dX9_law_127 : decode cX9_law 127 = .ok (.iload_n 2, 1) := by decide +kernel
theorem dX9_law_128 : decode cX9_law 128 = .ok (.iconst 1, 1) := by decide +kernel
theorem dX9_law_129 : decode cX9_law 129 = .ok (.bipush 99, 2) := by decide +kernel
theorem dX9_law_131 : decode cX9_law 131 = .ok (.invokevirtual 147, 3) := by decide +kernel
theorem dX9_law_134 : decode cX9_law 134 = .ok (.goto 24, 3) := by decide +kernel
theorem dX9_law_137 : decode cX9_law 137 = .ok (.iload 5, 2) := by decide +kernel
theorem dX9_law_139 : decode cX9_law 139 = .ok (.iconst 5, 1) := by decide +kernel
theorem dX9_law_140 : decode cX9_law 140 = .ok (.if_icmp .eq 13, 3) := by decide +kernel
theorem dX9_law_143 : decode cX9_law 143 = .ok (.aload_n 0, 1) := by decide +kernel
theorem dX9_law_144 : decode cX9_law 144 = .ok (.iload_n 2, 1) := by decide +kernel
theorem dX9_law_145 : decode cX9_law 145 = .ok (.iconst 0, 1) := by decide +kernel
theorem dX9_law_146 : decode cX9_law 146 = .ok (.iconst 1, 1) := by decide +kernel
theorem dX9_law_147 : decode cX9_law 147 = .ok (.invokevirtual 147, 3) := by decide +kernel
theorem dX9_law_150 : decode cX9_law 150 = .ok (.ifCond .eq 7, 3) := by decide +kernel
theorem dX9_law_153 : decode cX9_law 153 = .ok (.iconst 1, 1) := by decide +kernel
theorem dX9_law_154 : decode cX9_law 154 = .ok (.goto 4, 3) := by decide +kernel
theorem dX9_law_157 : decode cX9_law 157 = .ok (.iconst 0, 1) := by decide +kernel
theorem dX9_law_158 : decode cX9_law 158 = .ok (.istore 7, 2) := by decide +kernel
theorem dX9_law_160 : decode cX9_law 160 = .ok (.iload 7, 2) := by decide +kernel
theorem dX9_law_162 : decode cX9_law 162 = .ok (.ifCond .ne 5, 3) := by decide +kernel
theorem dX9_law_165 : decode cX9_law 165 = .ok (.iconst (-1), 1) := by decide +kernel
theorem dX9_law_166 : decode cX9_law 166 = .ok (.ireturn, 1) := by decide +kernel
theorem dX9_law_167 : decode cX9_law 167 = .ok (.aload_n 0, 1) := by decide +kernel
theorem dX9_law_168 : decode cX9_law 168 = .ok (.getfield 19, 3) := by decide +kernel
theorem dX9_law_171 : decode cX9_law 171 = .ok (.bipush 20, 2) := by decide +kernel
theorem dX9_law_173 : decode cX9_law 173 = .ok (.if_icmp .ne 6, 3) := by decide +kernel
theorem dX9_law_176 : decode cX9_law 176 = .ok (.bipush (-2), 2) := by decide +kernel
theorem dX9_law_178 : decode cX9_law 178 = .ok (.ireturn, 1) := by decide +kernel
theorem dX9_law_179 : decode cX9_law 179 = .ok (.aload_n 0, 1) := by decide +kernel
theorem dX9_law_180 : decode cX9_law 180 = .ok (.getfield 51, 3) := by decide +kernel
theorem dX9_law_183 : decode cX9_law 183 = .ok (.aload_n 0, 1) := by decide +kernel
theorem dX9_law_184 : decode cX9_law 184 = .ok (.getfield 19, 3) := by decide +kernel
theorem dX9_law_187 : decode cX9_law 187 = .ok (.iload 5, 2) := by decide +kernel
theorem dX9_law_189 : decode cX9_law 189 = .ok (.iastore, 1) := by decide +kernel
theorem dX9_law_190 : decode cX9_law 190 = .ok (.aload_n 0, 1) := by decide +kernel
theorem dX9_law_191 : decode cX9_law 191 = .ok (.getfield 54, 3) := by decide +kernel
theorem dX9_law_194 : decode cX9_law 194 = .ok (.aload_n 0, 1) := by decide +kernel
theorem dX9_law_195 : decode cX9_law 195 = .ok (.getfield 19, 3) := by decide +kernel
theorem dX9_law_198 : decode cX9_law 198 = .ok (.iload 6, 2) := by decide +kernel
theorem dX9_law_200 : decode cX9_law 200 = .ok (.iastore, 1) := by decide +kernel
theorem dX9_law_201 : decode cX9_law 201 = .ok (.aload_n 0, 1) := by decide +kernel
theorem dX9_law_202 : decode cX9_law 202 = .ok (.getfield 57, 3) := by decide +kernel
theorem dX9_law_205 : decode cX9_law 205 = .ok (.aload_n 0, 1) := by decide +kernel
theorem dX9_law_206 : decode cX9_law 206 = .ok (.getfield 19, 3) := by decide +kernel
theorem dX9_law_209 : decode cX9_law 209 = .ok (.iload_n 2, 1) := by decide +kernel
theorem dX9_law_210 : decode cX9_law 210 = .ok (.iastore, 1) := by decide +kernel
theorem dX9_law_211 : decode cX9_law 211 = .ok (.aload_n 0, 1) := by decide +kernel
theorem dX9_law_212 : decode cX9_law 212 = .ok (.getfield 60, 3) := by decide +kernel
theorem dX9_law_215 : decode cX9_law 215 = .ok (.aload_n 0, 1) := by decide +kernel
theorem dX9_law_216 : decode cX9_law 216 = .ok (.getfield 19, 3) := by decide +kernel
theorem dX9_law_219 : decode cX9_law 219 = .ok (.iload_n 3, 1) := by decide +kernel
theorem dX9_law_220 : decode cX9_law 220 = .ok (.iastore, 1) := by decide +kernel
theorem dX9_law_221 : decode cX9_law 221 = .ok (.aload_n 0, 1) := by decide +kernel
theorem dX9_law_222 : decode cX9_law 222 = .ok (.getfield 63, 3) := by decide +kernel
theorem dX9_law_225 : decode cX9_law 225 = .ok (.aload_n 0, 1) := by decide +kernel
theorem dX9_law_226 : decode cX9_law 226 = .ok (.getfield 19, 3) := by decide +kernel
theorem dX9_law_229 : decode cX9_law 229 = .ok (.iload 4, 2) := by decide +kernel
theorem dX9_law_231 : decode cX9_law 231 = .ok (.iastore, 1) := by decide +kernel
theorem dX9_law_232 : decode cX9_law 232 = .ok (.aload_n 0, 1) := by decide +kernel
theorem dX9_law_233 : decode cX9_law 233 = .ok (.dup, 1) := by decide +kernel
theorem dX9_law_234 : decode cX9_law 234 = .ok (.getfield 19, 3) := by decide +kernel
theorem dX9_law_237 : decode cX9_law 237 = .ok (.iconst 1, 1) := by decide +kernel
theorem dX9_law_238 : decode cX9_law 238 = .ok (.iadd, 1) := by decide +kernel
theorem dX9_law_239 : decode cX9_law 239 = .ok (.putfield 19, 3) := by decide +kernel
theorem dX9_law_242 : decode cX9_law 242 = .ok (.aload_n 0, 1) := by decide +kernel
theorem dX9_law_243 : decode cX9_law 243 = .ok (.getfield 19, 3) := by decide +kernel
theorem dX9_law_246 : decode cX9_law 246 = .ok (.iconst 1, 1) := by decide +kernel
theorem dX9_law_247 : decode cX9_law 247 = .ok (.isub, 1) := by decide +kernel
theorem dX9_law_248 : decode cX9_law 248 = .ok (.ireturn, 1) := by decide +kernel
theorem dX9_repeal_0 : decode cX9_repeal 0 = .ok (.aload_n 0, 1) := by decide +kernel
theorem dX9_repeal_1 : decode cX9_repeal 1 = .ok (.iload_n 1, 1) := by decide +kernel
theorem dX9_repeal_2 : decode cX9_repeal 2 = .ok (.iconst 0, 1) := by decide +kernel
theorem dX9_repeal_3 : decode cX9_repeal 3 = .ok (.aload_n 0, 1) := by decide +kernel
theorem dX9_repeal_4 : decode cX9_repeal 4 = .ok (.getfield 19, 3) := by decide +kernel
theorem dX9_repeal_7 : decode cX9_repeal 7 = .ok (.iconst 1, 1) := by decide +kernel
theorem dX9_repeal_8 : decode cX9_repeal 8 = .ok (.isub, 1) := by decide +kernel
theorem dX9_repeal_9 : decode cX9_repeal 9 = .ok (.invokevirtual 147, 3) := by decide +kernel
theorem dX9_repeal_12 : decode cX9_repeal 12 = .ok (.ifCond .eq 25, 3) := by decide +kernel
theorem dX9_repeal_15 : decode cX9_repeal 15 = .ok (.aload_n 0, 1) := by decide +kernel
theorem dX9_repeal_16 : decode cX9_repeal 16 = .ok (.iload_n 2, 1) := by decide +kernel
theorem dX9_repeal_17 : decode cX9_repeal 17 = .ok (.aload_n 0, 1) := by decide +kernel
theorem dX9_repeal_18 : decode cX9_repeal 18 = .ok (.getfield 60, 3) := by decide +kernel
theorem dX9_repeal_21 : decode cX9_repeal 21 = .ok (.iload_n 1, 1) := by decide +kernel
theorem dX9_repeal_22 : decode cX9_repeal 22 = .ok (.iaload, 1) := by decide +kernel
theorem dX9_repeal_23 : decode cX9_repeal 23 = .ok (.iconst 1, 1) := by decide +kernel
theorem dX9_repeal_24 : decode cX9_repeal 24 = .ok (.iadd, 1) := by decide +kernel
theorem dX9_repeal_25 : decode cX9_repeal 25 = .ok (.aload_n 0, 1) := by decide +kernel
theorem dX9_repeal_26 : decode cX9_repeal 26 = .ok (.getfield 63, 3) := by decide +kernel
theorem dX9_repeal_29 : decode cX9_repeal 29 = .ok (.iload_n 1, 1) := by decide +kernel
theorem dX9_repeal_30 : decode cX9_repeal 30 = .ok (.iaload, 1) := by decide +kernel
theorem dX9_repeal_31 : decode cX9_repeal 31 = .ok (.invokevirtual 147, 3) := by decide +kernel
theorem dX9_repeal_34 : decode cX9_repeal 34 = .ok (.ifCond .ne 5, 3) := by decide +kernel
theorem dX9_repeal_37 : decode cX9_repeal 37 = .ok (.iconst (-1), 1) := by decide +kernel
theorem dX9_repeal_38 : decode cX9_repeal 38 = .ok (.ireturn, 1) := by decide +kernel
theorem dX9_repeal_39 : decode cX9_repeal 39 = .ok (.aload_n 0, 1) := by decide +kernel
theorem dX9_repeal_40 : decode cX9_repeal 40 = .ok (.getfield 63, 3) := by decide +kernel
theorem dX9_repeal_43 : decode cX9_repeal 43 = .ok (.iload_n 1, 1) := by decide +kernel
theorem dX9_repeal_44 : decode cX9_repeal 44 = .ok (.iaload, 1) := by decide +kernel
theorem dX9_repeal_45 : decode cX9_repeal 45 = .ok (.istore_n 3, 1) := by decide +kernel
theorem dX9_repeal_46 : decode cX9_repeal 46 = .ok (.aload_n 0, 1) := by decide +kernel
theorem dX9_repeal_47 : decode cX9_repeal 47 = .ok (.getfield 63, 3) := by decide +kernel
theorem dX9_repeal_50 : decode cX9_repeal 50 = .ok (.iload_n 1, 1) := by decide +kernel
theorem dX9_repeal_51 : decode cX9_repeal 51 = .ok (.iload_n 2, 1) := by decide +kernel
theorem dX9_repeal_52 : decode cX9_repeal 52 = .ok (.iastore, 1) := by decide +kernel
theorem dX9_repeal_53 : decode cX9_repeal 53 = .ok (.iload_n 3, 1) := by decide +kernel
theorem dX9_repeal_54 : decode cX9_repeal 54 = .ok (.ireturn, 1) := by decide +kernel
theorem dX9_put_0 : decode cX9_put 0 = .ok (.aload_n 0, 1) := by decide +kernel
theorem dX9_put_1 : decode cX9_put 1 = .ok (.getfield 66, 3) := by decide +kernel
theorem dX9_put_4 : decode cX9_put 4 = .ok (.iload_n 2, 1) := by decide +kernel
theorem dX9_put_5 : decode cX9_put 5 = .ok (.iload_n 1, 1) := by decide +kernel
theorem dX9_put_6 : decode cX9_put 6 = .ok (.iastore, 1) := by decide +kernel
theorem dX9_put_7 : decode cX9_put 7 = .ok (.aload_n 0, 1) := by decide +kernel
theorem dX9_put_8 : decode cX9_put 8 = .ok (.getfield 72, 3) := by decide +kernel
theorem dX9_put_11 : decode cX9_put 11 = .ok (.sipush 200, 3) := by decide +kernel
theorem dX9_put_14 : decode cX9_put 14 = .ok (.iload_n 1, 1) := by decide +kernel
theorem dX9_put_15 : decode cX9_put 15 = .ok (.imul, 1) := by decide +kernel
theorem dX9_put_16 : decode cX9_put 16 = .ok (.iload_n 3, 1) := by decide +kernel
theorem dX9_put_17 : decode cX9_put 17 = .ok (.iadd, 1) := by decide +kernel
theorem dX9_put_18 : decode cX9_put 18 = .ok (.iload_n 2, 1) := by decide +kernel
theorem dX9_put_19 : decode cX9_put 19 = .ok (.iastore, 1) := by decide +kernel
theorem dX9_put_20 : decode cX9_put 20 = .ok (.return_, 1) := by decide +kernel
theorem dX9_clear_0 : decode cX9_clear 0 = .ok (.aload_n 0, 1) := by decide +kernel
theorem dX9_clear_1 : decode cX9_clear 1 = .ok (.getfield 66, 3) := by decide +kernel
theorem dX9_clear_4 : decode cX9_clear 4 = .ok (.iload_n 1, 1) := by decide +kernel
theorem dX9_clear_5 : decode cX9_clear 5 = .ok (.iaload, 1) := by decide +kernel
theorem dX9_clear_6 : decode cX9_clear 6 = .ok (.istore_n 3, 1) := by decide +kernel
theorem dX9_clear_7 : decode cX9_clear 7 = .ok (.aload_n 0, 1) := by decide +kernel
theorem dX9_clear_8 : decode cX9_clear 8 = .ok (.getfield 72, 3) := by decide +kernel
theorem dX9_clear_11 : decode cX9_clear 11 = .ok (.sipush 200, 3) := by decide +kernel
theorem dX9_clear_14 : decode cX9_clear 14 = .ok (.iload_n 3, 1) := by decide +kernel
theorem dX9_clear_15 : decode cX9_clear 15 = .ok (.imul, 1) := by decide +kernel
theorem dX9_clear_16 : decode cX9_clear 16 = .ok (.iload_n 2, 1) := by decide +kernel
theorem dX9_clear_17 : decode cX9_clear 17 = .ok (.iadd, 1) := by decide +kernel
theorem dX9_clear_18 : decode cX9_clear 18 = .ok (.iconst (-1), 1) := by decide +kernel
theorem dX9_clear_19 : decode cX9_clear 19 = .ok (.iastore, 1) := by decide +kernel
theorem dX9_clear_20 : decode cX9_clear 20 = .ok (.aload_n 0, 1) := by decide +kernel
theorem dX9_clear_21 : decode cX9_clear 21 = .ok (.getfield 66, 3) := by decide +kernel
theorem dX9_clear_24 : decode cX9_clear 24 = .ok (.iload_n 1, 1) := by decide +kernel
theorem dX9_clear_25 : decode cX9_clear 25 = .ok (.iconst (-1), 1) := by decide +kernel
theorem dX9_clear_26 : decode cX9_clear 26 = .ok (.iastore, 1) := by decide +kernel
theorem dX9_clear_27 : decode cX9_clear 27 = .ok (.aload_n 0, 1) := by decide +kernel
theorem dX9_clear_28 : decode cX9_clear 28 = .ok (.getfield 69, 3) := by decide +kernel
theorem dX9_clear_31 : decode cX9_clear 31 = .ok (.iload_n 1, 1) := by decide +kernel
theorem dX9_clear_32 : decode cX9_clear 32 = .ok (.iconst 0, 1) := by decide +kernel
theorem dX9_clear_33 : decode cX9_clear 33 = .ok (.bastore, 1) := by decide +kernel
theorem dX9_clear_34 : decode cX9_clear 34 = .ok (.iload_n 3, 1) := by decide +kernel
theorem dX9_clear_35 : decode cX9_clear 35 = .ok (.ireturn, 1) := by decide +kernel
theorem dX9_stone_0 : decode cX9_stone 0 = .ok (.aload_n 0, 1) := by decide +kernel
theorem dX9_stone_1 : decode cX9_stone 1 = .ok (.iload_n 1, 1) := by decide +kernel
theorem dX9_stone_2 : decode cX9_stone 2 = .ok (.invokevirtual 155, 3) := by decide +kernel
theorem dX9_stone_5 : decode cX9_stone 5 = .ok (.ifCond .eq 19, 3) := by decide +kernel
theorem dX9_stone_8 : decode cX9_stone 8 = .ok (.aload_n 0, 1) := by decide +kernel
theorem dX9_stone_9 : decode cX9_stone 9 = .ok (.iload_n 2, 1) := by decide +kernel
theorem dX9_stone_10 : decode cX9_stone 10 = .ok (.invokevirtual 162, 3) := by decide +kernel
theorem dX9_stone_13 : decode cX9_stone 13 = .ok (.ifCond .eq 11, 3) := by decide +kernel
theorem dX9_stone_16 : decode cX9_stone 16 = .ok (.aload_n 0, 1) := by decide +kernel
theorem dX9_stone_17 : decode cX9_stone 17 = .ok (.iload_n 3, 1) := by decide +kernel
theorem dX9_stone_18 : decode cX9_stone 18 = .ok (.invokevirtual 159, 3) := by decide +kernel
theorem dX9_stone_21 : decode cX9_stone 21 = .ok (.ifCond .ne 5, 3) := by decide +kernel
theorem dX9_stone_24 : decode cX9_stone 24 = .ok (.iconst (-1), 1) := by decide +kernel
theorem dX9_stone_25 : decode cX9_stone 25 = .ok (.ireturn, 1) := by decide +kernel
theorem dX9_stone_26 : decode cX9_stone 26 = .ok (.aload_n 0, 1) := by decide +kernel
theorem dX9_stone_27 : decode cX9_stone 27 = .ok (.getfield 72, 3) := by decide +kernel
theorem dX9_stone_30 : decode cX9_stone 30 = .ok (.sipush 200, 3) := by decide +kernel
theorem dX9_stone_33 : decode cX9_stone 33 = .ok (.iload_n 1, 1) := by decide +kernel
theorem dX9_stone_34 : decode cX9_stone 34 = .ok (.imul, 1) := by decide +kernel
theorem dX9_stone_35 : decode cX9_stone 35 = .ok (.iload_n 3, 1) := by decide +kernel
theorem dX9_stone_36 : decode cX9_stone 36 = .ok (.iadd, 1) := by decide +kernel
theorem dX9_stone_37 : decode cX9_stone 37 = .ok (.iaload, 1) := by decide +kernel
theorem dX9_stone_38 : decode cX9_stone 38 = .ok (.ifCond .lt 6, 3) := by decide +kernel
theorem dX9_stone_41 : decode cX9_stone 41 = .ok (.bipush (-3), 2) := by decide +kernel
theorem dX9_stone_43 : decode cX9_stone 43 = .ok (.ireturn, 1) := by decide +kernel
theorem dX9_stone_44 : decode cX9_stone 44 = .ok (.iconst 0, 1) := by decide +kernel
theorem dX9_stone_45 : decode cX9_stone 45 = .ok (.istore 4, 2) := by decide +kernel
theorem dX9_stone_47 : decode cX9_stone 47 = .ok (.iload 4, 2) := by decide +kernel
theorem dX9_stone_49 : decode cX9_stone 49 = .ok (.aload_n 0, 1) := by decide +kernel
theorem dX9_stone_50 : decode cX9_stone 50 = .ok (.getfield 22, 3) := by decide +kernel
theorem dX9_stone_53 : decode cX9_stone 53 = .ok (.iload_n 2, 1) := by decide +kernel
theorem dX9_stone_54 : decode cX9_stone 54 = .ok (.iaload, 1) := by decide +kernel
theorem dX9_stone_55 : decode cX9_stone 55 = .ok (.if_icmp .ge 45, 3) := by decide +kernel
theorem dX9_stone_58 : decode cX9_stone 58 = .ok (.aload_n 0, 1) := by decide +kernel
theorem dX9_stone_59 : decode cX9_stone 59 = .ok (.getfield 66, 3) := by decide +kernel
theorem dX9_stone_62 : decode cX9_stone 62 = .ok (.aload_n 0, 1) := by decide +kernel
theorem dX9_stone_63 : decode cX9_stone 63 = .ok (.iload_n 2, 1) := by decide +kernel
theorem dX9_stone_64 : decode cX9_stone 64 = .ok (.iload_n 3, 1) := by decide +kernel
theorem dX9_stone_65 : decode cX9_stone 65 = .ok (.iload 4, 2) := by decide +kernel
theorem dX9_stone_67 : decode cX9_stone 67 = .ok (.invokevirtual 165, 3) := by decide +kernel
theorem dX9_stone_70 : decode cX9_stone 70 = .ok (.iaload, 1) := by decide +kernel
theorem dX9_stone_71 : decode cX9_stone 71 = .ok (.ifCond .lt 6, 3) := by decide +kernel
theorem dX9_stone_74 : decode cX9_stone 74 = .ok (.goto 20, 3) := by decide +kernel
theorem dX9_stone_77 : decode cX9_stone 77 = .ok (.aload_n 0, 1) := by decide +kernel
theorem dX9_stone_78 : decode cX9_stone 78 = .ok (.iload_n 1, 1) := by decide +kernel
theorem dX9_stone_79 : decode cX9_stone 79 = .ok (.aload_n 0, 1) := by decide +kernel
theorem dX9_stone_80 : decode cX9_stone 80 = .ok (.iload_n 2, 1) := by decide +kernel
theorem dX9_stone_81 : decode cX9_stone 81 = .ok (.iload_n 3, 1) := by decide +kernel
theorem dX9_stone_82 : decode cX9_stone 82 = .ok (.iload 4, 2) := by decide +kernel
theorem dX9_stone_84 : decode cX9_stone 84 = .ok (.invokevirtual 165, 3) := by decide +kernel
theorem dX9_stone_87 : decode cX9_stone 87 = .ok (.iload_n 3, 1) := by decide +kernel
theorem dX9_stone_88 : decode cX9_stone 88 = .ok (.invokevirtual 169, 3) := by decide +kernel
theorem dX9_stone_91 : decode cX9_stone 91 = .ok (.iload 4, 2) := by decide +kernel
theorem dX9_stone_93 : decode cX9_stone 93 = .ok (.ireturn, 1) := by decide +kernel
theorem dX9_stone_94 : decode cX9_stone 94 = .ok (.iinc 4 1, 3) := by decide +kernel
theorem dX9_stone_97 : decode cX9_stone 97 = .ok (.goto (-50), 3) := by decide +kernel
theorem dX9_stone_100 : decode cX9_stone 100 = .ok (.bipush (-3), 2) := by decide +kernel
theorem dX9_stone_102 : decode cX9_stone 102 = .ok (.ireturn, 1) := by decide +kernel
theorem dX9_isSeat_0 : decode cX9_isSeat 0 = .ok (.aload_n 0, 1) := by decide +kernel
theorem dX9_isSeat_1 : decode cX9_isSeat 1 = .ok (.iload_n 1, 1) := by decide +kernel
theorem dX9_isSeat_2 : decode cX9_isSeat 2 = .ok (.invokevirtual 162, 3) := by decide +kernel
theorem dX9_isSeat_5 : decode cX9_isSeat 5 = .ok (.ifCond .eq 32, 3) := by decide +kernel
theorem dX9_isSeat_8 : decode cX9_isSeat 8 = .ok (.aload_n 0, 1) := by decide +kernel
theorem dX9_isSeat_9 : decode cX9_isSeat 9 = .ok (.iload_n 2, 1) := by decide +kernel
theorem dX9_isSeat_10 : decode cX9_isSeat 10 = .ok (.invokevirtual 159, 3) := by decide +kernel
theorem dX9_isSeat_13 : decode cX9_isSeat 13 = .ok (.ifCond .eq 24, 3) := by decide +kernel
theorem dX9_isSeat_16 : decode cX9_isSeat 16 = .ok (.aload_n 0, 1) := by decide +kernel
theorem dX9_isSeat_17 : decode cX9_isSeat 17 = .ok (.iload_n 3, 1) := by decide +kernel
theorem dX9_isSeat_18 : decode cX9_isSeat 18 = .ok (.iconst 0, 1) := by decide +kernel
theorem dX9_isSeat_19 : decode cX9_isSeat 19 = .ok (.aload_n 0, 1) := by decide +kernel
theorem dX9_isSeat_20 : decode cX9_isSeat 20 = .ok (.getfield 22, 3) := by decide +kernel
theorem dX9_isSeat_23 : decode cX9_isSeat 23 = .ok (.iload_n 1, 1) := by decide +kernel
theorem dX9_isSeat_24 : decode cX9_isSeat 24 = .ok (.iaload, 1) := by decide +kernel
theorem dX9_isSeat_25 : decode cX9_isSeat 25 = .ok (.iconst 1, 1) := by decide +kernel
theorem dX9_isSeat_26 : decode cX9_isSeat 26 = .ok (.isub, 1) := by decide +kernel
theorem dX9_isSeat_27 : decode cX9_isSeat 27 = .ok (.invokevirtual 147, 3) := by decide +kernel
theorem dX9_isSeat_30 : decode cX9_isSeat 30 = .ok (.ifCond .eq 7, 3) := by decide +kernel
theorem dX9_isSeat_33 : decode cX9_isSeat 33 = .ok (.iconst 1, 1) := by decide +kernel
theorem dX9_isSeat_34 : decode cX9_isSeat 34 = .ok (.goto 4, 3) := by decide +kernel
theorem dX9_isSeat_37 : decode cX9_isSeat 37 = .ok (.iconst 0, 1) := by decide +kernel
theorem dX9_isSeat_38 : decode cX9_isSeat 38 = .ok (.ireturn, 1) := by decide +kernel
theorem dX9_empty_0 : decode cX9_empty 0 = .ok (.aload_n 0, 1) := by decide +kernel
theorem dX9_empty_1 : decode cX9_empty 1 = .ok (.iload_n 1, 1) := by decide +kernel
theorem dX9_empty_2 : decode cX9_empty 2 = .ok (.iload_n 2, 1) := by decide +kernel
theorem dX9_empty_3 : decode cX9_empty 3 = .ok (.iload_n 3, 1) := by decide +kernel
theorem dX9_empty_4 : decode cX9_empty 4 = .ok (.invokevirtual 173, 3) := by decide +kernel
theorem dX9_empty_7 : decode cX9_empty 7 = .ok (.ifCond .ne 5, 3) := by decide +kernel
theorem dX9_empty_10 : decode cX9_empty 10 = .ok (.iconst (-1), 1) := by decide +kernel
theorem dX9_empty_11 : decode cX9_empty 11 = .ok (.ireturn, 1) := by decide +kernel
theorem dX9_empty_12 : decode cX9_empty 12 = .ok (.aload_n 0, 1) := by decide +kernel
theorem dX9_empty_13 : decode cX9_empty 13 = .ok (.getfield 66, 3) := by decide +kernel
theorem dX9_empty_16 : decode cX9_empty 16 = .ok (.aload_n 0, 1) := by decide +kernel
theorem dX9_empty_17 : decode cX9_empty 17 = .ok (.iload_n 1, 1) := by decide +kernel
theorem dX9_empty_18 : decode cX9_empty 18 = .ok (.iload_n 2, 1) := by decide +kernel
theorem dX9_empty_19 : decode cX9_empty 19 = .ok (.iload_n 3, 1) := by decide +kernel
theorem dX9_empty_20 : decode cX9_empty 20 = .ok (.invokevirtual 165, 3) := by decide +kernel
theorem dX9_empty_23 : decode cX9_empty 23 = .ok (.iaload, 1) := by decide +kernel
theorem dX9_empty_24 : decode cX9_empty 24 = .ok (.ifCond .ge 8, 3) := by decide +kernel
theorem dX9_empty_27 : decode cX9_empty 27 = .ok (.bipush (-3), 2) := by decide +kernel
theorem dX9_empty_29 : decode cX9_empty 29 = .ok (.goto 15, 3) := by decide +kernel
theorem dX9_empty_32 : decode cX9_empty 32 = .ok (.aload_n 0, 1) := by decide +kernel
theorem dX9_empty_33 : decode cX9_empty 33 = .ok (.aload_n 0, 1) := by decide +kernel
theorem dX9_empty_34 : decode cX9_empty 34 = .ok (.iload_n 1, 1) := by decide +kernel
theorem dX9_empty_35 : decode cX9_empty 35 = .ok (.iload_n 2, 1) := by decide +kernel
theorem dX9_empty_36 : decode cX9_empty 36 = .ok (.iload_n 3, 1) := by decide +kernel
theorem dX9_empty_37 : decode cX9_empty 37 = .ok (.invokevirtual 165, 3) := by decide +kernel
theorem dX9_empty_40 : decode cX9_empty 40 = .ok (.iload_n 2, 1) := by decide +kernel
theorem dX9_empty_41 : decode cX9_empty 41 = .ok (.invokevirtual 176, 3) := by decide +kernel
theorem dX9_empty_44 : decode cX9_empty 44 = .ok (.ireturn, 1) := by decide +kernel
theorem dX9_annul_0 : decode cX9_annul 0 = .ok (.aload_n 0, 1) := by decide +kernel
theorem dX9_annul_1 : decode cX9_annul 1 = .ok (.iload_n 1, 1) := by decide +kernel
theorem dX9_annul_2 : decode cX9_annul 2 = .ok (.iload_n 2, 1) := by decide +kernel
theorem dX9_annul_3 : decode cX9_annul 3 = .ok (.iload_n 3, 1) := by decide +kernel
theorem dX9_annul_4 : decode cX9_annul 4 = .ok (.invokevirtual 173, 3) := by decide +kernel
theorem dX9_annul_7 : decode cX9_annul 7 = .ok (.ifCond .ne 5, 3) := by decide +kernel
theorem dX9_annul_10 : decode cX9_annul 10 = .ok (.iconst (-1), 1) := by decide +kernel
theorem dX9_annul_11 : decode cX9_annul 11 = .ok (.ireturn, 1) := by decide +kernel
theorem dX9_annul_12 : decode cX9_annul 12 = .ok (.aload_n 0, 1) := by decide +kernel
theorem dX9_annul_13 : decode cX9_annul 13 = .ok (.iload_n 1, 1) := by decide +kernel
theorem dX9_annul_14 : decode cX9_annul 14 = .ok (.iload_n 2, 1) := by decide +kernel
theorem dX9_annul_15 : decode cX9_annul 15 = .ok (.iload_n 3, 1) := by decide +kernel
theorem dX9_annul_16 : decode cX9_annul 16 = .ok (.invokevirtual 165, 3) := by decide +kernel
theorem dX9_annul_19 : decode cX9_annul 19 = .ok (.istore 5, 2) := by decide +kernel
theorem dX9_annul_21 : decode cX9_annul 21 = .ok (.aload_n 0, 1) := by decide +kernel
theorem dX9_annul_22 : decode cX9_annul 22 = .ok (.getfield 66, 3) := by decide +kernel
theorem dX9_annul_25 : decode cX9_annul 25 = .ok (.iload 5, 2) := by decide +kernel
theorem dX9_annul_27 : decode cX9_annul 27 = .ok (.iaload, 1) := by decide +kernel
theorem dX9_annul_28 : decode cX9_annul 28 = .ok (.ifCond .ge 6, 3) := by decide +kernel
theorem dX9_annul_31 : decode cX9_annul 31 = .ok (.bipush (-3), 2) := by decide +kernel
theorem dX9_annul_33 : decode cX9_annul 33 = .ok (.ireturn, 1) := by decide +kernel
theorem dX9_annul_34 : decode cX9_annul 34 = .ok (.aload_n 0, 1) := by decide +kernel
theorem dX9_annul_35 : decode cX9_annul 35 = .ok (.getfield 69, 3) := by decide +kernel
theorem dX9_annul_38 : decode cX9_annul 38 = .ok (.iload 5, 2) := by decide +kernel
theorem dX9_annul_40 : decode cX9_annul 40 = .ok (.baload, 1) := by decide +kernel
theorem dX9_annul_41 : decode cX9_annul 41 = .ok (.iload 4, 2) := by decide +kernel
theorem dX9_annul_43 : decode cX9_annul 43 = .ok (.if_icmp .ne 7, 3) := by decide +kernel
theorem dX9_annul_46 : decode cX9_annul 46 = .ok (.iconst 0, 1) := by decide +kernel
theorem dX9_annul_47 : decode cX9_annul 47 = .ok (.goto 4, 3) := by decide +kernel
theorem dX9_annul_50 : decode cX9_annul 50 = .ok (.iconst 1, 1) := by decide +kernel
theorem dX9_annul_51 : decode cX9_annul 51 = .ok (.istore 6, 2) := by decide +kernel
theorem dX9_annul_53 : decode cX9_annul 53 = .ok (.aload_n 0, 1) := by decide +kernel
theorem dX9_annul_54 : decode cX9_annul 54 = .ok (.getfield 69, 3) := by decide +kernel
theorem dX9_annul_57 : decode cX9_annul 57 = .ok (.iload 5, 2) := by decide +kernel
theorem dX9_annul_59 : decode cX9_annul 59 = .ok (.iload 4, 2) := by decide +kernel
theorem dX9_annul_61 : decode cX9_annul 61 = .ok (.bastore, 1) := by decide +kernel
theorem dX9_annul_62 : decode cX9_annul 62 = .ok (.iload 6, 2) := by decide +kernel
theorem dX9_annul_64 : decode cX9_annul 64 = .ok (.ireturn, 1) := by decide +kernel
theorem dX9_seat_0 : decode cX9_seat 0 = .ok (.aload_n 0, 1) := by decide +kernel
theorem dX9_seat_1 : decode cX9_seat 1 = .ok (.iload_n 1, 1) := by decide +kernel
theorem dX9_seat_2 : decode cX9_seat 2 = .ok (.iload_n 2, 1) := by decide +kernel
theorem dX9_seat_3 : decode cX9_seat 3 = .ok (.iload_n 3, 1) := by decide +kernel
theorem dX9_seat_4 : decode cX9_seat 4 = .ok (.invokevirtual 173, 3) := by decide +kernel
theorem dX9_seat_7 : decode cX9_seat 7 = .ok (.ifCond .ne 5, 3) := by decide +kernel
theorem dX9_seat_10 : decode cX9_seat 10 = .ok (.iconst (-1), 1) := by decide +kernel
theorem dX9_seat_11 : decode cX9_seat 11 = .ok (.ireturn, 1) := by decide +kernel
theorem dX9_seat_12 : decode cX9_seat 12 = .ok (.aload_n 0, 1) := by decide +kernel
theorem dX9_seat_13 : decode cX9_seat 13 = .ok (.iload_n 1, 1) := by decide +kernel
theorem dX9_seat_14 : decode cX9_seat 14 = .ok (.iload_n 2, 1) := by decide +kernel
theorem dX9_seat_15 : decode cX9_seat 15 = .ok (.iload_n 3, 1) := by decide +kernel
theorem dX9_seat_16 : decode cX9_seat 16 = .ok (.invokevirtual 165, 3) := by decide +kernel
theorem dX9_seat_19 : decode cX9_seat 19 = .ok (.istore 4, 2) := by decide +kernel
theorem dX9_seat_21 : decode cX9_seat 21 = .ok (.aload_n 0, 1) := by decide +kernel
theorem dX9_seat_22 : decode cX9_seat 22 = .ok (.getfield 66, 3) := by decide +kernel
theorem dX9_seat_25 : decode cX9_seat 25 = .ok (.iload 4, 2) := by decide +kernel
theorem dX9_seat_27 : decode cX9_seat 27 = .ok (.iaload, 1) := by decide +kernel
theorem dX9_seat_28 : decode cX9_seat 28 = .ok (.ifCond .ge 8, 3) := by decide +kernel
theorem dX9_seat_31 : decode cX9_seat 31 = .ok (.bipush (-2), 2) := by decide +kernel
theorem dX9_seat_33 : decode cX9_seat 33 = .ok (.goto 27, 3) := by decide +kernel
theorem dX9_seat_36 : decode cX9_seat 36 = .ok (.aload_n 0, 1) := by decide +kernel
theorem dX9_seat_37 : decode cX9_seat 37 = .ok (.getfield 66, 3) := by decide +kernel
theorem dX9_seat_40 : decode cX9_seat 40 = .ok (.iload 4, 2) := by decide +kernel
theorem dX9_seat_42 : decode cX9_seat 42 = .ok (.iaload, 1) := by decide +kernel
theorem dX9_seat_43 : decode cX9_seat 43 = .ok (.aload_n 0, 1) := by decide +kernel
theorem dX9_seat_44 : decode cX9_seat 44 = .ok (.getfield 69, 3) := by decide +kernel
theorem dX9_seat_47 : decode cX9_seat 47 = .ok (.iload 4, 2) := by decide +kernel
theorem dX9_seat_49 : decode cX9_seat 49 = .ok (.baload, 1) := by decide +kernel
theorem dX9_seat_50 : decode cX9_seat 50 = .ok (.ifCond .eq 8, 3) := by decide +kernel
theorem dX9_seat_53 : decode cX9_seat 53 = .ok (.bipush 100, 2) := by decide +kernel
theorem dX9_seat_55 : decode cX9_seat 55 = .ok (.goto 4, 3) := by decide +kernel
theorem dX9_seat_58 : decode cX9_seat 58 = .ok (.iconst 0, 1) := by decide +kernel
theorem dX9_seat_59 : decode cX9_seat 59 = .ok (.iadd, 1) := by decide +kernel
theorem dX9_seat_60 : decode cX9_seat 60 = .ok (.ireturn, 1) := by decide +kernel
theorem dX9_officeAt_0 : decode cX9_officeAt 0 = .ok (.iload_n 1, 1) := by decide +kernel
theorem dX9_officeAt_1 : decode cX9_officeAt 1 = .ok (.sipush 600, 3) := by decide +kernel
theorem dX9_officeAt_4 : decode cX9_officeAt 4 = .ok (.idiv, 1) := by decide +kernel
theorem dX9_officeAt_5 : decode cX9_officeAt 5 = .ok (.ireturn, 1) := by decide +kernel
theorem dX9_holds_0 : decode cX9_holds 0 = .ok (.aload_n 0, 1) := by decide +kernel
theorem dX9_holds_1 : decode cX9_holds 1 = .ok (.iload_n 1, 1) := by decide +kernel
theorem dX9_holds_2 : decode cX9_holds 2 = .ok (.invokevirtual 155, 3) := by decide +kernel
theorem dX9_holds_5 : decode cX9_holds 5 = .ok (.ifCond .eq 11, 3) := by decide +kernel
theorem dX9_holds_8 : decode cX9_holds 8 = .ok (.aload_n 0, 1) := by decide +kernel
theorem dX9_holds_9 : decode cX9_holds 9 = .ok (.iload_n 2, 1) := by decide +kernel
theorem dX9_holds_10 : decode cX9_holds 10 = .ok (.invokevirtual 159, 3) := by decide +kernel
theorem dX9_holds_13 : decode cX9_holds 13 = .ok (.ifCond .ne 5, 3) := by decide +kernel
theorem dX9_holds_16 : decode cX9_holds 16 = .ok (.iconst (-1), 1) := by decide +kernel
theorem dX9_holds_17 : decode cX9_holds 17 = .ok (.ireturn, 1) := by decide +kernel
theorem dX9_holds_18 : decode cX9_holds 18 = .ok (.aload_n 0, 1) := by decide +kernel
theorem dX9_holds_19 : decode cX9_holds 19 = .ok (.getfield 72, 3) := by decide +kernel
theorem dX9_holds_22 : decode cX9_holds 22 = .ok (.sipush 200, 3) := by decide +kernel
theorem dX9_holds_25 : decode cX9_holds 25 = .ok (.iload_n 1, 1) := by decide +kernel
theorem dX9_holds_26 : decode cX9_holds 26 = .ok (.imul, 1) := by decide +kernel
theorem dX9_holds_27 : decode cX9_holds 27 = .ok (.iload_n 2, 1) := by decide +kernel
theorem dX9_holds_28 : decode cX9_holds 28 = .ok (.iadd, 1) := by decide +kernel
theorem dX9_holds_29 : decode cX9_holds 29 = .ok (.iaload, 1) := by decide +kernel
theorem dX9_holds_30 : decode cX9_holds 30 = .ok (.istore_n 3, 1) := by decide +kernel
theorem dX9_holds_31 : decode cX9_holds 31 = .ok (.iload_n 3, 1) := by decide +kernel
theorem dX9_holds_32 : decode cX9_holds 32 = .ok (.ifCond .ge 8, 3) := by decide +kernel
theorem dX9_holds_35 : decode cX9_holds 35 = .ok (.bipush (-2), 2) := by decide +kernel
theorem dX9_holds_37 : decode cX9_holds 37 = .ok (.goto 8, 3) := by decide +kernel
theorem dX9_holds_40 : decode cX9_holds 40 = .ok (.aload_n 0, 1) := by decide +kernel
theorem dX9_holds_41 : decode cX9_holds 41 = .ok (.iload_n 3, 1) := by decide +kernel
theorem dX9_holds_42 : decode cX9_holds 42 = .ok (.invokevirtual 180, 3) := by decide +kernel
theorem dX9_holds_45 : decode cX9_holds 45 = .ok (.ireturn, 1) := by decide +kernel
theorem dX9_hasHeld_0 : decode cX9_hasHeld 0 = .ok (.iload_n 3, 1) := by decide +kernel
theorem dX9_hasHeld_1 : decode cX9_hasHeld 1 = .ok (.ifCond .ge 7, 3) := by decide +kernel
theorem dX9_hasHeld_4 : decode cX9_hasHeld 4 = .ok (.iconst (-1), 1) := by decide +kernel
theorem dX9_hasHeld_5 : decode cX9_hasHeld 5 = .ok (.goto 15, 3) := by decide +kernel
theorem dX9_hasHeld_8 : decode cX9_hasHeld 8 = .ok (.aload_n 0, 1) := by decide +kernel
theorem dX9_hasHeld_9 : decode cX9_hasHeld 9 = .ok (.getfield 72, 3) := by decide +kernel
theorem dX9_hasHeld_12 : decode cX9_hasHeld 12 = .ok (.sipush 200, 3) := by decide +kernel
theorem dX9_hasHeld_15 : decode cX9_hasHeld 15 = .ok (.iload_n 1, 1) := by decide +kernel
theorem dX9_hasHeld_16 : decode cX9_hasHeld 16 = .ok (.imul, 1) := by decide +kernel
theorem dX9_hasHeld_17 : decode cX9_hasHeld 17 = .ok (.iload_n 3, 1) := by decide +kernel
theorem dX9_hasHeld_18 : decode cX9_hasHeld 18 = .ok (.iadd, 1) := by decide +kernel
theorem dX9_hasHeld_19 : decode cX9_hasHeld 19 = .ok (.iaload, 1) := by decide +kernel
theorem dX9_hasHeld_20 : decode cX9_hasHeld 20 = .ok (.istore 4, 2) := by decide +kernel
theorem dX9_hasHeld_22 : decode cX9_hasHeld 22 = .ok (.iload 4, 2) := by decide +kernel
theorem dX9_hasHeld_24 : decode cX9_hasHeld 24 = .ok (.ifCond .lt 31, 3) := by decide +kernel
theorem dX9_hasHeld_27 : decode cX9_hasHeld 27 = .ok (.aload_n 0, 1) := by decide +kernel
theorem dX9_hasHeld_28 : decode cX9_hasHeld 28 = .ok (.getfield 69, 3) := by decide +kernel
theorem dX9_hasHeld_31 : decode cX9_hasHeld 31 = .ok (.iload 4, 2) := by decide +kernel
theorem dX9_hasHeld_33 : decode cX9_hasHeld 33 = .ok (.baload, 1) := by decide +kernel
theorem dX9_hasHeld_34 : decode cX9_hasHeld 34 = .ok (.ifCond .ne 21, 3) := by decide +kernel
theorem dX9_hasHeld_37 : decode cX9_hasHeld 37 = .ok (.iload_n 2, 1) := by decide +kernel
theorem dX9_hasHeld_38 : decode cX9_hasHeld 38 = .ok (.ifCond .lt 13, 3) := by decide +kernel
theorem dX9_hasHeld_41 : decode cX9_hasHeld 41 = .ok (.aload_n 0, 1) := by decide +kernel
theorem dX9_hasHeld_42 : decode cX9_hasHeld 42 = .ok (.iload 4, 2) := by decide +kernel
theorem dX9_hasHeld_44 : decode cX9_hasHeld 44 = .ok (.invokevirtual 180, 3) := by decide +kernel
theorem dX9_hasHeld_47 : decode cX9_hasHeld 47 = .ok (.iload_n 2, 1) := by decide +kernel
theorem dX9_hasHeld_48 : decode cX9_hasHeld 48 = .ok (.if_icmp .ne 7, 3) := by decide +kernel
theorem dX9_hasHeld_51 : decode cX9_hasHeld 51 = .ok (.iconst 1, 1) := by decide +kernel
theorem dX9_hasHeld_52 : decode cX9_hasHeld 52 = .ok (.goto 4, 3) := by decide +kernel
theorem dX9_hasHeld_55 : decode cX9_hasHeld 55 = .ok (.iconst 0, 1) := by decide +kernel
theorem dX9_hasHeld_56 : decode cX9_hasHeld 56 = .ok (.ireturn, 1) := by decide +kernel
theorem dX9_held_0 : decode cX9_held 0 = .ok (.aload_n 0, 1) := by decide +kernel
theorem dX9_held_1 : decode cX9_held 1 = .ok (.iload_n 1, 1) := by decide +kernel
theorem dX9_held_2 : decode cX9_held 2 = .ok (.invokevirtual 155, 3) := by decide +kernel
theorem dX9_held_5 : decode cX9_held 5 = .ok (.ifCond .eq 26, 3) := by decide +kernel
theorem dX9_held_8 : decode cX9_held 8 = .ok (.aload_n 0, 1) := by decide +kernel
theorem dX9_held_9 : decode cX9_held 9 = .ok (.iload_n 2, 1) := by decide +kernel
theorem dX9_held_10 : decode cX9_held 10 = .ok (.iconst (-1), 1) := by decide +kernel
theorem dX9_held_11 : decode cX9_held 11 = .ok (.aload_n 0, 1) := by decide +kernel
theorem dX9_held_12 : decode cX9_held 12 = .ok (.getfield 13, 3) := by decide +kernel
theorem dX9_held_15 : decode cX9_held 15 = .ok (.iconst 1, 1) := by decide +kernel
theorem dX9_held_16 : decode cX9_held 16 = .ok (.isub, 1) := by decide +kernel
theorem dX9_held_17 : decode cX9_held 17 = .ok (.invokevirtual 147, 3) := by decide +kernel
theorem dX9_held_20 : decode cX9_held 20 = .ok (.ifCond .eq 11, 3) := by decide +kernel
theorem dX9_held_23 : decode cX9_held 23 = .ok (.aload_n 0, 1) := by decide +kernel
theorem dX9_held_24 : decode cX9_held 24 = .ok (.iload_n 3, 1) := by decide +kernel
theorem dX9_held_25 : decode cX9_held 25 = .ok (.invokevirtual 159, 3) := by decide +kernel
theorem dX9_held_28 : decode cX9_held 28 = .ok (.ifCond .ne 5, 3) := by decide +kernel
theorem dX9_held_31 : decode cX9_held 31 = .ok (.iconst (-1), 1) := by decide +kernel
theorem dX9_held_32 : decode cX9_held 32 = .ok (.ireturn, 1) := by decide +kernel
theorem dX9_held_33 : decode cX9_held 33 = .ok (.iconst 0, 1) := by decide +kernel
theorem dX9_held_34 : decode cX9_held 34 = .ok (.istore 4, 2) := by decide +kernel
theorem dX9_held_36 : decode cX9_held 36 = .ok (.iconst 0, 1) := by decide +kernel
theorem dX9_held_37 : decode cX9_held 37 = .ok (.istore 5, 2) := by decide +kernel
theorem dX9_held_39 : decode cX9_held 39 = .ok (.iload 5, 2) := by decide +kernel
theorem dX9_held_41 : decode cX9_held 41 = .ok (.iload_n 3, 1) := by decide +kernel
theorem dX9_held_42 : decode cX9_held 42 = .ok (.if_icmp .ge 30, 3) := by decide +kernel
theorem dX9_held_45 : decode cX9_held 45 = .ok (.iload 4, 2) := by decide +kernel
theorem dX9_held_47 : decode cX9_held 47 = .ok (.aload_n 0, 1) := by decide +kernel
theorem dX9_held_48 : decode cX9_held 48 = .ok (.iload_n 1, 1) := by decide +kernel
theorem dX9_held_49 : decode cX9_held 49 = .ok (.iload_n 2, 1) := by decide +kernel
theorem dX9_held_50 : decode cX9_held 50 = .ok (.iload 5, 2) := by decide +kernel
theorem dX9_held_52 : decode cX9_held 52 = .ok (.invokevirtual 184, 3) := by decide +kernel
theorem dX9_held_55 : decode cX9_held 55 = .ok (.ifCond .eq 7, 3) := by decide +kernel
theorem dX9_held_58 : decode cX9_held 58 = .ok (.iconst 1, 1) := by decide +kernel
theorem dX9_held_59 : decode cX9_held 59 = .ok (.goto 4, 3) := by decide +kernel
theorem dX9_held_62 : decode cX9_held 62 = .ok (.iconst 0, 1) := by decide +kernel
theorem dX9_held_63 : decode cX9_held 63 = .ok (.iadd, 1) := by decide +kernel
theorem dX9_held_64 : decode cX9_held 64 = .ok (.istore 4, 2) := by decide +kernel
theorem dX9_held_66 : decode cX9_held 66 = .ok (.iinc 5 1, 3) := by decide +kernel
theorem dX9_held_69 : decode cX9_held 69 = .ok (.goto (-30), 3) := by decide +kernel
theorem dX9_held_72 : decode cX9_held 72 = .ok (.iload 4, 2) := by decide +kernel
theorem dX9_held_74 : decode cX9_held 74 = .ok (.ireturn, 1) := by decide +kernel
theorem dX9_isKin_0 : decode cX9_isKin 0 = .ok (.aload_n 0, 1) := by decide +kernel
theorem dX9_isKin_1 : decode cX9_isKin 1 = .ok (.getfield 39, 3) := by decide +kernel
theorem dX9_isKin_4 : decode cX9_isKin 4 = .ok (.iload_n 1, 1) := by decide +kernel
theorem dX9_isKin_5 : decode cX9_isKin 5 = .ok (.iaload, 1) := by decide +kernel
theorem dX9_isKin_6 : decode cX9_isKin 6 = .ok (.iload_n 2, 1) := by decide +kernel
theorem dX9_isKin_7 : decode cX9_isKin 7 = .ok (.if_icmp .eq 37, 3) := by decide +kernel
theorem dX9_isKin_10 : decode cX9_isKin 10 = .ok (.aload_n 0, 1) := by decide +kernel
theorem dX9_isKin_11 : decode cX9_isKin 11 = .ok (.getfield 39, 3) := by decide +kernel
theorem dX9_isKin_14 : decode cX9_isKin 14 = .ok (.iload_n 2, 1) := by decide +kernel
theorem dX9_isKin_15 : decode cX9_isKin 15 = .ok (.iaload, 1) := by decide +kernel
theorem dX9_isKin_16 : decode cX9_isKin 16 = .ok (.iload_n 1, 1) := by decide +kernel
theorem dX9_isKin_17 : decode cX9_isKin 17 = .ok (.if_icmp .eq 27, 3) := by decide +kernel
theorem dX9_isKin_20 : decode cX9_isKin 20 = .ok (.aload_n 0, 1) := by decide +kernel
theorem dX9_isKin_21 : decode cX9_isKin 21 = .ok (.getfield 39, 3) := by decide +kernel
theorem dX9_isKin_24 : decode cX9_isKin 24 = .ok (.iload_n 1, 1) := by decide +kernel
theorem dX9_isKin_25 : decode cX9_isKin 25 = .ok (.iaload, 1) := by decide +kernel
theorem dX9_isKin_26 : decode cX9_isKin 26 = .ok (.ifCond .lt 22, 3) := by decide +kernel
theorem dX9_isKin_29 : decode cX9_isKin 29 = .ok (.aload_n 0, 1) := by decide +kernel
theorem dX9_isKin_30 : decode cX9_isKin 30 = .ok (.getfield 39, 3) := by decide +kernel
theorem dX9_isKin_33 : decode cX9_isKin 33 = .ok (.iload_n 1, 1) := by decide +kernel
theorem dX9_isKin_34 : decode cX9_isKin 34 = .ok (.iaload, 1) := by decide +kernel
theorem dX9_isKin_35 : decode cX9_isKin 35 = .ok (.aload_n 0, 1) := by decide +kernel
theorem dX9_isKin_36 : decode cX9_isKin 36 = .ok (.getfield 39, 3) := by decide +kernel
theorem dX9_isKin_39 : decode cX9_isKin 39 = .ok (.iload_n 2, 1) := by decide +kernel
theorem dX9_isKin_40 : decode cX9_isKin 40 = .ok (.iaload, 1) := by decide +kernel
theorem dX9_isKin_41 : decode cX9_isKin 41 = .ok (.if_icmp .ne 7, 3) := by decide +kernel
theorem dX9_isKin_44 : decode cX9_isKin 44 = .ok (.iconst 1, 1) := by decide +kernel
theorem dX9_isKin_45 : decode cX9_isKin 45 = .ok (.goto 4, 3) := by decide +kernel
theorem dX9_isKin_48 : decode cX9_isKin 48 = .ok (.iconst 0, 1) := by decide +kernel
theorem dX9_isKin_49 : decode cX9_isKin 49 = .ok (.ireturn, 1) := by decide +kernel
theorem dX9_hasKin_0 : decode cX9_hasKin 0 = .ok (.iconst 0, 1) := by decide +kernel
theorem dX9_hasKin_1 : decode cX9_hasKin 1 = .ok (.istore 4, 2) := by decide +kernel
theorem dX9_hasKin_3 : decode cX9_hasKin 3 = .ok (.iconst 0, 1) := by decide +kernel
theorem dX9_hasKin_4 : decode cX9_hasKin 4 = .ok (.istore 5, 2) := by decide +kernel
theorem dX9_hasKin_6 : decode cX9_hasKin 6 = .ok (.iload 5, 2) := by decide +kernel
theorem dX9_hasKin_8 : decode cX9_hasKin 8 = .ok (.aload_n 0, 1) := by decide +kernel
theorem dX9_hasKin_9 : decode cX9_hasKin 9 = .ok (.getfield 22, 3) := by decide +kernel
theorem dX9_hasKin_12 : decode cX9_hasKin 12 = .ok (.iload_n 2, 1) := by decide +kernel
theorem dX9_hasKin_13 : decode cX9_hasKin 13 = .ok (.iaload, 1) := by decide +kernel
theorem dX9_hasKin_14 : decode cX9_hasKin 14 = .ok (.if_icmp .ge 77, 3) := by decide +kernel
theorem dX9_hasKin_17 : decode cX9_hasKin 17 = .ok (.aload_n 0, 1) := by decide +kernel
theorem dX9_hasKin_18 : decode cX9_hasKin 18 = .ok (.iload_n 2, 1) := by decide +kernel
theorem dX9_hasKin_19 : decode cX9_hasKin 19 = .ok (.iload_n 3, 1) := by decide +kernel
theorem dX9_hasKin_20 : decode cX9_hasKin 20 = .ok (.iload 5, 2) := by decide +kernel
theorem dX9_hasKin_22 : decode cX9_hasKin 22 = .ok (.invokevirtual 165, 3) := by decide +kernel
theorem dX9_hasKin_25 : decode cX9_hasKin 25 = .ok (.istore 6, 2) := by decide +kernel
theorem dX9_hasKin_27 : decode cX9_hasKin 27 = .ok (.iload 4, 2) := by decide +kernel
theorem dX9_hasKin_29 : decode cX9_hasKin 29 = .ok (.ifCond .ne 49, 3) := by decide +kernel
theorem dX9_hasKin_32 : decode cX9_hasKin 32 = .ok (.aload_n 0, 1) := by decide +kernel
theorem dX9_hasKin_33 : decode cX9_hasKin 33 = .ok (.getfield 66, 3) := by decide +kernel
theorem dX9_hasKin_36 : decode cX9_hasKin 36 = .ok (.iload 6, 2) := by decide +kernel
theorem dX9_hasKin_38 : decode cX9_hasKin 38 = .ok (.iaload, 1) := by decide +kernel
theorem dX9_hasKin_39 : decode cX9_hasKin 39 = .ok (.ifCond .lt 43, 3) := by decide +kernel
theorem dX9_hasKin_42 : decode cX9_hasKin 42 = .ok (.aload_n 0, 1) := by decide +kernel
theorem dX9_hasKin_43 : decode cX9_hasKin 43 = .ok (.getfield 66, 3) := by decide +kernel
theorem dX9_hasKin_46 : decode cX9_hasKin 46 = .ok (.iload 6, 2) := by decide +kernel
theorem dX9_hasKin_48 : decode cX9_hasKin 48 = .ok (.iaload, 1) := by decide +kernel
theorem dX9_hasKin_49 : decode cX9_hasKin 49 = .ok (.iload_n 1, 1) := by decide +kernel
theorem dX9_hasKin_50 : decode cX9_hasKin 50 = .ok (.if_icmp .eq 32, 3) := by decide +kernel
theorem dX9_hasKin_53 : decode cX9_hasKin 53 = .ok (.aload_n 0, 1) := by decide +kernel
theorem dX9_hasKin_54 : decode cX9_hasKin 54 = .ok (.getfield 69, 3) := by decide +kernel
theorem dX9_hasKin_57 : decode cX9_hasKin 57 = .ok (.iload 6, 2) := by decide +kernel
theorem dX9_hasKin_59 : decode cX9_hasKin 59 = .ok (.baload, 1) := by decide +kernel
theorem dX9_hasKin_60 : decode cX9_hasKin 60 = .ok (.ifCond .ne 22, 3) := by decide +kernel
theorem dX9_hasKin_63 : decode cX9_hasKin 63 = .ok (.aload_n 0, 1) := by decide +kernel
theorem dX9_hasKin_64 : decode cX9_hasKin 64 = .ok (.iload_n 1, 1) := by decide +kernel
theorem dX9_hasKin_65 : decode cX9_hasKin 65 = .ok (.aload_n 0, 1) := by decide +kernel
theorem dX9_hasKin_66 : decode cX9_hasKin 66 = .ok (.getfield 66, 3) := by decide +kernel
theorem dX9_hasKin_69 : decode cX9_hasKin 69 = .ok (.iload 6, 2) := by decide +kernel
theorem dX9_hasKin_71 : decode cX9_hasKin 71 = .ok (.iaload, 1) := by decide +kernel
theorem dX9_hasKin_72 : decode cX9_hasKin 72 = .ok (.invokevirtual 187, 3) := by decide +kernel
theorem dX9_hasKin_75 : decode cX9_hasKin 75 = .ok (.ifCond .eq 7, 3) := by decide +kernel
theorem dX9_hasKin_78 : decode cX9_hasKin 78 = .ok (.iconst 1, 1) := by decide +kernel
theorem dX9_hasKin_79 : decode cX9_hasKin 79 = .ok (.goto 4, 3) := by decide +kernel
theorem dX9_hasKin_82 : decode cX9_hasKin 82 = .ok (.iconst 0, 1) := by decide +kernel
theorem dX9_hasKin_83 : decode cX9_hasKin 83 = .ok (.istore 4, 2) := by decide +kernel
theorem dX9_hasKin_85 : decode cX9_hasKin 85 = .ok (.iinc 5 1, 3) := by decide +kernel
theorem dX9_hasKin_88 : decode cX9_hasKin 88 = .ok (.goto (-82), 3) := by decide +kernel
theorem dX9_hasKin_91 : decode cX9_hasKin 91 = .ok (.iload 4, 2) := by decide +kernel
theorem dX9_hasKin_93 : decode cX9_hasKin 93 = .ok (.ireturn, 1) := by decide +kernel
theorem dX9_isInForce_0 : decode cX9_isInForce 0 = .ok (.aload_n 0, 1) := by decide +kernel
theorem dX9_isInForce_1 : decode cX9_isInForce 1 = .ok (.getfield 26, 3) := by decide +kernel
theorem dX9_isInForce_4 : decode cX9_isInForce 4 = .ok (.iload_n 2, 1) := by decide +kernel
theorem dX9_isInForce_5 : decode cX9_isInForce 5 = .ok (.baload, 1) := by decide +kernel
theorem dX9_isInForce_6 : decode cX9_isInForce 6 = .ok (.ifCond .ne 46, 3) := by decide +kernel
theorem dX9_isInForce_9 : decode cX9_isInForce 9 = .ok (.aload_n 0, 1) := by decide +kernel
theorem dX9_isInForce_10 : decode cX9_isInForce 10 = .ok (.getfield 54, 3) := by decide +kernel
theorem dX9_isInForce_13 : decode cX9_isInForce 13 = .ok (.iload_n 1, 1) := by decide +kernel
theorem dX9_isInForce_14 : decode cX9_isInForce 14 = .ok (.iaload, 1) := by decide +kernel
theorem dX9_isInForce_15 : decode cX9_isInForce 15 = .ok (.ifCond .lt 13, 3) := by decide +kernel
theorem dX9_isInForce_18 : decode cX9_isInForce 18 = .ok (.aload_n 0, 1) := by decide +kernel
theorem dX9_isInForce_19 : decode cX9_isInForce 19 = .ok (.getfield 54, 3) := by decide +kernel
theorem dX9_isInForce_22 : decode cX9_isInForce 22 = .ok (.iload_n 1, 1) := by decide +kernel
theorem dX9_isInForce_23 : decode cX9_isInForce 23 = .ok (.iaload, 1) := by decide +kernel
theorem dX9_isInForce_24 : decode cX9_isInForce 24 = .ok (.iload_n 2, 1) := by decide +kernel
theorem dX9_isInForce_25 : decode cX9_isInForce 25 = .ok (.if_icmp .ne 27, 3) := by decide +kernel
theorem dX9_isInForce_28 : decode cX9_isInForce 28 = .ok (.aload_n 0, 1) := by decide +kernel
theorem dX9_isInForce_29 : decode cX9_isInForce 29 = .ok (.getfield 60, 3) := by decide +kernel
theorem dX9_isInForce_32 : decode cX9_isInForce 32 = .ok (.iload_n 1, 1) := by decide +kernel
theorem dX9_isInForce_33 : decode cX9_isInForce 33 = .ok (.iaload, 1) := by decide +kernel
theorem dX9_isInForce_34 : decode cX9_isInForce 34 = .ok (.iload_n 3, 1) := by decide +kernel
theorem dX9_isInForce_35 : decode cX9_isInForce 35 = .ok (.if_icmp .gt 17, 3) := by decide +kernel
theorem dX9_isInForce_38 : decode cX9_isInForce 38 = .ok (.iload_n 3, 1) := by decide +kernel
theorem dX9_isInForce_39 : decode cX9_isInForce 39 = .ok (.aload_n 0, 1) := by decide +kernel
theorem dX9_isInForce_40 : decode cX9_isInForce 40 = .ok (.getfield 63, 3) := by decide +kernel
theorem dX9_isInForce_43 : decode cX9_isInForce 43 = .ok (.iload_n 1, 1) := by decide +kernel
theorem dX9_isInForce_44 : decode cX9_isInForce 44 = .ok (.iaload, 1) := by decide +kernel
theorem dX9_isInForce_45 : decode cX9_isInForce 45 = .ok (.if_icmp .ge 7, 3) := by decide +kernel
theorem dX9_isInForce_48 : decode cX9_isInForce 48 = .ok (.iconst 1, 1) := by decide +kernel
theorem dX9_isInForce_49 : decode cX9_isInForce 49 = .ok (.goto 4, 3) := by decide +kernel
theorem dX9_isInForce_52 : decode cX9_isInForce 52 = .ok (.iconst 0, 1) := by decide +kernel
theorem dX9_isInForce_53 : decode cX9_isInForce 53 = .ok (.ireturn, 1) := by decide +kernel
theorem dX9_heldWithin_0 : decode cX9_heldWithin 0 = .ok (.iconst 0, 1) := by decide +kernel
theorem dX9_heldWithin_1 : decode cX9_heldWithin 1 = .ok (.istore 5, 2) := by decide +kernel
theorem dX9_heldWithin_3 : decode cX9_heldWithin 3 = .ok (.iconst 1, 1) := by decide +kernel
theorem dX9_heldWithin_4 : decode cX9_heldWithin 4 = .ok (.istore 6, 2) := by decide +kernel
theorem dX9_heldWithin_6 : decode cX9_heldWithin 6 = .ok (.iload 6, 2) := by decide +kernel
theorem dX9_heldWithin_8 : decode cX9_heldWithin 8 = .ok (.iload 4, 2) := by decide +kernel
theorem dX9_heldWithin_10 : decode cX9_heldWithin 10 = .ok (.if_icmp .gt 26, 3) := by decide +kernel
theorem dX9_heldWithin_13 : decode cX9_heldWithin 13 = .ok (.iload 5, 2) := by decide +kernel
theorem dX9_heldWithin_15 : decode cX9_heldWithin 15 = .ok (.ifCond .ne 21, 3) := by decide +kernel
theorem dX9_heldWithin_18 : decode cX9_heldWithin 18 = .ok (.aload_n 0, 1) := by decide +kernel
theorem dX9_heldWithin_19 : decode cX9_heldWithin 19 = .ok (.iload_n 1, 1) := by decide +kernel
theorem dX9_heldWithin_20 : decode cX9_heldWithin 20 = .ok (.iload_n 2, 1) := by decide +kernel
theorem dX9_heldWithin_21 : decode cX9_heldWithin 21 = .ok (.iload_n 3, 1) := by decide +kernel
theorem dX9_heldWithin_22 : decode cX9_heldWithin 22 = .ok (.iload 6, 2) := by decide +kernel
theorem dX9_heldWithin_24 : decode cX9_heldWithin 24 = .ok (.isub, 1) := by decide +kernel
theorem dX9_heldWithin_25 : decode cX9_heldWithin 25 = .ok (.invokevirtual 184, 3) := by decide +kernel
theorem dX9_heldWithin_28 : decode cX9_heldWithin 28 = .ok (.istore 5, 2) := by decide +kernel
theorem dX9_heldWithin_30 : decode cX9_heldWithin 30 = .ok (.iinc 6 1, 3) := by decide +kernel
theorem dX9_heldWithin_33 : decode cX9_heldWithin 33 = .ok (.goto (-27), 3) := by decide +kernel
theorem dX9_heldWithin_36 : decode cX9_heldWithin 36 = .ok (.iload 5, 2) := by decide +kernel
theorem dX9_heldWithin_38 : decode cX9_heldWithin 38 = .ok (.ireturn, 1) := by decide +kernel
theorem dX9_bars_0 : decode cX9_bars 0 = .ok (.aload_n 0, 1) := by decide +kernel
theorem dX9_bars_1 : decode cX9_bars 1 = .ok (.getfield 51, 3) := by decide +kernel
theorem dX9_bars_4 : decode cX9_bars 4 = .ok (.iload_n 1, 1) := by decide +kernel
theorem dX9_bars_5 : decode cX9_bars 5 = .ok (.iaload, 1) := by decide +kernel
theorem dX9_bars_6 : decode cX9_bars 6 = .ok (.tableswitch 133 0 4 #[34, 58, 82, 97, 112], 34) := by decide +kernel
theorem dX9_bars_40 : decode cX9_bars 40 = .ok (.iload 4, 2) := by decide +kernel
theorem dX9_bars_42 : decode cX9_bars 42 = .ok (.aload_n 0, 1) := by decide +kernel
theorem dX9_bars_43 : decode cX9_bars 43 = .ok (.getfield 33, 3) := by decide +kernel
theorem dX9_bars_46 : decode cX9_bars 46 = .ok (.iload_n 2, 1) := by decide +kernel
theorem dX9_bars_47 : decode cX9_bars 47 = .ok (.iaload, 1) := by decide +kernel
theorem dX9_bars_48 : decode cX9_bars 48 = .ok (.isub, 1) := by decide +kernel
theorem dX9_bars_49 : decode cX9_bars 49 = .ok (.aload_n 0, 1) := by decide +kernel
theorem dX9_bars_50 : decode cX9_bars 50 = .ok (.getfield 57, 3) := by decide +kernel
theorem dX9_bars_53 : decode cX9_bars 53 = .ok (.iload_n 1, 1) := by decide +kernel
theorem dX9_bars_54 : decode cX9_bars 54 = .ok (.iaload, 1) := by decide +kernel
theorem dX9_bars_55 : decode cX9_bars 55 = .ok (.if_icmp .ge 7, 3) := by decide +kernel
theorem dX9_bars_58 : decode cX9_bars 58 = .ok (.iconst 1, 1) := by decide +kernel
theorem dX9_bars_59 : decode cX9_bars 59 = .ok (.goto 4, 3) := by decide +kernel
theorem dX9_bars_62 : decode cX9_bars 62 = .ok (.iconst 0, 1) := by decide +kernel
theorem dX9_bars_63 : decode cX9_bars 63 = .ok (.ireturn, 1) := by decide +kernel
theorem dX9_bars_64 : decode cX9_bars 64 = .ok (.aload_n 0, 1) := by decide +kernel
theorem dX9_bars_65 : decode cX9_bars 65 = .ok (.iload_n 2, 1) := by decide +kernel
theorem dX9_bars_66 : decode cX9_bars 66 = .ok (.aload_n 0, 1) := by decide +kernel
theorem dX9_bars_67 : decode cX9_bars 67 = .ok (.getfield 57, 3) := by decide +kernel
theorem dX9_bars_70 : decode cX9_bars 70 = .ok (.iload_n 1, 1) := by decide +kernel
theorem dX9_bars_71 : decode cX9_bars 71 = .ok (.iaload, 1) := by decide +kernel
theorem dX9_bars_72 : decode cX9_bars 72 = .ok (.iload 4, 2) := by decide +kernel
theorem dX9_bars_74 : decode cX9_bars 74 = .ok (.iload 4, 2) := by decide +kernel
theorem dX9_bars_76 : decode cX9_bars 76 = .ok (.invokevirtual 190, 3) := by decide +kernel
theorem dX9_bars_79 : decode cX9_bars 79 = .ok (.ifCond .ne 7, 3) := by decide +kernel
theorem dX9_bars_82 : decode cX9_bars 82 = .ok (.iconst 1, 1) := by decide +kernel
theorem dX9_bars_83 : decode cX9_bars 83 = .ok (.goto 4, 3) := by decide +kernel
theorem dX9_bars_86 : decode cX9_bars 86 = .ok (.iconst 0, 1) := by decide +kernel
theorem dX9_bars_87 : decode cX9_bars 87 = .ok (.ireturn, 1) := by decide +kernel
theorem dX9_bars_88 : decode cX9_bars 88 = .ok (.aload_n 0, 1) := by decide +kernel
theorem dX9_bars_89 : decode cX9_bars 89 = .ok (.iload_n 2, 1) := by decide +kernel
theorem dX9_bars_90 : decode cX9_bars 90 = .ok (.iconst (-1), 1) := by decide +kernel
theorem dX9_bars_91 : decode cX9_bars 91 = .ok (.iload 4, 2) := by decide +kernel
theorem dX9_bars_93 : decode cX9_bars 93 = .ok (.aload_n 0, 1) := by decide +kernel
theorem dX9_bars_94 : decode cX9_bars 94 = .ok (.getfield 57, 3) := by decide +kernel
theorem dX9_bars_97 : decode cX9_bars 97 = .ok (.iload_n 1, 1) := by decide +kernel
theorem dX9_bars_98 : decode cX9_bars 98 = .ok (.iaload, 1) := by decide +kernel
theorem dX9_bars_99 : decode cX9_bars 99 = .ok (.invokevirtual 190, 3) := by decide +kernel
theorem dX9_bars_102 : decode cX9_bars 102 = .ok (.ireturn, 1) := by decide +kernel
theorem dX9_bars_103 : decode cX9_bars 103 = .ok (.aload_n 0, 1) := by decide +kernel
theorem dX9_bars_104 : decode cX9_bars 104 = .ok (.iload_n 2, 1) := by decide +kernel
theorem dX9_bars_105 : decode cX9_bars 105 = .ok (.iload_n 3, 1) := by decide +kernel
theorem dX9_bars_106 : decode cX9_bars 106 = .ok (.iload 4, 2) := by decide +kernel
theorem dX9_bars_108 : decode cX9_bars 108 = .ok (.aload_n 0, 1) := by decide +kernel
theorem dX9_bars_109 : decode cX9_bars 109 = .ok (.getfield 57, 3) := by decide +kernel
theorem dX9_bars_112 : decode cX9_bars 112 = .ok (.iload_n 1, 1) := by decide +kernel
theorem dX9_bars_113 : decode cX9_bars 113 = .ok (.iaload, 1) := by decide +kernel
theorem dX9_bars_114 : decode cX9_bars 114 = .ok (.invokevirtual 190, 3) := by decide +kernel
theorem dX9_bars_117 : decode cX9_bars 117 = .ok (.ireturn, 1) := by decide +kernel
theorem dX9_bars_118 : decode cX9_bars 118 = .ok (.aload_n 0, 1) := by decide +kernel
theorem dX9_bars_119 : decode cX9_bars 119 = .ok (.getfield 30, 3) := by decide +kernel
theorem dX9_bars_122 : decode cX9_bars 122 = .ok (.iload_n 2, 1) := by decide +kernel
theorem dX9_bars_123 : decode cX9_bars 123 = .ok (.iaload, 1) := by decide +kernel
theorem dX9_bars_124 : decode cX9_bars 124 = .ok (.aload_n 0, 1) := by decide +kernel
theorem dX9_bars_125 : decode cX9_bars 125 = .ok (.getfield 57, 3) := by decide +kernel
theorem dX9_bars_128 : decode cX9_bars 128 = .ok (.iload_n 1, 1) := by decide +kernel
theorem dX9_bars_129 : decode cX9_bars 129 = .ok (.iaload, 1) := by decide +kernel
theorem dX9_bars_130 : decode cX9_bars 130 = .ok (.if_icmp .ne 7, 3) := by decide +kernel
theorem dX9_bars_133 : decode cX9_bars 133 = .ok (.iconst 1, 1) := by decide +kernel
theorem dX9_bars_134 : decode cX9_bars 134 = .ok (.goto 4, 3) := by decide +kernel
theorem dX9_bars_137 : decode cX9_bars 137 = .ok (.iconst 0, 1) := by decide +kernel
theorem dX9_bars_138 : decode cX9_bars 138 = .ok (.ireturn, 1) := by decide +kernel
theorem dX9_bars_139 : decode cX9_bars 139 = .ok (.aload_n 0, 1) := by decide +kernel
theorem dX9_bars_140 : decode cX9_bars 140 = .ok (.iload_n 2, 1) := by decide +kernel
theorem dX9_bars_141 : decode cX9_bars 141 = .ok (.iload_n 3, 1) := by decide +kernel
theorem dX9_bars_142 : decode cX9_bars 142 = .ok (.iload 4, 2) := by decide +kernel
theorem dX9_bars_144 : decode cX9_bars 144 = .ok (.invokevirtual 194, 3) := by decide +kernel
theorem dX9_bars_147 : decode cX9_bars 147 = .ok (.ireturn, 1) := by decide +kernel
theorem dX9_barOf_0 : decode cX9_barOf 0 = .ok (.iload_n 3, 1) := by decide +kernel
theorem dX9_barOf_1 : decode cX9_barOf 1 = .ok (.aload_n 0, 1) := by decide +kernel
theorem dX9_barOf_2 : decode cX9_barOf 2 = .ok (.getfield 42, 3) := by decide +kernel
theorem dX9_barOf_5 : decode cX9_barOf 5 = .ok (.iload_n 1, 1) := by decide +kernel
theorem dX9_barOf_6 : decode cX9_barOf 6 = .ok (.iaload, 1) := by decide +kernel
theorem dX9_barOf_7 : decode cX9_barOf 7 = .ok (.if_icmp .lt 6, 3) := by decide +kernel
theorem dX9_barOf_10 : decode cX9_barOf 10 = .ok (.bipush (-4), 2) := by decide +kernel
theorem dX9_barOf_12 : decode cX9_barOf 12 = .ok (.ireturn, 1) := by decide +kernel
theorem dX9_barOf_13 : decode cX9_barOf 13 = .ok (.iload_n 3, 1) := by decide +kernel
theorem dX9_barOf_14 : decode cX9_barOf 14 = .ok (.aload_n 0, 1) := by decide +kernel
theorem dX9_barOf_15 : decode cX9_barOf 15 = .ok (.getfield 33, 3) := by decide +kernel
theorem dX9_barOf_18 : decode cX9_barOf 18 = .ok (.iload_n 1, 1) := by decide +kernel
theorem dX9_barOf_19 : decode cX9_barOf 19 = .ok (.iaload, 1) := by decide +kernel
theorem dX9_barOf_20 : decode cX9_barOf 20 = .ok (.if_icmp .ge 6, 3) := by decide +kernel
theorem dX9_barOf_23 : decode cX9_barOf 23 = .ok (.bipush (-5), 2) := by decide +kernel
theorem dX9_barOf_25 : decode cX9_barOf 25 = .ok (.ireturn, 1) := by decide +kernel
theorem dX9_barOf_26 : decode cX9_barOf 26 = .ok (.iload_n 3, 1) := by decide +kernel
theorem dX9_barOf_27 : decode cX9_barOf 27 = .ok (.aload_n 0, 1) := by decide +kernel
theorem dX9_barOf_28 : decode cX9_barOf 28 = .ok (.getfield 45, 3) := by decide +kernel
theorem dX9_barOf_31 : decode cX9_barOf 31 = .ok (.iload_n 1, 1) := by decide +kernel
theorem dX9_barOf_32 : decode cX9_barOf 32 = .ok (.iaload, 1) := by decide +kernel
theorem dX9_barOf_33 : decode cX9_barOf 33 = .ok (.if_icmp .lt 16, 3) := by decide +kernel
theorem dX9_barOf_36 : decode cX9_barOf 36 = .ok (.iload_n 3, 1) := by decide +kernel
theorem dX9_barOf_37 : decode cX9_barOf 37 = .ok (.aload_n 0, 1) := by decide +kernel
theorem dX9_barOf_38 : decode cX9_barOf 38 = .ok (.getfield 48, 3) := by decide +kernel
theorem dX9_barOf_41 : decode cX9_barOf 41 = .ok (.iload_n 1, 1) := by decide +kernel
theorem dX9_barOf_42 : decode cX9_barOf 42 = .ok (.iaload, 1) := by decide +kernel
theorem dX9_barOf_43 : decode cX9_barOf 43 = .ok (.if_icmp .gt 6, 3) := by decide +kernel
theorem dX9_barOf_46 : decode cX9_barOf 46 = .ok (.bipush (-6), 2) := by decide +kernel
theorem dX9_barOf_48 : decode cX9_barOf 48 = .ok (.ireturn, 1) := by decide +kernel
theorem dX9_barOf_49 : decode cX9_barOf 49 = .ok (.aload_n 0, 1) := by decide +kernel
theorem dX9_barOf_50 : decode cX9_barOf 50 = .ok (.getfield 72, 3) := by decide +kernel
theorem dX9_barOf_53 : decode cX9_barOf 53 = .ok (.sipush 200, 3) := by decide +kernel
theorem dX9_barOf_56 : decode cX9_barOf 56 = .ok (.iload_n 1, 1) := by decide +kernel
theorem dX9_barOf_57 : decode cX9_barOf 57 = .ok (.imul, 1) := by decide +kernel
theorem dX9_barOf_58 : decode cX9_barOf 58 = .ok (.iload_n 3, 1) := by decide +kernel
theorem dX9_barOf_59 : decode cX9_barOf 59 = .ok (.iadd, 1) := by decide +kernel
theorem dX9_barOf_60 : decode cX9_barOf 60 = .ok (.iaload, 1) := by decide +kernel
theorem dX9_barOf_61 : decode cX9_barOf 61 = .ok (.ifCond .lt 6, 3) := by decide +kernel
theorem dX9_barOf_64 : decode cX9_barOf 64 = .ok (.bipush (-7), 2) := by decide +kernel
theorem dX9_barOf_66 : decode cX9_barOf 66 = .ok (.ireturn, 1) := by decide +kernel
theorem dX9_barOf_67 : decode cX9_barOf 67 = .ok (.iconst 0, 1) := by decide +kernel
theorem dX9_barOf_68 : decode cX9_barOf 68 = .ok (.istore 4, 2) := by decide +kernel
theorem dX9_barOf_70 : decode cX9_barOf 70 = .ok (.iload 4, 2) := by decide +kernel
theorem dX9_barOf_72 : decode cX9_barOf 72 = .ok (.aload_n 0, 1) := by decide +kernel
theorem dX9_barOf_73 : decode cX9_barOf 73 = .ok (.getfield 19, 3) := by decide +kernel
theorem dX9_barOf_76 : decode cX9_barOf 76 = .ok (.if_icmp .ge 35, 3) := by decide +kernel
theorem dX9_barOf_79 : decode cX9_barOf 79 = .ok (.aload_n 0, 1) := by decide +kernel
theorem dX9_barOf_80 : decode cX9_barOf 80 = .ok (.iload 4, 2) := by decide +kernel
theorem dX9_barOf_82 : decode cX9_barOf 82 = .ok (.iload_n 2, 1) := by decide +kernel
theorem dX9_barOf_83 : decode cX9_barOf 83 = .ok (.iload_n 3, 1) := by decide +kernel
theorem dX9_barOf_84 : decode cX9_barOf 84 = .ok (.invokevirtual 197, 3) := by decide +kernel
theorem dX9_barOf_87 : decode cX9_barOf 87 = .ok (.ifCond .eq 18, 3) := by decide +kernel
theorem dX9_barOf_90 : decode cX9_barOf 90 = .ok (.aload_n 0, 1) := by decide +kernel
theorem dX9_barOf_91 : decode cX9_barOf 91 = .ok (.iload 4, 2) := by decide +kernel
theorem dX9_barOf_93 : decode cX9_barOf 93 = .ok (.iload_n 1, 1) := by decide +kernel
theorem dX9_barOf_94 : decode cX9_barOf 94 = .ok (.iload_n 2, 1) := by decide +kernel
theorem dX9_barOf_95 : decode cX9_barOf 95 = .ok (.iload_n 3, 1) := by decide +kernel
theorem dX9_barOf_96 : decode cX9_barOf 96 = .ok (.invokevirtual 200, 3) := by decide +kernel
theorem dX9_barOf_99 : decode cX9_barOf 99 = .ok (.ifCond .eq 6, 3) := by decide +kernel
theorem dX9_barOf_102 : decode cX9_barOf 102 = .ok (.iload 4, 2) := by decide +kernel
theorem dX9_barOf_104 : decode cX9_barOf 104 = .ok (.ireturn, 1) := by decide +kernel
theorem dX9_barOf_105 : decode cX9_barOf 105 = .ok (.iinc 4 1, 3) := by decide +kernel
theorem dX9_barOf_108 : decode cX9_barOf 108 = .ok (.goto (-38), 3) := by decide +kernel
theorem dX9_barOf_111 : decode cX9_barOf 111 = .ok (.bipush (-2), 2) := by decide +kernel
theorem dX9_barOf_113 : decode cX9_barOf 113 = .ok (.ireturn, 1) := by decide +kernel
theorem dX9_couldBe_0 : decode cX9_couldBe 0 = .ok (.aload_n 0, 1) := by decide +kernel
theorem dX9_couldBe_1 : decode cX9_couldBe 1 = .ok (.iload_n 1, 1) := by decide +kernel
theorem dX9_couldBe_2 : decode cX9_couldBe 2 = .ok (.iload_n 2, 1) := by decide +kernel
theorem dX9_couldBe_3 : decode cX9_couldBe 3 = .ok (.iload_n 3, 1) := by decide +kernel
theorem dX9_couldBe_4 : decode cX9_couldBe 4 = .ok (.invokevirtual 203, 3) := by decide +kernel
theorem dX9_couldBe_7 : decode cX9_couldBe 7 = .ok (.bipush (-2), 2) := by decide +kernel
theorem dX9_couldBe_9 : decode cX9_couldBe 9 = .ok (.if_icmp .eq 5, 3) := by decide +kernel
theorem dX9_couldBe_12 : decode cX9_couldBe 12 = .ok (.iconst 0, 1) := by decide +kernel
theorem dX9_couldBe_13 : decode cX9_couldBe 13 = .ok (.ireturn, 1) := by decide +kernel
theorem dX9_couldBe_14 : decode cX9_couldBe 14 = .ok (.iconst 2, 1) := by decide +kernel
theorem dX9_couldBe_15 : decode cX9_couldBe 15 = .ok (.istore 4, 2) := by decide +kernel
theorem dX9_couldBe_17 : decode cX9_couldBe 17 = .ok (.iconst 0, 1) := by decide +kernel
theorem dX9_couldBe_18 : decode cX9_couldBe 18 = .ok (.istore 5, 2) := by decide +kernel
theorem dX9_couldBe_20 : decode cX9_couldBe 20 = .ok (.iload 5, 2) := by decide +kernel
theorem dX9_couldBe_22 : decode cX9_couldBe 22 = .ok (.aload_n 0, 1) := by decide +kernel
theorem dX9_couldBe_23 : decode cX9_couldBe 23 = .ok (.getfield 19, 3) := by decide +kernel
theorem dX9_couldBe_26 : decode cX9_couldBe 26 = .ok (.if_icmp .ge 51, 3) := by decide +kernel
theorem dX9_couldBe_29 : decode cX9_couldBe 29 = .ok (.aload_n 0, 1) := by decide +kernel
theorem dX9_couldBe_30 : decode cX9_couldBe 30 = .ok (.iload 5, 2) := by decide +kernel
theorem dX9_couldBe_32 : decode cX9_couldBe 32 = .ok (.iload_n 2, 1) := by decide +kernel
theorem dX9_couldBe_33 : decode cX9_couldBe 33 = .ok (.iload_n 3, 1) := by decide +kernel
theorem dX9_couldBe_34 : decode cX9_couldBe 34 = .ok (.invokevirtual 197, 3) := by decide +kernel
theorem dX9_couldBe_37 : decode cX9_couldBe 37 = .ok (.ifCond .eq 34, 3) := by decide +kernel
theorem dX9_couldBe_40 : decode cX9_couldBe 40 = .ok (.aload_n 0, 1) := by decide +kernel
theorem dX9_couldBe_41 : decode cX9_couldBe 41 = .ok (.getfield 51, 3) := by decide +kernel
theorem dX9_couldBe_44 : decode cX9_couldBe 44 = .ok (.iload 5, 2) := by decide +kernel
theorem dX9_couldBe_46 : decode cX9_couldBe 46 = .ok (.iaload, 1) := by decide +kernel
theorem dX9_couldBe_47 : decode cX9_couldBe 47 = .ok (.ifCond .ne 24, 3) := by decide +kernel
theorem dX9_couldBe_50 : decode cX9_couldBe 50 = .ok (.iload_n 3, 1) := by decide +kernel
theorem dX9_couldBe_51 : decode cX9_couldBe 51 = .ok (.aload_n 0, 1) := by decide +kernel
theorem dX9_couldBe_52 : decode cX9_couldBe 52 = .ok (.getfield 36, 3) := by decide +kernel
theorem dX9_couldBe_55 : decode cX9_couldBe 55 = .ok (.iload_n 1, 1) := by decide +kernel
theorem dX9_couldBe_56 : decode cX9_couldBe 56 = .ok (.iaload, 1) := by decide +kernel
theorem dX9_couldBe_57 : decode cX9_couldBe 57 = .ok (.isub, 1) := by decide +kernel
theorem dX9_couldBe_58 : decode cX9_couldBe 58 = .ok (.aload_n 0, 1) := by decide +kernel
theorem dX9_couldBe_59 : decode cX9_couldBe 59 = .ok (.getfield 57, 3) := by decide +kernel
theorem dX9_couldBe_62 : decode cX9_couldBe 62 = .ok (.iload 5, 2) := by decide +kernel
theorem dX9_couldBe_64 : decode cX9_couldBe 64 = .ok (.iaload, 1) := by decide +kernel
theorem dX9_couldBe_65 : decode cX9_couldBe 65 = .ok (.if_icmp .ge 6, 3) := by decide +kernel
theorem dX9_couldBe_68 : decode cX9_couldBe 68 = .ok (.iconst 1, 1) := by decide +kernel
theorem dX9_couldBe_69 : decode cX9_couldBe 69 = .ok (.istore 4, 2) := by decide +kernel
theorem dX9_couldBe_71 : decode cX9_couldBe 71 = .ok (.iinc 5 1, 3) := by decide +kernel
theorem dX9_couldBe_74 : decode cX9_couldBe 74 = .ok (.goto (-54), 3) := by decide +kernel
theorem dX9_couldBe_77 : decode cX9_couldBe 77 = .ok (.iload 4, 2) := by decide +kernel
theorem dX9_couldBe_79 : decode cX9_couldBe 79 = .ok (.ireturn, 1) := by decide +kernel
theorem dX9_could_0 : decode cX9_could 0 = .ok (.aload_n 0, 1) := by decide +kernel
theorem dX9_could_1 : decode cX9_could 1 = .ok (.iload_n 1, 1) := by decide +kernel
theorem dX9_could_2 : decode cX9_could 2 = .ok (.invokevirtual 155, 3) := by decide +kernel
theorem dX9_could_5 : decode cX9_could 5 = .ok (.ifCond .eq 30, 3) := by decide +kernel
theorem dX9_could_8 : decode cX9_could 8 = .ok (.aload_n 0, 1) := by decide +kernel
theorem dX9_could_9 : decode cX9_could 9 = .ok (.iload_n 2, 1) := by decide +kernel
theorem dX9_could_10 : decode cX9_could 10 = .ok (.invokevirtual 162, 3) := by decide +kernel
theorem dX9_could_13 : decode cX9_could 13 = .ok (.ifCond .eq 22, 3) := by decide +kernel
theorem dX9_could_16 : decode cX9_could 16 = .ok (.aload_n 0, 1) := by decide +kernel
theorem dX9_could_17 : decode cX9_could 17 = .ok (.iload_n 3, 1) := by decide +kernel
theorem dX9_could_18 : decode cX9_could 18 = .ok (.invokevirtual 159, 3) := by decide +kernel
theorem dX9_could_21 : decode cX9_could 21 = .ok (.ifCond .eq 14, 3) := by decide +kernel
theorem dX9_could_24 : decode cX9_could 24 = .ok (.aload_n 0, 1) := by decide +kernel
theorem dX9_could_25 : decode cX9_could 25 = .ok (.iload 4, 2) := by decide +kernel
theorem dX9_could_27 : decode cX9_could 27 = .ok (.iconst 0, 1) := by decide +kernel
theorem dX9_could_28 : decode cX9_could 28 = .ok (.iconst 1, 1) := by decide +kernel
theorem dX9_could_29 : decode cX9_could 29 = .ok (.invokevirtual 147, 3) := by decide +kernel
theorem dX9_could_32 : decode cX9_could 32 = .ok (.ifCond .ne 5, 3) := by decide +kernel
theorem dX9_could_35 : decode cX9_could 35 = .ok (.iconst (-1), 1) := by decide +kernel
theorem dX9_could_36 : decode cX9_could 36 = .ok (.ireturn, 1) := by decide +kernel
theorem dX9_could_37 : decode cX9_could 37 = .ok (.iload 4, 2) := by decide +kernel
theorem dX9_could_39 : decode cX9_could 39 = .ok (.ifCond .ne 13, 3) := by decide +kernel
theorem dX9_could_42 : decode cX9_could 42 = .ok (.aload_n 0, 1) := by decide +kernel
theorem dX9_could_43 : decode cX9_could 43 = .ok (.iload_n 1, 1) := by decide +kernel
theorem dX9_could_44 : decode cX9_could 44 = .ok (.iload_n 2, 1) := by decide +kernel
theorem dX9_could_45 : decode cX9_could 45 = .ok (.iload_n 3, 1) := by decide +kernel
theorem dX9_could_46 : decode cX9_could 46 = .ok (.invokevirtual 206, 3) := by decide +kernel
theorem dX9_could_49 : decode cX9_could 49 = .ok (.goto 10, 3) := by decide +kernel
theorem dX9_could_52 : decode cX9_could 52 = .ok (.aload_n 0, 1) := by decide +kernel
theorem dX9_could_53 : decode cX9_could 53 = .ok (.iload_n 1, 1) := by decide +kernel
theorem dX9_could_54 : decode cX9_could 54 = .ok (.iload_n 2, 1) := by decide +kernel
theorem dX9_could_55 : decode cX9_could 55 = .ok (.iload_n 3, 1) := by decide +kernel
theorem dX9_could_56 : decode cX9_could 56 = .ok (.invokevirtual 203, 3) := by decide +kernel
theorem dX9_could_59 : decode cX9_could 59 = .ok (.ireturn, 1) := by decide +kernel
theorem dX9_first_0 : decode cX9_first 0 = .ok (.aload_n 0, 1) := by decide +kernel
theorem dX9_first_1 : decode cX9_first 1 = .ok (.iload_n 1, 1) := by decide +kernel
theorem dX9_first_2 : decode cX9_first 2 = .ok (.invokevirtual 155, 3) := by decide +kernel
theorem dX9_first_5 : decode cX9_first 5 = .ok (.ifCond .eq 19, 3) := by decide +kernel
theorem dX9_first_8 : decode cX9_first 8 = .ok (.aload_n 0, 1) := by decide +kernel
theorem dX9_first_9 : decode cX9_first 9 = .ok (.iload_n 2, 1) := by decide +kernel
theorem dX9_first_10 : decode cX9_first 10 = .ok (.invokevirtual 162, 3) := by decide +kernel
theorem dX9_first_13 : decode cX9_first 13 = .ok (.ifCond .eq 11, 3) := by decide +kernel
theorem dX9_first_16 : decode cX9_first 16 = .ok (.aload_n 0, 1) := by decide +kernel
theorem dX9_first_17 : decode cX9_first 17 = .ok (.iload_n 3, 1) := by decide +kernel
theorem dX9_first_18 : decode cX9_first 18 = .ok (.invokevirtual 159, 3) := by decide +kernel
theorem dX9_first_21 : decode cX9_first 21 = .ok (.ifCond .ne 5, 3) := by decide +kernel
theorem dX9_first_24 : decode cX9_first 24 = .ok (.iconst (-1), 1) := by decide +kernel
theorem dX9_first_25 : decode cX9_first 25 = .ok (.ireturn, 1) := by decide +kernel
theorem dX9_first_26 : decode cX9_first 26 = .ok (.iload_n 3, 1) := by decide +kernel
theorem dX9_first_27 : decode cX9_first 27 = .ok (.istore 5, 2) := by decide +kernel
theorem dX9_first_29 : decode cX9_first 29 = .ok (.iload 5, 2) := by decide +kernel
theorem dX9_first_31 : decode cX9_first 31 = .ok (.sipush 200, 3) := by decide +kernel
theorem dX9_first_34 : decode cX9_first 34 = .ok (.if_icmp .ge 33, 3) := by decide +kernel
theorem dX9_first_37 : decode cX9_first 37 = .ok (.aload_n 0, 1) := by decide +kernel
theorem dX9_first_38 : decode cX9_first 38 = .ok (.iload_n 1, 1) := by decide +kernel
theorem dX9_first_39 : decode cX9_first 39 = .ok (.iload_n 2, 1) := by decide +kernel
theorem dX9_first_40 : decode cX9_first 40 = .ok (.iload 5, 2) := by decide +kernel
theorem dX9_first_42 : decode cX9_first 42 = .ok (.invokevirtual 206, 3) := by decide +kernel
theorem dX9_first_45 : decode cX9_first 45 = .ok (.iload 4, 2) := by decide +kernel
theorem dX9_first_47 : decode cX9_first 47 = .ok (.ifCond .eq 7, 3) := by decide +kernel
theorem dX9_first_50 : decode cX9_first 50 = .ok (.iconst 2, 1) := by decide +kernel
theorem dX9_first_51 : decode cX9_first 51 = .ok (.goto 4, 3) := by decide +kernel
theorem dX9_first_54 : decode cX9_first 54 = .ok (.iconst 1, 1) := by decide +kernel
theorem dX9_first_55 : decode cX9_first 55 = .ok (.if_icmp .lt 6, 3) := by decide +kernel
theorem dX9_first_58 : decode cX9_first 58 = .ok (.iload 5, 2) := by decide +kernel
theorem dX9_first_60 : decode cX9_first 60 = .ok (.ireturn, 1) := by decide +kernel
theorem dX9_first_61 : decode cX9_first 61 = .ok (.iinc 5 1, 3) := by decide +kernel
theorem dX9_first_64 : decode cX9_first 64 = .ok (.goto (-35), 3) := by decide +kernel
theorem dX9_first_67 : decode cX9_first 67 = .ok (.bipush (-2), 2) := by decide +kernel
theorem dX9_first_69 : decode cX9_first 69 = .ok (.ireturn, 1) := by decide +kernel
theorem dX9_who_0 : decode cX9_who 0 = .ok (.aload_n 0, 1) := by decide +kernel
theorem dX9_who_1 : decode cX9_who 1 = .ok (.iload_n 1, 1) := by decide +kernel
theorem dX9_who_2 : decode cX9_who 2 = .ok (.invokevirtual 162, 3) := by decide +kernel
theorem dX9_who_5 : decode cX9_who 5 = .ok (.ifCond .eq 11, 3) := by decide +kernel
theorem dX9_who_8 : decode cX9_who 8 = .ok (.aload_n 0, 1) := by decide +kernel
theorem dX9_who_9 : decode cX9_who 9 = .ok (.iload_n 2, 1) := by decide +kernel
theorem dX9_who_10 : decode cX9_who 10 = .ok (.invokevirtual 159, 3) := by decide +kernel
theorem dX9_who_13 : decode cX9_who 13 = .ok (.ifCond .ne 5, 3) := by decide +kernel
theorem dX9_who_16 : decode cX9_who 16 = .ok (.iconst (-1), 1) := by decide +kernel
theorem dX9_who_17 : decode cX9_who 17 = .ok (.ireturn, 1) := by decide +kernel
theorem dX9_who_18 : decode cX9_who 18 = .ok (.iconst 0, 1) := by decide +kernel
theorem dX9_who_19 : decode cX9_who 19 = .ok (.istore 4, 2) := by decide +kernel
theorem dX9_who_21 : decode cX9_who 21 = .ok (.iconst 0, 1) := by decide +kernel
theorem dX9_who_22 : decode cX9_who 22 = .ok (.istore 5, 2) := by decide +kernel
theorem dX9_who_24 : decode cX9_who 24 = .ok (.iload 5, 2) := by decide +kernel
theorem dX9_who_26 : decode cX9_who 26 = .ok (.aload_n 0, 1) := by decide +kernel
theorem dX9_who_27 : decode cX9_who 27 = .ok (.getfield 16, 3) := by decide +kernel
theorem dX9_who_30 : decode cX9_who 30 = .ok (.if_icmp .ge 39, 3) := by decide +kernel
theorem dX9_who_33 : decode cX9_who 33 = .ok (.iload 4, 2) := by decide +kernel
theorem dX9_who_35 : decode cX9_who 35 = .ok (.aload_n 0, 1) := by decide +kernel
theorem dX9_who_36 : decode cX9_who 36 = .ok (.iload 5, 2) := by decide +kernel
theorem dX9_who_38 : decode cX9_who 38 = .ok (.iload_n 1, 1) := by decide +kernel
theorem dX9_who_39 : decode cX9_who 39 = .ok (.iload_n 2, 1) := by decide +kernel
theorem dX9_who_40 : decode cX9_who 40 = .ok (.invokevirtual 206, 3) := by decide +kernel
theorem dX9_who_43 : decode cX9_who 43 = .ok (.iload_n 3, 1) := by decide +kernel
theorem dX9_who_44 : decode cX9_who 44 = .ok (.ifCond .eq 7, 3) := by decide +kernel
theorem dX9_who_47 : decode cX9_who 47 = .ok (.iconst 2, 1) := by decide +kernel
theorem dX9_who_48 : decode cX9_who 48 = .ok (.goto 4, 3) := by decide +kernel
theorem dX9_who_51 : decode cX9_who 51 = .ok (.iconst 1, 1) := by decide +kernel
theorem dX9_who_52 : decode cX9_who 52 = .ok (.if_icmp .lt 7, 3) := by decide +kernel
theorem dX9_who_55 : decode cX9_who 55 = .ok (.iconst 1, 1) := by decide +kernel
theorem dX9_who_56 : decode cX9_who 56 = .ok (.goto 4, 3) := by decide +kernel
theorem dX9_who_59 : decode cX9_who 59 = .ok (.iconst 0, 1) := by decide +kernel
theorem dX9_who_60 : decode cX9_who 60 = .ok (.iadd, 1) := by decide +kernel
theorem dX9_who_61 : decode cX9_who 61 = .ok (.istore 4, 2) := by decide +kernel
theorem dX9_who_63 : decode cX9_who 63 = .ok (.iinc 5 1, 3) := by decide +kernel
theorem dX9_who_66 : decode cX9_who 66 = .ok (.goto (-42), 3) := by decide +kernel
theorem dX9_who_69 : decode cX9_who 69 = .ok (.iload 4, 2) := by decide +kernel
theorem dX9_who_71 : decode cX9_who 71 = .ok (.ireturn, 1) := by decide +kernel
theorem dX9_isRight_0 : decode cX9_isRight 0 = .ok (.aload_n 0, 1) := by decide +kernel
theorem dX9_isRight_1 : decode cX9_isRight 1 = .ok (.getfield 66, 3) := by decide +kernel
theorem dX9_isRight_4 : decode cX9_isRight 4 = .ok (.iload_n 1, 1) := by decide +kernel
theorem dX9_isRight_5 : decode cX9_isRight 5 = .ok (.iaload, 1) := by decide +kernel
theorem dX9_isRight_6 : decode cX9_isRight 6 = .ok (.istore 4, 2) := by decide +kernel
theorem dX9_isRight_8 : decode cX9_isRight 8 = .ok (.aload_n 0, 1) := by decide +kernel
theorem dX9_isRight_9 : decode cX9_isRight 9 = .ok (.getfield 72, 3) := by decide +kernel
theorem dX9_isRight_12 : decode cX9_isRight 12 = .ok (.sipush 200, 3) := by decide +kernel
theorem dX9_isRight_15 : decode cX9_isRight 15 = .ok (.iload 4, 2) := by decide +kernel
theorem dX9_isRight_17 : decode cX9_isRight 17 = .ok (.imul, 1) := by decide +kernel
theorem dX9_isRight_18 : decode cX9_isRight 18 = .ok (.iload_n 3, 1) := by decide +kernel
theorem dX9_isRight_19 : decode cX9_isRight 19 = .ok (.iadd, 1) := by decide +kernel
theorem dX9_isRight_20 : decode cX9_isRight 20 = .ok (.iconst (-1), 1) := by decide +kernel
theorem dX9_isRight_21 : decode cX9_isRight 21 = .ok (.iastore, 1) := by decide +kernel
theorem dX9_isRight_22 : decode cX9_isRight 22 = .ok (.aload_n 0, 1) := by decide +kernel
theorem dX9_isRight_23 : decode cX9_isRight 23 = .ok (.getfield 66, 3) := by decide +kernel
theorem dX9_isRight_26 : decode cX9_isRight 26 = .ok (.iload_n 1, 1) := by decide +kernel
theorem dX9_isRight_27 : decode cX9_isRight 27 = .ok (.iconst (-1), 1) := by decide +kernel
theorem dX9_isRight_28 : decode cX9_isRight 28 = .ok (.iastore, 1) := by decide +kernel
theorem dX9_isRight_29 : decode cX9_isRight 29 = .ok (.aload_n 0, 1) := by decide +kernel
theorem dX9_isRight_30 : decode cX9_isRight 30 = .ok (.iload 4, 2) := by decide +kernel
theorem dX9_isRight_32 : decode cX9_isRight 32 = .ok (.iload_n 2, 1) := by decide +kernel
theorem dX9_isRight_33 : decode cX9_isRight 33 = .ok (.iload_n 3, 1) := by decide +kernel
theorem dX9_isRight_34 : decode cX9_isRight 34 = .ok (.invokevirtual 206, 3) := by decide +kernel
theorem dX9_isRight_37 : decode cX9_isRight 37 = .ok (.ifCond .le 7, 3) := by decide +kernel
theorem dX9_isRight_40 : decode cX9_isRight 40 = .ok (.iconst 1, 1) := by decide +kernel
theorem dX9_isRight_41 : decode cX9_isRight 41 = .ok (.goto 4, 3) := by decide +kernel
theorem dX9_isRight_44 : decode cX9_isRight 44 = .ok (.iconst 0, 1) := by decide +kernel
theorem dX9_isRight_45 : decode cX9_isRight 45 = .ok (.istore 5, 2) := by decide +kernel
theorem dX9_isRight_47 : decode cX9_isRight 47 = .ok (.aload_n 0, 1) := by decide +kernel
theorem dX9_isRight_48 : decode cX9_isRight 48 = .ok (.iload 4, 2) := by decide +kernel
theorem dX9_isRight_50 : decode cX9_isRight 50 = .ok (.iload_n 1, 1) := by decide +kernel
theorem dX9_isRight_51 : decode cX9_isRight 51 = .ok (.iload_n 3, 1) := by decide +kernel
theorem dX9_isRight_52 : decode cX9_isRight 52 = .ok (.invokevirtual 169, 3) := by decide +kernel
theorem dX9_isRight_55 : decode cX9_isRight 55 = .ok (.iload 5, 2) := by decide +kernel
theorem dX9_isRight_57 : decode cX9_isRight 57 = .ok (.ireturn, 1) := by decide +kernel
theorem dX9_goThrough_0 : decode cX9_goThrough 0 = .ok (.aload_n 0, 1) := by decide +kernel
theorem dX9_goThrough_1 : decode cX9_goThrough 1 = .ok (.iconst 0, 1) := by decide +kernel
theorem dX9_goThrough_2 : decode cX9_goThrough 2 = .ok (.putfield 75, 3) := by decide +kernel
theorem dX9_goThrough_5 : decode cX9_goThrough 5 = .ok (.iconst 0, 1) := by decide +kernel
theorem dX9_goThrough_6 : decode cX9_goThrough 6 = .ok (.istore_n 2, 1) := by decide +kernel
theorem dX9_goThrough_7 : decode cX9_goThrough 7 = .ok (.iload_n 2, 1) := by decide +kernel
theorem dX9_goThrough_8 : decode cX9_goThrough 8 = .ok (.sipush 200, 3) := by decide +kernel
theorem dX9_goThrough_11 : decode cX9_goThrough 11 = .ok (.if_icmp .ge 115, 3) := by decide +kernel
theorem dX9_goThrough_14 : decode cX9_goThrough 14 = .ok (.iconst 0, 1) := by decide +kernel
theorem dX9_goThrough_15 : decode cX9_goThrough 15 = .ok (.istore_n 3, 1) := by decide +kernel
theorem dX9_goThrough_16 : decode cX9_goThrough 16 = .ok (.iload_n 3, 1) := by decide +kernel
theorem dX9_goThrough_17 : decode cX9_goThrough 17 = .ok (.aload_n 0, 1) := by decide +kernel
theorem dX9_goThrough_18 : decode cX9_goThrough 18 = .ok (.getfield 13, 3) := by decide +kernel
theorem dX9_goThrough_21 : decode cX9_goThrough 21 = .ok (.if_icmp .ge 99, 3) := by decide +kernel
theorem dX9_goThrough_24 : decode cX9_goThrough 24 = .ok (.iconst 0, 1) := by decide +kernel
theorem dX9_goThrough_25 : decode cX9_goThrough 25 = .ok (.istore 4, 2) := by decide +kernel
theorem dX9_goThrough_27 : decode cX9_goThrough 27 = .ok (.iload 4, 2) := by decide +kernel
theorem dX9_goThrough_29 : decode cX9_goThrough 29 = .ok (.aload_n 0, 1) := by decide +kernel
theorem dX9_goThrough_30 : decode cX9_goThrough 30 = .ok (.getfield 22, 3) := by decide +kernel
theorem dX9_goThrough_33 : decode cX9_goThrough 33 = .ok (.iload_n 3, 1) := by decide +kernel
theorem dX9_goThrough_34 : decode cX9_goThrough 34 = .ok (.iaload, 1) := by decide +kernel
theorem dX9_goThrough_35 : decode cX9_goThrough 35 = .ok (.if_icmp .ge 79, 3) := by decide +kernel
theorem dX9_goThrough_38 : decode cX9_goThrough 38 = .ok (.aload_n 0, 1) := by decide +kernel
theorem dX9_goThrough_39 : decode cX9_goThrough 39 = .ok (.iload_n 3, 1) := by decide +kernel
theorem dX9_goThrough_40 : decode cX9_goThrough 40 = .ok (.iload_n 2, 1) := by decide +kernel
theorem dX9_goThrough_41 : decode cX9_goThrough 41 = .ok (.iload 4, 2) := by decide +kernel
theorem dX9_goThrough_43 : decode cX9_goThrough 43 = .ok (.invokevirtual 165, 3) := by decide +kernel
theorem dX9_goThrough_46 : decode cX9_goThrough 46 = .ok (.istore 5, 2) := by decide +kernel
theorem dX9_goThrough_48 : decode cX9_goThrough 48 = .ok (.aload_n 0, 1) := by decide +kernel
theorem dX9_goThrough_49 : decode cX9_goThrough 49 = .ok (.getfield 66, 3) := by decide +kernel
theorem dX9_goThrough_52 : decode cX9_goThrough 52 = .ok (.iload 5, 2) := by decide +kernel
theorem dX9_goThrough_54 : decode cX9_goThrough 54 = .ok (.iaload, 1) := by decide +kernel
theorem dX9_goThrough_55 : decode cX9_goThrough 55 = .ok (.ifCond .lt 53, 3) := by decide +kernel
theorem dX9_goThrough_58 : decode cX9_goThrough 58 = .ok (.aload_n 0, 1) := by decide +kernel
theorem dX9_goThrough_59 : decode cX9_goThrough 59 = .ok (.getfield 69, 3) := by decide +kernel
theorem dX9_goThrough_62 : decode cX9_goThrough 62 = .ok (.iload 5, 2) := by decide +kernel
theorem dX9_goThrough_64 : decode cX9_goThrough 64 = .ok (.baload, 1) := by decide +kernel
theorem dX9_goThrough_65 : decode cX9_goThrough 65 = .ok (.ifCond .ne 43, 3) := by decide +kernel
theorem dX9_goThrough_68 : decode cX9_goThrough 68 = .ok (.aload_n 0, 1) := by decide +kernel
theorem dX9_goThrough_69 : decode cX9_goThrough 69 = .ok (.iload 5, 2) := by decide +kernel
theorem dX9_goThrough_71 : decode cX9_goThrough 71 = .ok (.iload_n 3, 1) := by decide +kernel
theorem dX9_goThrough_72 : decode cX9_goThrough 72 = .ok (.iload_n 2, 1) := by decide +kernel
theorem dX9_goThrough_73 : decode cX9_goThrough 73 = .ok (.invokevirtual 209, 3) := by decide +kernel
theorem dX9_goThrough_76 : decode cX9_goThrough 76 = .ok (.ifCond .eq 6, 3) := by decide +kernel
theorem dX9_goThrough_79 : decode cX9_goThrough 79 = .ok (.goto 29, 3) := by decide +kernel
theorem dX9_goThrough_82 : decode cX9_goThrough 82 = .ok (.aload_n 0, 1) := by decide +kernel
theorem dX9_goThrough_83 : decode cX9_goThrough 83 = .ok (.getfield 75, 3) := by decide +kernel
theorem dX9_goThrough_86 : decode cX9_goThrough 86 = .ok (.iload_n 1, 1) := by decide +kernel
theorem dX9_goThrough_87 : decode cX9_goThrough 87 = .ok (.if_icmp .ne 11, 3) := by decide +kernel
theorem dX9_goThrough_90 : decode cX9_goThrough 90 = .ok (.sipush 1000, 3) := by decide +kernel
theorem dX9_goThrough_93 : decode cX9_goThrough 93 = .ok (.iload_n 3, 1) := by decide +kernel
theorem dX9_goThrough_94 : decode cX9_goThrough 94 = .ok (.imul, 1) := by decide +kernel
theorem dX9_goThrough_95 : decode cX9_goThrough 95 = .ok (.iload_n 2, 1) := by decide +kernel
theorem dX9_goThrough_96 : decode cX9_goThrough 96 = .ok (.iadd, 1) := by decide +kernel
theorem dX9_goThrough_97 : decode cX9_goThrough 97 = .ok (.ireturn, 1) := by decide +kernel
theorem dX9_goThrough_98 : decode cX9_goThrough 98 = .ok (.aload_n 0, 1) := by decide +kernel
theorem dX9_goThrough_99 : decode cX9_goThrough 99 = .ok (.dup, 1) := by decide +kernel
theorem dX9_goThrough_100 : decode cX9_goThrough 100 = .ok (.getfield 75, 3) := by decide +kernel
theorem dX9_goThrough_103 : decode cX9_goThrough 103 = .ok (.iconst 1, 1) := by decide +kernel
theorem dX9_goThrough_104 : decode cX9_goThrough 104 = .ok (.iadd, 1) := by decide +kernel
theorem dX9_goThrough_105 : decode cX9_goThrough 105 = .ok (.putfield 75, 3) := by decide +kernel
theorem dX9_goThrough_108 : decode cX9_goThrough 108 = .ok (.iinc 4 1, 3) := by decide +kernel
theorem dX9_goThrough_111 : decode cX9_goThrough 111 = .ok (.goto (-84), 3) := by decide +kernel
theorem dX9_goThrough_114 : decode cX9_goThrough 114 = .ok (.iinc 3 1, 3) := by decide +kernel
theorem dX9_goThrough_117 : decode cX9_goThrough 117 = .ok (.goto (-101), 3) := by decide +kernel
theorem dX9_goThrough_120 : decode cX9_goThrough 120 = .ok (.iinc 2 1, 3) := by decide +kernel
theorem dX9_goThrough_123 : decode cX9_goThrough 123 = .ok (.goto (-116), 3) := by decide +kernel
theorem dX9_goThrough_126 : decode cX9_goThrough 126 = .ok (.bipush (-3), 2) := by decide +kernel
theorem dX9_goThrough_128 : decode cX9_goThrough 128 = .ok (.ireturn, 1) := by decide +kernel
theorem dX9_breaches_0 : decode cX9_breaches 0 = .ok (.aload_n 0, 1) := by decide +kernel
theorem dX9_breaches_1 : decode cX9_breaches 1 = .ok (.iconst (-1), 1) := by decide +kernel
theorem dX9_breaches_2 : decode cX9_breaches 2 = .ok (.invokevirtual 212, 3) := by decide +kernel
theorem dX9_breaches_5 : decode cX9_breaches 5 = .ok (.istore_n 1, 1) := by decide +kernel
theorem dX9_breaches_6 : decode cX9_breaches 6 = .ok (.aload_n 0, 1) := by decide +kernel
theorem dX9_breaches_7 : decode cX9_breaches 7 = .ok (.getfield 75, 3) := by decide +kernel
theorem dX9_breaches_10 : decode cX9_breaches 10 = .ok (.ireturn, 1) := by decide +kernel
theorem dX9_breach_0 : decode cX9_breach 0 = .ok (.iload_n 1, 1) := by decide +kernel
theorem dX9_breach_1 : decode cX9_breach 1 = .ok (.ifCond .ge 7, 3) := by decide +kernel
theorem dX9_breach_4 : decode cX9_breach 4 = .ok (.iconst (-1), 1) := by decide +kernel
theorem dX9_breach_5 : decode cX9_breach 5 = .ok (.goto 8, 3) := by decide +kernel
theorem dX9_breach_8 : decode cX9_breach 8 = .ok (.aload_n 0, 1) := by decide +kernel
theorem dX9_breach_9 : decode cX9_breach 9 = .ok (.iload_n 1, 1) := by decide +kernel
theorem dX9_breach_10 : decode cX9_breach 10 = .ok (.invokevirtual 212, 3) := by decide +kernel
theorem dX9_breach_13 : decode cX9_breach 13 = .ok (.ireturn, 1) := by decide +kernel
theorem dX9_areAllRight_0 : decode cX9_areAllRight 0 = .ok (.iconst 1, 1) := by decide +kernel
theorem dX9_areAllRight_1 : decode cX9_areAllRight 1 = .ok (.istore_n 2, 1) := by decide +kernel
theorem dX9_areAllRight_2 : decode cX9_areAllRight 2 = .ok (.iconst 0, 1) := by decide +kernel
theorem dX9_areAllRight_3 : decode cX9_areAllRight 3 = .ok (.istore_n 3, 1) := by decide +kernel
theorem dX9_areAllRight_4 : decode cX9_areAllRight 4 = .ok (.iload_n 3, 1) := by decide +kernel
theorem dX9_areAllRight_5 : decode cX9_areAllRight 5 = .ok (.aload_n 0, 1) := by decide +kernel
theorem dX9_areAllRight_6 : decode cX9_areAllRight 6 = .ok (.getfield 78, 3) := by decide +kernel
theorem dX9_areAllRight_9 : decode cX9_areAllRight 9 = .ok (.if_icmp .ge 43, 3) := by decide +kernel
theorem dX9_areAllRight_12 : decode cX9_areAllRight 12 = .ok (.iload_n 2, 1) := by decide +kernel
theorem dX9_areAllRight_13 : decode cX9_areAllRight 13 = .ok (.ifCond .eq 31, 3) := by decide +kernel
theorem dX9_areAllRight_16 : decode cX9_areAllRight 16 = .ok (.aload_n 0, 1) := by decide +kernel
theorem dX9_areAllRight_17 : decode cX9_areAllRight 17 = .ok (.aload_n 0, 1) := by decide +kernel
theorem dX9_areAllRight_18 : decode cX9_areAllRight 18 = .ok (.getfield 93, 3) := by decide +kernel
theorem dX9_areAllRight_21 : decode cX9_areAllRight 21 = .ok (.iload_n 3, 1) := by decide +kernel
theorem dX9_areAllRight_22 : decode cX9_areAllRight 22 = .ok (.iaload, 1) := by decide +kernel
theorem dX9_areAllRight_23 : decode cX9_areAllRight 23 = .ok (.aload_n 0, 1) := by decide +kernel
theorem dX9_areAllRight_24 : decode cX9_areAllRight 24 = .ok (.aload_n 0, 1) := by decide +kernel
theorem dX9_areAllRight_25 : decode cX9_areAllRight 25 = .ok (.getfield 93, 3) := by decide +kernel
theorem dX9_areAllRight_28 : decode cX9_areAllRight 28 = .ok (.iload_n 3, 1) := by decide +kernel
theorem dX9_areAllRight_29 : decode cX9_areAllRight 29 = .ok (.iaload, 1) := by decide +kernel
theorem dX9_areAllRight_30 : decode cX9_areAllRight 30 = .ok (.invokevirtual 180, 3) := by decide +kernel
theorem dX9_areAllRight_33 : decode cX9_areAllRight 33 = .ok (.iload_n 1, 1) := by decide +kernel
theorem dX9_areAllRight_34 : decode cX9_areAllRight 34 = .ok (.invokevirtual 209, 3) := by decide +kernel
theorem dX9_areAllRight_37 : decode cX9_areAllRight 37 = .ok (.ifCond .eq 7, 3) := by decide +kernel
theorem dX9_areAllRight_40 : decode cX9_areAllRight 40 = .ok (.iconst 1, 1) := by decide +kernel
theorem dX9_areAllRight_41 : decode cX9_areAllRight 41 = .ok (.goto 4, 3) := by decide +kernel
theorem dX9_areAllRight_44 : decode cX9_areAllRight 44 = .ok (.iconst 0, 1) := by decide +kernel
theorem dX9_areAllRight_45 : decode cX9_areAllRight 45 = .ok (.istore_n 2, 1) := by decide +kernel
theorem dX9_areAllRight_46 : decode cX9_areAllRight 46 = .ok (.iinc 3 1, 3) := by decide +kernel
theorem dX9_areAllRight_49 : decode cX9_areAllRight 49 = .ok (.goto (-45), 3) := by decide +kernel
theorem dX9_areAllRight_52 : decode cX9_areAllRight 52 = .ok (.iload_n 2, 1) := by decide +kernel
theorem dX9_areAllRight_53 : decode cX9_areAllRight 53 = .ok (.ireturn, 1) := by decide +kernel
theorem dX9_takeBack_0 : decode cX9_takeBack 0 = .ok (.aload_n 0, 1) := by decide +kernel
theorem dX9_takeBack_1 : decode cX9_takeBack 1 = .ok (.getfield 66, 3) := by decide +kernel
theorem dX9_takeBack_4 : decode cX9_takeBack 4 = .ok (.aload_n 0, 1) := by decide +kernel
theorem dX9_takeBack_5 : decode cX9_takeBack 5 = .ok (.getfield 93, 3) := by decide +kernel
theorem dX9_takeBack_8 : decode cX9_takeBack 8 = .ok (.iload_n 1, 1) := by decide +kernel
theorem dX9_takeBack_9 : decode cX9_takeBack 9 = .ok (.iaload, 1) := by decide +kernel
theorem dX9_takeBack_10 : decode cX9_takeBack 10 = .ok (.iaload, 1) := by decide +kernel
theorem dX9_takeBack_11 : decode cX9_takeBack 11 = .ok (.istore_n 3, 1) := by decide +kernel
theorem dX9_takeBack_12 : decode cX9_takeBack 12 = .ok (.aload_n 0, 1) := by decide +kernel
theorem dX9_takeBack_13 : decode cX9_takeBack 13 = .ok (.getfield 72, 3) := by decide +kernel
theorem dX9_takeBack_16 : decode cX9_takeBack 16 = .ok (.sipush 200, 3) := by decide +kernel
theorem dX9_takeBack_19 : decode cX9_takeBack 19 = .ok (.iload_n 3, 1) := by decide +kernel
theorem dX9_takeBack_20 : decode cX9_takeBack 20 = .ok (.imul, 1) := by decide +kernel
theorem dX9_takeBack_21 : decode cX9_takeBack 21 = .ok (.iload_n 2, 1) := by decide +kernel
theorem dX9_takeBack_22 : decode cX9_takeBack 22 = .ok (.iadd, 1) := by decide +kernel
theorem dX9_takeBack_23 : decode cX9_takeBack 23 = .ok (.iconst (-1), 1) := by decide +kernel
theorem dX9_takeBack_24 : decode cX9_takeBack 24 = .ok (.iastore, 1) := by decide +kernel
theorem dX9_takeBack_25 : decode cX9_takeBack 25 = .ok (.aload_n 0, 1) := by decide +kernel
theorem dX9_takeBack_26 : decode cX9_takeBack 26 = .ok (.getfield 66, 3) := by decide +kernel
theorem dX9_takeBack_29 : decode cX9_takeBack 29 = .ok (.aload_n 0, 1) := by decide +kernel
theorem dX9_takeBack_30 : decode cX9_takeBack 30 = .ok (.getfield 93, 3) := by decide +kernel
theorem dX9_takeBack_33 : decode cX9_takeBack 33 = .ok (.iload_n 1, 1) := by decide +kernel
theorem dX9_takeBack_34 : decode cX9_takeBack 34 = .ok (.iaload, 1) := by decide +kernel
theorem dX9_takeBack_35 : decode cX9_takeBack 35 = .ok (.iconst (-1), 1) := by decide +kernel
theorem dX9_takeBack_36 : decode cX9_takeBack 36 = .ok (.iastore, 1) := by decide +kernel
theorem dX9_takeBack_37 : decode cX9_takeBack 37 = .ok (.return_, 1) := by decide +kernel
theorem dX9_isAmong_0 : decode cX9_isAmong 0 = .ok (.iconst 0, 1) := by decide +kernel
theorem dX9_isAmong_1 : decode cX9_isAmong 1 = .ok (.istore_n 1, 1) := by decide +kernel
theorem dX9_isAmong_2 : decode cX9_isAmong 2 = .ok (.iload_n 1, 1) := by decide +kernel
theorem dX9_isAmong_3 : decode cX9_isAmong 3 = .ok (.aload_n 0, 1) := by decide +kernel
theorem dX9_isAmong_4 : decode cX9_isAmong 4 = .ok (.getfield 78, 3) := by decide +kernel
theorem dX9_isAmong_7 : decode cX9_isAmong 7 = .ok (.if_icmp .ge 46, 3) := by decide +kernel
theorem dX9_isAmong_10 : decode cX9_isAmong 10 = .ok (.aload_n 0, 1) := by decide +kernel
theorem dX9_isAmong_11 : decode cX9_isAmong 11 = .ok (.getfield 66, 3) := by decide +kernel
theorem dX9_isAmong_14 : decode cX9_isAmong 14 = .ok (.aload_n 0, 1) := by decide +kernel
theorem dX9_isAmong_15 : decode cX9_isAmong 15 = .ok (.getfield 93, 3) := by decide +kernel
theorem dX9_isAmong_18 : decode cX9_isAmong 18 = .ok (.iload_n 1, 1) := by decide +kernel
theorem dX9_isAmong_19 : decode cX9_isAmong 19 = .ok (.iaload, 1) := by decide +kernel
theorem dX9_isAmong_20 : decode cX9_isAmong 20 = .ok (.iaload, 1) := by decide +kernel
theorem dX9_isAmong_21 : decode cX9_isAmong 21 = .ok (.aload_n 0, 1) := by decide +kernel
theorem dX9_isAmong_22 : decode cX9_isAmong 22 = .ok (.getfield 84, 3) := by decide +kernel
theorem dX9_isAmong_25 : decode cX9_isAmong 25 = .ok (.if_icmp .ne 22, 3) := by decide +kernel
theorem dX9_isAmong_28 : decode cX9_isAmong 28 = .ok (.aload_n 0, 1) := by decide +kernel
theorem dX9_isAmong_29 : decode cX9_isAmong 29 = .ok (.aload_n 0, 1) := by decide +kernel
theorem dX9_isAmong_30 : decode cX9_isAmong 30 = .ok (.getfield 93, 3) := by decide +kernel
theorem dX9_isAmong_33 : decode cX9_isAmong 33 = .ok (.iload_n 1, 1) := by decide +kernel
theorem dX9_isAmong_34 : decode cX9_isAmong 34 = .ok (.iaload, 1) := by decide +kernel
theorem dX9_isAmong_35 : decode cX9_isAmong 35 = .ok (.invokevirtual 180, 3) := by decide +kernel
theorem dX9_isAmong_38 : decode cX9_isAmong 38 = .ok (.aload_n 0, 1) := by decide +kernel
theorem dX9_isAmong_39 : decode cX9_isAmong 39 = .ok (.getfield 87, 3) := by decide +kernel
theorem dX9_isAmong_42 : decode cX9_isAmong 42 = .ok (.if_icmp .ne 5, 3) := by decide +kernel
theorem dX9_isAmong_45 : decode cX9_isAmong 45 = .ok (.iconst 1, 1) := by decide +kernel
theorem dX9_isAmong_46 : decode cX9_isAmong 46 = .ok (.ireturn, 1) := by decide +kernel
theorem dX9_isAmong_47 : decode cX9_isAmong 47 = .ok (.iinc 1 1, 3) := by decide +kernel
theorem dX9_isAmong_50 : decode cX9_isAmong 50 = .ok (.goto (-48), 3) := by decide +kernel
theorem dX9_isAmong_53 : decode cX9_isAmong 53 = .ok (.iconst 0, 1) := by decide +kernel
theorem dX9_isAmong_54 : decode cX9_isAmong 54 = .ok (.ireturn, 1) := by decide +kernel
theorem dX9_fillYear_0 : decode cX9_fillYear 0 = .ok (.aload_n 0, 1) := by decide +kernel
theorem dX9_fillYear_1 : decode cX9_fillYear 1 = .ok (.iconst 0, 1) := by decide +kernel
theorem dX9_fillYear_2 : decode cX9_fillYear 2 = .ok (.putfield 78, 3) := by decide +kernel
theorem dX9_fillYear_5 : decode cX9_fillYear 5 = .ok (.aload_n 0, 1) := by decide +kernel
theorem dX9_fillYear_6 : decode cX9_fillYear 6 = .ok (.iconst 0, 1) := by decide +kernel
theorem dX9_fillYear_7 : decode cX9_fillYear 7 = .ok (.putfield 81, 3) := by decide +kernel
theorem dX9_fillYear_10 : decode cX9_fillYear 10 = .ok (.aload_n 0, 1) := by decide +kernel
theorem dX9_fillYear_11 : decode cX9_fillYear 11 = .ok (.iconst 0, 1) := by decide +kernel
theorem dX9_fillYear_12 : decode cX9_fillYear 12 = .ok (.putfield 90, 3) := by decide +kernel
theorem dX9_fillYear_15 : decode cX9_fillYear 15 = .ok (.iconst 0, 1) := by decide +kernel
theorem dX9_fillYear_16 : decode cX9_fillYear 16 = .ok (.istore_n 3, 1) := by decide +kernel
theorem dX9_fillYear_17 : decode cX9_fillYear 17 = .ok (.iload_n 3, 1) := by decide +kernel
theorem dX9_fillYear_18 : decode cX9_fillYear 18 = .ok (.aload_n 0, 1) := by decide +kernel
theorem dX9_fillYear_19 : decode cX9_fillYear 19 = .ok (.getfield 13, 3) := by decide +kernel
theorem dX9_fillYear_22 : decode cX9_fillYear 22 = .ok (.if_icmp .ge 75, 3) := by decide +kernel
theorem dX9_fillYear_25 : decode cX9_fillYear 25 = .ok (.iconst 0, 1) := by decide +kernel
theorem dX9_fillYear_26 : decode cX9_fillYear 26 = .ok (.istore 4, 2) := by decide +kernel
theorem dX9_fillYear_28 : decode cX9_fillYear 28 = .ok (.iload 4, 2) := by decide +kernel
theorem dX9_fillYear_30 : decode cX9_fillYear 30 = .ok (.aload_n 0, 1) := by decide +kernel
theorem dX9_fillYear_31 : decode cX9_fillYear 31 = .ok (.getfield 22, 3) := by decide +kernel
theorem dX9_fillYear_34 : decode cX9_fillYear 34 = .ok (.iload_n 3, 1) := by decide +kernel
theorem dX9_fillYear_35 : decode cX9_fillYear 35 = .ok (.iaload, 1) := by decide +kernel
theorem dX9_fillYear_36 : decode cX9_fillYear 36 = .ok (.if_icmp .ge 55, 3) := by decide +kernel
theorem dX9_fillYear_39 : decode cX9_fillYear 39 = .ok (.aload_n 0, 1) := by decide +kernel
theorem dX9_fillYear_40 : decode cX9_fillYear 40 = .ok (.getfield 66, 3) := by decide +kernel
theorem dX9_fillYear_43 : decode cX9_fillYear 43 = .ok (.aload_n 0, 1) := by decide +kernel
theorem dX9_fillYear_44 : decode cX9_fillYear 44 = .ok (.iload_n 3, 1) := by decide +kernel
theorem dX9_fillYear_45 : decode cX9_fillYear 45 = .ok (.iload_n 1, 1) := by decide +kernel
theorem dX9_fillYear_46 : decode cX9_fillYear 46 = .ok (.iload 4, 2) := by decide +kernel
theorem dX9_fillYear_48 : decode cX9_fillYear 48 = .ok (.invokevirtual 165, 3) := by decide +kernel
theorem dX9_fillYear_51 : decode cX9_fillYear 51 = .ok (.iaload, 1) := by decide +kernel
theorem dX9_fillYear_52 : decode cX9_fillYear 52 = .ok (.ifCond .lt 6, 3) := by decide +kernel
theorem dX9_fillYear_55 : decode cX9_fillYear 55 = .ok (.goto 30, 3) := by decide +kernel
theorem dX9_fillYear_58 : decode cX9_fillYear 58 = .ok (.aload_n 0, 1) := by decide +kernel
theorem dX9_fillYear_59 : decode cX9_fillYear 59 = .ok (.getfield 93, 3) := by decide +kernel
theorem dX9_fillYear_62 : decode cX9_fillYear 62 = .ok (.aload_n 0, 1) := by decide +kernel
theorem dX9_fillYear_63 : decode cX9_fillYear 63 = .ok (.getfield 78, 3) := by decide +kernel
theorem dX9_fillYear_66 : decode cX9_fillYear 66 = .ok (.aload_n 0, 1) := by decide +kernel
theorem dX9_fillYear_67 : decode cX9_fillYear 67 = .ok (.iload_n 3, 1) := by decide +kernel
theorem dX9_fillYear_68 : decode cX9_fillYear 68 = .ok (.iload_n 1, 1) := by decide +kernel
theorem dX9_fillYear_69 : decode cX9_fillYear 69 = .ok (.iload 4, 2) := by decide +kernel
theorem dX9_fillYear_71 : decode cX9_fillYear 71 = .ok (.invokevirtual 165, 3) := by decide +kernel
theorem dX9_fillYear_74 : decode cX9_fillYear 74 = .ok (.iastore, 1) := by decide +kernel
theorem dX9_fillYear_75 : decode cX9_fillYear 75 = .ok (.aload_n 0, 1) := by decide +kernel
theorem dX9_fillYear_76 : decode cX9_fillYear 76 = .ok (.dup, 1) := by decide +kernel
theorem dX9_fillYear_77 : decode cX9_fillYear 77 = .ok (.getfield 78, 3) := by decide +kernel
theorem dX9_fillYear_80 : decode cX9_fillYear 80 = .ok (.iconst 1, 1) := by decide +kernel
theorem dX9_fillYear_81 : decode cX9_fillYear 81 = .ok (.iadd, 1) := by decide +kernel
theorem dX9_fillYear_82 : decode cX9_fillYear 82 = .ok (.putfield 78, 3) := by decide +kernel
theorem dX9_fillYear_85 : decode cX9_fillYear 85 = .ok (.iinc 4 1, 3) := by decide +kernel
theorem dX9_fillYear_88 : decode cX9_fillYear 88 = .ok (.goto (-60), 3) := by decide +kernel
theorem dX9_fillYear_91 : decode cX9_fillYear 91 = .ok (.iinc 3 1, 3) := by decide +kernel
theorem dX9_fillYear_94 : decode cX9_fillYear 94 = .ok (.goto (-77), 3) := by decide +kernel
theorem dX9_fillYear_97 : decode cX9_fillYear 97 = .ok (.iconst 0, 1) := by decide +kernel
theorem dX9_fillYear_98 : decode cX9_fillYear 98 = .ok (.istore_n 3, 1) := by decide +kernel
theorem dX9_fillYear_99 : decode cX9_fillYear 99 = .ok (.iconst 0, 1) := by decide +kernel
theorem dX9_fillYear_100 : decode cX9_fillYear 100 = .ok (.istore 4, 2) := by decide +kernel
theorem dX9_fillYear_102 : decode cX9_fillYear 102 = .ok (.aload_n 0, 1) := by decide +kernel
theorem dX9_fillYear_103 : decode cX9_fillYear 103 = .ok (.getfield 96, 3) := by decide +kernel
theorem dX9_fillYear_106 : decode cX9_fillYear 106 = .ok (.iconst 0, 1) := by decide +kernel
theorem dX9_fillYear_107 : decode cX9_fillYear 107 = .ok (.iconst (-1), 1) := by decide +kernel
theorem dX9_fillYear_108 : decode cX9_fillYear 108 = .ok (.iastore, 1) := by decide +kernel
theorem dX9_fillYear_109 : decode cX9_fillYear 109 = .ok (.iload 4, 2) := by decide +kernel
theorem dX9_fillYear_111 : decode cX9_fillYear 111 = .ok (.ifCond .lt 247, 3) := by decide +kernel
theorem dX9_fillYear_114 : decode cX9_fillYear 114 = .ok (.iload 4, 2) := by decide +kernel
theorem dX9_fillYear_116 : decode cX9_fillYear 116 = .ok (.aload_n 0, 1) := by decide +kernel
theorem dX9_fillYear_117 : decode cX9_fillYear 117 = .ok (.getfield 78, 3) := by decide +kernel
theorem dX9_fillYear_120 : decode cX9_fillYear 120 = .ok (.if_icmp .ne 59, 3) := by decide +kernel
theorem dX9_fillYear_123 : decode cX9_fillYear 123 = .ok (.aload_n 0, 1) := by decide +kernel
theorem dX9_fillYear_124 : decode cX9_fillYear 124 = .ok (.iload_n 1, 1) := by decide +kernel
theorem dX9_fillYear_125 : decode cX9_fillYear 125 = .ok (.invokevirtual 215, 3) := by decide +kernel
theorem dX9_fillYear_128 : decode cX9_fillYear 128 = .ok (.ifCond .eq 33, 3) := by decide +kernel
theorem dX9_fillYear_131 : decode cX9_fillYear 131 = .ok (.iinc 3 1, 3) := by decide +kernel
theorem dX9_fillYear_134 : decode cX9_fillYear 134 = .ok (.iload_n 2, 1) := by decide +kernel
theorem dX9_fillYear_135 : decode cX9_fillYear 135 = .ok (.ifCond .ne 5, 3) := by decide +kernel
theorem dX9_fillYear_138 : decode cX9_fillYear 138 = .ok (.iconst 1, 1) := by decide +kernel
theorem dX9_fillYear_139 : decode cX9_fillYear 139 = .ok (.ireturn, 1) := by decide +kernel
theorem dX9_fillYear_140 : decode cX9_fillYear 140 = .ok (.aload_n 0, 1) := by decide +kernel
theorem dX9_fillYear_141 : decode cX9_fillYear 141 = .ok (.dup, 1) := by decide +kernel
theorem dX9_fillYear_142 : decode cX9_fillYear 142 = .ok (.getfield 90, 3) := by decide +kernel
theorem dX9_fillYear_145 : decode cX9_fillYear 145 = .ok (.aload_n 0, 1) := by decide +kernel
theorem dX9_fillYear_146 : decode cX9_fillYear 146 = .ok (.invokevirtual 218, 3) := by decide +kernel
theorem dX9_fillYear_149 : decode cX9_fillYear 149 = .ok (.ifCond .eq 7, 3) := by decide +kernel
theorem dX9_fillYear_152 : decode cX9_fillYear 152 = .ok (.iconst 1, 1) := by decide +kernel
theorem dX9_fillYear_153 : decode cX9_fillYear 153 = .ok (.goto 4, 3) := by decide +kernel
theorem dX9_fillYear_156 : decode cX9_fillYear 156 = .ok (.iconst 0, 1) := by decide +kernel
theorem dX9_fillYear_157 : decode cX9_fillYear 157 = .ok (.iadd, 1) := by decide +kernel
theorem dX9_fillYear_158 : decode cX9_fillYear 158 = .ok (.putfield 90, 3) := by decide +kernel
theorem dX9_fillYear_161 : decode cX9_fillYear 161 = .ok (.iinc 4 (-1), 3) := by decide +kernel
theorem dX9_fillYear_164 : decode cX9_fillYear 164 = .ok (.iload 4, 2) := by decide +kernel
theorem dX9_fillYear_166 : decode cX9_fillYear 166 = .ok (.ifCond .lt (-57), 3) := by decide +kernel
theorem dX9_fillYear_169 : decode cX9_fillYear 169 = .ok (.aload_n 0, 1) := by decide +kernel
theorem dX9_fillYear_170 : decode cX9_fillYear 170 = .ok (.iload 4, 2) := by decide +kernel
theorem dX9_fillYear_172 : decode cX9_fillYear 172 = .ok (.iload_n 1, 1) := by decide +kernel
theorem dX9_fillYear_173 : decode cX9_fillYear 173 = .ok (.invokevirtual 222, 3) := by decide +kernel
theorem dX9_fillYear_176 : decode cX9_fillYear 176 = .ok (.goto (-67), 3) := by decide +kernel
theorem dX9_fillYear_179 : decode cX9_fillYear 179 = .ok (.aload_n 0, 1) := by decide +kernel
theorem dX9_fillYear_180 : decode cX9_fillYear 180 = .ok (.getfield 96, 3) := by decide +kernel
theorem dX9_fillYear_183 : decode cX9_fillYear 183 = .ok (.iload 4, 2) := by decide +kernel
theorem dX9_fillYear_185 : decode cX9_fillYear 185 = .ok (.dup2, 1) := by decide +kernel
theorem dX9_fillYear_186 : decode cX9_fillYear 186 = .ok (.iaload, 1) := by decide +kernel
theorem dX9_fillYear_187 : decode cX9_fillYear 187 = .ok (.iconst 1, 1) := by decide +kernel
theorem dX9_fillYear_188 : decode cX9_fillYear 188 = .ok (.iadd, 1) := by decide +kernel
theorem dX9_fillYear_189 : decode cX9_fillYear 189 = .ok (.iastore, 1) := by decide +kernel
theorem dX9_fillYear_190 : decode cX9_fillYear 190 = .ok (.aload_n 0, 1) := by decide +kernel
theorem dX9_fillYear_191 : decode cX9_fillYear 191 = .ok (.getfield 96, 3) := by decide +kernel
theorem dX9_fillYear_194 : decode cX9_fillYear 194 = .ok (.iload 4, 2) := by decide +kernel
theorem dX9_fillYear_196 : decode cX9_fillYear 196 = .ok (.iaload, 1) := by decide +kernel
theorem dX9_fillYear_197 : decode cX9_fillYear 197 = .ok (.istore 5, 2) := by decide +kernel
theorem dX9_fillYear_199 : decode cX9_fillYear 199 = .ok (.iload 5, 2) := by decide +kernel
theorem dX9_fillYear_201 : decode cX9_fillYear 201 = .ok (.aload_n 0, 1) := by decide +kernel
theorem dX9_fillYear_202 : decode cX9_fillYear 202 = .ok (.getfield 16, 3) := by decide +kernel
theorem dX9_fillYear_205 : decode cX9_fillYear 205 = .ok (.if_icmp .lt 21, 3) := by decide +kernel
theorem dX9_fillYear_208 : decode cX9_fillYear 208 = .ok (.iinc 4 (-1), 3) := by decide +kernel
theorem dX9_fillYear_211 : decode cX9_fillYear 211 = .ok (.iload 4, 2) := by decide +kernel
theorem dX9_fillYear_213 : decode cX9_fillYear 213 = .ok (.ifCond .lt (-104), 3) := by decide +kernel
theorem dX9_fillYear_216 : decode cX9_fillYear 216 = .ok (.aload_n 0, 1) := by decide +kernel
theorem dX9_fillYear_217 : decode cX9_fillYear 217 = .ok (.iload 4, 2) := by decide +kernel
theorem dX9_fillYear_219 : decode cX9_fillYear 219 = .ok (.iload_n 1, 1) := by decide +kernel
theorem dX9_fillYear_220 : decode cX9_fillYear 220 = .ok (.invokevirtual 222, 3) := by decide +kernel
theorem dX9_fillYear_223 : decode cX9_fillYear 223 = .ok (.goto (-114), 3) := by decide +kernel
theorem dX9_fillYear_226 : decode cX9_fillYear 226 = .ok (.aload_n 0, 1) := by decide +kernel
theorem dX9_fillYear_227 : decode cX9_fillYear 227 = .ok (.getfield 81, 3) := by decide +kernel
theorem dX9_fillYear_230 : decode cX9_fillYear 230 = .ok (.sipush 20000, 3) := by decide +kernel
theorem dX9_fillYear_233 : decode cX9_fillYear 233 = .ok (.if_icmp .ne 29, 3) := by decide +kernel
theorem dX9_fillYear_236 : decode cX9_fillYear 236 = .ok (.iconst 0, 1) := by decide +kernel
theorem dX9_fillYear_237 : decode cX9_fillYear 237 = .ok (.istore 6, 2) := by decide +kernel
theorem dX9_fillYear_239 : decode cX9_fillYear 239 = .ok (.iload 6, 2) := by decide +kernel
theorem dX9_fillYear_241 : decode cX9_fillYear 241 = .ok (.iload 4, 2) := by decide +kernel
theorem dX9_fillYear_243 : decode cX9_fillYear 243 = .ok (.if_icmp .ge 16, 3) := by decide +kernel
theorem dX9_fillYear_246 : decode cX9_fillYear 246 = .ok (.aload_n 0, 1) := by decide +kernel
theorem dX9_fillYear_247 : decode cX9_fillYear 247 = .ok (.iload 6, 2) := by decide +kernel
theorem dX9_fillYear_249 : decode cX9_fillYear 249 = .ok (.iload_n 1, 1) := by decide +kernel
theorem dX9_fillYear_250 : decode cX9_fillYear 250 = .ok (.invokevirtual 222, 3) := by decide +kernel
theorem dX9_fillYear_253 : decode cX9_fillYear 253 = .ok (.iinc 6 1, 3) := by decide +kernel
theorem dX9_fillYear_256 : decode cX9_fillYear 256 = .ok (.goto (-17), 3) := by decide +kernel
theorem dX9_fillYear_259 : decode cX9_fillYear 259 = .ok (.bipush (-8), 2) := by decide +kernel
theorem dX9_fillYear_261 : decode cX9_fillYear 261 = .ok (.ireturn, 1) := by decide +kernel
theorem dX9_fillYear_262 : decode cX9_fillYear 262 = .ok (.aload_n 0, 1) := by decide +kernel
theorem dX9_fillYear_263 : decode cX9_fillYear 263 = .ok (.dup, 1) := by decide +kernel
theorem dX9_fillYear_264 : decode cX9_fillYear 264 = .ok (.getfield 81, 3) := by decide +kernel
theorem dX9_fillYear_267 : decode cX9_fillYear 267 = .ok (.iconst 1, 1) := by decide +kernel
theorem dX9_fillYear_268 : decode cX9_fillYear 268 = .ok (.iadd, 1) := by decide +kernel
theorem dX9_fillYear_269 : decode cX9_fillYear 269 = .ok (.putfield 81, 3) := by decide +kernel
theorem dX9_fillYear_272 : decode cX9_fillYear 272 = .ok (.aload_n 0, 1) := by decide +kernel
theorem dX9_fillYear_273 : decode cX9_fillYear 273 = .ok (.aload_n 0, 1) := by decide +kernel
theorem dX9_fillYear_274 : decode cX9_fillYear 274 = .ok (.getfield 93, 3) := by decide +kernel
theorem dX9_fillYear_277 : decode cX9_fillYear 277 = .ok (.iload 4, 2) := by decide +kernel
theorem dX9_fillYear_279 : decode cX9_fillYear 279 = .ok (.iaload, 1) := by decide +kernel
theorem dX9_fillYear_280 : decode cX9_fillYear 280 = .ok (.invokevirtual 180, 3) := by decide +kernel
theorem dX9_fillYear_283 : decode cX9_fillYear 283 = .ok (.istore 6, 2) := by decide +kernel
theorem dX9_fillYear_285 : decode cX9_fillYear 285 = .ok (.aload_n 0, 1) := by decide +kernel
theorem dX9_fillYear_286 : decode cX9_fillYear 286 = .ok (.iload 5, 2) := by decide +kernel
theorem dX9_fillYear_288 : decode cX9_fillYear 288 = .ok (.iload 6, 2) := by decide +kernel
theorem dX9_fillYear_290 : decode cX9_fillYear 290 = .ok (.iload_n 1, 1) := by decide +kernel
theorem dX9_fillYear_291 : decode cX9_fillYear 291 = .ok (.invokevirtual 206, 3) := by decide +kernel
theorem dX9_fillYear_294 : decode cX9_fillYear 294 = .ok (.ifCond .ne 6, 3) := by decide +kernel
theorem dX9_fillYear_297 : decode cX9_fillYear 297 = .ok (.goto (-188), 3) := by decide +kernel
theorem dX9_fillYear_300 : decode cX9_fillYear 300 = .ok (.aload_n 0, 1) := by decide +kernel
theorem dX9_fillYear_301 : decode cX9_fillYear 301 = .ok (.iload 5, 2) := by decide +kernel
theorem dX9_fillYear_303 : decode cX9_fillYear 303 = .ok (.aload_n 0, 1) := by decide +kernel
theorem dX9_fillYear_304 : decode cX9_fillYear 304 = .ok (.getfield 93, 3) := by decide +kernel
theorem dX9_fillYear_307 : decode cX9_fillYear 307 = .ok (.iload 4, 2) := by decide +kernel
theorem dX9_fillYear_309 : decode cX9_fillYear 309 = .ok (.iaload, 1) := by decide +kernel
theorem dX9_fillYear_310 : decode cX9_fillYear 310 = .ok (.iload_n 1, 1) := by decide +kernel
theorem dX9_fillYear_311 : decode cX9_fillYear 311 = .ok (.invokevirtual 169, 3) := by decide +kernel
theorem dX9_fillYear_314 : decode cX9_fillYear 314 = .ok (.iinc 4 1, 3) := by decide +kernel
theorem dX9_fillYear_317 : decode cX9_fillYear 317 = .ok (.iload 4, 2) := by decide +kernel
theorem dX9_fillYear_319 : decode cX9_fillYear 319 = .ok (.aload_n 0, 1) := by decide +kernel
theorem dX9_fillYear_320 : decode cX9_fillYear 320 = .ok (.getfield 78, 3) := by decide +kernel
theorem dX9_fillYear_323 : decode cX9_fillYear 323 = .ok (.if_icmp .ge 32, 3) := by decide +kernel
theorem dX9_fillYear_326 : decode cX9_fillYear 326 = .ok (.aload_n 0, 1) := by decide +kernel
theorem dX9_fillYear_327 : decode cX9_fillYear 327 = .ok (.getfield 96, 3) := by decide +kernel
theorem dX9_fillYear_330 : decode cX9_fillYear 330 = .ok (.iload 4, 2) := by decide +kernel
theorem dX9_fillYear_332 : decode cX9_fillYear 332 = .ok (.aload_n 0, 1) := by decide +kernel
theorem dX9_fillYear_333 : decode cX9_fillYear 333 = .ok (.aload_n 0, 1) := by decide +kernel
theorem dX9_fillYear_334 : decode cX9_fillYear 334 = .ok (.getfield 93, 3) := by decide +kernel
theorem dX9_fillYear_337 : decode cX9_fillYear 337 = .ok (.iload 4, 2) := by decide +kernel
theorem dX9_fillYear_339 : decode cX9_fillYear 339 = .ok (.iaload, 1) := by decide +kernel
theorem dX9_fillYear_340 : decode cX9_fillYear 340 = .ok (.invokevirtual 180, 3) := by decide +kernel
theorem dX9_fillYear_343 : decode cX9_fillYear 343 = .ok (.iload 6, 2) := by decide +kernel
theorem dX9_fillYear_345 : decode cX9_fillYear 345 = .ok (.if_icmp .ne 8, 3) := by decide +kernel
theorem dX9_fillYear_348 : decode cX9_fillYear 348 = .ok (.iload 5, 2) := by decide +kernel
theorem dX9_fillYear_350 : decode cX9_fillYear 350 = .ok (.goto 4, 3) := by decide +kernel
theorem dX9_fillYear_353 : decode cX9_fillYear 353 = .ok (.iconst (-1), 1) := by decide +kernel
theorem dX9_fillYear_354 : decode cX9_fillYear 354 = .ok (.iastore, 1) := by decide +kernel
theorem dX9_fillYear_355 : decode cX9_fillYear 355 = .ok (.goto (-246), 3) := by decide +kernel
theorem dX9_fillYear_358 : decode cX9_fillYear 358 = .ok (.iload_n 3, 1) := by decide +kernel
theorem dX9_fillYear_359 : decode cX9_fillYear 359 = .ok (.ireturn, 1) := by decide +kernel
theorem dX9_fillings_0 : decode cX9_fillings 0 = .ok (.aload_n 0, 1) := by decide +kernel
theorem dX9_fillings_1 : decode cX9_fillings 1 = .ok (.iload_n 1, 1) := by decide +kernel
theorem dX9_fillings_2 : decode cX9_fillings 2 = .ok (.invokevirtual 159, 3) := by decide +kernel
theorem dX9_fillings_5 : decode cX9_fillings 5 = .ok (.ifCond .eq 12, 3) := by decide +kernel
theorem dX9_fillings_8 : decode cX9_fillings 8 = .ok (.aload_n 0, 1) := by decide +kernel
theorem dX9_fillings_9 : decode cX9_fillings 9 = .ok (.iload_n 1, 1) := by decide +kernel
theorem dX9_fillings_10 : decode cX9_fillings 10 = .ok (.iconst 1, 1) := by decide +kernel
theorem dX9_fillings_11 : decode cX9_fillings 11 = .ok (.invokevirtual 226, 3) := by decide +kernel
theorem dX9_fillings_14 : decode cX9_fillings 14 = .ok (.goto 4, 3) := by decide +kernel
theorem dX9_fillings_17 : decode cX9_fillings 17 = .ok (.iconst (-1), 1) := by decide +kernel
theorem dX9_fillings_18 : decode cX9_fillings 18 = .ok (.ireturn, 1) := by decide +kernel
theorem dX9_fill_0 : decode cX9_fill 0 = .ok (.aload_n 0, 1) := by decide +kernel
theorem dX9_fill_1 : decode cX9_fill 1 = .ok (.iload_n 1, 1) := by decide +kernel
theorem dX9_fill_2 : decode cX9_fill 2 = .ok (.invokevirtual 159, 3) := by decide +kernel
theorem dX9_fill_5 : decode cX9_fill 5 = .ok (.ifCond .ne 5, 3) := by decide +kernel
theorem dX9_fill_8 : decode cX9_fill 8 = .ok (.iconst (-1), 1) := by decide +kernel
theorem dX9_fill_9 : decode cX9_fill 9 = .ok (.ireturn, 1) := by decide +kernel
theorem dX9_fill_10 : decode cX9_fill 10 = .ok (.aload_n 0, 1) := by decide +kernel
theorem dX9_fill_11 : decode cX9_fill 11 = .ok (.iload_n 1, 1) := by decide +kernel
theorem dX9_fill_12 : decode cX9_fill 12 = .ok (.iconst 0, 1) := by decide +kernel
theorem dX9_fill_13 : decode cX9_fill 13 = .ok (.invokevirtual 226, 3) := by decide +kernel
theorem dX9_fill_16 : decode cX9_fill 16 = .ok (.istore_n 2, 1) := by decide +kernel
theorem dX9_fill_17 : decode cX9_fill 17 = .ok (.iload_n 2, 1) := by decide +kernel
theorem dX9_fill_18 : decode cX9_fill 18 = .ok (.bipush (-8), 2) := by decide +kernel
theorem dX9_fill_20 : decode cX9_fill 20 = .ok (.if_icmp .ne 8, 3) := by decide +kernel
theorem dX9_fill_23 : decode cX9_fill 23 = .ok (.bipush (-8), 2) := by decide +kernel
theorem dX9_fill_25 : decode cX9_fill 25 = .ok (.goto 16, 3) := by decide +kernel
theorem dX9_fill_28 : decode cX9_fill 28 = .ok (.iload_n 2, 1) := by decide +kernel
theorem dX9_fill_29 : decode cX9_fill 29 = .ok (.ifCond .ne 8, 3) := by decide +kernel
theorem dX9_fill_32 : decode cX9_fill 32 = .ok (.bipush (-9), 2) := by decide +kernel
theorem dX9_fill_34 : decode cX9_fill 34 = .ok (.goto 7, 3) := by decide +kernel
theorem dX9_fill_37 : decode cX9_fill 37 = .ok (.aload_n 0, 1) := by decide +kernel
theorem dX9_fill_38 : decode cX9_fill 38 = .ok (.getfield 78, 3) := by decide +kernel
theorem dX9_fill_41 : decode cX9_fill 41 = .ok (.ireturn, 1) := by decide +kernel
theorem dX9_among_0 : decode cX9_among 0 = .ok (.aload_n 0, 1) := by decide +kernel
theorem dX9_among_1 : decode cX9_among 1 = .ok (.iload_n 1, 1) := by decide +kernel
theorem dX9_among_2 : decode cX9_among 2 = .ok (.invokevirtual 155, 3) := by decide +kernel
theorem dX9_among_5 : decode cX9_among 5 = .ok (.ifCond .eq 19, 3) := by decide +kernel
theorem dX9_among_8 : decode cX9_among 8 = .ok (.aload_n 0, 1) := by decide +kernel
theorem dX9_among_9 : decode cX9_among 9 = .ok (.iload_n 2, 1) := by decide +kernel
theorem dX9_among_10 : decode cX9_among 10 = .ok (.invokevirtual 162, 3) := by decide +kernel
theorem dX9_among_13 : decode cX9_among 13 = .ok (.ifCond .eq 11, 3) := by decide +kernel
theorem dX9_among_16 : decode cX9_among 16 = .ok (.aload_n 0, 1) := by decide +kernel
theorem dX9_among_17 : decode cX9_among 17 = .ok (.iload_n 3, 1) := by decide +kernel
theorem dX9_among_18 : decode cX9_among 18 = .ok (.invokevirtual 159, 3) := by decide +kernel
theorem dX9_among_21 : decode cX9_among 21 = .ok (.ifCond .ne 5, 3) := by decide +kernel
theorem dX9_among_24 : decode cX9_among 24 = .ok (.iconst (-1), 1) := by decide +kernel
theorem dX9_among_25 : decode cX9_among 25 = .ok (.ireturn, 1) := by decide +kernel
theorem dX9_among_26 : decode cX9_among 26 = .ok (.aload_n 0, 1) := by decide +kernel
theorem dX9_among_27 : decode cX9_among 27 = .ok (.iload_n 1, 1) := by decide +kernel
theorem dX9_among_28 : decode cX9_among 28 = .ok (.putfield 84, 3) := by decide +kernel
theorem dX9_among_31 : decode cX9_among 31 = .ok (.aload_n 0, 1) := by decide +kernel
theorem dX9_among_32 : decode cX9_among 32 = .ok (.iload_n 2, 1) := by decide +kernel
theorem dX9_among_33 : decode cX9_among 33 = .ok (.putfield 87, 3) := by decide +kernel
theorem dX9_among_36 : decode cX9_among 36 = .ok (.aload_n 0, 1) := by decide +kernel
theorem dX9_among_37 : decode cX9_among 37 = .ok (.iload_n 3, 1) := by decide +kernel
theorem dX9_among_38 : decode cX9_among 38 = .ok (.iconst 1, 1) := by decide +kernel
theorem dX9_among_39 : decode cX9_among 39 = .ok (.invokevirtual 226, 3) := by decide +kernel
theorem dX9_among_42 : decode cX9_among 42 = .ok (.bipush (-8), 2) := by decide +kernel
theorem dX9_among_44 : decode cX9_among 44 = .ok (.if_icmp .ne 8, 3) := by decide +kernel
theorem dX9_among_47 : decode cX9_among 47 = .ok (.bipush (-8), 2) := by decide +kernel
theorem dX9_among_49 : decode cX9_among 49 = .ok (.goto 7, 3) := by decide +kernel
theorem dX9_among_52 : decode cX9_among 52 = .ok (.aload_n 0, 1) := by decide +kernel
theorem dX9_among_53 : decode cX9_among 53 = .ok (.getfield 90, 3) := by decide +kernel
theorem dX9_among_56 : decode cX9_among 56 = .ok (.ireturn, 1) := by decide +kernel
theorem dX9_draw_0 : decode cX9_draw 0 = .ok (.lload_n 2, 1) := by decide +kernel
theorem dX9_draw_1 : decode cX9_draw 1 = .ok (.lstore 4, 2) := by decide +kernel
theorem dX9_draw_3 : decode cX9_draw 3 = .ok (.iconst 0, 1) := by decide +kernel
theorem dX9_draw_4 : decode cX9_draw 4 = .ok (.istore 6, 2) := by decide +kernel
theorem dX9_draw_6 : decode cX9_draw 6 = .ok (.iload 6, 2) := by decide +kernel
theorem dX9_draw_8 : decode cX9_draw 8 = .ok (.iload_n 1, 1) := by decide +kernel
theorem dX9_draw_9 : decode cX9_draw 9 = .ok (.if_icmp .ge 18, 3) := by decide +kernel
theorem dX9_draw_12 : decode cX9_draw 12 = .ok (.aload_n 0, 1) := by decide +kernel
theorem dX9_draw_13 : decode cX9_draw 13 = .ok (.getfield 111, 3) := by decide +kernel
theorem dX9_draw_16 : decode cX9_draw 16 = .ok (.iload 6, 2) := by decide +kernel
theorem dX9_draw_18 : decode cX9_draw 18 = .ok (.iload 6, 2) := by decide +kernel
theorem dX9_draw_20 : decode cX9_draw 20 = .ok (.iastore, 1) := by decide +kernel
theorem dX9_draw_21 : decode cX9_draw 21 = .ok (.iinc 6 1, 3) := by decide +kernel
theorem dX9_draw_24 : decode cX9_draw 24 = .ok (.goto (-18), 3) := by decide +kernel
theorem dX9_draw_27 : decode cX9_draw 27 = .ok (.iconst 0, 1) := by decide +kernel
theorem dX9_draw_28 : decode cX9_draw 28 = .ok (.istore 6, 2) := by decide +kernel
theorem dX9_draw_30 : decode cX9_draw 30 = .ok (.iload 6, 2) := by decide +kernel
theorem dX9_draw_32 : decode cX9_draw 32 = .ok (.iload_n 1, 1) := by decide +kernel
theorem dX9_draw_33 : decode cX9_draw 33 = .ok (.if_icmp .ge 81, 3) := by decide +kernel
theorem dX9_draw_36 : decode cX9_draw 36 = .ok (.iload_n 1, 1) := by decide +kernel
theorem dX9_draw_37 : decode cX9_draw 37 = .ok (.iload 6, 2) := by decide +kernel
theorem dX9_draw_39 : decode cX9_draw 39 = .ok (.isub, 1) := by decide +kernel
theorem dX9_draw_40 : decode cX9_draw 40 = .ok (.istore 7, 2) := by decide +kernel
theorem dX9_draw_42 : decode cX9_draw 42 = .ok (.lload 4, 2) := by decide +kernel
theorem dX9_draw_44 : decode cX9_draw 44 = .ok (.iload 7, 2) := by decide +kernel
theorem dX9_draw_46 : decode cX9_draw 46 = .ok (.i2l, 1) := by decide +kernel
theorem dX9_draw_47 : decode cX9_draw 47 = .ok (.lrem, 1) := by decide +kernel
theorem dX9_draw_48 : decode cX9_draw 48 = .ok (.l2i, 1) := by decide +kernel
theorem dX9_draw_49 : decode cX9_draw 49 = .ok (.istore 8, 2) := by decide +kernel
theorem dX9_draw_51 : decode cX9_draw 51 = .ok (.lload 4, 2) := by decide +kernel
theorem dX9_draw_53 : decode cX9_draw 53 = .ok (.iload 7, 2) := by decide +kernel
theorem dX9_draw_55 : decode cX9_draw 55 = .ok (.i2l, 1) := by decide +kernel
theorem dX9_draw_56 : decode cX9_draw 56 = .ok (.ldiv, 1) := by decide +kernel
theorem dX9_draw_57 : decode cX9_draw 57 = .ok (.lstore 4, 2) := by decide +kernel
theorem dX9_draw_59 : decode cX9_draw 59 = .ok (.aload_n 0, 1) := by decide +kernel
theorem dX9_draw_60 : decode cX9_draw 60 = .ok (.getfield 108, 3) := by decide +kernel
theorem dX9_draw_63 : decode cX9_draw 63 = .ok (.iload 6, 2) := by decide +kernel
theorem dX9_draw_65 : decode cX9_draw 65 = .ok (.aload_n 0, 1) := by decide +kernel
theorem dX9_draw_66 : decode cX9_draw 66 = .ok (.getfield 111, 3) := by decide +kernel
theorem dX9_draw_69 : decode cX9_draw 69 = .ok (.iload 8, 2) := by decide +kernel
theorem dX9_draw_71 : decode cX9_draw 71 = .ok (.iaload, 1) := by decide +kernel
theorem dX9_draw_72 : decode cX9_draw 72 = .ok (.iastore, 1) := by decide +kernel
theorem dX9_draw_73 : decode cX9_draw 73 = .ok (.iload 8, 2) := by decide +kernel
theorem dX9_draw_75 : decode cX9_draw 75 = .ok (.istore 9, 2) := by decide +kernel
theorem dX9_draw_77 : decode cX9_draw 77 = .ok (.iload 9, 2) := by decide +kernel
theorem dX9_draw_79 : decode cX9_draw 79 = .ok (.iload 7, 2) := by decide +kernel
theorem dX9_draw_81 : decode cX9_draw 81 = .ok (.iconst 1, 1) := by decide +kernel
theorem dX9_draw_82 : decode cX9_draw 82 = .ok (.isub, 1) := by decide +kernel
theorem dX9_draw_83 : decode cX9_draw 83 = .ok (.if_icmp .ge 25, 3) := by decide +kernel
theorem dX9_draw_86 : decode cX9_draw 86 = .ok (.aload_n 0, 1) := by decide +kernel
theorem dX9_draw_87 : decode cX9_draw 87 = .ok (.getfield 111, 3) := by decide +kernel
theorem dX9_draw_90 : decode cX9_draw 90 = .ok (.iload 9, 2) := by decide +kernel
theorem dX9_draw_92 : decode cX9_draw 92 = .ok (.aload_n 0, 1) := by decide +kernel
theorem dX9_draw_93 : decode cX9_draw 93 = .ok (.getfield 111, 3) := by decide +kernel
theorem dX9_draw_96 : decode cX9_draw 96 = .ok (.iload 9, 2) := by decide +kernel
theorem dX9_draw_98 : decode cX9_draw 98 = .ok (.iconst 1, 1) := by decide +kernel
theorem dX9_draw_99 : decode cX9_draw 99 = .ok (.iadd, 1) := by decide +kernel
theorem dX9_draw_100 : decode cX9_draw 100 = .ok (.iaload, 1) := by decide +kernel
theorem dX9_draw_101 : decode cX9_draw 101 = .ok (.iastore, 1) := by decide +kernel
theorem dX9_draw_102 : decode cX9_draw 102 = .ok (.iinc 9 1, 3) := by decide +kernel
theorem dX9_draw_105 : decode cX9_draw 105 = .ok (.goto (-28), 3) := by decide +kernel
theorem dX9_draw_108 : decode cX9_draw 108 = .ok (.iinc 6 1, 3) := by decide +kernel
theorem dX9_draw_111 : decode cX9_draw 111 = .ok (.goto (-81), 3) := by decide +kernel
theorem dX9_draw_114 : decode cX9_draw 114 = .ok (.return_, 1) := by decide +kernel
theorem dX9_election_0 : decode cX9_election 0 = .ok (.aload_n 0, 1) := by decide +kernel
theorem dX9_election_1 : decode cX9_election 1 = .ok (.iload_n 1, 1) := by decide +kernel
theorem dX9_election_2 : decode cX9_election 2 = .ok (.iconst 2, 1) := by decide +kernel
theorem dX9_election_3 : decode cX9_election 3 = .ok (.iconst 4, 1) := by decide +kernel
theorem dX9_election_4 : decode cX9_election 4 = .ok (.invokevirtual 147, 3) := by decide +kernel
theorem dX9_election_7 : decode cX9_election 7 = .ok (.ifCond .eq 18, 3) := by decide +kernel
theorem dX9_election_10 : decode cX9_election 10 = .ok (.aload_n 0, 1) := by decide +kernel
theorem dX9_election_11 : decode cX9_election 11 = .ok (.iload_n 2, 1) := by decide +kernel
theorem dX9_election_12 : decode cX9_election 12 = .ok (.iconst 1, 1) := by decide +kernel
theorem dX9_election_13 : decode cX9_election 13 = .ok (.iconst 2, 1) := by decide +kernel
theorem dX9_election_14 : decode cX9_election 14 = .ok (.invokevirtual 147, 3) := by decide +kernel
theorem dX9_election_17 : decode cX9_election 17 = .ok (.ifCond .eq 8, 3) := by decide +kernel
theorem dX9_election_20 : decode cX9_election 20 = .ok (.iload_n 2, 1) := by decide +kernel
theorem dX9_election_21 : decode cX9_election 21 = .ok (.iload_n 1, 1) := by decide +kernel
theorem dX9_election_22 : decode cX9_election 22 = .ok (.if_icmp .lt 5, 3) := by decide +kernel
theorem dX9_election_25 : decode cX9_election 25 = .ok (.iconst (-1), 1) := by decide +kernel
theorem dX9_election_26 : decode cX9_election 26 = .ok (.ireturn, 1) := by decide +kernel
theorem dX9_election_27 : decode cX9_election 27 = .ok (.aload_n 0, 1) := by decide +kernel
theorem dX9_election_28 : decode cX9_election 28 = .ok (.invokevirtual 230, 3) := by decide +kernel
theorem dX9_election_31 : decode cX9_election 31 = .ok (.istore_n 3, 1) := by decide +kernel
theorem dX9_election_32 : decode cX9_election 32 = .ok (.aload_n 0, 1) := by decide +kernel
theorem dX9_election_33 : decode cX9_election 33 = .ok (.iload_n 1, 1) := by decide +kernel
theorem dX9_election_34 : decode cX9_election 34 = .ok (.putfield 99, 3) := by decide +kernel
theorem dX9_election_37 : decode cX9_election 37 = .ok (.aload_n 0, 1) := by decide +kernel
theorem dX9_election_38 : decode cX9_election 38 = .ok (.iload_n 2, 1) := by decide +kernel
theorem dX9_election_39 : decode cX9_election 39 = .ok (.putfield 102, 3) := by decide +kernel
theorem dX9_election_42 : decode cX9_election 42 = .ok (.iconst 0, 1) := by decide +kernel
theorem dX9_election_43 : decode cX9_election 43 = .ok (.istore 4, 2) := by decide +kernel
theorem dX9_election_45 : decode cX9_election 45 = .ok (.iload 4, 2) := by decide +kernel
theorem dX9_election_47 : decode cX9_election 47 = .ok (.bipush 35, 2) := by decide +kernel
theorem dX9_election_49 : decode cX9_election 49 = .ok (.if_icmp .ge 17, 3) := by decide +kernel
theorem dX9_election_52 : decode cX9_election 52 = .ok (.aload_n 0, 1) := by decide +kernel
theorem dX9_election_53 : decode cX9_election 53 = .ok (.getfield 105, 3) := by decide +kernel
theorem dX9_election_56 : decode cX9_election 56 = .ok (.iload 4, 2) := by decide +kernel
theorem dX9_election_58 : decode cX9_election 58 = .ok (.iconst 0, 1) := by decide +kernel
theorem dX9_election_59 : decode cX9_election 59 = .ok (.iastore, 1) := by decide +kernel
theorem dX9_election_60 : decode cX9_election 60 = .ok (.iinc 4 1, 3) := by decide +kernel
theorem dX9_election_63 : decode cX9_election 63 = .ok (.goto (-18), 3) := by decide +kernel
theorem dX9_election_66 : decode cX9_election 66 = .ok (.iload_n 3, 1) := by decide +kernel
theorem dX9_election_67 : decode cX9_election 67 = .ok (.ireturn, 1) := by decide +kernel
theorem dX9_voted_0 : decode cX9_voted 0 = .ok (.iconst 0, 1) := by decide +kernel
theorem dX9_voted_1 : decode cX9_voted 1 = .ok (.istore_n 1, 1) := by decide +kernel
theorem dX9_voted_2 : decode cX9_voted 2 = .ok (.iconst 0, 1) := by decide +kernel
theorem dX9_voted_3 : decode cX9_voted 3 = .ok (.istore_n 2, 1) := by decide +kernel
theorem dX9_voted_4 : decode cX9_voted 4 = .ok (.iload_n 2, 1) := by decide +kernel
theorem dX9_voted_5 : decode cX9_voted 5 = .ok (.bipush 35, 2) := by decide +kernel
theorem dX9_voted_7 : decode cX9_voted 7 = .ok (.if_icmp .ge 26, 3) := by decide +kernel
theorem dX9_voted_10 : decode cX9_voted 10 = .ok (.iload_n 1, 1) := by decide +kernel
theorem dX9_voted_11 : decode cX9_voted 11 = .ok (.aload_n 0, 1) := by decide +kernel
theorem dX9_voted_12 : decode cX9_voted 12 = .ok (.getfield 105, 3) := by decide +kernel
theorem dX9_voted_15 : decode cX9_voted 15 = .ok (.iload_n 2, 1) := by decide +kernel
theorem dX9_voted_16 : decode cX9_voted 16 = .ok (.iaload, 1) := by decide +kernel
theorem dX9_voted_17 : decode cX9_voted 17 = .ok (.ifCond .ne 7, 3) := by decide +kernel
theorem dX9_voted_20 : decode cX9_voted 20 = .ok (.iconst 0, 1) := by decide +kernel
theorem dX9_voted_21 : decode cX9_voted 21 = .ok (.goto 4, 3) := by decide +kernel
theorem dX9_voted_24 : decode cX9_voted 24 = .ok (.iconst 1, 1) := by decide +kernel
theorem dX9_voted_25 : decode cX9_voted 25 = .ok (.iadd, 1) := by decide +kernel
theorem dX9_voted_26 : decode cX9_voted 26 = .ok (.istore_n 1, 1) := by decide +kernel
theorem dX9_voted_27 : decode cX9_voted 27 = .ok (.iinc 2 1, 3) := by decide +kernel
theorem dX9_voted_30 : decode cX9_voted 30 = .ok (.goto (-26), 3) := by decide +kernel
theorem dX9_voted_33 : decode cX9_voted 33 = .ok (.iload_n 1, 1) := by decide +kernel
theorem dX9_voted_34 : decode cX9_voted 34 = .ok (.ireturn, 1) := by decide +kernel
theorem dX9_ones_0 : decode cX9_ones 0 = .ok (.iload_n 1, 1) := by decide +kernel
theorem dX9_ones_1 : decode cX9_ones 1 = .ok (.iconst 1, 1) := by decide +kernel
theorem dX9_ones_2 : decode cX9_ones 2 = .ok (.iand, 1) := by decide +kernel
theorem dX9_ones_3 : decode cX9_ones 3 = .ok (.iload_n 1, 1) := by decide +kernel
theorem dX9_ones_4 : decode cX9_ones 4 = .ok (.iconst 1, 1) := by decide +kernel
theorem dX9_ones_5 : decode cX9_ones 5 = .ok (.ishr, 1) := by decide +kernel
theorem dX9_ones_6 : decode cX9_ones 6 = .ok (.iconst 1, 1) := by decide +kernel
theorem dX9_ones_7 : decode cX9_ones 7 = .ok (.iand, 1) := by decide +kernel
theorem dX9_ones_8 : decode cX9_ones 8 = .ok (.iadd, 1) := by decide +kernel
theorem dX9_ones_9 : decode cX9_ones 9 = .ok (.iload_n 1, 1) := by decide +kernel
theorem dX9_ones_10 : decode cX9_ones 10 = .ok (.iconst 2, 1) := by decide +kernel
theorem dX9_ones_11 : decode cX9_ones 11 = .ok (.ishr, 1) := by decide +kernel
theorem dX9_ones_12 : decode cX9_ones 12 = .ok (.iconst 1, 1) := by decide +kernel
theorem dX9_ones_13 : decode cX9_ones 13 = .ok (.iand, 1) := by decide +kernel
theorem dX9_ones_14 : decode cX9_ones 14 = .ok (.iadd, 1) := by decide +kernel
theorem dX9_ones_15 : decode cX9_ones 15 = .ok (.iload_n 1, 1) := by decide +kernel
theorem dX9_ones_16 : decode cX9_ones 16 = .ok (.iconst 3, 1) := by decide +kernel
theorem dX9_ones_17 : decode cX9_ones 17 = .ok (.ishr, 1) := by decide +kernel
theorem dX9_ones_18 : decode cX9_ones 18 = .ok (.iconst 1, 1) := by decide +kernel
theorem dX9_ones_19 : decode cX9_ones 19 = .ok (.iand, 1) := by decide +kernel
theorem dX9_ones_20 : decode cX9_ones 20 = .ok (.iadd, 1) := by decide +kernel
theorem dX9_ones_21 : decode cX9_ones 21 = .ok (.ireturn, 1) := by decide +kernel
theorem dX9_vote_0 : decode cX9_vote 0 = .ok (.aload_n 0, 1) := by decide +kernel
theorem dX9_vote_1 : decode cX9_vote 1 = .ok (.iload_n 1, 1) := by decide +kernel
theorem dX9_vote_2 : decode cX9_vote 2 = .ok (.iconst 0, 1) := by decide +kernel
theorem dX9_vote_3 : decode cX9_vote 3 = .ok (.bipush 34, 2) := by decide +kernel
theorem dX9_vote_5 : decode cX9_vote 5 = .ok (.invokevirtual 147, 3) := by decide +kernel
theorem dX9_vote_8 : decode cX9_vote 8 = .ok (.ifCond .eq 32, 3) := by decide +kernel
theorem dX9_vote_11 : decode cX9_vote 11 = .ok (.aload_n 0, 1) := by decide +kernel
theorem dX9_vote_12 : decode cX9_vote 12 = .ok (.iload_n 2, 1) := by decide +kernel
theorem dX9_vote_13 : decode cX9_vote 13 = .ok (.iconst 0, 1) := by decide +kernel
theorem dX9_vote_14 : decode cX9_vote 14 = .ok (.iconst 1, 1) := by decide +kernel
theorem dX9_vote_15 : decode cX9_vote 15 = .ok (.aload_n 0, 1) := by decide +kernel
theorem dX9_vote_16 : decode cX9_vote 16 = .ok (.getfield 99, 3) := by decide +kernel
theorem dX9_vote_19 : decode cX9_vote 19 = .ok (.ishl, 1) := by decide +kernel
theorem dX9_vote_20 : decode cX9_vote 20 = .ok (.iconst 1, 1) := by decide +kernel
theorem dX9_vote_21 : decode cX9_vote 21 = .ok (.isub, 1) := by decide +kernel
theorem dX9_vote_22 : decode cX9_vote 22 = .ok (.invokevirtual 147, 3) := by decide +kernel
theorem dX9_vote_25 : decode cX9_vote 25 = .ok (.ifCond .eq 15, 3) := by decide +kernel
theorem dX9_vote_28 : decode cX9_vote 28 = .ok (.aload_n 0, 1) := by decide +kernel
theorem dX9_vote_29 : decode cX9_vote 29 = .ok (.iload_n 2, 1) := by decide +kernel
theorem dX9_vote_30 : decode cX9_vote 30 = .ok (.invokevirtual 234, 3) := by decide +kernel
theorem dX9_vote_33 : decode cX9_vote 33 = .ok (.aload_n 0, 1) := by decide +kernel
theorem dX9_vote_34 : decode cX9_vote 34 = .ok (.getfield 102, 3) := by decide +kernel
theorem dX9_vote_37 : decode cX9_vote 37 = .ok (.if_icmp .eq 5, 3) := by decide +kernel
theorem dX9_vote_40 : decode cX9_vote 40 = .ok (.iconst (-1), 1) := by decide +kernel
theorem dX9_vote_41 : decode cX9_vote 41 = .ok (.ireturn, 1) := by decide +kernel
theorem dX9_vote_42 : decode cX9_vote 42 = .ok (.aload_n 0, 1) := by decide +kernel
theorem dX9_vote_43 : decode cX9_vote 43 = .ok (.getfield 105, 3) := by decide +kernel
theorem dX9_vote_46 : decode cX9_vote 46 = .ok (.iload_n 1, 1) := by decide +kernel
theorem dX9_vote_47 : decode cX9_vote 47 = .ok (.iaload, 1) := by decide +kernel
theorem dX9_vote_48 : decode cX9_vote 48 = .ok (.iload_n 2, 1) := by decide +kernel
theorem dX9_vote_49 : decode cX9_vote 49 = .ok (.if_icmp .ne 7, 3) := by decide +kernel
theorem dX9_vote_52 : decode cX9_vote 52 = .ok (.iconst 0, 1) := by decide +kernel
theorem dX9_vote_53 : decode cX9_vote 53 = .ok (.goto 4, 3) := by decide +kernel
theorem dX9_vote_56 : decode cX9_vote 56 = .ok (.iconst 1, 1) := by decide +kernel
theorem dX9_vote_57 : decode cX9_vote 57 = .ok (.istore_n 3, 1) := by decide +kernel
theorem dX9_vote_58 : decode cX9_vote 58 = .ok (.aload_n 0, 1) := by decide +kernel
theorem dX9_vote_59 : decode cX9_vote 59 = .ok (.getfield 105, 3) := by decide +kernel
theorem dX9_vote_62 : decode cX9_vote 62 = .ok (.iload_n 1, 1) := by decide +kernel
theorem dX9_vote_63 : decode cX9_vote 63 = .ok (.iload_n 2, 1) := by decide +kernel
theorem dX9_vote_64 : decode cX9_vote 64 = .ok (.iastore, 1) := by decide +kernel
theorem dX9_vote_65 : decode cX9_vote 65 = .ok (.iload_n 3, 1) := by decide +kernel
theorem dX9_vote_66 : decode cX9_vote 66 = .ok (.ireturn, 1) := by decide +kernel
theorem dX9_choose_0 : decode cX9_choose 0 = .ok (.aload_n 0, 1) := by decide +kernel
theorem dX9_choose_1 : decode cX9_choose 1 = .ok (.getfield 120, 3) := by decide +kernel
theorem dX9_choose_4 : decode cX9_choose 4 = .ok (.aload_n 0, 1) := by decide +kernel
theorem dX9_choose_5 : decode cX9_choose 5 = .ok (.getfield 126, 3) := by decide +kernel
theorem dX9_choose_8 : decode cX9_choose 8 = .ok (.iload_n 1, 1) := by decide +kernel
theorem dX9_choose_9 : decode cX9_choose 9 = .ok (.iastore, 1) := by decide +kernel
theorem dX9_choose_10 : decode cX9_choose 10 = .ok (.aload_n 0, 1) := by decide +kernel
theorem dX9_choose_11 : decode cX9_choose 11 = .ok (.getfield 123, 3) := by decide +kernel
theorem dX9_choose_14 : decode cX9_choose 14 = .ok (.aload_n 0, 1) := by decide +kernel
theorem dX9_choose_15 : decode cX9_choose 15 = .ok (.getfield 126, 3) := by decide +kernel
theorem dX9_choose_18 : decode cX9_choose 18 = .ok (.iload_n 2, 1) := by decide +kernel
theorem dX9_choose_19 : decode cX9_choose 19 = .ok (.iastore, 1) := by decide +kernel
theorem dX9_choose_20 : decode cX9_choose 20 = .ok (.aload_n 0, 1) := by decide +kernel
theorem dX9_choose_21 : decode cX9_choose 21 = .ok (.getfield 129, 3) := by decide +kernel
theorem dX9_choose_24 : decode cX9_choose 24 = .ok (.iload_n 1, 1) := by decide +kernel
theorem dX9_choose_25 : decode cX9_choose 25 = .ok (.iconst 1, 1) := by decide +kernel
theorem dX9_choose_26 : decode cX9_choose 26 = .ok (.bastore, 1) := by decide +kernel
theorem dX9_choose_27 : decode cX9_choose 27 = .ok (.aload_n 0, 1) := by decide +kernel
theorem dX9_choose_28 : decode cX9_choose 28 = .ok (.dup, 1) := by decide +kernel
theorem dX9_choose_29 : decode cX9_choose 29 = .ok (.getfield 126, 3) := by decide +kernel
theorem dX9_choose_32 : decode cX9_choose 32 = .ok (.iconst 1, 1) := by decide +kernel
theorem dX9_choose_33 : decode cX9_choose 33 = .ok (.iadd, 1) := by decide +kernel
theorem dX9_choose_34 : decode cX9_choose 34 = .ok (.putfield 126, 3) := by decide +kernel
theorem dX9_choose_37 : decode cX9_choose 37 = .ok (.return_, 1) := by decide +kernel
theorem dX9_beginVotes_0 : decode cX9_beginVotes 0 = .ok (.aload_n 0, 1) := by decide +kernel
theorem dX9_beginVotes_1 : decode cX9_beginVotes 1 = .ok (.iconst 0, 1) := by decide +kernel
theorem dX9_beginVotes_2 : decode cX9_beginVotes 2 = .ok (.putfield 126, 3) := by decide +kernel
theorem dX9_beginVotes_5 : decode cX9_beginVotes 5 = .ok (.iconst 0, 1) := by decide +kernel
theorem dX9_beginVotes_6 : decode cX9_beginVotes 6 = .ok (.istore_n 1, 1) := by decide +kernel
theorem dX9_beginVotes_7 : decode cX9_beginVotes 7 = .ok (.iload_n 1, 1) := by decide +kernel
theorem dX9_beginVotes_8 : decode cX9_beginVotes 8 = .ok (.iconst 4, 1) := by decide +kernel
theorem dX9_beginVotes_9 : decode cX9_beginVotes 9 = .ok (.if_icmp .ge 30, 3) := by decide +kernel
theorem dX9_beginVotes_12 : decode cX9_beginVotes 12 = .ok (.aload_n 0, 1) := by decide +kernel
theorem dX9_beginVotes_13 : decode cX9_beginVotes 13 = .ok (.getfield 114, 3) := by decide +kernel
theorem dX9_beginVotes_16 : decode cX9_beginVotes 16 = .ok (.iload_n 1, 1) := by decide +kernel
theorem dX9_beginVotes_17 : decode cX9_beginVotes 17 = .ok (.iconst 0, 1) := by decide +kernel
theorem dX9_beginVotes_18 : decode cX9_beginVotes 18 = .ok (.iastore, 1) := by decide +kernel
theorem dX9_beginVotes_19 : decode cX9_beginVotes 19 = .ok (.aload_n 0, 1) := by decide +kernel
theorem dX9_beginVotes_20 : decode cX9_beginVotes 20 = .ok (.getfield 117, 3) := by decide +kernel
theorem dX9_beginVotes_23 : decode cX9_beginVotes 23 = .ok (.iload_n 1, 1) := by decide +kernel
theorem dX9_beginVotes_24 : decode cX9_beginVotes 24 = .ok (.iconst 0, 1) := by decide +kernel
theorem dX9_beginVotes_25 : decode cX9_beginVotes 25 = .ok (.iastore, 1) := by decide +kernel
theorem dX9_beginVotes_26 : decode cX9_beginVotes 26 = .ok (.aload_n 0, 1) := by decide +kernel
theorem dX9_beginVotes_27 : decode cX9_beginVotes 27 = .ok (.getfield 129, 3) := by decide +kernel
theorem dX9_beginVotes_30 : decode cX9_beginVotes 30 = .ok (.iload_n 1, 1) := by decide +kernel
theorem dX9_beginVotes_31 : decode cX9_beginVotes 31 = .ok (.iconst 0, 1) := by decide +kernel
theorem dX9_beginVotes_32 : decode cX9_beginVotes 32 = .ok (.bastore, 1) := by decide +kernel
theorem dX9_beginVotes_33 : decode cX9_beginVotes 33 = .ok (.iinc 1 1, 3) := by decide +kernel
theorem dX9_beginVotes_36 : decode cX9_beginVotes 36 = .ok (.goto (-29), 3) := by decide +kernel
theorem dX9_beginVotes_39 : decode cX9_beginVotes 39 = .ok (.return_, 1) := by decide +kernel
theorem dX9_unitVotes_0 : decode cX9_unitVotes 0 = .ok (.iconst 0, 1) := by decide +kernel
theorem dX9_unitVotes_1 : decode cX9_unitVotes 1 = .ok (.istore_n 2, 1) := by decide +kernel
theorem dX9_unitVotes_2 : decode cX9_unitVotes 2 = .ok (.iload_n 2, 1) := by decide +kernel
theorem dX9_unitVotes_3 : decode cX9_unitVotes 3 = .ok (.aload_n 0, 1) := by decide +kernel
theorem dX9_unitVotes_4 : decode cX9_unitVotes 4 = .ok (.getfield 99, 3) := by decide +kernel
theorem dX9_unitVotes_7 : decode cX9_unitVotes 7 = .ok (.if_icmp .ge 79, 3) := by decide +kernel
theorem dX9_unitVotes_10 : decode cX9_unitVotes 10 = .ok (.aload_n 0, 1) := by decide +kernel
theorem dX9_unitVotes_11 : decode cX9_unitVotes 11 = .ok (.getfield 105, 3) := by decide +kernel
theorem dX9_unitVotes_14 : decode cX9_unitVotes 14 = .ok (.aload_n 0, 1) := by decide +kernel
theorem dX9_unitVotes_15 : decode cX9_unitVotes 15 = .ok (.getfield 108, 3) := by decide +kernel
theorem dX9_unitVotes_18 : decode cX9_unitVotes 18 = .ok (.iload_n 1, 1) := by decide +kernel
theorem dX9_unitVotes_19 : decode cX9_unitVotes 19 = .ok (.iaload, 1) := by decide +kernel
theorem dX9_unitVotes_20 : decode cX9_unitVotes 20 = .ok (.iaload, 1) := by decide +kernel
theorem dX9_unitVotes_21 : decode cX9_unitVotes 21 = .ok (.iload_n 2, 1) := by decide +kernel
theorem dX9_unitVotes_22 : decode cX9_unitVotes 22 = .ok (.ishr, 1) := by decide +kernel
theorem dX9_unitVotes_23 : decode cX9_unitVotes 23 = .ok (.iconst 1, 1) := by decide +kernel
theorem dX9_unitVotes_24 : decode cX9_unitVotes 24 = .ok (.iand, 1) := by decide +kernel
theorem dX9_unitVotes_25 : decode cX9_unitVotes 25 = .ok (.ifCond .ne 6, 3) := by decide +kernel
theorem dX9_unitVotes_28 : decode cX9_unitVotes 28 = .ok (.goto 52, 3) := by decide +kernel
theorem dX9_unitVotes_31 : decode cX9_unitVotes 31 = .ok (.aload_n 0, 1) := by decide +kernel
theorem dX9_unitVotes_32 : decode cX9_unitVotes 32 = .ok (.getfield 114, 3) := by decide +kernel
theorem dX9_unitVotes_35 : decode cX9_unitVotes 35 = .ok (.iload_n 2, 1) := by decide +kernel
theorem dX9_unitVotes_36 : decode cX9_unitVotes 36 = .ok (.dup2, 1) := by decide +kernel
theorem dX9_unitVotes_37 : decode cX9_unitVotes 37 = .ok (.iaload, 1) := by decide +kernel
theorem dX9_unitVotes_38 : decode cX9_unitVotes 38 = .ok (.iconst 1, 1) := by decide +kernel
theorem dX9_unitVotes_39 : decode cX9_unitVotes 39 = .ok (.iadd, 1) := by decide +kernel
theorem dX9_unitVotes_40 : decode cX9_unitVotes 40 = .ok (.iastore, 1) := by decide +kernel
theorem dX9_unitVotes_41 : decode cX9_unitVotes 41 = .ok (.aload_n 0, 1) := by decide +kernel
theorem dX9_unitVotes_42 : decode cX9_unitVotes 42 = .ok (.getfield 117, 3) := by decide +kernel
theorem dX9_unitVotes_45 : decode cX9_unitVotes 45 = .ok (.iload_n 2, 1) := by decide +kernel
theorem dX9_unitVotes_46 : decode cX9_unitVotes 46 = .ok (.iload_n 1, 1) := by decide +kernel
theorem dX9_unitVotes_47 : decode cX9_unitVotes 47 = .ok (.iconst 1, 1) := by decide +kernel
theorem dX9_unitVotes_48 : decode cX9_unitVotes 48 = .ok (.iadd, 1) := by decide +kernel
theorem dX9_unitVotes_49 : decode cX9_unitVotes 49 = .ok (.iastore, 1) := by decide +kernel
theorem dX9_unitVotes_50 : decode cX9_unitVotes 50 = .ok (.aload_n 0, 1) := by decide +kernel
theorem dX9_unitVotes_51 : decode cX9_unitVotes 51 = .ok (.getfield 114, 3) := by decide +kernel
theorem dX9_unitVotes_54 : decode cX9_unitVotes 54 = .ok (.iload_n 2, 1) := by decide +kernel
theorem dX9_unitVotes_55 : decode cX9_unitVotes 55 = .ok (.iaload, 1) := by decide +kernel
theorem dX9_unitVotes_56 : decode cX9_unitVotes 56 = .ok (.bipush 18, 2) := by decide +kernel
theorem dX9_unitVotes_58 : decode cX9_unitVotes 58 = .ok (.if_icmp .ne 22, 3) := by decide +kernel
theorem dX9_unitVotes_61 : decode cX9_unitVotes 61 = .ok (.aload_n 0, 1) := by decide +kernel
theorem dX9_unitVotes_62 : decode cX9_unitVotes 62 = .ok (.getfield 126, 3) := by decide +kernel
theorem dX9_unitVotes_65 : decode cX9_unitVotes 65 = .ok (.aload_n 0, 1) := by decide +kernel
theorem dX9_unitVotes_66 : decode cX9_unitVotes 66 = .ok (.getfield 102, 3) := by decide +kernel
theorem dX9_unitVotes_69 : decode cX9_unitVotes 69 = .ok (.if_icmp .ge 11, 3) := by decide +kernel
theorem dX9_unitVotes_72 : decode cX9_unitVotes 72 = .ok (.aload_n 0, 1) := by decide +kernel
theorem dX9_unitVotes_73 : decode cX9_unitVotes 73 = .ok (.iload_n 2, 1) := by decide +kernel
theorem dX9_unitVotes_74 : decode cX9_unitVotes 74 = .ok (.iload_n 1, 1) := by decide +kernel
theorem dX9_unitVotes_75 : decode cX9_unitVotes 75 = .ok (.iconst 1, 1) := by decide +kernel
theorem dX9_unitVotes_76 : decode cX9_unitVotes 76 = .ok (.iadd, 1) := by decide +kernel
theorem dX9_unitVotes_77 : decode cX9_unitVotes 77 = .ok (.invokevirtual 237, 3) := by decide +kernel
theorem dX9_unitVotes_80 : decode cX9_unitVotes 80 = .ok (.iinc 2 1, 3) := by decide +kernel
theorem dX9_unitVotes_83 : decode cX9_unitVotes 83 = .ok (.goto (-81), 3) := by decide +kernel
theorem dX9_unitVotes_86 : decode cX9_unitVotes 86 = .ok (.return_, 1) := by decide +kernel
theorem dX9_elect_0 : decode cX9_elect 0 = .ok (.aload_n 0, 1) := by decide +kernel
theorem dX9_elect_1 : decode cX9_elect 1 = .ok (.bipush 35, 2) := by decide +kernel
theorem dX9_elect_3 : decode cX9_elect 3 = .ok (.lload_n 1, 1) := by decide +kernel
theorem dX9_elect_4 : decode cX9_elect 4 = .ok (.invokevirtual 240, 3) := by decide +kernel
theorem dX9_elect_7 : decode cX9_elect 7 = .ok (.aload_n 0, 1) := by decide +kernel
theorem dX9_elect_8 : decode cX9_elect 8 = .ok (.invokevirtual 244, 3) := by decide +kernel
theorem dX9_elect_11 : decode cX9_elect 11 = .ok (.iconst 0, 1) := by decide +kernel
theorem dX9_elect_12 : decode cX9_elect 12 = .ok (.istore_n 3, 1) := by decide +kernel
theorem dX9_elect_13 : decode cX9_elect 13 = .ok (.iload_n 3, 1) := by decide +kernel
theorem dX9_elect_14 : decode cX9_elect 14 = .ok (.bipush 35, 2) := by decide +kernel
theorem dX9_elect_16 : decode cX9_elect 16 = .ok (.if_icmp .ge 14, 3) := by decide +kernel
theorem dX9_elect_19 : decode cX9_elect 19 = .ok (.aload_n 0, 1) := by decide +kernel
theorem dX9_elect_20 : decode cX9_elect 20 = .ok (.iload_n 3, 1) := by decide +kernel
theorem dX9_elect_21 : decode cX9_elect 21 = .ok (.invokevirtual 247, 3) := by decide +kernel
theorem dX9_elect_24 : decode cX9_elect 24 = .ok (.iinc 3 1, 3) := by decide +kernel
theorem dX9_elect_27 : decode cX9_elect 27 = .ok (.goto (-14), 3) := by decide +kernel
theorem dX9_elect_30 : decode cX9_elect 30 = .ok (.aload_n 0, 1) := by decide +kernel
theorem dX9_elect_31 : decode cX9_elect 31 = .ok (.getfield 126, 3) := by decide +kernel
theorem dX9_elect_34 : decode cX9_elect 34 = .ok (.aload_n 0, 1) := by decide +kernel
theorem dX9_elect_35 : decode cX9_elect 35 = .ok (.getfield 102, 3) := by decide +kernel
theorem dX9_elect_38 : decode cX9_elect 38 = .ok (.if_icmp .ge 101, 3) := by decide +kernel
theorem dX9_elect_41 : decode cX9_elect 41 = .ok (.iconst (-1), 1) := by decide +kernel
theorem dX9_elect_42 : decode cX9_elect 42 = .ok (.istore_n 3, 1) := by decide +kernel
theorem dX9_elect_43 : decode cX9_elect 43 = .ok (.iconst 0, 1) := by decide +kernel
theorem dX9_elect_44 : decode cX9_elect 44 = .ok (.istore 4, 2) := by decide +kernel
theorem dX9_elect_46 : decode cX9_elect 46 = .ok (.iload 4, 2) := by decide +kernel
theorem dX9_elect_48 : decode cX9_elect 48 = .ok (.aload_n 0, 1) := by decide +kernel
theorem dX9_elect_49 : decode cX9_elect 49 = .ok (.getfield 99, 3) := by decide +kernel
theorem dX9_elect_52 : decode cX9_elect 52 = .ok (.if_icmp .ge 77, 3) := by decide +kernel
theorem dX9_elect_55 : decode cX9_elect 55 = .ok (.aload_n 0, 1) := by decide +kernel
theorem dX9_elect_56 : decode cX9_elect 56 = .ok (.getfield 129, 3) := by decide +kernel
theorem dX9_elect_59 : decode cX9_elect 59 = .ok (.iload 4, 2) := by decide +kernel
theorem dX9_elect_61 : decode cX9_elect 61 = .ok (.baload, 1) := by decide +kernel
theorem dX9_elect_62 : decode cX9_elect 62 = .ok (.ifCond .eq 6, 3) := by decide +kernel
theorem dX9_elect_65 : decode cX9_elect 65 = .ok (.goto 58, 3) := by decide +kernel
theorem dX9_elect_68 : decode cX9_elect 68 = .ok (.iload_n 3, 1) := by decide +kernel
theorem dX9_elect_69 : decode cX9_elect 69 = .ok (.ifCond .lt 51, 3) := by decide +kernel
theorem dX9_elect_72 : decode cX9_elect 72 = .ok (.aload_n 0, 1) := by decide +kernel
theorem dX9_elect_73 : decode cX9_elect 73 = .ok (.getfield 114, 3) := by decide +kernel
theorem dX9_elect_76 : decode cX9_elect 76 = .ok (.iload 4, 2) := by decide +kernel
theorem dX9_elect_78 : decode cX9_elect 78 = .ok (.iaload, 1) := by decide +kernel
theorem dX9_elect_79 : decode cX9_elect 79 = .ok (.aload_n 0, 1) := by decide +kernel
theorem dX9_elect_80 : decode cX9_elect 80 = .ok (.getfield 114, 3) := by decide +kernel
theorem dX9_elect_83 : decode cX9_elect 83 = .ok (.iload_n 3, 1) := by decide +kernel
theorem dX9_elect_84 : decode cX9_elect 84 = .ok (.iaload, 1) := by decide +kernel
theorem dX9_elect_85 : decode cX9_elect 85 = .ok (.if_icmp .gt 35, 3) := by decide +kernel
theorem dX9_elect_88 : decode cX9_elect 88 = .ok (.aload_n 0, 1) := by decide +kernel
theorem dX9_elect_89 : decode cX9_elect 89 = .ok (.getfield 114, 3) := by decide +kernel
theorem dX9_elect_92 : decode cX9_elect 92 = .ok (.iload 4, 2) := by decide +kernel
theorem dX9_elect_94 : decode cX9_elect 94 = .ok (.iaload, 1) := by decide +kernel
theorem dX9_elect_95 : decode cX9_elect 95 = .ok (.aload_n 0, 1) := by decide +kernel
theorem dX9_elect_96 : decode cX9_elect 96 = .ok (.getfield 114, 3) := by decide +kernel
theorem dX9_elect_99 : decode cX9_elect 99 = .ok (.iload_n 3, 1) := by decide +kernel
theorem dX9_elect_100 : decode cX9_elect 100 = .ok (.iaload, 1) := by decide +kernel
theorem dX9_elect_101 : decode cX9_elect 101 = .ok (.if_icmp .ne 22, 3) := by decide +kernel
theorem dX9_elect_104 : decode cX9_elect 104 = .ok (.aload_n 0, 1) := by decide +kernel
theorem dX9_elect_105 : decode cX9_elect 105 = .ok (.getfield 117, 3) := by decide +kernel
theorem dX9_elect_108 : decode cX9_elect 108 = .ok (.iload 4, 2) := by decide +kernel
theorem dX9_elect_110 : decode cX9_elect 110 = .ok (.iaload, 1) := by decide +kernel
theorem dX9_elect_111 : decode cX9_elect 111 = .ok (.aload_n 0, 1) := by decide +kernel
theorem dX9_elect_112 : decode cX9_elect 112 = .ok (.getfield 117, 3) := by decide +kernel
theorem dX9_elect_115 : decode cX9_elect 115 = .ok (.iload_n 3, 1) := by decide +kernel
theorem dX9_elect_116 : decode cX9_elect 116 = .ok (.iaload, 1) := by decide +kernel
theorem dX9_elect_117 : decode cX9_elect 117 = .ok (.if_icmp .ge 6, 3) := by decide +kernel
theorem dX9_elect_120 : decode cX9_elect 120 = .ok (.iload 4, 2) := by decide +kernel
theorem dX9_elect_122 : decode cX9_elect 122 = .ok (.istore_n 3, 1) := by decide +kernel
theorem dX9_elect_123 : decode cX9_elect 123 = .ok (.iinc 4 1, 3) := by decide +kernel
theorem dX9_elect_126 : decode cX9_elect 126 = .ok (.goto (-80), 3) := by decide +kernel
theorem dX9_elect_129 : decode cX9_elect 129 = .ok (.aload_n 0, 1) := by decide +kernel
theorem dX9_elect_130 : decode cX9_elect 130 = .ok (.iload_n 3, 1) := by decide +kernel
theorem dX9_elect_131 : decode cX9_elect 131 = .ok (.bipush 35, 2) := by decide +kernel
theorem dX9_elect_133 : decode cX9_elect 133 = .ok (.invokevirtual 237, 3) := by decide +kernel
theorem dX9_elect_136 : decode cX9_elect 136 = .ok (.goto (-106), 3) := by decide +kernel
theorem dX9_elect_139 : decode cX9_elect 139 = .ok (.return_, 1) := by decide +kernel
theorem dX9_elected_0 : decode cX9_elected 0 = .ok (.lload_n 1, 1) := by decide +kernel
theorem dX9_elected_1 : decode cX9_elected 1 = .ok (.lconst 0, 1) := by decide +kernel
theorem dX9_elected_2 : decode cX9_elected 2 = .ok (.lcmp, 1) := by decide +kernel
theorem dX9_elected_3 : decode cX9_elected 3 = .ok (.ifCond .lt 29, 3) := by decide +kernel
theorem dX9_elected_6 : decode cX9_elected 6 = .ok (.aload_n 0, 1) := by decide +kernel
theorem dX9_elected_7 : decode cX9_elected 7 = .ok (.iload_n 3, 1) := by decide +kernel
theorem dX9_elected_8 : decode cX9_elected 8 = .ok (.iconst 0, 1) := by decide +kernel
theorem dX9_elected_9 : decode cX9_elected 9 = .ok (.aload_n 0, 1) := by decide +kernel
theorem dX9_elected_10 : decode cX9_elected 10 = .ok (.getfield 102, 3) := by decide +kernel
theorem dX9_elected_13 : decode cX9_elected 13 = .ok (.iconst 1, 1) := by decide +kernel
theorem dX9_elected_14 : decode cX9_elected 14 = .ok (.isub, 1) := by decide +kernel
theorem dX9_elected_15 : decode cX9_elected 15 = .ok (.invokevirtual 147, 3) := by decide +kernel
theorem dX9_elected_18 : decode cX9_elected 18 = .ok (.ifCond .eq 14, 3) := by decide +kernel
theorem dX9_elected_21 : decode cX9_elected 21 = .ok (.aload_n 0, 1) := by decide +kernel
theorem dX9_elected_22 : decode cX9_elected 22 = .ok (.iload 4, 2) := by decide +kernel
theorem dX9_elected_24 : decode cX9_elected 24 = .ok (.iconst 0, 1) := by decide +kernel
theorem dX9_elected_25 : decode cX9_elected 25 = .ok (.iconst 1, 1) := by decide +kernel
theorem dX9_elected_26 : decode cX9_elected 26 = .ok (.invokevirtual 147, 3) := by decide +kernel
theorem dX9_elected_29 : decode cX9_elected 29 = .ok (.ifCond .ne 5, 3) := by decide +kernel
theorem dX9_elected_32 : decode cX9_elected 32 = .ok (.iconst (-1), 1) := by decide +kernel
theorem dX9_elected_33 : decode cX9_elected 33 = .ok (.ireturn, 1) := by decide +kernel
theorem dX9_elected_34 : decode cX9_elected 34 = .ok (.aload_n 0, 1) := by decide +kernel
theorem dX9_elected_35 : decode cX9_elected 35 = .ok (.lload_n 1, 1) := by decide +kernel
theorem dX9_elected_36 : decode cX9_elected 36 = .ok (.invokevirtual 251, 3) := by decide +kernel
theorem dX9_elected_39 : decode cX9_elected 39 = .ok (.iload 4, 2) := by decide +kernel
theorem dX9_elected_41 : decode cX9_elected 41 = .ok (.ifCond .ne 12, 3) := by decide +kernel
theorem dX9_elected_44 : decode cX9_elected 44 = .ok (.aload_n 0, 1) := by decide +kernel
theorem dX9_elected_45 : decode cX9_elected 45 = .ok (.getfield 120, 3) := by decide +kernel
theorem dX9_elected_48 : decode cX9_elected 48 = .ok (.iload_n 3, 1) := by decide +kernel
theorem dX9_elected_49 : decode cX9_elected 49 = .ok (.iaload, 1) := by decide +kernel
theorem dX9_elected_50 : decode cX9_elected 50 = .ok (.goto 9, 3) := by decide +kernel
theorem dX9_elected_53 : decode cX9_elected 53 = .ok (.aload_n 0, 1) := by decide +kernel
theorem dX9_elected_54 : decode cX9_elected 54 = .ok (.getfield 123, 3) := by decide +kernel
theorem dX9_elected_57 : decode cX9_elected 57 = .ok (.iload_n 3, 1) := by decide +kernel
theorem dX9_elected_58 : decode cX9_elected 58 = .ok (.iaload, 1) := by decide +kernel
theorem dX9_elected_59 : decode cX9_elected 59 = .ok (.ireturn, 1) := by decide +kernel
theorem dX9_ahead_0 : decode cX9_ahead 0 = .ok (.iconst 0, 1) := by decide +kernel
theorem dX9_ahead_1 : decode cX9_ahead 1 = .ok (.istore_n 1, 1) := by decide +kernel
theorem dX9_ahead_2 : decode cX9_ahead 2 = .ok (.iconst 0, 1) := by decide +kernel
theorem dX9_ahead_3 : decode cX9_ahead 3 = .ok (.istore_n 2, 1) := by decide +kernel
theorem dX9_ahead_4 : decode cX9_ahead 4 = .ok (.iconst 0, 1) := by decide +kernel
theorem dX9_ahead_5 : decode cX9_ahead 5 = .ok (.istore_n 3, 1) := by decide +kernel
theorem dX9_ahead_6 : decode cX9_ahead 6 = .ok (.iload_n 3, 1) := by decide +kernel
theorem dX9_ahead_7 : decode cX9_ahead 7 = .ok (.aload_n 0, 1) := by decide +kernel
theorem dX9_ahead_8 : decode cX9_ahead 8 = .ok (.getfield 99, 3) := by decide +kernel
theorem dX9_ahead_11 : decode cX9_ahead 11 = .ok (.if_icmp .ge 112, 3) := by decide +kernel
theorem dX9_ahead_14 : decode cX9_ahead 14 = .ok (.iconst 0, 1) := by decide +kernel
theorem dX9_ahead_15 : decode cX9_ahead 15 = .ok (.istore 4, 2) := by decide +kernel
theorem dX9_ahead_17 : decode cX9_ahead 17 = .ok (.iconst 0, 1) := by decide +kernel
theorem dX9_ahead_18 : decode cX9_ahead 18 = .ok (.istore 5, 2) := by decide +kernel
theorem dX9_ahead_20 : decode cX9_ahead 20 = .ok (.iload 5, 2) := by decide +kernel
theorem dX9_ahead_22 : decode cX9_ahead 22 = .ok (.aload_n 0, 1) := by decide +kernel
theorem dX9_ahead_23 : decode cX9_ahead 23 = .ok (.getfield 99, 3) := by decide +kernel
theorem dX9_ahead_26 : decode cX9_ahead 26 = .ok (.if_icmp .ge 57, 3) := by decide +kernel
theorem dX9_ahead_29 : decode cX9_ahead 29 = .ok (.iload 4, 2) := by decide +kernel
theorem dX9_ahead_31 : decode cX9_ahead 31 = .ok (.aload_n 0, 1) := by decide +kernel
theorem dX9_ahead_32 : decode cX9_ahead 32 = .ok (.getfield 114, 3) := by decide +kernel
theorem dX9_ahead_35 : decode cX9_ahead 35 = .ok (.iload 5, 2) := by decide +kernel
theorem dX9_ahead_37 : decode cX9_ahead 37 = .ok (.iaload, 1) := by decide +kernel
theorem dX9_ahead_38 : decode cX9_ahead 38 = .ok (.aload_n 0, 1) := by decide +kernel
theorem dX9_ahead_39 : decode cX9_ahead 39 = .ok (.getfield 114, 3) := by decide +kernel
theorem dX9_ahead_42 : decode cX9_ahead 42 = .ok (.iload_n 3, 1) := by decide +kernel
theorem dX9_ahead_43 : decode cX9_ahead 43 = .ok (.iaload, 1) := by decide +kernel
theorem dX9_ahead_44 : decode cX9_ahead 44 = .ok (.if_icmp .gt 25, 3) := by decide +kernel
theorem dX9_ahead_47 : decode cX9_ahead 47 = .ok (.aload_n 0, 1) := by decide +kernel
theorem dX9_ahead_48 : decode cX9_ahead 48 = .ok (.getfield 114, 3) := by decide +kernel
theorem dX9_ahead_51 : decode cX9_ahead 51 = .ok (.iload 5, 2) := by decide +kernel
theorem dX9_ahead_53 : decode cX9_ahead 53 = .ok (.iaload, 1) := by decide +kernel
theorem dX9_ahead_54 : decode cX9_ahead 54 = .ok (.aload_n 0, 1) := by decide +kernel
theorem dX9_ahead_55 : decode cX9_ahead 55 = .ok (.getfield 114, 3) := by decide +kernel
theorem dX9_ahead_58 : decode cX9_ahead 58 = .ok (.iload_n 3, 1) := by decide +kernel
theorem dX9_ahead_59 : decode cX9_ahead 59 = .ok (.iaload, 1) := by decide +kernel
theorem dX9_ahead_60 : decode cX9_ahead 60 = .ok (.if_icmp .ne 13, 3) := by decide +kernel
theorem dX9_ahead_63 : decode cX9_ahead 63 = .ok (.iload 5, 2) := by decide +kernel
theorem dX9_ahead_65 : decode cX9_ahead 65 = .ok (.iload_n 3, 1) := by decide +kernel
theorem dX9_ahead_66 : decode cX9_ahead 66 = .ok (.if_icmp .ge 7, 3) := by decide +kernel
theorem dX9_ahead_69 : decode cX9_ahead 69 = .ok (.iconst 1, 1) := by decide +kernel
theorem dX9_ahead_70 : decode cX9_ahead 70 = .ok (.goto 4, 3) := by decide +kernel
theorem dX9_ahead_73 : decode cX9_ahead 73 = .ok (.iconst 0, 1) := by decide +kernel
theorem dX9_ahead_74 : decode cX9_ahead 74 = .ok (.iadd, 1) := by decide +kernel
theorem dX9_ahead_75 : decode cX9_ahead 75 = .ok (.istore 4, 2) := by decide +kernel
theorem dX9_ahead_77 : decode cX9_ahead 77 = .ok (.iinc 5 1, 3) := by decide +kernel
theorem dX9_ahead_80 : decode cX9_ahead 80 = .ok (.goto (-60), 3) := by decide +kernel
theorem dX9_ahead_83 : decode cX9_ahead 83 = .ok (.iload 4, 2) := by decide +kernel
theorem dX9_ahead_85 : decode cX9_ahead 85 = .ok (.aload_n 0, 1) := by decide +kernel
theorem dX9_ahead_86 : decode cX9_ahead 86 = .ok (.getfield 102, 3) := by decide +kernel
theorem dX9_ahead_89 : decode cX9_ahead 89 = .ok (.iconst 1, 1) := by decide +kernel
theorem dX9_ahead_90 : decode cX9_ahead 90 = .ok (.isub, 1) := by decide +kernel
theorem dX9_ahead_91 : decode cX9_ahead 91 = .ok (.if_icmp .ne 10, 3) := by decide +kernel
theorem dX9_ahead_94 : decode cX9_ahead 94 = .ok (.aload_n 0, 1) := by decide +kernel
theorem dX9_ahead_95 : decode cX9_ahead 95 = .ok (.getfield 114, 3) := by decide +kernel
theorem dX9_ahead_98 : decode cX9_ahead 98 = .ok (.iload_n 3, 1) := by decide +kernel
theorem dX9_ahead_99 : decode cX9_ahead 99 = .ok (.iaload, 1) := by decide +kernel
theorem dX9_ahead_100 : decode cX9_ahead 100 = .ok (.istore_n 1, 1) := by decide +kernel
theorem dX9_ahead_101 : decode cX9_ahead 101 = .ok (.iload 4, 2) := by decide +kernel
theorem dX9_ahead_103 : decode cX9_ahead 103 = .ok (.aload_n 0, 1) := by decide +kernel
theorem dX9_ahead_104 : decode cX9_ahead 104 = .ok (.getfield 102, 3) := by decide +kernel
theorem dX9_ahead_107 : decode cX9_ahead 107 = .ok (.if_icmp .ne 10, 3) := by decide +kernel
theorem dX9_ahead_110 : decode cX9_ahead 110 = .ok (.aload_n 0, 1) := by decide +kernel
theorem dX9_ahead_111 : decode cX9_ahead 111 = .ok (.getfield 114, 3) := by decide +kernel
theorem dX9_ahead_114 : decode cX9_ahead 114 = .ok (.iload_n 3, 1) := by decide +kernel
theorem dX9_ahead_115 : decode cX9_ahead 115 = .ok (.iaload, 1) := by decide +kernel
theorem dX9_ahead_116 : decode cX9_ahead 116 = .ok (.istore_n 2, 1) := by decide +kernel
theorem dX9_ahead_117 : decode cX9_ahead 117 = .ok (.iinc 3 1, 3) := by decide +kernel
theorem dX9_ahead_120 : decode cX9_ahead 120 = .ok (.goto (-114), 3) := by decide +kernel
theorem dX9_ahead_123 : decode cX9_ahead 123 = .ok (.iload_n 1, 1) := by decide +kernel
theorem dX9_ahead_124 : decode cX9_ahead 124 = .ok (.iload_n 2, 1) := by decide +kernel
theorem dX9_ahead_125 : decode cX9_ahead 125 = .ok (.isub, 1) := by decide +kernel
theorem dX9_ahead_126 : decode cX9_ahead 126 = .ok (.ireturn, 1) := by decide +kernel
theorem dX9_sure_0 : decode cX9_sure 0 = .ok (.lload_n 1, 1) := by decide +kernel
theorem dX9_sure_1 : decode cX9_sure 1 = .ok (.lconst 0, 1) := by decide +kernel
theorem dX9_sure_2 : decode cX9_sure 2 = .ok (.lcmp, 1) := by decide +kernel
theorem dX9_sure_3 : decode cX9_sure 3 = .ok (.ifCond .ge 5, 3) := by decide +kernel
theorem dX9_sure_6 : decode cX9_sure 6 = .ok (.iconst (-1), 1) := by decide +kernel
theorem dX9_sure_7 : decode cX9_sure 7 = .ok (.ireturn, 1) := by decide +kernel
theorem dX9_sure_8 : decode cX9_sure 8 = .ok (.aload_n 0, 1) := by decide +kernel
theorem dX9_sure_9 : decode cX9_sure 9 = .ok (.bipush 35, 2) := by decide +kernel
theorem dX9_sure_11 : decode cX9_sure 11 = .ok (.lload_n 1, 1) := by decide +kernel
theorem dX9_sure_12 : decode cX9_sure 12 = .ok (.invokevirtual 240, 3) := by decide +kernel
theorem dX9_sure_15 : decode cX9_sure 15 = .ok (.aload_n 0, 1) := by decide +kernel
theorem dX9_sure_16 : decode cX9_sure 16 = .ok (.invokevirtual 244, 3) := by decide +kernel
theorem dX9_sure_19 : decode cX9_sure 19 = .ok (.iconst 0, 1) := by decide +kernel
theorem dX9_sure_20 : decode cX9_sure 20 = .ok (.istore_n 3, 1) := by decide +kernel
theorem dX9_sure_21 : decode cX9_sure 21 = .ok (.iload_n 3, 1) := by decide +kernel
theorem dX9_sure_22 : decode cX9_sure 22 = .ok (.bipush 35, 2) := by decide +kernel
theorem dX9_sure_24 : decode cX9_sure 24 = .ok (.if_icmp .ge 38, 3) := by decide +kernel
theorem dX9_sure_27 : decode cX9_sure 27 = .ok (.aload_n 0, 1) := by decide +kernel
theorem dX9_sure_28 : decode cX9_sure 28 = .ok (.getfield 126, 3) := by decide +kernel
theorem dX9_sure_31 : decode cX9_sure 31 = .ok (.aload_n 0, 1) := by decide +kernel
theorem dX9_sure_32 : decode cX9_sure 32 = .ok (.getfield 102, 3) := by decide +kernel
theorem dX9_sure_35 : decode cX9_sure 35 = .ok (.if_icmp .eq 14, 3) := by decide +kernel
theorem dX9_sure_38 : decode cX9_sure 38 = .ok (.aload_n 0, 1) := by decide +kernel
theorem dX9_sure_39 : decode cX9_sure 39 = .ok (.invokevirtual 255, 3) := by decide +kernel
theorem dX9_sure_42 : decode cX9_sure 42 = .ok (.bipush 35, 2) := by decide +kernel
theorem dX9_sure_44 : decode cX9_sure 44 = .ok (.iload_n 3, 1) := by decide +kernel
theorem dX9_sure_45 : decode cX9_sure 45 = .ok (.isub, 1) := by decide +kernel
theorem dX9_sure_46 : decode cX9_sure 46 = .ok (.if_icmp .lt 5, 3) := by decide +kernel
theorem dX9_sure_49 : decode cX9_sure 49 = .ok (.iload_n 3, 1) := by decide +kernel
theorem dX9_sure_50 : decode cX9_sure 50 = .ok (.ireturn, 1) := by decide +kernel
theorem dX9_sure_51 : decode cX9_sure 51 = .ok (.aload_n 0, 1) := by decide +kernel
theorem dX9_sure_52 : decode cX9_sure 52 = .ok (.iload_n 3, 1) := by decide +kernel
theorem dX9_sure_53 : decode cX9_sure 53 = .ok (.invokevirtual 247, 3) := by decide +kernel
theorem dX9_sure_56 : decode cX9_sure 56 = .ok (.iinc 3 1, 3) := by decide +kernel
theorem dX9_sure_59 : decode cX9_sure 59 = .ok (.goto (-38), 3) := by decide +kernel
theorem dX9_sure_62 : decode cX9_sure 62 = .ok (.bipush 35, 2) := by decide +kernel
theorem dX9_sure_64 : decode cX9_sure 64 = .ok (.ireturn, 1) := by decide +kernel
theorem dX9_drawn_0 : decode cX9_drawn 0 = .ok (.aload_n 0, 1) := by decide +kernel
theorem dX9_drawn_1 : decode cX9_drawn 1 = .ok (.iload_n 1, 1) := by decide +kernel
theorem dX9_drawn_2 : decode cX9_drawn 2 = .ok (.iconst 1, 1) := by decide +kernel
theorem dX9_drawn_3 : decode cX9_drawn 3 = .ok (.bipush 35, 2) := by decide +kernel
theorem dX9_drawn_5 : decode cX9_drawn 5 = .ok (.invokevirtual 147, 3) := by decide +kernel
theorem dX9_drawn_8 : decode cX9_drawn 8 = .ok (.ifCond .eq 22, 3) := by decide +kernel
theorem dX9_drawn_11 : decode cX9_drawn 11 = .ok (.lload_n 2, 1) := by decide +kernel
theorem dX9_drawn_12 : decode cX9_drawn 12 = .ok (.lconst 0, 1) := by decide +kernel
theorem dX9_drawn_13 : decode cX9_drawn 13 = .ok (.lcmp, 1) := by decide +kernel
theorem dX9_drawn_14 : decode cX9_drawn 14 = .ok (.ifCond .lt 16, 3) := by decide +kernel
theorem dX9_drawn_17 : decode cX9_drawn 17 = .ok (.aload_n 0, 1) := by decide +kernel
theorem dX9_drawn_18 : decode cX9_drawn 18 = .ok (.iload 4, 2) := by decide +kernel
theorem dX9_drawn_20 : decode cX9_drawn 20 = .ok (.iconst 0, 1) := by decide +kernel
theorem dX9_drawn_21 : decode cX9_drawn 21 = .ok (.iload_n 1, 1) := by decide +kernel
theorem dX9_drawn_22 : decode cX9_drawn 22 = .ok (.iconst 1, 1) := by decide +kernel
theorem dX9_drawn_23 : decode cX9_drawn 23 = .ok (.isub, 1) := by decide +kernel
theorem dX9_drawn_24 : decode cX9_drawn 24 = .ok (.invokevirtual 147, 3) := by decide +kernel
theorem dX9_drawn_27 : decode cX9_drawn 27 = .ok (.ifCond .ne 5, 3) := by decide +kernel
theorem dX9_drawn_30 : decode cX9_drawn 30 = .ok (.iconst (-1), 1) := by decide +kernel
theorem dX9_drawn_31 : decode cX9_drawn 31 = .ok (.ireturn, 1) := by decide +kernel
theorem dX9_drawn_32 : decode cX9_drawn 32 = .ok (.aload_n 0, 1) := by decide +kernel
theorem dX9_drawn_33 : decode cX9_drawn 33 = .ok (.iload_n 1, 1) := by decide +kernel
theorem dX9_drawn_34 : decode cX9_drawn 34 = .ok (.lload_n 2, 1) := by decide +kernel
theorem dX9_drawn_35 : decode cX9_drawn 35 = .ok (.invokevirtual 240, 3) := by decide +kernel
theorem dX9_drawn_38 : decode cX9_drawn 38 = .ok (.aload_n 0, 1) := by decide +kernel
theorem dX9_drawn_39 : decode cX9_drawn 39 = .ok (.getfield 108, 3) := by decide +kernel
theorem dX9_drawn_42 : decode cX9_drawn 42 = .ok (.iload 4, 2) := by decide +kernel
theorem dX9_drawn_44 : decode cX9_drawn 44 = .ok (.iaload, 1) := by decide +kernel
theorem dX9_drawn_45 : decode cX9_drawn 45 = .ok (.ireturn, 1) := by decide +kernel
theorem dX9_province_0 : decode cX9_province 0 = .ok (.aload_n 0, 1) := by decide +kernel
theorem dX9_province_1 : decode cX9_province 1 = .ok (.iload_n 1, 1) := by decide +kernel
theorem dX9_province_2 : decode cX9_province 2 = .ok (.iload_n 2, 1) := by decide +kernel
theorem dX9_province_3 : decode cX9_province 3 = .ok (.iload_n 3, 1) := by decide +kernel
theorem dX9_province_4 : decode cX9_province 4 = .ok (.invokevirtual 173, 3) := by decide +kernel
theorem dX9_province_7 : decode cX9_province 7 = .ok (.ifCond .eq 22, 3) := by decide +kernel
theorem dX9_province_10 : decode cX9_province 10 = .ok (.aload_n 0, 1) := by decide +kernel
theorem dX9_province_11 : decode cX9_province 11 = .ok (.iload 4, 2) := by decide +kernel
theorem dX9_province_13 : decode cX9_province 13 = .ok (.iconst 1, 1) := by decide +kernel
theorem dX9_province_14 : decode cX9_province 14 = .ok (.bipush 9, 2) := by decide +kernel
theorem dX9_province_16 : decode cX9_province 16 = .ok (.invokevirtual 147, 3) := by decide +kernel
theorem dX9_province_19 : decode cX9_province 19 = .ok (.ifCond .eq 10, 3) := by decide +kernel
theorem dX9_province_22 : decode cX9_province 22 = .ok (.lload 5, 2) := by decide +kernel
theorem dX9_province_24 : decode cX9_province 24 = .ok (.lconst 0, 1) := by decide +kernel
theorem dX9_province_25 : decode cX9_province 25 = .ok (.lcmp, 1) := by decide +kernel
theorem dX9_province_26 : decode cX9_province 26 = .ok (.ifCond .ge 5, 3) := by decide +kernel
theorem dX9_province_29 : decode cX9_province 29 = .ok (.iconst (-1), 1) := by decide +kernel
theorem dX9_province_30 : decode cX9_province 30 = .ok (.ireturn, 1) := by decide +kernel
theorem dX9_province_31 : decode cX9_province 31 = .ok (.aload_n 0, 1) := by decide +kernel
theorem dX9_province_32 : decode cX9_province 32 = .ok (.getfield 66, 3) := by decide +kernel
theorem dX9_province_35 : decode cX9_province 35 = .ok (.aload_n 0, 1) := by decide +kernel
theorem dX9_province_36 : decode cX9_province 36 = .ok (.iload_n 1, 1) := by decide +kernel
theorem dX9_province_37 : decode cX9_province 37 = .ok (.iload_n 2, 1) := by decide +kernel
theorem dX9_province_38 : decode cX9_province 38 = .ok (.iload_n 3, 1) := by decide +kernel
theorem dX9_province_39 : decode cX9_province 39 = .ok (.invokevirtual 165, 3) := by decide +kernel
theorem dX9_province_42 : decode cX9_province 42 = .ok (.iaload, 1) := by decide +kernel
theorem dX9_province_43 : decode cX9_province 43 = .ok (.ifCond .ge 6, 3) := by decide +kernel
theorem dX9_province_46 : decode cX9_province 46 = .ok (.bipush (-3), 2) := by decide +kernel
theorem dX9_province_48 : decode cX9_province 48 = .ok (.ireturn, 1) := by decide +kernel
theorem dX9_province_49 : decode cX9_province 49 = .ok (.iconst 0, 1) := by decide +kernel
theorem dX9_province_50 : decode cX9_province 50 = .ok (.istore 7, 2) := by decide +kernel
theorem dX9_province_52 : decode cX9_province 52 = .ok (.iconst 0, 1) := by decide +kernel
theorem dX9_province_53 : decode cX9_province 53 = .ok (.istore 8, 2) := by decide +kernel
theorem dX9_province_55 : decode cX9_province 55 = .ok (.iload 8, 2) := by decide +kernel
theorem dX9_province_57 : decode cX9_province 57 = .ok (.iload_n 3, 1) := by decide +kernel
theorem dX9_province_58 : decode cX9_province 58 = .ok (.if_icmp .ge 35, 3) := by decide +kernel
theorem dX9_province_61 : decode cX9_province 61 = .ok (.iload 7, 2) := by decide +kernel
theorem dX9_province_63 : decode cX9_province 63 = .ok (.aload_n 0, 1) := by decide +kernel
theorem dX9_province_64 : decode cX9_province 64 = .ok (.getfield 66, 3) := by decide +kernel
theorem dX9_province_67 : decode cX9_province 67 = .ok (.aload_n 0, 1) := by decide +kernel
theorem dX9_province_68 : decode cX9_province 68 = .ok (.iload_n 1, 1) := by decide +kernel
theorem dX9_province_69 : decode cX9_province 69 = .ok (.iload_n 2, 1) := by decide +kernel
theorem dX9_province_70 : decode cX9_province 70 = .ok (.iload 8, 2) := by decide +kernel
theorem dX9_province_72 : decode cX9_province 72 = .ok (.invokevirtual 165, 3) := by decide +kernel
theorem dX9_province_75 : decode cX9_province 75 = .ok (.iaload, 1) := by decide +kernel
theorem dX9_province_76 : decode cX9_province 76 = .ok (.ifCond .ge 7, 3) := by decide +kernel
theorem dX9_province_79 : decode cX9_province 79 = .ok (.iconst 0, 1) := by decide +kernel
theorem dX9_province_80 : decode cX9_province 80 = .ok (.goto 4, 3) := by decide +kernel
theorem dX9_province_83 : decode cX9_province 83 = .ok (.iconst 1, 1) := by decide +kernel
theorem dX9_province_84 : decode cX9_province 84 = .ok (.iadd, 1) := by decide +kernel
theorem dX9_province_85 : decode cX9_province 85 = .ok (.istore 7, 2) := by decide +kernel
theorem dX9_province_87 : decode cX9_province 87 = .ok (.iinc 8 1, 3) := by decide +kernel
theorem dX9_province_90 : decode cX9_province 90 = .ok (.goto (-35), 3) := by decide +kernel
theorem dX9_province_93 : decode cX9_province 93 = .ok (.aload_n 0, 1) := by decide +kernel
theorem dX9_province_94 : decode cX9_province 94 = .ok (.iload 4, 2) := by decide +kernel
theorem dX9_province_96 : decode cX9_province 96 = .ok (.lload 5, 2) := by decide +kernel
theorem dX9_province_98 : decode cX9_province 98 = .ok (.invokevirtual 240, 3) := by decide +kernel
theorem dX9_province_101 : decode cX9_province 101 = .ok (.iload 7, 2) := by decide +kernel
theorem dX9_province_103 : decode cX9_province 103 = .ok (.iload 4, 2) := by decide +kernel
theorem dX9_province_105 : decode cX9_province 105 = .ok (.if_icmp .ge 13, 3) := by decide +kernel
theorem dX9_province_108 : decode cX9_province 108 = .ok (.aload_n 0, 1) := by decide +kernel
theorem dX9_province_109 : decode cX9_province 109 = .ok (.getfield 108, 3) := by decide +kernel
theorem dX9_province_112 : decode cX9_province 112 = .ok (.iload 7, 2) := by decide +kernel
theorem dX9_province_114 : decode cX9_province 114 = .ok (.iaload, 1) := by decide +kernel
theorem dX9_province_115 : decode cX9_province 115 = .ok (.goto 5, 3) := by decide +kernel
theorem dX9_province_118 : decode cX9_province 118 = .ok (.bipush (-2), 2) := by decide +kernel
theorem dX9_province_120 : decode cX9_province 120 = .ok (.ireturn, 1) := by decide +kernel
theorem dX9_count_0 : decode cX9_count 0 = .ok (.iconst 0, 1) := by decide +kernel
theorem dX9_count_1 : decode cX9_count 1 = .ok (.istore_n 2, 1) := by decide +kernel
theorem dX9_count_2 : decode cX9_count 2 = .ok (.iload_n 1, 1) := by decide +kernel
theorem dX9_count_3 : decode cX9_count 3 = .ok (.tableswitch 105 0 5 #[37, 42, 47, 52, 52, 100], 37) := by decide +kernel
theorem dX9_count_40 : decode cX9_count 40 = .ok (.aload_n 0, 1) := by decide +kernel
theorem dX9_count_41 : decode cX9_count 41 = .ok (.getfield 13, 3) := by decide +kernel
theorem dX9_count_44 : decode cX9_count 44 = .ok (.ireturn, 1) := by decide +kernel
theorem dX9_count_45 : decode cX9_count 45 = .ok (.aload_n 0, 1) := by decide +kernel
theorem dX9_count_46 : decode cX9_count 46 = .ok (.getfield 16, 3) := by decide +kernel
theorem dX9_count_49 : decode cX9_count 49 = .ok (.ireturn, 1) := by decide +kernel
theorem dX9_count_50 : decode cX9_count 50 = .ok (.aload_n 0, 1) := by decide +kernel
theorem dX9_count_51 : decode cX9_count 51 = .ok (.getfield 19, 3) := by decide +kernel
theorem dX9_count_54 : decode cX9_count 54 = .ok (.ireturn, 1) := by decide +kernel
theorem dX9_count_55 : decode cX9_count 55 = .ok (.iconst 0, 1) := by decide +kernel
theorem dX9_count_56 : decode cX9_count 56 = .ok (.istore_n 3, 1) := by decide +kernel
theorem dX9_count_57 : decode cX9_count 57 = .ok (.iload_n 3, 1) := by decide +kernel
theorem dX9_count_58 : decode cX9_count 58 = .ok (.sipush 4800, 3) := by decide +kernel
theorem dX9_count_61 : decode cX9_count 61 = .ok (.if_icmp .ge 40, 3) := by decide +kernel
theorem dX9_count_64 : decode cX9_count 64 = .ok (.iload_n 2, 1) := by decide +kernel
theorem dX9_count_65 : decode cX9_count 65 = .ok (.aload_n 0, 1) := by decide +kernel
theorem dX9_count_66 : decode cX9_count 66 = .ok (.getfield 66, 3) := by decide +kernel
theorem dX9_count_69 : decode cX9_count 69 = .ok (.iload_n 3, 1) := by decide +kernel
theorem dX9_count_70 : decode cX9_count 70 = .ok (.iaload, 1) := by decide +kernel
theorem dX9_count_71 : decode cX9_count 71 = .ok (.ifCond .lt 21, 3) := by decide +kernel
theorem dX9_count_74 : decode cX9_count 74 = .ok (.iload_n 1, 1) := by decide +kernel
theorem dX9_count_75 : decode cX9_count 75 = .ok (.iconst 3, 1) := by decide +kernel
theorem dX9_count_76 : decode cX9_count 76 = .ok (.if_icmp .eq 12, 3) := by decide +kernel
theorem dX9_count_79 : decode cX9_count 79 = .ok (.aload_n 0, 1) := by decide +kernel
theorem dX9_count_80 : decode cX9_count 80 = .ok (.getfield 69, 3) := by decide +kernel
theorem dX9_count_83 : decode cX9_count 83 = .ok (.iload_n 3, 1) := by decide +kernel
theorem dX9_count_84 : decode cX9_count 84 = .ok (.baload, 1) := by decide +kernel
theorem dX9_count_85 : decode cX9_count 85 = .ok (.ifCond .eq 7, 3) := by decide +kernel
theorem dX9_count_88 : decode cX9_count 88 = .ok (.iconst 1, 1) := by decide +kernel
theorem dX9_count_89 : decode cX9_count 89 = .ok (.goto 4, 3) := by decide +kernel
theorem dX9_count_92 : decode cX9_count 92 = .ok (.iconst 0, 1) := by decide +kernel
theorem dX9_count_93 : decode cX9_count 93 = .ok (.iadd, 1) := by decide +kernel
theorem dX9_count_94 : decode cX9_count 94 = .ok (.istore_n 2, 1) := by decide +kernel
theorem dX9_count_95 : decode cX9_count 95 = .ok (.iinc 3 1, 3) := by decide +kernel
theorem dX9_count_98 : decode cX9_count 98 = .ok (.goto (-41), 3) := by decide +kernel
theorem dX9_count_101 : decode cX9_count 101 = .ok (.iload_n 2, 1) := by decide +kernel
theorem dX9_count_102 : decode cX9_count 102 = .ok (.ireturn, 1) := by decide +kernel
theorem dX9_count_103 : decode cX9_count 103 = .ok (.aload_n 0, 1) := by decide +kernel
theorem dX9_count_104 : decode cX9_count 104 = .ok (.invokevirtual 230, 3) := by decide +kernel
theorem dX9_count_107 : decode cX9_count 107 = .ok (.ireturn, 1) := by decide +kernel
theorem dX9_count_108 : decode cX9_count 108 = .ok (.iconst (-1), 1) := by decide +kernel
theorem dX9_count_109 : decode cX9_count 109 = .ok (.ireturn, 1) := by decide +kernel
theorem dX9_isShelf_0 : decode cX9_isShelf 0 = .ok (.aload_n 0, 1) := by decide +kernel
theorem dX9_isShelf_1 : decode cX9_isShelf 1 = .ok (.iload_n 1, 1) := by decide +kernel
theorem dX9_isShelf_2 : decode cX9_isShelf 2 = .ok (.iconst 0, 1) := by decide +kernel
theorem dX9_isShelf_3 : decode cX9_isShelf 3 = .ok (.bipush 7, 2) := by decide +kernel
theorem dX9_isShelf_5 : decode cX9_isShelf 5 = .ok (.invokevirtual 147, 3) := by decide +kernel
theorem dX9_isShelf_8 : decode cX9_isShelf 8 = .ok (.ireturn, 1) := by decide +kernel
theorem dX9_wipe_0 : decode cX9_wipe 0 = .ok (.iconst 0, 1) := by decide +kernel
theorem dX9_wipe_1 : decode cX9_wipe 1 = .ok (.istore_n 2, 1) := by decide +kernel
theorem dX9_wipe_2 : decode cX9_wipe 2 = .ok (.iload_n 2, 1) := by decide +kernel
theorem dX9_wipe_3 : decode cX9_wipe 3 = .ok (.sipush 200, 3) := by decide +kernel
theorem dX9_wipe_6 : decode cX9_wipe 6 = .ok (.if_icmp .ge 22, 3) := by decide +kernel
theorem dX9_wipe_9 : decode cX9_wipe 9 = .ok (.aload_n 0, 1) := by decide +kernel
theorem dX9_wipe_10 : decode cX9_wipe 10 = .ok (.getfield 141, 3) := by decide +kernel
theorem dX9_wipe_13 : decode cX9_wipe 13 = .ok (.sipush 200, 3) := by decide +kernel
theorem dX9_wipe_16 : decode cX9_wipe 16 = .ok (.iload_n 1, 1) := by decide +kernel
theorem dX9_wipe_17 : decode cX9_wipe 17 = .ok (.imul, 1) := by decide +kernel
theorem dX9_wipe_18 : decode cX9_wipe 18 = .ok (.iload_n 2, 1) := by decide +kernel
theorem dX9_wipe_19 : decode cX9_wipe 19 = .ok (.iadd, 1) := by decide +kernel
theorem dX9_wipe_20 : decode cX9_wipe 20 = .ok (.iconst 0, 1) := by decide +kernel
theorem dX9_wipe_21 : decode cX9_wipe 21 = .ok (.iastore, 1) := by decide +kernel
theorem dX9_wipe_22 : decode cX9_wipe 22 = .ok (.iinc 2 1, 3) := by decide +kernel
theorem dX9_wipe_25 : decode cX9_wipe 25 = .ok (.goto (-23), 3) := by decide +kernel
theorem dX9_wipe_28 : decode cX9_wipe 28 = .ok (.return_, 1) := by decide +kernel
theorem dX9_keep_0 : decode cX9_keep 0 = .ok (.aload_n 0, 1) := by decide +kernel
theorem dX9_keep_1 : decode cX9_keep 1 = .ok (.iload_n 1, 1) := by decide +kernel
theorem dX9_keep_2 : decode cX9_keep 2 = .ok (.invokevirtual 258, 3) := by decide +kernel
theorem dX9_keep_5 : decode cX9_keep 5 = .ok (.ifCond .eq 57, 3) := by decide +kernel
theorem dX9_keep_8 : decode cX9_keep 8 = .ok (.iload_n 2, 1) := by decide +kernel
theorem dX9_keep_9 : decode cX9_keep 9 = .ok (.ifCond .eq 49, 3) := by decide +kernel
theorem dX9_keep_12 : decode cX9_keep 12 = .ok (.iload_n 2, 1) := by decide +kernel
theorem dX9_keep_13 : decode cX9_keep 13 = .ok (.iconst 1, 1) := by decide +kernel
theorem dX9_keep_14 : decode cX9_keep 14 = .ok (.if_icmp .ne 18, 3) := by decide +kernel
theorem dX9_keep_17 : decode cX9_keep 17 = .ok (.aload_n 0, 1) := by decide +kernel
theorem dX9_keep_18 : decode cX9_keep 18 = .ok (.iload_n 3, 1) := by decide +kernel
theorem dX9_keep_19 : decode cX9_keep 19 = .ok (.iconst 0, 1) := by decide +kernel
theorem dX9_keep_20 : decode cX9_keep 20 = .ok (.aload_n 0, 1) := by decide +kernel
theorem dX9_keep_21 : decode cX9_keep 21 = .ok (.getfield 19, 3) := by decide +kernel
theorem dX9_keep_24 : decode cX9_keep 24 = .ok (.iconst 1, 1) := by decide +kernel
theorem dX9_keep_25 : decode cX9_keep 25 = .ok (.isub, 1) := by decide +kernel
theorem dX9_keep_26 : decode cX9_keep 26 = .ok (.invokevirtual 147, 3) := by decide +kernel
theorem dX9_keep_29 : decode cX9_keep 29 = .ok (.ifCond .ne 29, 3) := by decide +kernel
theorem dX9_keep_32 : decode cX9_keep 32 = .ok (.iload_n 2, 1) := by decide +kernel
theorem dX9_keep_33 : decode cX9_keep 33 = .ok (.iconst 3, 1) := by decide +kernel
theorem dX9_keep_34 : decode cX9_keep 34 = .ok (.if_icmp .ne 11, 3) := by decide +kernel
theorem dX9_keep_37 : decode cX9_keep 37 = .ok (.aload_n 0, 1) := by decide +kernel
theorem dX9_keep_38 : decode cX9_keep 38 = .ok (.iload_n 3, 1) := by decide +kernel
theorem dX9_keep_39 : decode cX9_keep 39 = .ok (.invokevirtual 162, 3) := by decide +kernel
theorem dX9_keep_42 : decode cX9_keep 42 = .ok (.ifCond .ne 16, 3) := by decide +kernel
theorem dX9_keep_45 : decode cX9_keep 45 = .ok (.iload_n 2, 1) := by decide +kernel
theorem dX9_keep_46 : decode cX9_keep 46 = .ok (.iconst 4, 1) := by decide +kernel
theorem dX9_keep_47 : decode cX9_keep 47 = .ok (.if_icmp .ne 15, 3) := by decide +kernel
theorem dX9_keep_50 : decode cX9_keep 50 = .ok (.aload_n 0, 1) := by decide +kernel
theorem dX9_keep_51 : decode cX9_keep 51 = .ok (.iload_n 3, 1) := by decide +kernel
theorem dX9_keep_52 : decode cX9_keep 52 = .ok (.invokevirtual 155, 3) := by decide +kernel
theorem dX9_keep_55 : decode cX9_keep 55 = .ok (.ifCond .eq 7, 3) := by decide +kernel
theorem dX9_keep_58 : decode cX9_keep 58 = .ok (.iconst 1, 1) := by decide +kernel
theorem dX9_keep_59 : decode cX9_keep 59 = .ok (.goto 4, 3) := by decide +kernel
theorem dX9_keep_62 : decode cX9_keep 62 = .ok (.iconst 0, 1) := by decide +kernel
theorem dX9_keep_63 : decode cX9_keep 63 = .ok (.istore 4, 2) := by decide +kernel
theorem dX9_keep_65 : decode cX9_keep 65 = .ok (.iload 4, 2) := by decide +kernel
theorem dX9_keep_67 : decode cX9_keep 67 = .ok (.ifCond .ne 5, 3) := by decide +kernel
theorem dX9_keep_70 : decode cX9_keep 70 = .ok (.iconst (-1), 1) := by decide +kernel
theorem dX9_keep_71 : decode cX9_keep 71 = .ok (.ireturn, 1) := by decide +kernel
theorem dX9_keep_72 : decode cX9_keep 72 = .ok (.aload_n 0, 1) := by decide +kernel
theorem dX9_keep_73 : decode cX9_keep 73 = .ok (.getfield 132, 3) := by decide +kernel
theorem dX9_keep_76 : decode cX9_keep 76 = .ok (.iload_n 1, 1) := by decide +kernel
theorem dX9_keep_77 : decode cX9_keep 77 = .ok (.iload_n 2, 1) := by decide +kernel
theorem dX9_keep_78 : decode cX9_keep 78 = .ok (.iastore, 1) := by decide +kernel
theorem dX9_keep_79 : decode cX9_keep 79 = .ok (.aload_n 0, 1) := by decide +kernel
theorem dX9_keep_80 : decode cX9_keep 80 = .ok (.getfield 135, 3) := by decide +kernel
theorem dX9_keep_83 : decode cX9_keep 83 = .ok (.iload_n 1, 1) := by decide +kernel
theorem dX9_keep_84 : decode cX9_keep 84 = .ok (.iload_n 3, 1) := by decide +kernel
theorem dX9_keep_85 : decode cX9_keep 85 = .ok (.iastore, 1) := by decide +kernel
theorem dX9_keep_86 : decode cX9_keep 86 = .ok (.aload_n 0, 1) := by decide +kernel
theorem dX9_keep_87 : decode cX9_keep 87 = .ok (.iload_n 1, 1) := by decide +kernel
theorem dX9_keep_88 : decode cX9_keep 88 = .ok (.invokevirtual 261, 3) := by decide +kernel
theorem dX9_keep_91 : decode cX9_keep 91 = .ok (.aload_n 0, 1) := by decide +kernel
theorem dX9_keep_92 : decode cX9_keep 92 = .ok (.getfield 138, 3) := by decide +kernel
theorem dX9_keep_95 : decode cX9_keep 95 = .ok (.iload_n 1, 1) := by decide +kernel
theorem dX9_keep_96 : decode cX9_keep 96 = .ok (.iload_n 2, 1) := by decide +kernel
theorem dX9_keep_97 : decode cX9_keep 97 = .ok (.iconst 3, 1) := by decide +kernel
theorem dX9_keep_98 : decode cX9_keep 98 = .ok (.if_icmp .ne 9, 3) := by decide +kernel
theorem dX9_keep_101 : decode cX9_keep 101 = .ok (.sipush 200, 3) := by decide +kernel
theorem dX9_keep_104 : decode cX9_keep 104 = .ok (.goto 4, 3) := by decide +kernel
theorem dX9_keep_107 : decode cX9_keep 107 = .ok (.iconst 5, 1) := by decide +kernel
theorem dX9_keep_108 : decode cX9_keep 108 = .ok (.iastore, 1) := by decide +kernel
theorem dX9_keep_109 : decode cX9_keep 109 = .ok (.iconst 0, 1) := by decide +kernel
theorem dX9_keep_110 : decode cX9_keep 110 = .ok (.istore 5, 2) := by decide +kernel
theorem dX9_keep_112 : decode cX9_keep 112 = .ok (.iload 5, 2) := by decide +kernel
theorem dX9_keep_114 : decode cX9_keep 114 = .ok (.sipush 200, 3) := by decide +kernel
theorem dX9_keep_117 : decode cX9_keep 117 = .ok (.if_icmp .ge 40, 3) := by decide +kernel
theorem dX9_keep_120 : decode cX9_keep 120 = .ok (.iload_n 2, 1) := by decide +kernel
theorem dX9_keep_121 : decode cX9_keep 121 = .ok (.iconst 3, 1) := by decide +kernel
theorem dX9_keep_122 : decode cX9_keep 122 = .ok (.if_icmp .ne 35, 3) := by decide +kernel
theorem dX9_keep_125 : decode cX9_keep 125 = .ok (.aload_n 0, 1) := by decide +kernel
theorem dX9_keep_126 : decode cX9_keep 126 = .ok (.getfield 141, 3) := by decide +kernel
theorem dX9_keep_129 : decode cX9_keep 129 = .ok (.sipush 200, 3) := by decide +kernel
theorem dX9_keep_132 : decode cX9_keep 132 = .ok (.iload_n 1, 1) := by decide +kernel
theorem dX9_keep_133 : decode cX9_keep 133 = .ok (.imul, 1) := by decide +kernel
theorem dX9_keep_134 : decode cX9_keep 134 = .ok (.iload 5, 2) := by decide +kernel
theorem dX9_keep_136 : decode cX9_keep 136 = .ok (.iadd, 1) := by decide +kernel
theorem dX9_keep_137 : decode cX9_keep 137 = .ok (.aload_n 0, 1) := by decide +kernel
theorem dX9_keep_138 : decode cX9_keep 138 = .ok (.getfield 66, 3) := by decide +kernel
theorem dX9_keep_141 : decode cX9_keep 141 = .ok (.aload_n 0, 1) := by decide +kernel
theorem dX9_keep_142 : decode cX9_keep 142 = .ok (.iload_n 3, 1) := by decide +kernel
theorem dX9_keep_143 : decode cX9_keep 143 = .ok (.iload 5, 2) := by decide +kernel
theorem dX9_keep_145 : decode cX9_keep 145 = .ok (.iconst 0, 1) := by decide +kernel
theorem dX9_keep_146 : decode cX9_keep 146 = .ok (.invokevirtual 165, 3) := by decide +kernel
theorem dX9_keep_149 : decode cX9_keep 149 = .ok (.iaload, 1) := by decide +kernel
theorem dX9_keep_150 : decode cX9_keep 150 = .ok (.iastore, 1) := by decide +kernel
theorem dX9_keep_151 : decode cX9_keep 151 = .ok (.iinc 5 1, 3) := by decide +kernel
theorem dX9_keep_154 : decode cX9_keep 154 = .ok (.goto (-42), 3) := by decide +kernel
theorem dX9_keep_157 : decode cX9_keep 157 = .ok (.iload_n 2, 1) := by decide +kernel
theorem dX9_keep_158 : decode cX9_keep 158 = .ok (.iconst 4, 1) := by decide +kernel
theorem dX9_keep_159 : decode cX9_keep 159 = .ok (.if_icmp .eq 5, 3) := by decide +kernel
theorem dX9_keep_162 : decode cX9_keep 162 = .ok (.iconst 0, 1) := by decide +kernel
theorem dX9_keep_163 : decode cX9_keep 163 = .ok (.ireturn, 1) := by decide +kernel
theorem dX9_keep_164 : decode cX9_keep 164 = .ok (.aload_n 0, 1) := by decide +kernel
theorem dX9_keep_165 : decode cX9_keep 165 = .ok (.getfield 141, 3) := by decide +kernel
theorem dX9_keep_168 : decode cX9_keep 168 = .ok (.sipush 200, 3) := by decide +kernel
theorem dX9_keep_171 : decode cX9_keep 171 = .ok (.iload_n 1, 1) := by decide +kernel
theorem dX9_keep_172 : decode cX9_keep 172 = .ok (.imul, 1) := by decide +kernel
theorem dX9_keep_173 : decode cX9_keep 173 = .ok (.aload_n 0, 1) := by decide +kernel
theorem dX9_keep_174 : decode cX9_keep 174 = .ok (.getfield 33, 3) := by decide +kernel
theorem dX9_keep_177 : decode cX9_keep 177 = .ok (.iload_n 3, 1) := by decide +kernel
theorem dX9_keep_178 : decode cX9_keep 178 = .ok (.iaload, 1) := by decide +kernel
theorem dX9_keep_179 : decode cX9_keep 179 = .ok (.iastore, 1) := by decide +kernel
theorem dX9_keep_180 : decode cX9_keep 180 = .ok (.aload_n 0, 1) := by decide +kernel
theorem dX9_keep_181 : decode cX9_keep 181 = .ok (.getfield 141, 3) := by decide +kernel
theorem dX9_keep_184 : decode cX9_keep 184 = .ok (.sipush 200, 3) := by decide +kernel
theorem dX9_keep_187 : decode cX9_keep 187 = .ok (.iload_n 1, 1) := by decide +kernel
theorem dX9_keep_188 : decode cX9_keep 188 = .ok (.imul, 1) := by decide +kernel
theorem dX9_keep_189 : decode cX9_keep 189 = .ok (.iconst 1, 1) := by decide +kernel
theorem dX9_keep_190 : decode cX9_keep 190 = .ok (.iadd, 1) := by decide +kernel
theorem dX9_keep_191 : decode cX9_keep 191 = .ok (.aload_n 0, 1) := by decide +kernel
theorem dX9_keep_192 : decode cX9_keep 192 = .ok (.getfield 36, 3) := by decide +kernel
theorem dX9_keep_195 : decode cX9_keep 195 = .ok (.iload_n 3, 1) := by decide +kernel
theorem dX9_keep_196 : decode cX9_keep 196 = .ok (.iaload, 1) := by decide +kernel
theorem dX9_keep_197 : decode cX9_keep 197 = .ok (.iastore, 1) := by decide +kernel
theorem dX9_keep_198 : decode cX9_keep 198 = .ok (.aload_n 0, 1) := by decide +kernel
theorem dX9_keep_199 : decode cX9_keep 199 = .ok (.getfield 141, 3) := by decide +kernel
theorem dX9_keep_202 : decode cX9_keep 202 = .ok (.sipush 200, 3) := by decide +kernel
theorem dX9_keep_205 : decode cX9_keep 205 = .ok (.iload_n 1, 1) := by decide +kernel
theorem dX9_keep_206 : decode cX9_keep 206 = .ok (.imul, 1) := by decide +kernel
theorem dX9_keep_207 : decode cX9_keep 207 = .ok (.iconst 2, 1) := by decide +kernel
theorem dX9_keep_208 : decode cX9_keep 208 = .ok (.iadd, 1) := by decide +kernel
theorem dX9_keep_209 : decode cX9_keep 209 = .ok (.aload_n 0, 1) := by decide +kernel
theorem dX9_keep_210 : decode cX9_keep 210 = .ok (.getfield 42, 3) := by decide +kernel
theorem dX9_keep_213 : decode cX9_keep 213 = .ok (.iload_n 3, 1) := by decide +kernel
theorem dX9_keep_214 : decode cX9_keep 214 = .ok (.iaload, 1) := by decide +kernel
theorem dX9_keep_215 : decode cX9_keep 215 = .ok (.iastore, 1) := by decide +kernel
theorem dX9_keep_216 : decode cX9_keep 216 = .ok (.aload_n 0, 1) := by decide +kernel
theorem dX9_keep_217 : decode cX9_keep 217 = .ok (.getfield 141, 3) := by decide +kernel
theorem dX9_keep_220 : decode cX9_keep 220 = .ok (.sipush 200, 3) := by decide +kernel
theorem dX9_keep_223 : decode cX9_keep 223 = .ok (.iload_n 1, 1) := by decide +kernel
theorem dX9_keep_224 : decode cX9_keep 224 = .ok (.imul, 1) := by decide +kernel
theorem dX9_keep_225 : decode cX9_keep 225 = .ok (.iconst 3, 1) := by decide +kernel
theorem dX9_keep_226 : decode cX9_keep 226 = .ok (.iadd, 1) := by decide +kernel
theorem dX9_keep_227 : decode cX9_keep 227 = .ok (.aload_n 0, 1) := by decide +kernel
theorem dX9_keep_228 : decode cX9_keep 228 = .ok (.getfield 45, 3) := by decide +kernel
theorem dX9_keep_231 : decode cX9_keep 231 = .ok (.iload_n 3, 1) := by decide +kernel
theorem dX9_keep_232 : decode cX9_keep 232 = .ok (.iaload, 1) := by decide +kernel
theorem dX9_keep_233 : decode cX9_keep 233 = .ok (.iastore, 1) := by decide +kernel
theorem dX9_keep_234 : decode cX9_keep 234 = .ok (.aload_n 0, 1) := by decide +kernel
theorem dX9_keep_235 : decode cX9_keep 235 = .ok (.getfield 141, 3) := by decide +kernel
theorem dX9_keep_238 : decode cX9_keep 238 = .ok (.sipush 200, 3) := by decide +kernel
theorem dX9_keep_241 : decode cX9_keep 241 = .ok (.iload_n 1, 1) := by decide +kernel
theorem dX9_keep_242 : decode cX9_keep 242 = .ok (.imul, 1) := by decide +kernel
theorem dX9_keep_243 : decode cX9_keep 243 = .ok (.iconst 4, 1) := by decide +kernel
theorem dX9_keep_244 : decode cX9_keep 244 = .ok (.iadd, 1) := by decide +kernel
theorem dX9_keep_245 : decode cX9_keep 245 = .ok (.aload_n 0, 1) := by decide +kernel
theorem dX9_keep_246 : decode cX9_keep 246 = .ok (.getfield 48, 3) := by decide +kernel
theorem dX9_keep_249 : decode cX9_keep 249 = .ok (.iload_n 3, 1) := by decide +kernel
theorem dX9_keep_250 : decode cX9_keep 250 = .ok (.iaload, 1) := by decide +kernel
theorem dX9_keep_251 : decode cX9_keep 251 = .ok (.iastore, 1) := by decide +kernel
theorem dX9_keep_252 : decode cX9_keep 252 = .ok (.iconst 0, 1) := by decide +kernel
theorem dX9_keep_253 : decode cX9_keep 253 = .ok (.ireturn, 1) := by decide +kernel
theorem dX9_make_0 : decode cX9_make 0 = .ok (.aload_n 0, 1) := by decide +kernel
theorem dX9_make_1 : decode cX9_make 1 = .ok (.iload_n 1, 1) := by decide +kernel
theorem dX9_make_2 : decode cX9_make 2 = .ok (.invokevirtual 258, 3) := by decide +kernel
theorem dX9_make_5 : decode cX9_make 5 = .ok (.ifCond .eq 19, 3) := by decide +kernel
theorem dX9_make_8 : decode cX9_make 8 = .ok (.aload_n 0, 1) := by decide +kernel
theorem dX9_make_9 : decode cX9_make 9 = .ok (.iload_n 2, 1) := by decide +kernel
theorem dX9_make_10 : decode cX9_make 10 = .ok (.iconst 3, 1) := by decide +kernel
theorem dX9_make_11 : decode cX9_make 11 = .ok (.iconst 4, 1) := by decide +kernel
theorem dX9_make_12 : decode cX9_make 12 = .ok (.invokevirtual 147, 3) := by decide +kernel
theorem dX9_make_15 : decode cX9_make 15 = .ok (.ifCond .eq 9, 3) := by decide +kernel
theorem dX9_make_18 : decode cX9_make 18 = .ok (.iload_n 3, 1) := by decide +kernel
theorem dX9_make_19 : decode cX9_make 19 = .ok (.bipush 60, 2) := by decide +kernel
theorem dX9_make_21 : decode cX9_make 21 = .ok (.if_icmp .le 5, 3) := by decide +kernel
theorem dX9_make_24 : decode cX9_make 24 = .ok (.iconst (-1), 1) := by decide +kernel
theorem dX9_make_25 : decode cX9_make 25 = .ok (.ireturn, 1) := by decide +kernel
theorem dX9_make_26 : decode cX9_make 26 = .ok (.iload_n 3, 1) := by decide +kernel
theorem dX9_make_27 : decode cX9_make 27 = .ok (.ifCond .ge 6, 3) := by decide +kernel
theorem dX9_make_30 : decode cX9_make 30 = .ok (.bipush (-14), 2) := by decide +kernel
theorem dX9_make_32 : decode cX9_make 32 = .ok (.ireturn, 1) := by decide +kernel
theorem dX9_make_33 : decode cX9_make 33 = .ok (.aload_n 0, 1) := by decide +kernel
theorem dX9_make_34 : decode cX9_make 34 = .ok (.getfield 132, 3) := by decide +kernel
theorem dX9_make_37 : decode cX9_make 37 = .ok (.iload_n 1, 1) := by decide +kernel
theorem dX9_make_38 : decode cX9_make 38 = .ok (.iload_n 2, 1) := by decide +kernel
theorem dX9_make_39 : decode cX9_make 39 = .ok (.iastore, 1) := by decide +kernel
theorem dX9_make_40 : decode cX9_make 40 = .ok (.aload_n 0, 1) := by decide +kernel
theorem dX9_make_41 : decode cX9_make 41 = .ok (.getfield 138, 3) := by decide +kernel
theorem dX9_make_44 : decode cX9_make 44 = .ok (.iload_n 1, 1) := by decide +kernel
theorem dX9_make_45 : decode cX9_make 45 = .ok (.iload_n 3, 1) := by decide +kernel
theorem dX9_make_46 : decode cX9_make 46 = .ok (.iastore, 1) := by decide +kernel
theorem dX9_make_47 : decode cX9_make 47 = .ok (.aload_n 0, 1) := by decide +kernel
theorem dX9_make_48 : decode cX9_make 48 = .ok (.iload_n 1, 1) := by decide +kernel
theorem dX9_make_49 : decode cX9_make 49 = .ok (.invokevirtual 261, 3) := by decide +kernel
theorem dX9_make_52 : decode cX9_make 52 = .ok (.iconst 0, 1) := by decide +kernel
theorem dX9_make_53 : decode cX9_make 53 = .ok (.ireturn, 1) := by decide +kernel
theorem dX9_element_0 : decode cX9_element 0 = .ok (.aload_n 0, 1) := by decide +kernel
theorem dX9_element_1 : decode cX9_element 1 = .ok (.aload_n 0, 1) := by decide +kernel
theorem dX9_element_2 : decode cX9_element 2 = .ok (.iload_n 1, 1) := by decide +kernel
theorem dX9_element_3 : decode cX9_element 3 = .ok (.invokevirtual 258, 3) := by decide +kernel
theorem dX9_element_6 : decode cX9_element 6 = .ok (.ifCond .ne 7, 3) := by decide +kernel
theorem dX9_element_9 : decode cX9_element 9 = .ok (.iconst 1, 1) := by decide +kernel
theorem dX9_element_10 : decode cX9_element 10 = .ok (.goto 35, 3) := by decide +kernel
theorem dX9_element_13 : decode cX9_element 13 = .ok (.aload_n 0, 1) := by decide +kernel
theorem dX9_element_14 : decode cX9_element 14 = .ok (.getfield 132, 3) := by decide +kernel
theorem dX9_element_17 : decode cX9_element 17 = .ok (.iload_n 1, 1) := by decide +kernel
theorem dX9_element_18 : decode cX9_element 18 = .ok (.iaload, 1) := by decide +kernel
theorem dX9_element_19 : decode cX9_element 19 = .ok (.iconst 3, 1) := by decide +kernel
theorem dX9_element_20 : decode cX9_element 20 = .ok (.if_icmp .lt 20, 3) := by decide +kernel
theorem dX9_element_23 : decode cX9_element 23 = .ok (.aload_n 0, 1) := by decide +kernel
theorem dX9_element_24 : decode cX9_element 24 = .ok (.iload_n 2, 1) := by decide +kernel
theorem dX9_element_25 : decode cX9_element 25 = .ok (.iconst 0, 1) := by decide +kernel
theorem dX9_element_26 : decode cX9_element 26 = .ok (.aload_n 0, 1) := by decide +kernel
theorem dX9_element_27 : decode cX9_element 27 = .ok (.getfield 138, 3) := by decide +kernel
theorem dX9_element_30 : decode cX9_element 30 = .ok (.iload_n 1, 1) := by decide +kernel
theorem dX9_element_31 : decode cX9_element 31 = .ok (.iaload, 1) := by decide +kernel
theorem dX9_element_32 : decode cX9_element 32 = .ok (.iconst 1, 1) := by decide +kernel
theorem dX9_element_33 : decode cX9_element 33 = .ok (.isub, 1) := by decide +kernel
theorem dX9_element_34 : decode cX9_element 34 = .ok (.invokevirtual 147, 3) := by decide +kernel
theorem dX9_element_37 : decode cX9_element 37 = .ok (.ifCond .ne 7, 3) := by decide +kernel
theorem dX9_element_40 : decode cX9_element 40 = .ok (.iconst 2, 1) := by decide +kernel
theorem dX9_element_41 : decode cX9_element 41 = .ok (.goto 4, 3) := by decide +kernel
theorem dX9_element_44 : decode cX9_element 44 = .ok (.iconst 0, 1) := by decide +kernel
theorem dX9_element_45 : decode cX9_element 45 = .ok (.putfield 1, 3) := by decide +kernel
theorem dX9_element_48 : decode cX9_element 48 = .ok (.aload_n 0, 1) := by decide +kernel
theorem dX9_element_49 : decode cX9_element 49 = .ok (.getfield 1, 3) := by decide +kernel
theorem dX9_element_52 : decode cX9_element 52 = .ok (.ifCond .le 7, 3) := by decide +kernel
theorem dX9_element_55 : decode cX9_element 55 = .ok (.lconst 0, 1) := by decide +kernel
theorem dX9_element_56 : decode cX9_element 56 = .ok (.goto 16, 3) := by decide +kernel
theorem dX9_element_59 : decode cX9_element 59 = .ok (.aload_n 0, 1) := by decide +kernel
theorem dX9_element_60 : decode cX9_element 60 = .ok (.getfield 141, 3) := by decide +kernel
theorem dX9_element_63 : decode cX9_element 63 = .ok (.sipush 200, 3) := by decide +kernel
theorem dX9_element_66 : decode cX9_element 66 = .ok (.iload_n 1, 1) := by decide +kernel
theorem dX9_element_67 : decode cX9_element 67 = .ok (.imul, 1) := by decide +kernel
theorem dX9_element_68 : decode cX9_element 68 = .ok (.iload_n 2, 1) := by decide +kernel
theorem dX9_element_69 : decode cX9_element 69 = .ok (.iadd, 1) := by decide +kernel
theorem dX9_element_70 : decode cX9_element 70 = .ok (.iaload, 1) := by decide +kernel
theorem dX9_element_71 : decode cX9_element 71 = .ok (.i2l, 1) := by decide +kernel
theorem dX9_element_72 : decode cX9_element 72 = .ok (.lreturn, 1) := by decide +kernel
theorem dX9_copy_0 : decode cX9_copy 0 = .ok (.aload_n 0, 1) := by decide +kernel
theorem dX9_copy_1 : decode cX9_copy 1 = .ok (.iload_n 1, 1) := by decide +kernel
theorem dX9_copy_2 : decode cX9_copy 2 = .ok (.invokevirtual 258, 3) := by decide +kernel
theorem dX9_copy_5 : decode cX9_copy 5 = .ok (.ifCond .eq 11, 3) := by decide +kernel
theorem dX9_copy_8 : decode cX9_copy 8 = .ok (.aload_n 0, 1) := by decide +kernel
theorem dX9_copy_9 : decode cX9_copy 9 = .ok (.iload_n 3, 1) := by decide +kernel
theorem dX9_copy_10 : decode cX9_copy 10 = .ok (.invokevirtual 258, 3) := by decide +kernel
theorem dX9_copy_13 : decode cX9_copy 13 = .ok (.ifCond .ne 5, 3) := by decide +kernel
theorem dX9_copy_16 : decode cX9_copy 16 = .ok (.iconst (-1), 1) := by decide +kernel
theorem dX9_copy_17 : decode cX9_copy 17 = .ok (.ireturn, 1) := by decide +kernel
theorem dX9_copy_18 : decode cX9_copy 18 = .ok (.aload_n 0, 1) := by decide +kernel
theorem dX9_copy_19 : decode cX9_copy 19 = .ok (.getfield 132, 3) := by decide +kernel
theorem dX9_copy_22 : decode cX9_copy 22 = .ok (.iload_n 1, 1) := by decide +kernel
theorem dX9_copy_23 : decode cX9_copy 23 = .ok (.iaload, 1) := by decide +kernel
theorem dX9_copy_24 : decode cX9_copy 24 = .ok (.ifCond .eq 12, 3) := by decide +kernel
theorem dX9_copy_27 : decode cX9_copy 27 = .ok (.aload_n 0, 1) := by decide +kernel
theorem dX9_copy_28 : decode cX9_copy 28 = .ok (.getfield 132, 3) := by decide +kernel
theorem dX9_copy_31 : decode cX9_copy 31 = .ok (.iload_n 3, 1) := by decide +kernel
theorem dX9_copy_32 : decode cX9_copy 32 = .ok (.iaload, 1) := by decide +kernel
theorem dX9_copy_33 : decode cX9_copy 33 = .ok (.ifCond .ne 6, 3) := by decide +kernel
theorem dX9_copy_36 : decode cX9_copy 36 = .ok (.bipush (-11), 2) := by decide +kernel
theorem dX9_copy_38 : decode cX9_copy 38 = .ok (.ireturn, 1) := by decide +kernel
theorem dX9_copy_39 : decode cX9_copy 39 = .ok (.aload_n 0, 1) := by decide +kernel
theorem dX9_copy_40 : decode cX9_copy 40 = .ok (.getfield 132, 3) := by decide +kernel
theorem dX9_copy_43 : decode cX9_copy 43 = .ok (.iload_n 1, 1) := by decide +kernel
theorem dX9_copy_44 : decode cX9_copy 44 = .ok (.iaload, 1) := by decide +kernel
theorem dX9_copy_45 : decode cX9_copy 45 = .ok (.iconst 3, 1) := by decide +kernel
theorem dX9_copy_46 : decode cX9_copy 46 = .ok (.if_icmp .lt 18, 3) := by decide +kernel
theorem dX9_copy_49 : decode cX9_copy 49 = .ok (.aload_n 0, 1) := by decide +kernel
theorem dX9_copy_50 : decode cX9_copy 50 = .ok (.getfield 132, 3) := by decide +kernel
theorem dX9_copy_53 : decode cX9_copy 53 = .ok (.iload_n 1, 1) := by decide +kernel
theorem dX9_copy_54 : decode cX9_copy 54 = .ok (.iaload, 1) := by decide +kernel
theorem dX9_copy_55 : decode cX9_copy 55 = .ok (.aload_n 0, 1) := by decide +kernel
theorem dX9_copy_56 : decode cX9_copy 56 = .ok (.getfield 132, 3) := by decide +kernel
theorem dX9_copy_59 : decode cX9_copy 59 = .ok (.iload_n 3, 1) := by decide +kernel
theorem dX9_copy_60 : decode cX9_copy 60 = .ok (.iaload, 1) := by decide +kernel
theorem dX9_copy_61 : decode cX9_copy 61 = .ok (.if_icmp .eq 6, 3) := by decide +kernel
theorem dX9_copy_64 : decode cX9_copy 64 = .ok (.bipush (-12), 2) := by decide +kernel
theorem dX9_copy_66 : decode cX9_copy 66 = .ok (.ireturn, 1) := by decide +kernel
theorem dX9_copy_67 : decode cX9_copy 67 = .ok (.iload 5, 2) := by decide +kernel
theorem dX9_copy_69 : decode cX9_copy 69 = .ok (.ifCond .lt 39, 3) := by decide +kernel
theorem dX9_copy_72 : decode cX9_copy 72 = .ok (.iload_n 2, 1) := by decide +kernel
theorem dX9_copy_73 : decode cX9_copy 73 = .ok (.ifCond .lt 35, 3) := by decide +kernel
theorem dX9_copy_76 : decode cX9_copy 76 = .ok (.iload 4, 2) := by decide +kernel
theorem dX9_copy_78 : decode cX9_copy 78 = .ok (.ifCond .lt 30, 3) := by decide +kernel
theorem dX9_copy_81 : decode cX9_copy 81 = .ok (.iload_n 2, 1) := by decide +kernel
theorem dX9_copy_82 : decode cX9_copy 82 = .ok (.aload_n 0, 1) := by decide +kernel
theorem dX9_copy_83 : decode cX9_copy 83 = .ok (.getfield 138, 3) := by decide +kernel
theorem dX9_copy_86 : decode cX9_copy 86 = .ok (.iload_n 1, 1) := by decide +kernel
theorem dX9_copy_87 : decode cX9_copy 87 = .ok (.iaload, 1) := by decide +kernel
theorem dX9_copy_88 : decode cX9_copy 88 = .ok (.iload 5, 2) := by decide +kernel
theorem dX9_copy_90 : decode cX9_copy 90 = .ok (.isub, 1) := by decide +kernel
theorem dX9_copy_91 : decode cX9_copy 91 = .ok (.if_icmp .gt 17, 3) := by decide +kernel
theorem dX9_copy_94 : decode cX9_copy 94 = .ok (.iload 4, 2) := by decide +kernel
theorem dX9_copy_96 : decode cX9_copy 96 = .ok (.aload_n 0, 1) := by decide +kernel
theorem dX9_copy_97 : decode cX9_copy 97 = .ok (.getfield 138, 3) := by decide +kernel
theorem dX9_copy_100 : decode cX9_copy 100 = .ok (.iload_n 3, 1) := by decide +kernel
theorem dX9_copy_101 : decode cX9_copy 101 = .ok (.iaload, 1) := by decide +kernel
theorem dX9_copy_102 : decode cX9_copy 102 = .ok (.iload 5, 2) := by decide +kernel
theorem dX9_copy_104 : decode cX9_copy 104 = .ok (.isub, 1) := by decide +kernel
theorem dX9_copy_105 : decode cX9_copy 105 = .ok (.if_icmp .le 6, 3) := by decide +kernel
theorem dX9_copy_108 : decode cX9_copy 108 = .ok (.bipush (-13), 2) := by decide +kernel
theorem dX9_copy_110 : decode cX9_copy 110 = .ok (.ireturn, 1) := by decide +kernel
theorem dX9_copy_111 : decode cX9_copy 111 = .ok (.iconst 0, 1) := by decide +kernel
theorem dX9_copy_112 : decode cX9_copy 112 = .ok (.istore 6, 2) := by decide +kernel
theorem dX9_copy_114 : decode cX9_copy 114 = .ok (.iload 6, 2) := by decide +kernel
theorem dX9_copy_116 : decode cX9_copy 116 = .ok (.iload 5, 2) := by decide +kernel
theorem dX9_copy_118 : decode cX9_copy 118 = .ok (.if_icmp .ge 31, 3) := by decide +kernel
theorem dX9_copy_121 : decode cX9_copy 121 = .ok (.aload_n 0, 1) := by decide +kernel
theorem dX9_copy_122 : decode cX9_copy 122 = .ok (.getfield 144, 3) := by decide +kernel
theorem dX9_copy_125 : decode cX9_copy 125 = .ok (.iload 6, 2) := by decide +kernel
theorem dX9_copy_127 : decode cX9_copy 127 = .ok (.aload_n 0, 1) := by decide +kernel
theorem dX9_copy_128 : decode cX9_copy 128 = .ok (.getfield 141, 3) := by decide +kernel
theorem dX9_copy_131 : decode cX9_copy 131 = .ok (.sipush 200, 3) := by decide +kernel
theorem dX9_copy_134 : decode cX9_copy 134 = .ok (.iload_n 1, 1) := by decide +kernel
theorem dX9_copy_135 : decode cX9_copy 135 = .ok (.imul, 1) := by decide +kernel
theorem dX9_copy_136 : decode cX9_copy 136 = .ok (.iload_n 2, 1) := by decide +kernel
theorem dX9_copy_137 : decode cX9_copy 137 = .ok (.iadd, 1) := by decide +kernel
theorem dX9_copy_138 : decode cX9_copy 138 = .ok (.iload 6, 2) := by decide +kernel
theorem dX9_copy_140 : decode cX9_copy 140 = .ok (.iadd, 1) := by decide +kernel
theorem dX9_copy_141 : decode cX9_copy 141 = .ok (.iaload, 1) := by decide +kernel
theorem dX9_copy_142 : decode cX9_copy 142 = .ok (.iastore, 1) := by decide +kernel
theorem dX9_copy_143 : decode cX9_copy 143 = .ok (.iinc 6 1, 3) := by decide +kernel
theorem dX9_copy_146 : decode cX9_copy 146 = .ok (.goto (-32), 3) := by decide +kernel
theorem dX9_copy_149 : decode cX9_copy 149 = .ok (.iconst 0, 1) := by decide +kernel
theorem dX9_copy_150 : decode cX9_copy 150 = .ok (.istore 6, 2) := by decide +kernel
theorem dX9_copy_152 : decode cX9_copy 152 = .ok (.iload 6, 2) := by decide +kernel
theorem dX9_copy_154 : decode cX9_copy 154 = .ok (.iload 5, 2) := by decide +kernel
theorem dX9_copy_156 : decode cX9_copy 156 = .ok (.if_icmp .ge 32, 3) := by decide +kernel
theorem dX9_copy_159 : decode cX9_copy 159 = .ok (.aload_n 0, 1) := by decide +kernel
theorem dX9_copy_160 : decode cX9_copy 160 = .ok (.getfield 141, 3) := by decide +kernel
theorem dX9_copy_163 : decode cX9_copy 163 = .ok (.sipush 200, 3) := by decide +kernel
theorem dX9_copy_166 : decode cX9_copy 166 = .ok (.iload_n 3, 1) := by decide +kernel
theorem dX9_copy_167 : decode cX9_copy 167 = .ok (.imul, 1) := by decide +kernel
theorem dX9_copy_168 : decode cX9_copy 168 = .ok (.iload 4, 2) := by decide +kernel
theorem dX9_copy_170 : decode cX9_copy 170 = .ok (.iadd, 1) := by decide +kernel
theorem dX9_copy_171 : decode cX9_copy 171 = .ok (.iload 6, 2) := by decide +kernel
theorem dX9_copy_173 : decode cX9_copy 173 = .ok (.iadd, 1) := by decide +kernel
theorem dX9_copy_174 : decode cX9_copy 174 = .ok (.aload_n 0, 1) := by decide +kernel
theorem dX9_copy_175 : decode cX9_copy 175 = .ok (.getfield 144, 3) := by decide +kernel
theorem dX9_copy_178 : decode cX9_copy 178 = .ok (.iload 6, 2) := by decide +kernel
theorem dX9_copy_180 : decode cX9_copy 180 = .ok (.iaload, 1) := by decide +kernel
theorem dX9_copy_181 : decode cX9_copy 181 = .ok (.iastore, 1) := by decide +kernel
theorem dX9_copy_182 : decode cX9_copy 182 = .ok (.iinc 6 1, 3) := by decide +kernel
theorem dX9_copy_185 : decode cX9_copy 185 = .ok (.goto (-33), 3) := by decide +kernel
theorem dX9_copy_188 : decode cX9_copy 188 = .ok (.iload 5, 2) := by decide +kernel
theorem dX9_copy_190 : decode cX9_copy 190 = .ok (.ireturn, 1) := by decide +kernel
theorem dX9_lacksLaw_0 : decode cX9_lacksLaw 0 = .ok (.aload_n 0, 1) := by decide +kernel
theorem dX9_lacksLaw_1 : decode cX9_lacksLaw 1 = .ok (.iload_n 1, 1) := by decide +kernel
theorem dX9_lacksLaw_2 : decode cX9_lacksLaw 2 = .ok (.invokevirtual 258, 3) := by decide +kernel
theorem dX9_lacksLaw_5 : decode cX9_lacksLaw 5 = .ok (.ifCond .ne 7, 3) := by decide +kernel
theorem dX9_lacksLaw_8 : decode cX9_lacksLaw 8 = .ok (.iconst (-1), 1) := by decide +kernel
theorem dX9_lacksLaw_9 : decode cX9_lacksLaw 9 = .ok (.goto 33, 3) := by decide +kernel
theorem dX9_lacksLaw_12 : decode cX9_lacksLaw 12 = .ok (.aload_n 0, 1) := by decide +kernel
theorem dX9_lacksLaw_13 : decode cX9_lacksLaw 13 = .ok (.getfield 132, 3) := by decide +kernel
theorem dX9_lacksLaw_16 : decode cX9_lacksLaw 16 = .ok (.iload_n 1, 1) := by decide +kernel
theorem dX9_lacksLaw_17 : decode cX9_lacksLaw 17 = .ok (.iaload, 1) := by decide +kernel
theorem dX9_lacksLaw_18 : decode cX9_lacksLaw 18 = .ok (.ifCond .ne 8, 3) := by decide +kernel
theorem dX9_lacksLaw_21 : decode cX9_lacksLaw 21 = .ok (.bipush (-11), 2) := by decide +kernel
theorem dX9_lacksLaw_23 : decode cX9_lacksLaw 23 = .ok (.goto 19, 3) := by decide +kernel
theorem dX9_lacksLaw_26 : decode cX9_lacksLaw 26 = .ok (.aload_n 0, 1) := by decide +kernel
theorem dX9_lacksLaw_27 : decode cX9_lacksLaw 27 = .ok (.getfield 132, 3) := by decide +kernel
theorem dX9_lacksLaw_30 : decode cX9_lacksLaw 30 = .ok (.iload_n 1, 1) := by decide +kernel
theorem dX9_lacksLaw_31 : decode cX9_lacksLaw 31 = .ok (.iaload, 1) := by decide +kernel
theorem dX9_lacksLaw_32 : decode cX9_lacksLaw 32 = .ok (.iconst 1, 1) := by decide +kernel
theorem dX9_lacksLaw_33 : decode cX9_lacksLaw 33 = .ok (.if_icmp .eq 8, 3) := by decide +kernel
theorem dX9_lacksLaw_36 : decode cX9_lacksLaw 36 = .ok (.bipush (-12), 2) := by decide +kernel
theorem dX9_lacksLaw_38 : decode cX9_lacksLaw 38 = .ok (.goto 4, 3) := by decide +kernel
theorem dX9_lacksLaw_41 : decode cX9_lacksLaw 41 = .ok (.iconst 0, 1) := by decide +kernel
theorem dX9_lacksLaw_42 : decode cX9_lacksLaw 42 = .ok (.ireturn, 1) := by decide +kernel
theorem dX9_weight_0 : decode cX9_weight 0 = .ok (.aload_n 0, 1) := by decide +kernel
theorem dX9_weight_1 : decode cX9_weight 1 = .ok (.iload_n 1, 1) := by decide +kernel
theorem dX9_weight_2 : decode cX9_weight 2 = .ok (.invokevirtual 264, 3) := by decide +kernel
theorem dX9_weight_5 : decode cX9_weight 5 = .ok (.ifCond .eq 9, 3) := by decide +kernel
theorem dX9_weight_8 : decode cX9_weight 8 = .ok (.aload_n 0, 1) := by decide +kernel
theorem dX9_weight_9 : decode cX9_weight 9 = .ok (.iload_n 1, 1) := by decide +kernel
theorem dX9_weight_10 : decode cX9_weight 10 = .ok (.invokevirtual 264, 3) := by decide +kernel
theorem dX9_weight_13 : decode cX9_weight 13 = .ok (.ireturn, 1) := by decide +kernel
theorem dX9_weight_14 : decode cX9_weight 14 = .ok (.aload_n 0, 1) := by decide +kernel
theorem dX9_weight_15 : decode cX9_weight 15 = .ok (.getfield 135, 3) := by decide +kernel
theorem dX9_weight_18 : decode cX9_weight 18 = .ok (.iload_n 1, 1) := by decide +kernel
theorem dX9_weight_19 : decode cX9_weight 19 = .ok (.iaload, 1) := by decide +kernel
theorem dX9_weight_20 : decode cX9_weight 20 = .ok (.istore_n 2, 1) := by decide +kernel
theorem dX9_weight_21 : decode cX9_weight 21 = .ok (.aload_n 0, 1) := by decide +kernel
theorem dX9_weight_22 : decode cX9_weight 22 = .ok (.getfield 51, 3) := by decide +kernel
theorem dX9_weight_25 : decode cX9_weight 25 = .ok (.iload_n 2, 1) := by decide +kernel
theorem dX9_weight_26 : decode cX9_weight 26 = .ok (.iaload, 1) := by decide +kernel
theorem dX9_weight_27 : decode cX9_weight 27 = .ok (.istore_n 3, 1) := by decide +kernel
theorem dX9_weight_28 : decode cX9_weight 28 = .ok (.bipush 10, 2) := by decide +kernel
theorem dX9_weight_30 : decode cX9_weight 30 = .ok (.iload_n 3, 1) := by decide +kernel
theorem dX9_weight_31 : decode cX9_weight 31 = .ok (.iadd, 1) := by decide +kernel
theorem dX9_weight_32 : decode cX9_weight 32 = .ok (.iload_n 3, 1) := by decide +kernel
theorem dX9_weight_33 : decode cX9_weight 33 = .ok (.iconst 5, 1) := by decide +kernel
theorem dX9_weight_34 : decode cX9_weight 34 = .ok (.if_icmp .ne 7, 3) := by decide +kernel
theorem dX9_weight_37 : decode cX9_weight 37 = .ok (.iconst 0, 1) := by decide +kernel
theorem dX9_weight_38 : decode cX9_weight 38 = .ok (.goto 12, 3) := by decide +kernel
theorem dX9_weight_41 : decode cX9_weight 41 = .ok (.bipush 100, 2) := by decide +kernel
theorem dX9_weight_43 : decode cX9_weight 43 = .ok (.aload_n 0, 1) := by decide +kernel
theorem dX9_weight_44 : decode cX9_weight 44 = .ok (.getfield 57, 3) := by decide +kernel
theorem dX9_weight_47 : decode cX9_weight 47 = .ok (.iload_n 2, 1) := by decide +kernel
theorem dX9_weight_48 : decode cX9_weight 48 = .ok (.iaload, 1) := by decide +kernel
theorem dX9_weight_49 : decode cX9_weight 49 = .ok (.iadd, 1) := by decide +kernel
theorem dX9_weight_50 : decode cX9_weight 50 = .ok (.iadd, 1) := by decide +kernel
theorem dX9_weight_51 : decode cX9_weight 51 = .ok (.iload_n 3, 1) := by decide +kernel
theorem dX9_weight_52 : decode cX9_weight 52 = .ok (.ifCond .eq 8, 3) := by decide +kernel
theorem dX9_weight_55 : decode cX9_weight 55 = .ok (.iload_n 3, 1) := by decide +kernel
theorem dX9_weight_56 : decode cX9_weight 56 = .ok (.iconst 4, 1) := by decide +kernel
theorem dX9_weight_57 : decode cX9_weight 57 = .ok (.if_icmp .ne 7, 3) := by decide +kernel
theorem dX9_weight_60 : decode cX9_weight 60 = .ok (.iconst 0, 1) := by decide +kernel
theorem dX9_weight_61 : decode cX9_weight 61 = .ok (.goto 6, 3) := by decide +kernel
theorem dX9_weight_64 : decode cX9_weight 64 = .ok (.sipush 1000, 3) := by decide +kernel
theorem dX9_weight_67 : decode cX9_weight 67 = .ok (.iadd, 1) := by decide +kernel
theorem dX9_weight_68 : decode cX9_weight 68 = .ok (.istore 4, 2) := by decide +kernel
theorem dX9_weight_70 : decode cX9_weight 70 = .ok (.iload_n 3, 1) := by decide +kernel
theorem dX9_weight_71 : decode cX9_weight 71 = .ok (.iconst 2, 1) := by decide +kernel
theorem dX9_weight_72 : decode cX9_weight 72 = .ok (.if_icmp .eq 8, 3) := by decide +kernel
theorem dX9_weight_75 : decode cX9_weight 75 = .ok (.iload_n 3, 1) := by decide +kernel
theorem dX9_weight_76 : decode cX9_weight 76 = .ok (.iconst 3, 1) := by decide +kernel
theorem dX9_weight_77 : decode cX9_weight 77 = .ok (.if_icmp .ne 10, 3) := by decide +kernel
theorem dX9_weight_80 : decode cX9_weight 80 = .ok (.iconst 2, 1) := by decide +kernel
theorem dX9_weight_81 : decode cX9_weight 81 = .ok (.iload 4, 2) := by decide +kernel
theorem dX9_weight_83 : decode cX9_weight 83 = .ok (.imul, 1) := by decide +kernel
theorem dX9_weight_84 : decode cX9_weight 84 = .ok (.goto 5, 3) := by decide +kernel
theorem dX9_weight_87 : decode cX9_weight 87 = .ok (.iload 4, 2) := by decide +kernel
theorem dX9_weight_89 : decode cX9_weight 89 = .ok (.ireturn, 1) := by decide +kernel
theorem dX9_toss_0 : decode cX9_toss 0 = .ok (.aload_n 0, 1) := by decide +kernel
theorem dX9_toss_1 : decode cX9_toss 1 = .ok (.iload_n 1, 1) := by decide +kernel
theorem dX9_toss_2 : decode cX9_toss 2 = .ok (.invokevirtual 264, 3) := by decide +kernel
theorem dX9_toss_5 : decode cX9_toss 5 = .ok (.ifCond .eq 9, 3) := by decide +kernel
theorem dX9_toss_8 : decode cX9_toss 8 = .ok (.aload_n 0, 1) := by decide +kernel
theorem dX9_toss_9 : decode cX9_toss 9 = .ok (.iload_n 1, 1) := by decide +kernel
theorem dX9_toss_10 : decode cX9_toss 10 = .ok (.invokevirtual 264, 3) := by decide +kernel
theorem dX9_toss_13 : decode cX9_toss 13 = .ok (.ireturn, 1) := by decide +kernel
theorem dX9_toss_14 : decode cX9_toss 14 = .ok (.aload_n 0, 1) := by decide +kernel
theorem dX9_toss_15 : decode cX9_toss 15 = .ok (.getfield 51, 3) := by decide +kernel
theorem dX9_toss_18 : decode cX9_toss 18 = .ok (.aload_n 0, 1) := by decide +kernel
theorem dX9_toss_19 : decode cX9_toss 19 = .ok (.getfield 135, 3) := by decide +kernel
theorem dX9_toss_22 : decode cX9_toss 22 = .ok (.iload_n 1, 1) := by decide +kernel
theorem dX9_toss_23 : decode cX9_toss 23 = .ok (.iaload, 1) := by decide +kernel
theorem dX9_toss_24 : decode cX9_toss 24 = .ok (.iaload, 1) := by decide +kernel
theorem dX9_toss_25 : decode cX9_toss 25 = .ok (.istore_n 2, 1) := by decide +kernel
theorem dX9_toss_26 : decode cX9_toss 26 = .ok (.iload_n 2, 1) := by decide +kernel
theorem dX9_toss_27 : decode cX9_toss 27 = .ok (.ifCond .eq 8, 3) := by decide +kernel
theorem dX9_toss_30 : decode cX9_toss 30 = .ok (.iload_n 2, 1) := by decide +kernel
theorem dX9_toss_31 : decode cX9_toss 31 = .ok (.iconst 4, 1) := by decide +kernel
theorem dX9_toss_32 : decode cX9_toss 32 = .ok (.if_icmp .ne 8, 3) := by decide +kernel
theorem dX9_toss_35 : decode cX9_toss 35 = .ok (.bipush (-15), 2) := by decide +kernel
theorem dX9_toss_37 : decode cX9_toss 37 = .ok (.goto 9, 3) := by decide +kernel
theorem dX9_toss_40 : decode cX9_toss 40 = .ok (.aload_n 0, 1) := by decide +kernel
theorem dX9_toss_41 : decode cX9_toss 41 = .ok (.getfield 135, 3) := by decide +kernel
theorem dX9_toss_44 : decode cX9_toss 44 = .ok (.iload_n 1, 1) := by decide +kernel
theorem dX9_toss_45 : decode cX9_toss 45 = .ok (.iaload, 1) := by decide +kernel
theorem dX9_toss_46 : decode cX9_toss 46 = .ok (.ireturn, 1) := by decide +kernel
end
section
/-! ===== BEGIN exceptions that leave a method, and their catching by the caller (launches without stack traces) ===== -/
section VXA
/-! The laws vx_back, vx_callV, vx_callS, vx_callSW, vx_throw0, vx_throwS follow proofs of the library, with one case more: JvmDerived/Free/Laws.lean (Back.of_free), Shelf42/LK1.lean (callV, callS), Shelf/KitTraced.lean (throwNew0V, throwNewS). -/
/-- where a method has thrown q: the class by its name, the cell, what was written, the world -/
def vx_T (XC : String → State → State → Prop) (st : State) (q : Addr) (t : State) (mc ms : Nat) (free : Addr → Prop) : Prop :=
  ∃ (E : String) (ce : Cell) (L : List Loc), XC E st t ∧ t.heap[q]? = some ce ∧ ce.vm = .none ∧ st.vm.findClass E = some ce.cls ∧ st.WarmedH t.vm ∧ st.sameButNew ({ t with vm := st.vm } : State) L mc ms ∧ ∀ z ∈ L, free z.base
def vx_Q (Qc : Array Value → State → Outcome → State → Prop) (XC : String → State → State → Prop) (mc ms : Nat) (free : Addr → Prop) : Array Value → State → Outcome → State → Prop := fun a st o t =>
  (Qc a st o t ∧ ∃ L, FrameEnd st o t L mc ms ∧ ∀ q ∈ L, free q.base) ∨ ∃ q, o = .threw q ∧ vx_T XC st q t mc ms free
/-- a callee that returns or throws -/
def vx_Met (l : Launch) (y : MethodName) (ws : List Cond) (rm : Room) (Pc : Array Value → State → Prop) (Qc : Array Value → State → Outcome → State → Prop) (XC : String → State → State → Prop) (mc ms : Nat) (free : Addr → Prop) : Prop :=
  MetFree l y (headSpec ws rm) Pc (fun _ _ _ _ _ => True) (vx_Q Qc XC mc ms free)
def vx_Post (XC : String → State → State → Prop) (mc ms : Nat) (free : Addr → Prop) : Pt → Array Value → Addr → Pt → Prop := fun A a q B =>
  ∃ (g : JFrame) (mk : MethodId) (t : State) (L : List Loc) (E : String) (ce : Cell), B.U.heap = t.heap ∧ B.U.vm = t.vm ∧ XC E (A.U.calling g mk a) t ∧ t.heap[q]? = some ce ∧ ce.vm = .none ∧ A.U.vm.findClass E = some ce.cls ∧ B.locs = A.locs ++ L ∧ (∀ z ∈ L, free z.base) ∧ B.cells = A.cells + mc ∧ B.slots = A.slots + ms
def vx_Back (l : Launch) (R : Room) (p : Program) (e : Env) (below : List Frame) (s : State) (sargs : Array Value) (y : MethodName) (len W9 : Nat)
    (Pre : Pt → Array Value → Prop) (Post : Pt → Array Value → Option Value → Pt → Prop) (PostX : Pt → Array Value → Addr → Pt → Prop) : Prop :=
  ∀ (m : MethodId) (meth : Method) (c : Code) (A : Pt) (g : JFrame) (ig : Instr) (mk : MethodId) (a : Array Value),
    Stand p l e R s m sargs below meth c A.U A.locs A.cells A.slots → g.method = m → g.locals.size = c.maxLocals → decode c.code g.pc = .ok (ig, len) →
    2 * g.monitorRoom + (g.stack.map fun v => v.category).sum ≤ W9 → A.U.methodNamed? y = some mk → Pre A a →
    (∃ (v : Option Value) (B : Pt), Stand p l e R s m sargs below meth c B.U B.locs B.cells B.slots ∧ Post A a v B ∧
      Steps p.tables e below (doInvoke e (A.U.setTop g) [] mk a).1 (B.U.setTop { g with pc := g.pc + len, stack := v.toList ++ g.stack })) ∨
    (∃ (q : Addr) (B : Pt), Stand p l e R s m sargs below meth c B.U B.locs B.cells B.slots ∧ PostX A a q B ∧
      Steps p.tables e below (doInvoke e (A.U.setTop g) [] mk a).1 ((B.U.setTop g).pushFrame (.throwing q)))
section Payer
variable {l : Launch} {R : Room} {p : Program} {e : Env} {below : List Frame} {s : State} {sargs : Array Value} {y : MethodName} {len W9 : Nat}
theorem vx_back {ws : List Cond} {rm : Room} {Pc : Array Value → State → Prop} {Qc : Array Value → State → Outcome → State → Prop} {XC : String → State → State → Prop} {mc ms : Nat} {free : Addr → Prop} {bytes : ByteArray} {maxL : Nat} {ret : Option FieldType}
    (hM : vx_Met l y ws rm Pc Qc XC mc ms free) (hblind : FrameBlind Pc) (hrc : rm.cells = mc) (hrs : rm.slots = ms)
    (hframes : rm.frames + 1 ≤ R.frames) (hlocals : W9 + (maxL + 11) + rm.locals ≤ R.locals)
    (hws : ∀ w ∈ ws, ∀ a' U, s.WarmedH U.vm → w.before a' U = true) (hcode : Cond.code y bytes maxL ret ∈ ws) (hinit : ∀ a' U, s.WarmedH U.vm → (Cond.initialized y.cls).before a' U = true) :
    vx_Back l R p e below s sargs y len W9 (PreOf R mc ms Pc) (PostOf Qc mc ms free) (vx_Post XC mc ms free) := by
  intro m meth c A g ig mk a X hg hsize hdg hW hn hp
  have h1 : (headSpec ws rm).pre.before a A.U = true := atoms_intro fun w hw => hws w hw _ _ X.warmed
  have h2 : (Cond.code y bytes maxL ret).before a A.U = true := hws _ hcode _ _ X.warmed
  have h3 : (Cond.initialized y.cls).before a A.U = true := hinit _ _ X.warmed
  have h4 : A.cells + (headSpec ws rm).room.cells ≤ R.cells := by rw [show (headSpec ws rm).room.cells = mc from hrc]; exact hp.1
  have h5 : A.slots + (headSpec ws rm).room.slots ≤ R.slots := by rw [show (headSpec ws rm).room.slots = ms from hrs]; exact hp.2.1
  have hPc : Pc a (A.U.calling g mk a) := hblind _ _ _ _ hp.2.2
  obtain ⟨U, Ls, c0, s0⟩ := A
  dsimp only [Pt.U, Pt.locs, Pt.cells, Pt.slots] at h1 h2 h3 h4 h5 X hn hPc ⊢
  obtain ⟨methY, cY, hmY, hcY, -, hlY, -, -, -, -⟩ := Cond.code_spec hn h2
  obtain ⟨kY, hkY, -⟩ := className_of_methodNamed hn
  have hinitY : kY.init = .initialized := Cond.initialized_spec (findClass_of_methodNamed hn) hkY h3
  have h : At U g.method c below := by rw [hg]; exact X.here
  have hlocals9 : W9 + (maxL + 11) + (headSpec ws rm).room.locals ≤ R.locals := hlocals
  have happ : (headSpec ws rm).appliesLoose y e.platform (U.calling g mk a) = true :=
    Spec.appliesLoose_calling (g := g) h hdg hn hkY hinitY
      (X.room_calling (g := g) (R' := (headSpec ws rm).room) hsize hmY hcY hframes (by rw [hlY]; omega) h4 h5) h1
  obtain ⟨mid, hmid⟩ := h.above
  have hfr : (U.setTop g).frames = (.java g :: mid) ++ below := by rw [State.frames_setTop' g h.top, hmid]; rfl
  obtain ⟨o, s₂, hsteps, -, hend, hq⟩ := Steps.callFree hM p X.admits X.cas X.clock (acts := []) hfr happ hPc trivial
  have hq' : vx_Q Qc XC mc ms free a (U.calling g mk a) o s₂ := hq
  rw [State.frames_setTop' g h.top] at hend
  obtain ⟨g₀, hg0⟩ := Option.isSome_iff_exists.mp h.top
  obtain ⟨r, hr⟩ := State.topJava?_eq_some.mp hg0
  have hr' : (({ U with heap := s₂.heap, slotsUsed := s₂.slotsUsed } : State).setVm s₂.vm).frames = .java g₀ :: r := hr
  rcases hq' with ⟨hqc, L, hfe, hL⟩ | ⟨q, rfl, E, ce, L, hx, hce, hcv, hcl, hW₂, hsm, hL⟩
  · obtain ⟨⟨v, rfl⟩, hW₂, e2, q2, q3, q4, q5, q6⟩ := id hfe
    have e3 : s₂ = ({ (U.calling g mk a).setFrames s₂.frames with heap := s₂.heap, slotsUsed := s₂.slotsUsed } : State).setVm s₂.vm := by
      have : s₂ = ({ s₂ with vm := (U.calling g mk a).vm } : State).setVm s₂.vm := rfl
      rw [e2] at this
      exact this
    obtain ⟨c₂, i₂, len₂, hc₂, hd₂, hf₂⟩ := hend
    have hW' : U.WarmedH s₂.vm := hW₂
    have hcc : c₂ = c := by
      have h1 : s₂.code? g.method = U.code? g.method := by
        rw [State.code?_eq, State.code?_eq, hW'.alike.method?]
      exact Option.some.inj (hc₂.symm.trans (h1.trans h.code))
    subst hcc
    have hlen : len₂ = len := by rw [hdg] at hd₂; cases hd₂; rfl
    subst hlen
    have hs₂ : s₂ = (({ U with heap := s₂.heap, slotsUsed := s₂.slotsUsed } : State).setVm s₂.vm).setTop { g with pc := g.pc + len₂, stack := v.toList ++ g.stack } := by
      refine e3.trans ?_
      rw [hf₂, State.calling_eq h.top, State.setFrames_setFrames, State.setTop_of_frames _ hr', hr]
      rfl
    have hsame : U.sameButNew ({ U with heap := s₂.heap, slotsUsed := s₂.slotsUsed } : State) L mc ms := by
      refine ⟨?_, q2, q3, q4, q5, q6⟩
      obtain ⟨t, ht, -⟩ := State.frames_cons hr
      show ({ U with heap := s₂.heap, slotsUsed := s₂.slotsUsed } : State) = { U.setFrames U.frames with heap := s₂.heap, slotsUsed := s₂.slotsUsed }
      rw [State.setFrames_self ht]
    subst hg
    refine Or.inl ⟨v, ⟨(({ U with heap := s₂.heap, slotsUsed := s₂.slotsUsed } : State).setVm s₂.vm), Ls ++ L, c0 + mc, s0 + ms⟩,
      ⟨X.admits, X.cas, X.clock, X.frames, X.room, X.hears, X.method, X.code, (X.here.setHeapUsed s₂.heap s₂.slotsUsed).setVm hW'.alike, X.tail, State.WarmedH.trans X.warmed hW', X.limits, X.bytes, X.same.trans (hsame.setVm s.vm)⟩,
      ⟨g, mk, s₂, L, rfl, rfl, hqc, rfl, hL, rfl, rfl⟩, ?_⟩
    show Steps p.tables e below _ ((({ U with heap := s₂.heap, slotsUsed := s₂.slotsUsed } : State).setVm s₂.vm).setTop { g with pc := g.pc + len₂, stack := v.toList ++ g.stack })
    rw [← hs₂]
    exact hsteps
  · obtain ⟨e2, q2, q3, q4, q5, q6⟩ := id hsm
    have e3 : s₂ = ({ (U.calling g mk a).setFrames s₂.frames with heap := s₂.heap, slotsUsed := s₂.slotsUsed } : State).setVm s₂.vm := by
      have : s₂ = ({ s₂ with vm := (U.calling g mk a).vm } : State).setVm s₂.vm := rfl
      rw [e2] at this
      exact this
    have hf₂ : s₂.frames = .throwing q :: .java g :: U.frames.tail := hend
    have hW' : U.WarmedH s₂.vm := hW₂
    have hs₂ : s₂ = ((({ U with heap := s₂.heap, slotsUsed := s₂.slotsUsed } : State).setVm s₂.vm).setTop g).pushFrame (.throwing q) := by
      refine e3.trans ?_
      rw [hf₂, State.calling_eq h.top, State.setFrames_setFrames, State.pushFrame, State.frames_setTop _ hr', State.setTop_of_frames _ hr', State.setFrames_setFrames, hr]
      rfl
    have hsame : U.sameButNew ({ U with heap := s₂.heap, slotsUsed := s₂.slotsUsed } : State) L mc ms := by
      refine ⟨?_, q2, q3, q4, q5, q6⟩
      obtain ⟨t, ht, -⟩ := State.frames_cons hr
      show ({ U with heap := s₂.heap, slotsUsed := s₂.slotsUsed } : State) = { U.setFrames U.frames with heap := s₂.heap, slotsUsed := s₂.slotsUsed }
      rw [State.setFrames_self ht]
    subst hg
    refine Or.inr ⟨q, ⟨(({ U with heap := s₂.heap, slotsUsed := s₂.slotsUsed } : State).setVm s₂.vm), Ls ++ L, c0 + mc, s0 + ms⟩,
      ⟨X.admits, X.cas, X.clock, X.frames, X.room, X.hears, X.method, X.code, (X.here.setHeapUsed s₂.heap s₂.slotsUsed).setVm hW'.alike, X.tail, State.WarmedH.trans X.warmed hW', X.limits, X.bytes, X.same.trans (hsame.setVm s.vm)⟩,
      ⟨g, mk, s₂, L, E, ce, rfl, rfl, hx, hce, hcv, hcl, rfl, hL, rfl, rfl⟩, ?_⟩
    show Steps p.tables e below _ (((({ U with heap := s₂.heap, slotsUsed := s₂.slotsUsed } : State).setVm s₂.vm).setTop g).pushFrame (.throwing q))
    rw [← hs₂]
    exact hsteps
end Payer
section Calls
variable {p : Program} {l : Launch} {e : Env} {R : Room} {s : State} {m : MethodId} {args : Array Value} {below : List Frame} {meth : Method} {c : Code} {T : State} {locs : List Loc} {cells slots : Nat}
theorem vx_callV (X : Stand p l e R s m args below meth c T locs cells slots) (hexec : p.tables.exec = Jvm.exec) {own C : String} {index : Nat} {y : MethodName} {bytes : ByteArray} {maxL : Nat} {ret : Option FieldType}
    (hown : s.vm.findClass own = some m.cls) (hlink : (Cond.methodLink own index y).before args s = true) (hinst : (Cond.instanceMethod y).before args s = true) (hsel : (Cond.selects C y y).before args s = true)
    (hcode : (Cond.code y bytes maxL ret).before args s = true) (hy : y.cls ≠ "java/lang/invoke/MethodHandle" ∧ y.cls ≠ "java/lang/invoke/VarHandle")
    {W9 : Nat} {Pre : Pt → Array Value → Prop} {Post : Pt → Array Value → Option Value → Pt → Prop} {PostX : Pt → Array Value → Addr → Pt → Prop} (hK : vx_Back l R p e below s args y 3 W9 Pre Post PostX)
    {b : Addr} {cellB : Cell} (hcell : T.heap[b]? = some cellB) (hobj : cellB.vm.isStatics = false) (hcls : s.vm.findClass C = some cellB.cls)
    {g : JFrame} (hg : g.method = m) (hsize : g.locals.size = c.maxLocals) {argsL rest : List Value} (hlen : ∀ sig, parseMethodDescriptor y.desc = some sig → argsL.length = sig.parameters.length)
    (hstack : g.stack = argsL.reverse ++ .ref b :: rest) (hW : 2 * g.monitorRoom + (rest.map fun v => v.category).sum ≤ W9) (hdg : decode c.code g.pc = .ok (.invokevirtual index, 3))
    (hpre : ∀ vm₁, s.WarmedH vm₁ → Pre ⟨T.setVm vm₁, locs, cells, slots⟩ (Value.ref b :: argsL).toArray) :
    (∃ (v : Option Value) (vm₁ : Vm) (B : Pt), s.WarmedH vm₁ ∧ Stand p l e R s m args below meth c B.U B.locs B.cells B.slots ∧ Post ⟨T.setVm vm₁, locs, cells, slots⟩ (Value.ref b :: argsL).toArray v B ∧
      ∀ target, Steps p.tables e below (B.U.setTop { g with pc := g.pc + 3, stack := v.toList ++ rest }) target → Steps p.tables e below (T.setTop g) target) ∨
    (∃ (q : Addr) (vm₁ : Vm) (B : Pt), s.WarmedH vm₁ ∧ Stand p l e R s m args below meth c B.U B.locs B.cells B.slots ∧ PostX ⟨T.setVm vm₁, locs, cells, slots⟩ (Value.ref b :: argsL).toArray q B ∧
      Steps p.tables e below (T.setTop g) ((B.U.setTop { g with stack := rest }).pushFrame (.throwing q))) := by
  obtain ⟨mk, methM, hnamed, hmethM, hstM, habM⟩ := Cond.instanceMethod_spec hinst
  obtain ⟨methM', cM, hmethM', -, -, -, -, -, -, hsigM⟩ := Cond.code_spec hnamed hcode
  cases hmethM.symm.trans hmethM'
  obtain ⟨c2, r2, m2, q1, q2, q3, q4, kP, hkP, hkPi⟩ := Cond.selects_spec hsel
  cases hcls.symm.trans q1
  cases (State.methodFound?_of_named hnamed hy).symm.trans q2
  cases hnamed.symm.trans q3
  have hselP : selectMethod e.platform s.vm cellB.cls mk = .method mk := by rw [Launch.admits_selectMethod X.admits]; exact q4
  obtain ⟨vm₁, X₁, hstep₁⟩ := X.invokevirtual hexec hown hlink hnamed hmethM hstM hkP hkPi hy (a := b) (cell := cellB) hcell
    (fun z h => by rw [h] at hobj; cases hobj) hselP hmethM habM hkP hkPi (g := g) hg (argsL := argsL) (rest := rest) (hlen _ hsigM) hstack hdg
  rcases hK m meth c ⟨T.setVm vm₁, locs, cells, slots⟩ { g with stack := rest } (.invokevirtual index) mk (Value.ref b :: argsL).toArray X₁ hg hsize hdg hW (X₁.named hnamed) (hpre vm₁ X₁.warmed) with ⟨v, B, X', hpost, hsteps⟩ | ⟨q, B, X', hpost, hsteps⟩
  · exact Or.inl ⟨v, vm₁, B, X₁.warmed, X', hpost, fun target h => hstep₁ _ fun acts => by rw [doInvoke_state]; exact hsteps.trans h⟩
  · exact Or.inr ⟨q, vm₁, B, X₁.warmed, X', hpost, hstep₁ _ fun acts => by rw [doInvoke_state]; exact hsteps⟩
theorem vx_callS (X : Stand p l e R s m args below meth c T locs cells slots) (hexec : p.tables.exec = Jvm.exec) {own : String} {index : Nat} {y : MethodName} {bytes : ByteArray} {maxL : Nat} {ret : Option FieldType}
    (hown : s.vm.findClass own = some m.cls) (hlink : (Cond.methodLink own index y).before args s = true) (hstat : (Cond.static y).before args s = true) (hinit : (Cond.initialized y.cls).before args s = true)
    (hcode : (Cond.code y bytes maxL ret).before args s = true) (hy : y.cls ≠ "java/lang/invoke/MethodHandle" ∧ y.cls ≠ "java/lang/invoke/VarHandle")
    {W9 : Nat} {Pre : Pt → Array Value → Prop} {Post : Pt → Array Value → Option Value → Pt → Prop} {PostX : Pt → Array Value → Addr → Pt → Prop} (hK : vx_Back l R p e below s args y 3 W9 Pre Post PostX)
    {g : JFrame} (hg : g.method = m) (hsize : g.locals.size = c.maxLocals) {argsL rest : List Value} (hlen : ∀ sig, parseMethodDescriptor y.desc = some sig → argsL.length = sig.parameters.length)
    (hstack : g.stack = argsL.reverse ++ rest) (hW : 2 * g.monitorRoom + (rest.map fun v => v.category).sum ≤ W9) (hdg : decode c.code g.pc = .ok (.invokestatic index, 3))
    (hpre : ∀ vm₁, s.WarmedH vm₁ → Pre ⟨T.setVm vm₁, locs, cells, slots⟩ argsL.toArray) :
    (∃ (v : Option Value) (vm₁ : Vm) (B : Pt), s.WarmedH vm₁ ∧ Stand p l e R s m args below meth c B.U B.locs B.cells B.slots ∧ Post ⟨T.setVm vm₁, locs, cells, slots⟩ argsL.toArray v B ∧
      ∀ target, Steps p.tables e below (B.U.setTop { g with pc := g.pc + 3, stack := v.toList ++ rest }) target → Steps p.tables e below (T.setTop g) target) ∨
    (∃ (q : Addr) (vm₁ : Vm) (B : Pt), s.WarmedH vm₁ ∧ Stand p l e R s m args below meth c B.U B.locs B.cells B.slots ∧ PostX ⟨T.setVm vm₁, locs, cells, slots⟩ argsL.toArray q B ∧
      Steps p.tables e below (T.setTop g) ((B.U.setTop { g with stack := rest }).pushFrame (.throwing q))) := by
  obtain ⟨mk, hnamed⟩ := Cond.code_named hcode
  obtain ⟨methM, cM, hmethM, -, -, -, -, -, -, hsigM⟩ := Cond.code_spec hnamed hcode
  have hstatic : methM.isStatic = true := Cond.static_spec hnamed hmethM hstat
  obtain ⟨kP, hkP, -⟩ := className_of_methodNamed hnamed
  have hinitP : kP.init = .initialized := Cond.initialized_spec (findClass_of_methodNamed hnamed) hkP hinit
  obtain ⟨vm₁, X₁, hstep₁⟩ := X.invokestatic hexec hown hlink hnamed hmethM hstatic hkP hinitP hy (g := g) hg (argsL := argsL) (rest := rest) (hlen _ hsigM) hstack hdg
  rcases hK m meth c ⟨T.setVm vm₁, locs, cells, slots⟩ { g with stack := rest } (.invokestatic index) mk argsL.toArray X₁ hg hsize hdg hW (X₁.named hnamed) (hpre vm₁ X₁.warmed) with ⟨v, B, X', hpost, hsteps⟩ | ⟨q, B, X', hpost, hsteps⟩
  · exact Or.inl ⟨v, vm₁, B, X₁.warmed, X', hpost, fun target h => hstep₁ _ fun acts => by rw [doInvoke_state]; exact hsteps.trans h⟩
  · exact Or.inr ⟨q, vm₁, B, X₁.warmed, X', hpost, hstep₁ _ fun acts => by rw [doInvoke_state]; exact hsteps⟩
end Calls
theorem vx_cls {s : State} {T : State} {vm₁ : Vm} {E : String} {k : ClassId} (hW : s.WarmedH vm₁) (h : (T.setVm vm₁).vm.findClass E = some k) : s.vm.findClass E = some k := by
  have h1 : vm₁.findClass E = some k := h
  rw [hW.alike.findClass] at h1
  exact h1
/-- the method's frame g, with q thrown over it -/
def vx_W (p : Program) (l : Launch) (e : Env) (R : Room) (s : State) (m : MethodId) (args : Array Value) (below : List Frame) (meth : Method) (c : Code) (H : Heap) (locs : List Loc) (cells slots : Nat) (Q : State → Prop) (g : JFrame) (q : Addr) : Prop :=
  ∀ T : State, T.heap = H → Stand p l e R s m args below meth c T locs cells slots → ∃ t, Steps p.tables e below ((T.setTop g).pushFrame (.throwing q)) t ∧ Q t
def vx_Run (p : Program) (l : Launch) (e : Env) (R : Room) (s : State) (m : MethodId) (args : Array Value) (below : List Frame) (meth : Method) (c : Code) (H : Heap) (locs : List Loc) (cells slots mc ms : Nat) (g : JFrame) (rest : List Value) (Qa : State → Outcome → State → Prop) (XC : String → State → State → Prop) (free : Addr → Prop) : Prop :=
  ∀ T : State, T.heap = H → Stand p l e R s m args below meth c T locs cells slots →
    (∃ (v : Option Value) (st₀ t T' : State) (L : List Loc), st₀.heap = H ∧ Stand p l e R s m args below meth c T' (locs ++ L) (cells + mc) (slots + ms) ∧ (∀ q ∈ L, free q.base) ∧ T'.heap = t.heap ∧ T'.vm = t.vm ∧ Qa st₀ (.returned v) t ∧
      Goes p e below T g T' { g with pc := g.pc + 3, stack := v.toList ++ rest }) ∨
    (∃ (q : Addr) (st₀ t T' : State) (L : List Loc) (E : String) (ce : Cell), st₀.heap = H ∧ Stand p l e R s m args below meth c T' (locs ++ L) (cells + mc) (slots + ms) ∧ (∀ z ∈ L, free z.base) ∧ T'.heap = t.heap ∧ T'.vm = t.vm ∧ XC E st₀ t ∧ t.heap[q]? = some ce ∧ ce.vm = .none ∧ s.vm.findClass E = some ce.cls ∧
      Steps p.tables e below (T.setTop g) ((T'.setTop { g with stack := rest }).pushFrame (.throwing q)))
def vx_X {S : Type} (px : S → Prop) (B : String → S → State → Prop) (A : Nat → Prop) : String → State → State → Prop := fun E st t => ∃ u : S, px u ∧ B E u t ∧ va_F A st t
section Runs
variable {p : Program} {l : Launch} {e : Env} {R : Room} {s : State} {m : MethodId} {args : Array Value} {below : List Frame} {meth : Method} {c : Code} {H : Heap} {locs : List Loc} {cells slots : Nat}
variable {y : MethodName} {bytes cc : ByteArray} {maxL nL mc ms n index : Nat} {ret : Option FieldType} {ws : List Cond} {rm : Room} {Pc : Array Value → State → Prop} {Qc : Array Value → State → Outcome → State → Prop} {XC : String → State → State → Prop} {free : Addr → Prop} {Ts : List Cond} {own C : String} {b : Addr} {As rest : List Value} {g : JFrame}
theorem vx_callBack (cb : CallB R s args own index y bytes maxL ret ws rm mc ms n) (hM : vx_Met l y ws rm Pc Qc XC mc ms free) (hbl : FrameBlind Pc) : vx_Back l R p e below s args y 3 8 (PreOf R mc ms Pc) (PostOf Qc mc ms free) (vx_Post XC mc ms free) := by
  obtain ⟨hrc, hrs, hfr, hlo, hws, hcw, -, hini, -⟩ := cb
  exact vx_back (bytes := bytes) (maxL := maxL) (ret := ret) hM hbl hrc hrs hfr hlo hws hcw (fun a' U hW => word_at hW (Or.inl (by first | rfl | simp [Cond.onTables, Cond.keeps, Cond.steady])) hini)
theorem vx_runV (S : CallFix p m c cc nL s args Ts own) (hM : vx_Met l y ws rm Pc Qc XC mc ms free) (cw : CallW R s args own C index y bytes maxL ret ws rm mc ms n) (hp : PreV s H C b Pc As)
    (hg : g.method = m) (hn : As.length = n) (hsize : g.locals.size = nL) (hstack : g.stack = As.reverse ++ .ref b :: rest) (hW : 2 * g.monitorRoom + (rest.map fun v => v.category).sum ≤ 8) (hdg : decode cc g.pc = .ok (.invokevirtual index, 3)) (hf : cells + mc ≤ R.cells ∧ slots + ms ≤ R.slots) :
    vx_Run p l e R s m args below meth c H locs cells slots mc ms g rest (Qc (Value.ref b :: As).toArray) XC free := by
  have hK : vx_Back l R p e below s args y 3 8 (PreOf R mc ms Pc) (PostOf Qc mc ms free) (vx_Post XC mc ms free) := vx_callBack cw.1 hM hp.1
  obtain ⟨⟨-, -, -, -, -, -, hcode, -, hy, hlen, hl⟩, hin, hse⟩ := cw
  obtain ⟨hx, hb, hml, ho, -⟩ := S
  obtain ⟨-, ⟨cellB, hcB, hoB, hclB⟩, hPc⟩ := hp
  intro T hT X
  rcases vx_callV X hx (C := C) (bytes := bytes) (maxL := maxL) (ret := ret) ho hl hin hse hcode hy hK (by rw [hT]; exact hcB) hoB hclB hg (hsize.trans hml.symm) (argsL := As) (rest := rest) (fun sig h => hn.trans (hlen sig h)) hstack hW (by rw [hb]; exact hdg)
    (fun vm₁ hW₁ => ⟨hf.1, hf.2, hPc (T.setVm vm₁) hT hW₁⟩) with ⟨v, vm₁, ⟨U', l2, c2, s2⟩, hW₁, X', ⟨g', mk, t, L, e1, e2, hq, h1, hL, h2, h3⟩, st⟩ | ⟨q, vm₁, ⟨U', l2, c2, s2⟩, hW₁, X', ⟨g', mk, t, L, E, ce, e1, e2, hq, hce, hcv, hcl, h1, hL, h2, h3⟩, st⟩
  · dsimp only [Pt.U, Pt.locs, Pt.cells, Pt.slots] at X' e1 e2 h1 h2 h3 st
    subst h1; subst h2; subst h3
    exact Or.inl ⟨v, (T.setVm vm₁).calling g' mk (Value.ref b :: As).toArray, t, U', L, hT, X', hL, e1, e2, hq, st⟩
  · dsimp only [Pt.U, Pt.locs, Pt.cells, Pt.slots] at X' e1 e2 h1 h2 h3 st hcl
    subst h1; subst h2; subst h3
    exact Or.inr ⟨q, (T.setVm vm₁).calling g' mk (Value.ref b :: As).toArray, t, U', L, E, ce, hT, X', hL, e1, e2, hq, hce, hcv, vx_cls hW₁ hcl, st⟩
theorem vx_runS (S : CallFix p m c cc nL s args Ts own) (hM : vx_Met l y ws rm Pc Qc XC mc ms free) (cw : CallB R s args own index y bytes maxL ret ws rm mc ms n ∧ (Cond.static y).before args s = true) (hp : PreS s H Pc As)
    (hg : g.method = m) (hn : As.length = n) (hsize : g.locals.size = nL) (hstack : g.stack = As.reverse ++ rest) (hW : 2 * g.monitorRoom + (rest.map fun v => v.category).sum ≤ 8) (hdg : decode cc g.pc = .ok (.invokestatic index, 3)) (hf : cells + mc ≤ R.cells ∧ slots + ms ≤ R.slots) :
    vx_Run p l e R s m args below meth c H locs cells slots mc ms g rest (Qc As.toArray) XC free := by
  have hK : vx_Back l R p e below s args y 3 8 (PreOf R mc ms Pc) (PostOf Qc mc ms free) (vx_Post XC mc ms free) := vx_callBack cw.1 hM hp.1
  obtain ⟨⟨-, -, -, -, -, -, hcode, hini, hy, hlen, hl⟩, hstt⟩ := cw
  obtain ⟨hx, hb, hml, ho, -⟩ := S
  intro T hT X
  rcases vx_callS X hx (bytes := bytes) (maxL := maxL) (ret := ret) ho hl hstt hini hcode hy hK hg (hsize.trans hml.symm) (argsL := As) (rest := rest) (fun sig h => hn.trans (hlen sig h)) hstack hW (by rw [hb]; exact hdg)
    (fun vm₁ hW₁ => ⟨hf.1, hf.2, hp.2 (T.setVm vm₁) hT hW₁⟩) with ⟨v, vm₁, ⟨U', l2, c2, s2⟩, hW₁, X', ⟨g', mk, t, L, e1, e2, hq, h1, hL, h2, h3⟩, st⟩ | ⟨q, vm₁, ⟨U', l2, c2, s2⟩, hW₁, X', ⟨g', mk, t, L, E, ce, e1, e2, hq, hce, hcv, hcl, h1, hL, h2, h3⟩, st⟩
  · dsimp only [Pt.U, Pt.locs, Pt.cells, Pt.slots] at X' e1 e2 h1 h2 h3 st
    subst h1; subst h2; subst h3
    exact Or.inl ⟨v, (T.setVm vm₁).calling g' mk As.toArray, t, U', L, hT, X', hL, e1, e2, hq, st⟩
  · dsimp only [Pt.U, Pt.locs, Pt.cells, Pt.slots] at X' e1 e2 h1 h2 h3 st hcl
    subst h1; subst h2; subst h3
    exact Or.inr ⟨q, (T.setVm vm₁).calling g' mk As.toArray, t, U', L, E, ce, hT, X', hL, e1, e2, hq, hce, hcv, vx_cls hW₁ hcl, st⟩
end Runs
section Rows
variable {p : Program} {l : Launch} {e : Env} {R : Room} {s : State} {m : MethodId} {args : Array Value} {below : List Frame} {meth : Method} {c : Code} {H : Heap} {locs : List Loc} {cells slots : Nat} {Q : State → Prop}
variable {mc ms : Nat} {free : Addr → Prop} {A0 A1 : Nat → Prop} {H0 : Heap} {a : Array Value} {pc : Nat} {ls : Array Slot} {st0 rest : List Value}
theorem vx_keep {st₀ t T' : State} {L : List Loc} (h0 : st₀.heap = H) (e1 : T'.heap = t.heap) (hS : va_S A0 H0 H locs) (hA : ∀ q, q < H.size → A1 q → A0 q) (hf : ∀ q, free q → A0 q) (hL : ∀ q ∈ L, free q.base) (hF : va_F A1 st₀ t) :
    H.size ≤ T'.heap.size ∧ (∀ q : Nat, q < H.size → ¬ A1 q → T'.heap[q]? = H[q]?) ∧ va_S A0 H0 T'.heap (locs ++ L) := by
  obtain ⟨hz, hk⟩ := hF
  rw [h0] at hz hk
  exact ⟨by rw [e1]; exact hz, fun q h1 h2 => by rw [e1]; exact hk q h1 h2,
    ⟨Nat.le_trans hS.1 (by rw [e1]; exact hz), fun q h1 h2 => by rw [e1, hk q (Nat.lt_of_lt_of_le h1 hS.1) (fun z => h2 (hA q (Nat.lt_of_lt_of_le h1 hS.1) z))]; exact hS.2.1 q h1 h2, fun q hq => by
      rcases List.mem_append.mp hq with h | h
      · exact hS.2.2 q h
      · exact hf _ (hL q h)⟩⟩
theorem vx_calli {S SX : Type} {post : Int32 → S → Prop} {px : SX → Prop} {B : S → State → Prop} {BX : String → SX → State → Prop} {AX : Nat → Prop} (hr : vx_Run p l e R s m args below meth c H locs cells slots mc ms (F0 m pc ls st0) rest (va_Qi post B A1 a) (vx_X px BX AX) free) (hS : va_S A0 H0 H locs) (hA : ∀ q, q < H.size → A1 q → A0 q) (hf : ∀ q, free q → A0 q) (hAX : ∀ q, q < H.size → AX q → A0 q)
    (kx : ∀ (E : String) (ce : Cell) (q9 : Addr) (u : SX) (t : State) (H1 : Heap) (locs1 : List Loc), t.heap = H1 → s.vm.Alike t.vm → px u → BX E u t → H.size ≤ H1.size → (∀ q : Nat, q < H.size → ¬ AX q → H1[q]? = H[q]?) → va_S A0 H0 H1 locs1 → H1[q9]? = some ce → ce.vm = .none → s.vm.findClass E = some ce.cls → vx_W p l e R s m args below meth c H1 locs1 (cells + mc) (slots + ms) Q (F0 m pc ls rest) q9)
    (kk : ∀ (r : Int32) (u : S) (t : State) (H1 : Heap) (locs1 : List Loc), t.heap = H1 → s.vm.Alike t.vm → post r u → B u t → H.size ≤ H1.size → (∀ q : Nat, q < H.size → ¬ A1 q → H1[q]? = H[q]?) → va_S A0 H0 H1 locs1 → W p l e R s m args below meth c H1 locs1 (cells + mc) (slots + ms) Q (F0 m (pc + 3) ls (.int r :: rest))) : W p l e R s m args below meth c H locs cells slots Q (F0 m pc ls st0) := by
  intro T hT X
  rcases hr T hT X with ⟨v, st₀, t, T', L, h0, X', hL, e1, e2, ⟨⟨r, u, hv, hp, hb⟩, hF⟩, st⟩ | ⟨q, st₀, t, T', L, E, ce, h0, X', hL, e1, e2, ⟨u, hp, hb, hF⟩, hce, hcv, hcl, st⟩
  · cases hv
    obtain ⟨k1, k2, k3⟩ := vx_keep h0 e1 hS hA hf hL hF
    obtain ⟨t2, a1, b1⟩ := kk r u t T'.heap (locs ++ L) e1.symm (by rw [← e2]; exact X'.warmed.alike) hp hb k1 k2 k3 T' rfl X'
    exact ⟨t2, st t2 a1, b1⟩
  · obtain ⟨k1, k2, k3⟩ := vx_keep h0 e1 hS hAX hf hL hF
    obtain ⟨t2, a1, b1⟩ := kx E ce q u t T'.heap (locs ++ L) e1.symm (by rw [← e2]; exact X'.warmed.alike) hp hb k1 k2 k3 (by rw [e1]; exact hce) hcv hcl T' rfl X'
    exact ⟨t2, st.trans a1, b1⟩
theorem vx_calll {S SX : Type} {post : Int64 → S → Prop} {px : SX → Prop} {B : S → State → Prop} {BX : String → SX → State → Prop} {AX : Nat → Prop} (hr : vx_Run p l e R s m args below meth c H locs cells slots mc ms (F0 m pc ls st0) rest (va_Ql post B A1 a) (vx_X px BX AX) free) (hS : va_S A0 H0 H locs) (hA : ∀ q, q < H.size → A1 q → A0 q) (hf : ∀ q, free q → A0 q) (hAX : ∀ q, q < H.size → AX q → A0 q)
    (kx : ∀ (E : String) (ce : Cell) (q9 : Addr) (u : SX) (t : State) (H1 : Heap) (locs1 : List Loc), t.heap = H1 → s.vm.Alike t.vm → px u → BX E u t → H.size ≤ H1.size → (∀ q : Nat, q < H.size → ¬ AX q → H1[q]? = H[q]?) → va_S A0 H0 H1 locs1 → H1[q9]? = some ce → ce.vm = .none → s.vm.findClass E = some ce.cls → vx_W p l e R s m args below meth c H1 locs1 (cells + mc) (slots + ms) Q (F0 m pc ls rest) q9)
    (kk : ∀ (r : Int64) (u : S) (t : State) (H1 : Heap) (locs1 : List Loc), t.heap = H1 → s.vm.Alike t.vm → post r u → B u t → H.size ≤ H1.size → (∀ q : Nat, q < H.size → ¬ A1 q → H1[q]? = H[q]?) → va_S A0 H0 H1 locs1 → W p l e R s m args below meth c H1 locs1 (cells + mc) (slots + ms) Q (F0 m (pc + 3) ls (.long r :: rest))) : W p l e R s m args below meth c H locs cells slots Q (F0 m pc ls st0) := by
  intro T hT X
  rcases hr T hT X with ⟨v, st₀, t, T', L, h0, X', hL, e1, e2, ⟨⟨r, u, hv, hp, hb⟩, hF⟩, st⟩ | ⟨q, st₀, t, T', L, E, ce, h0, X', hL, e1, e2, ⟨u, hp, hb, hF⟩, hce, hcv, hcl, st⟩
  · cases hv
    obtain ⟨k1, k2, k3⟩ := vx_keep h0 e1 hS hA hf hL hF
    obtain ⟨t2, a1, b1⟩ := kk r u t T'.heap (locs ++ L) e1.symm (by rw [← e2]; exact X'.warmed.alike) hp hb k1 k2 k3 T' rfl X'
    exact ⟨t2, st t2 a1, b1⟩
  · obtain ⟨k1, k2, k3⟩ := vx_keep h0 e1 hS hAX hf hL hF
    obtain ⟨t2, a1, b1⟩ := kx E ce q u t T'.heap (locs ++ L) e1.symm (by rw [← e2]; exact X'.warmed.alike) hp hb k1 k2 k3 (by rw [e1]; exact hce) hcv hcl T' rfl X'
    exact ⟨t2, st.trans a1, b1⟩
theorem vx_callf {S SX : Type} {post : UInt32 → S → Prop} {px : SX → Prop} {B : S → State → Prop} {BX : String → SX → State → Prop} {AX : Nat → Prop} (hr : vx_Run p l e R s m args below meth c H locs cells slots mc ms (F0 m pc ls st0) rest (va_Qf post B A1 a) (vx_X px BX AX) free) (hS : va_S A0 H0 H locs) (hA : ∀ q, q < H.size → A1 q → A0 q) (hf : ∀ q, free q → A0 q) (hAX : ∀ q, q < H.size → AX q → A0 q)
    (kx : ∀ (E : String) (ce : Cell) (q9 : Addr) (u : SX) (t : State) (H1 : Heap) (locs1 : List Loc), t.heap = H1 → s.vm.Alike t.vm → px u → BX E u t → H.size ≤ H1.size → (∀ q : Nat, q < H.size → ¬ AX q → H1[q]? = H[q]?) → va_S A0 H0 H1 locs1 → H1[q9]? = some ce → ce.vm = .none → s.vm.findClass E = some ce.cls → vx_W p l e R s m args below meth c H1 locs1 (cells + mc) (slots + ms) Q (F0 m pc ls rest) q9)
    (kk : ∀ (r : UInt32) (u : S) (t : State) (H1 : Heap) (locs1 : List Loc), t.heap = H1 → s.vm.Alike t.vm → post r u → B u t → H.size ≤ H1.size → (∀ q : Nat, q < H.size → ¬ A1 q → H1[q]? = H[q]?) → va_S A0 H0 H1 locs1 → W p l e R s m args below meth c H1 locs1 (cells + mc) (slots + ms) Q (F0 m (pc + 3) ls (.float r :: rest))) : W p l e R s m args below meth c H locs cells slots Q (F0 m pc ls st0) := by
  intro T hT X
  rcases hr T hT X with ⟨v, st₀, t, T', L, h0, X', hL, e1, e2, ⟨⟨r, u, hv, hp, hb⟩, hF⟩, st⟩ | ⟨q, st₀, t, T', L, E, ce, h0, X', hL, e1, e2, ⟨u, hp, hb, hF⟩, hce, hcv, hcl, st⟩
  · cases hv
    obtain ⟨k1, k2, k3⟩ := vx_keep h0 e1 hS hA hf hL hF
    obtain ⟨t2, a1, b1⟩ := kk r u t T'.heap (locs ++ L) e1.symm (by rw [← e2]; exact X'.warmed.alike) hp hb k1 k2 k3 T' rfl X'
    exact ⟨t2, st t2 a1, b1⟩
  · obtain ⟨k1, k2, k3⟩ := vx_keep h0 e1 hS hAX hf hL hF
    obtain ⟨t2, a1, b1⟩ := kx E ce q u t T'.heap (locs ++ L) e1.symm (by rw [← e2]; exact X'.warmed.alike) hp hb k1 k2 k3 (by rw [e1]; exact hce) hcv hcl T' rfl X'
    exact ⟨t2, st.trans a1, b1⟩
theorem vx_calld {S SX : Type} {post : UInt64 → S → Prop} {px : SX → Prop} {B : S → State → Prop} {BX : String → SX → State → Prop} {AX : Nat → Prop} (hr : vx_Run p l e R s m args below meth c H locs cells slots mc ms (F0 m pc ls st0) rest (va_Qd post B A1 a) (vx_X px BX AX) free) (hS : va_S A0 H0 H locs) (hA : ∀ q, q < H.size → A1 q → A0 q) (hf : ∀ q, free q → A0 q) (hAX : ∀ q, q < H.size → AX q → A0 q)
    (kx : ∀ (E : String) (ce : Cell) (q9 : Addr) (u : SX) (t : State) (H1 : Heap) (locs1 : List Loc), t.heap = H1 → s.vm.Alike t.vm → px u → BX E u t → H.size ≤ H1.size → (∀ q : Nat, q < H.size → ¬ AX q → H1[q]? = H[q]?) → va_S A0 H0 H1 locs1 → H1[q9]? = some ce → ce.vm = .none → s.vm.findClass E = some ce.cls → vx_W p l e R s m args below meth c H1 locs1 (cells + mc) (slots + ms) Q (F0 m pc ls rest) q9)
    (kk : ∀ (r : UInt64) (u : S) (t : State) (H1 : Heap) (locs1 : List Loc), t.heap = H1 → s.vm.Alike t.vm → post r u → B u t → H.size ≤ H1.size → (∀ q : Nat, q < H.size → ¬ A1 q → H1[q]? = H[q]?) → va_S A0 H0 H1 locs1 → W p l e R s m args below meth c H1 locs1 (cells + mc) (slots + ms) Q (F0 m (pc + 3) ls (.double r :: rest))) : W p l e R s m args below meth c H locs cells slots Q (F0 m pc ls st0) := by
  intro T hT X
  rcases hr T hT X with ⟨v, st₀, t, T', L, h0, X', hL, e1, e2, ⟨⟨r, u, hv, hp, hb⟩, hF⟩, st⟩ | ⟨q, st₀, t, T', L, E, ce, h0, X', hL, e1, e2, ⟨u, hp, hb, hF⟩, hce, hcv, hcl, st⟩
  · cases hv
    obtain ⟨k1, k2, k3⟩ := vx_keep h0 e1 hS hA hf hL hF
    obtain ⟨t2, a1, b1⟩ := kk r u t T'.heap (locs ++ L) e1.symm (by rw [← e2]; exact X'.warmed.alike) hp hb k1 k2 k3 T' rfl X'
    exact ⟨t2, st t2 a1, b1⟩
  · obtain ⟨k1, k2, k3⟩ := vx_keep h0 e1 hS hAX hf hL hF
    obtain ⟨t2, a1, b1⟩ := kx E ce q u t T'.heap (locs ++ L) e1.symm (by rw [← e2]; exact X'.warmed.alike) hp hb k1 k2 k3 (by rw [e1]; exact hce) hcv hcl T' rfl X'
    exact ⟨t2, st.trans a1, b1⟩
theorem vx_callv {S SX : Type} {post : S → Prop} {px : SX → Prop} {B : S → State → Prop} {BX : String → SX → State → Prop} {AX : Nat → Prop} (hr : vx_Run p l e R s m args below meth c H locs cells slots mc ms (F0 m pc ls st0) rest (va_Qv post B A1 a) (vx_X px BX AX) free) (hS : va_S A0 H0 H locs) (hA : ∀ q, q < H.size → A1 q → A0 q) (hf : ∀ q, free q → A0 q) (hAX : ∀ q, q < H.size → AX q → A0 q)
    (kx : ∀ (E : String) (ce : Cell) (q9 : Addr) (u : SX) (t : State) (H1 : Heap) (locs1 : List Loc), t.heap = H1 → s.vm.Alike t.vm → px u → BX E u t → H.size ≤ H1.size → (∀ q : Nat, q < H.size → ¬ AX q → H1[q]? = H[q]?) → va_S A0 H0 H1 locs1 → H1[q9]? = some ce → ce.vm = .none → s.vm.findClass E = some ce.cls → vx_W p l e R s m args below meth c H1 locs1 (cells + mc) (slots + ms) Q (F0 m pc ls rest) q9)
    (kk : ∀ (u : S) (t : State) (H1 : Heap) (locs1 : List Loc), t.heap = H1 → s.vm.Alike t.vm → post u → B u t → H.size ≤ H1.size → (∀ q : Nat, q < H.size → ¬ A1 q → H1[q]? = H[q]?) → va_S A0 H0 H1 locs1 → W p l e R s m args below meth c H1 locs1 (cells + mc) (slots + ms) Q (F0 m (pc + 3) ls (rest))) : W p l e R s m args below meth c H locs cells slots Q (F0 m pc ls st0) := by
  intro T hT X
  rcases hr T hT X with ⟨v, st₀, t, T', L, h0, X', hL, e1, e2, ⟨⟨u, hv, hp, hb⟩, hF⟩, st⟩ | ⟨q, st₀, t, T', L, E, ce, h0, X', hL, e1, e2, ⟨u, hp, hb, hF⟩, hce, hcv, hcl, st⟩
  · cases hv
    obtain ⟨k1, k2, k3⟩ := vx_keep h0 e1 hS hA hf hL hF
    obtain ⟨t2, a1, b1⟩ := kk u t T'.heap (locs ++ L) e1.symm (by rw [← e2]; exact X'.warmed.alike) hp hb k1 k2 k3 T' rfl X'
    exact ⟨t2, st t2 a1, b1⟩
  · obtain ⟨k1, k2, k3⟩ := vx_keep h0 e1 hS hAX hf hL hF
    obtain ⟨t2, a1, b1⟩ := kx E ce q u t T'.heap (locs ++ L) e1.symm (by rw [← e2]; exact X'.warmed.alike) hp hb k1 k2 k3 (by rw [e1]; exact hce) hcv hcl T' rfl X'
    exact ⟨t2, st.trans a1, b1⟩
/-- caught by the row x of this method's table; the rows ahead don't take it -/
theorem vx_catch {own name : String} {E : String} {ce : Cell} {q : Addr} (hown : s.vm.findClass own = some m.cls) (pre : List ExceptionTableEntry) (x : ExceptionTableEntry) (suf : List ExceptionTableEntry) (hsplit : c.exceptionTable.toList = pre ++ x :: suf)
    (hpass : ∀ z ∈ pre, covers z pc = false ∨ (z.catchType ≠ 0 ∧ ∃ nm : String, (Cond.classLink own z.catchType nm).before args s = true ∧ va_Nc E nm s)) (hx : covers x pc = true) (h0 : x.catchType ≠ 0)
    (hlink : (Cond.classLink own x.catchType name).before args s = true) (hcast : (Cond.castable E name).before args s = true) (hcell : H[q]? = some ce) (hv : ce.vm = .none) (hcl : s.vm.findClass E = some ce.cls)
    (kk : W p l e R s m args below meth c H locs cells slots Q (F0 m x.handlerPc ls [.ref q])) : vx_W p l e R s m args below meth c H locs cells slots Q (F0 m pc ls rest) q := by
  intro T hT X
  have hpl : e.platform.magicAccessors = ({} : Platform).magicAccessors := by rw [X.admits.platform]
  obtain ⟨c3, c4, hc3, hc4, hasg⟩ := Cond.castable_spec hcast
  cases Option.some.inj (hc3.symm.trans hcl)
  obtain ⟨c5, hc5, hcl5⟩ := Cond.classLink_spec hown hlink e.platform hpl
  cases Option.some.inj (hc4.symm.trans hc5)
  obtain ⟨vm', X', st⟩ := Stand.thenCaughtThrough X q (g := F0 m pc ls rest) rfl (Steps.refl _) (by rw [hT]; exact hcell) (by rw [hv]; rfl) (by obtain ⟨k9, h9, -⟩ := Vm.findClass_spec hcl; exact ⟨k9, h9⟩) pre x suf hsplit
    (fun z hz => by
      rcases hpass z hz with h | ⟨hz0, nm, hl1, hn1⟩
      · exact Or.inl h
      · obtain ⟨c6, hc6, hcl6⟩ := Cond.classLink_spec hown hl1 e.platform hpl
        obtain ⟨a8, b8, h1, h2, h3⟩ := hn1
        cases Option.some.inj (h1.symm.trans hcl)
        cases Option.some.inj (h2.symm.trans hc6)
        exact Or.inr ⟨hz0, _, hcl6, h3⟩) hx (Or.inr ⟨h0, c4, hcl5, hasg⟩)
  obtain ⟨t, a1, b1⟩ := kk (T.setVm vm') hT X'
  exact ⟨t, st.trans a1, b1⟩
end Rows
section Ends
variable {p : Program} {l : Launch} {e : Env} {R : Room} {s : State} {m : MethodId} {args : Array Value} {below : List Frame} {meth : Method} {c : Code} {H : Heap} {locs : List Loc} {cells slots : Nat} {Q : State → Prop}
variable {mc ms : Nat} {free : Addr → Prop} {A0 A1 : Nat → Prop} {H0 : Heap} {a : Array Value} {ls : Array Slot} {st0 rest : List Value}
variable {Qc : Array Value → State → Outcome → State → Prop} {XC : String → State → State → Prop}
/-- what a body that may throw owes at its end -/
def vx_MQ (below : List Frame) (Qc : Array Value → State → Outcome → State → Prop) (XC : String → State → State → Prop) (a : Array Value) (s : State) (mc ms : Nat) (free : Addr → Prop) : State → Prop := fun t =>
  ∃ o, t.status = .running ∧ Ended t below o ∧ vx_Q Qc XC mc ms free a s o t
theorem vx_ret {g : JFrame} {mc ms : Nat} (k : W p l e R s m args below meth c H locs cells slots (MQ below Qc args s mc ms free) g) : W p l e R s m args below meth c H locs cells slots (vx_MQ below Qc XC args s mc ms free) g := by
  intro T hT X
  obtain ⟨t, a1, o, b1, b2, b3, b4⟩ := k T hT X
  exact ⟨t, a1, o, b1, b2, Or.inl ⟨b3, b4⟩⟩
/-- not caught here: it goes on to the caller -/
theorem vx_widen {g : JFrame} {q : Addr} {k n : Nat} (h1 : cells ≤ k) (h2 : slots ≤ n) (kk : vx_W p l e R s m args below meth c H locs k n Q g q) : vx_W p l e R s m args below meth c H locs cells slots Q g q := fun T hT X => kk T hT (stand_widen X h1 h2)
theorem vx_out {pc : Nat} {E : String} {ce : Cell} {q : Addr} {mc ms : Nat} (hout : ∀ x ∈ c.exceptionTable.toList, covers x pc = false) (hlocks : meth.locks = false) (hcell : H[q]? = some ce) (hv : ce.vm = .none) (hcl : s.vm.findClass E = some ce.cls)
    (hx : ∀ t : State, t.heap = H → s.vm.Alike t.vm → XC E s t) (hf : ∀ z ∈ locs, free z.base) (hc : cells ≤ mc) (hs : slots ≤ ms) :
    vx_W p l e R s m args below meth c H locs cells slots (vx_MQ below Qc XC args s mc ms free) (F0 m pc ls rest) q := by
  intro T hT X
  obtain ⟨st1, hrun, hend, hW, hsm⟩ := X.leaveThrown q (g := F0 m pc ls rest) rfl rfl rfl hout hlocks
  have hcell9 : (T.setFrames (.throwing q :: below)).heap[q]? = some ce := by
    show T.heap[q]? = some ce
    rw [hT]; exact hcell
  exact ⟨_, st1, .threw q, hrun, hend, Or.inr ⟨q, rfl, E, ce, locs, hx _ hT hW.alike, hcell9, hv, hcl, hW, hsm.mono hc hs, hf⟩⟩
theorem vx_frame {U : State} {k n : Nat} (h : s.sameButNew ({ U with vm := s.vm } : State) locs k n) : s.heap.size ≤ U.heap.size ∧ ∀ q : Nat, q < s.heap.size → (∀ z ∈ locs, z.base ≠ q) → U.heap[q]? = s.heap[q]? := by
  obtain ⟨-, h2, -, -, -, h6⟩ := h
  refine ⟨h2, fun q hq hz => ?_⟩
  obtain ⟨c9, e1, e2, e3, e4⟩ := h6 q _ (Array.getElem?_eq_getElem hq)
  have hs : c9.slots = (s.heap[q]).slots := Array.ext_getElem? fun i => e4 i fun hm => hz _ hm rfl
  have h9 : c9 = s.heap[q] := by
    rw [hs] at e2
    exact e2
  have e5 : U.heap[q]? = some c9 := e1
  rw [e5, h9, Array.getElem?_eq_getElem hq]
/-- the words of a throw but the four that speak of the heap -/
def vx_no (w : Cond) : Bool := decide (w ≠ .isRef (.static Bundle.tN "UNASSIGNED_STACK" Bundle.steD)) && decide (w ≠ .isRef (.static Bundle.tN "SUPPRESSED_SENTINEL" Bundle.listD)) && decide (w ≠ .laysStatic Bundle.tN "UNASSIGNED_STACK" Bundle.steD) && decide (w ≠ .laysStatic Bundle.tN "SUPPRESSED_SENTINEL" Bundle.listD)
def vx_at0 (own : String) (ic : Nat) (X : String) (names : List String) : List Cond := (Bundle.ownAtoms0 own ic X names).filter vx_no
def vx_atS (own : String) (ic : Nat) (X : String) (names : List String) : List Cond := (Bundle.ownAtoms own ic X names).filter vx_no
/-- a word that the tables alone decide, or a good one -/
def vx_ot (w : Cond) : Bool := w.onTables || goodWord w
theorem vx_ot_at {args a' : Array Value} {s U : State} {w : Cond} (hW : s.WarmedH U.vm) (hvm : s.vm = U.vm) (hg : vx_ot w = true) (h : w.before args s = true) : w.before a' U = true := by
  simp only [vx_ot, Bool.or_eq_true] at hg
  rcases hg with hg | hg
  · exact va_tabs hg hvm h
  · exact word_at hW (good_of_word hg) h
/-- a list's words: the good ones out of the method's own list, the others by premises of their own -/
theorem vx_hat {args : Array Value} {s : State} {L B : List Cond} (h1 : ∀ w ∈ L.filter goodWord, w.before args s = true) (h2 : ∀ w ∈ L.filter (fun w => !goodWord w), w ∈ B) (h3 : ∀ w ∈ B, w.before args s = true) : ∀ w ∈ L, w.before args s = true := by
  intro w hw
  by_cases g : goodWord w = true
  · exact h1 w (List.mem_filter.mpr ⟨hw, g⟩)
  · refine h3 w (h2 w (List.mem_filter.mpr ⟨hw, ?_⟩))
    show (!goodWord w) = true
    cases hgw : goodWord w
    · rfl
    · exact absurd hgw g
theorem vx_c {args : Array Value} {s : State} {w : Cond} {B : List Cond} (h : w.before args s = true) (t : ∀ w ∈ B, w.before args s = true) : ∀ w' ∈ w :: B, w'.before args s = true := fun w' h' => (List.mem_cons.mp h').elim (fun e => by rw [e]; exact h) (t w')
theorem vx_n {args : Array Value} {s : State} : ∀ w ∈ ([] : List Cond), w.before args s = true := fun _ h => nomatch h
theorem vx_own {args : Array Value} {s : State} {L : List Cond} (h1 : ∀ w ∈ L.filter vx_no, w.before args s = true)
    (hU : (Cond.isRef (.static Bundle.tN "UNASSIGNED_STACK" Bundle.steD)).before args s = true) (hN : (Cond.isRef (.static Bundle.tN "SUPPRESSED_SENTINEL" Bundle.listD)).before args s = true)
    (lU : (Cond.laysStatic Bundle.tN "UNASSIGNED_STACK" Bundle.steD).before args s = true) (lN : (Cond.laysStatic Bundle.tN "SUPPRESSED_SENTINEL" Bundle.listD).before args s = true) : ∀ w ∈ L, w.before args s = true := by
  intro w hw
  by_cases e1 : w = .isRef (.static Bundle.tN "UNASSIGNED_STACK" Bundle.steD)
  · rw [e1]; exact hU
  · by_cases e2 : w = .isRef (.static Bundle.tN "SUPPRESSED_SENTINEL" Bundle.listD)
    · rw [e2]; exact hN
    · by_cases e3 : w = .laysStatic Bundle.tN "UNASSIGNED_STACK" Bundle.steD
      · rw [e3]; exact lU
      · by_cases e4 : w = .laysStatic Bundle.tN "SUPPRESSED_SENTINEL" Bundle.listD
        · rw [e4]; exact lN
        · exact h1 w (List.mem_filter.mpr ⟨hw, by unfold vx_no; rw [decide_eq_true e1, decide_eq_true e2, decide_eq_true e3, decide_eq_true e4]; rfl⟩)
/-- where a static field lies, its class's statics cell in H -/
def vx_L (C n d : String) (A : Nat → Prop) (U : State) (H : Heap) : Prop := ∃ (c : ClassId) (k : Class) (i : Nat) (f : Field) (a : Nat) (cell : Cell), U.vm.findClass C = some c ∧ U.fieldFound? C n d = some (c, k, i, f) ∧ f.isStatic = true ∧ k.statics = some a ∧ H[a]? = some cell ∧ cell.vm.isStatics = true ∧ cell.cls = c ∧ f.slot < cell.slots.size ∧ k.staticTypes[f.slot]? = some f.type ∧ ¬ A a
theorem vx_L.moved {C n d : String} {A : Nat → Prop} {u U : State} {H : Heap} (hvm : u.vm.Alike U.vm) (h : vx_L C n d A u H) : vx_L C n d A U H := by
  obtain ⟨c, k, i, f, a, cell, h1, h2, h3, h4, h5, h6, h7, h8, h9, h10⟩ := h
  obtain ⟨k', hi', he⟩ := State.fieldFound?_setVm hvm h2
  exact ⟨c, k', i, f, a, cell, by rw [hvm.findClass]; exact h1, hi', h3, by rw [he]; exact h4, h5, h6, h7, h8, by rw [he]; exact h9, h10⟩
theorem vx_L.kept {C n d : String} {A : Nat → Prop} {U : State} {H H1 : Heap} (h : vx_L C n d A U H) (hq : ∀ a : Nat, a < H.size → ¬ A a → H1[a]? = H[a]?) : vx_L C n d A U H1 := by
  obtain ⟨c, k, i, f, a, cell, h1, h2, h3, h4, h5, h6, h7, h8, h9, h10⟩ := h
  exact ⟨c, k, i, f, a, cell, h1, h2, h3, h4, by rw [hq a (Array.getElem?_eq_some_iff.mp h5).1 h10]; exact h5, h6, h7, h8, h9, h10⟩
theorem vx_L.narrow {C n d : String} {A B : Nat → Prop} {U : State} {H : Heap} (h : vx_L C n d A U H) (hAB : ∀ q, B q → A q) : vx_L C n d B U H := by
  obtain ⟨c, k, i, f, a, cell, h1, h2, h3, h4, h5, h6, h7, h8, h9, h10⟩ := h
  exact ⟨c, k, i, f, a, cell, h1, h2, h3, h4, h5, h6, h7, h8, h9, fun z => h10 (hAB _ z)⟩
theorem vx_L.word {C n d : String} {A : Nat → Prop} {s : State} {args : Array Value} (h : vx_L C n d A s s.heap) : (Cond.laysStatic C n d).before args s = true := by
  obtain ⟨c, k, i, f, a, cell, h1, h2, h3, h4, h5, h6, h7, h8, h9, -⟩ := h
  show (Cond.laysStatic C n d).holds args s none s [] = true
  exact Cond.laysStatic_of h1 h2 h3 h4 h5 h6 h7 h8 h9
/-- .. and what it holds: null or some reference -/
def vx_Zq (C n d : String) (A : Nat → Prop) (U : State) (H : Heap) : Prop := va_Zq C n d A U H ∧ vx_L C n d A U H
theorem vx_Zq.moved {C n d : String} {A : Nat → Prop} {u U : State} {H : Heap} (hvm : u.vm.Alike U.vm) (h : vx_Zq C n d A u H) : vx_Zq C n d A U H := ⟨va_Zq.moved hvm h.1, vx_L.moved hvm h.2⟩
theorem vx_Zq.kept {C n d : String} {A : Nat → Prop} {U : State} {H H1 : Heap} (h : vx_Zq C n d A U H) (hq : ∀ a : Nat, a < H.size → ¬ A a → H1[a]? = H[a]?) : vx_Zq C n d A U H1 := ⟨va_Zq.kept h.1 hq, vx_L.kept h.2 hq⟩
theorem vx_Zq.narrow {C n d : String} {A B : Nat → Prop} {U : State} {H : Heap} (h : vx_Zq C n d A U H) (hAB : ∀ q, B q → A q) : vx_Zq C n d B U H := ⟨va_Zq.narrow h.1 hAB, vx_L.narrow h.2 hAB⟩
theorem vx_Zqof {args : Array Value} {s : State} {C n d : String} {A : Nat → Prop} (hl : (Cond.laysStatic C n d).before args s = true) (hini : (Cond.initialized C).before args s = true) (h : (Cond.isRef (.static C n d)).before args s = true) (hA : ∀ a : Nat, a < s.heap.size → ¬ A a) : vx_Zq C n d A s s.heap := by
  refine ⟨va_Zqof hl hini h hA, ?_⟩
  obtain ⟨c, k, i, f, a, cell, h1, h2, h3, h4, h5, h6, h7, h8, h9⟩ := Cond.laysStatic_spec hl
  exact ⟨c, k, i, f, a, cell, h1, h2, h3, h4, h5, h6, h7, h8, h9, hA a (Array.getElem?_eq_some_iff.mp h5).1⟩
theorem vx_isRef {C n d : String} {v : Value} {A : Nat → Prop} {s : State} {args : Array Value} (h : va_Z C n d v A s s.heap) (hv : v.isRef = true) : (Cond.isRef (.static C n d)).before args s = true := by
  obtain ⟨cf, kf, fi, f, a, cell, h1, h2, h3, h4, h5, h6, h7, -⟩ := h
  have he : (Term.static C n d).eval args s none [] s = some v := by
    simp [Term.eval, State.fieldNamed?, h1, h2, h4, h5, h6, h7]
  simp only [Cond.before, Cond.holds, Cond.value, he]
  cases v <;> simp_all [Value.isRef]
theorem vx_isRefq {C n d : String} {A : Nat → Prop} {s : State} {args : Array Value} (h : va_Zq C n d A s s.heap) : (Cond.isRef (.static C n d)).before args s = true := by
  rcases h with h | ⟨t, h⟩
  · exact vx_isRef h rfl
  · exact vx_isRef h rfl
/-- the same frame, seen from here: as if the method were called anew in this heap -/
theorem vx_rebase {T : State} (X : Stand p l e R s m args below meth c T locs cells slots) {R' : Room} (hf : R'.frames ≤ R.frames) (hl : R'.locals ≤ R.locals) (hc : cells + R'.cells ≤ R.cells) (hs : slots + R'.slots ≤ R.slots) :
    Stand p l e R' ((T.setVm s.vm).setFrames (.invoking m args :: below)) m args below meth c T [] 0 0 := by
  have htop : (T.setVm s.vm).topJava?.isSome := X.here.top
  have hF : ((T.setVm s.vm).setFrames (.invoking m args :: below)).frames = .invoking m args :: below := State.frames_setFrames _ (State.cur_lt_of_top htop)
  obtain ⟨g₀, hg0⟩ := Option.isSome_iff_exists.mp htop
  obtain ⟨r, hr⟩ := State.topJava?_eq_some.mp hg0
  have hl9 : e.platform.stackLimits (T.setVm s.vm).me = e.platform.stackLimits s.me := X.limits
  have hb9 : (T.setVm s.vm).me.stackBytes = s.me.stackBytes := X.bytes
  refine ⟨X.admits, X.cas, X.clock, hF, ?_, X.hears, X.method, X.code, X.here, X.tail, X.warmed, ?_, ?_, ?_⟩
  · have h := X.room
    have hU : ((T.setVm s.vm).setFrames (.invoking m args :: below)).localsInUse = s.localsInUse := by
      rw [State.localsInUse_invoking hF (meth := meth) (c := c) X.method X.code, State.localsInUse_invoking X.frames X.method X.code]
    simp only [State.hasRoom, Bool.and_eq_true, decide_eq_true_eq] at h ⊢
    obtain ⟨⟨⟨⟨h1, h2, h3, h4, h5, h6⟩, h7⟩, h8⟩, h9⟩ := h
    rw [X.frames, List.length_cons] at h2 h3
    have q1 := X.heapSize
    have q2 := X.used
    simp only [hF, hU, List.length_cons, State.stackLimits_setFrames, State.stackBytes_setFrames, hl9, hb9]
    refine ⟨⟨⟨⟨by omega, by omega, by omega, by omega, by omega, h6⟩, ?_⟩, ?_⟩, X.book⟩
    · show T.heap.size + R'.cells ≤ e.platform.maxCells
      omega
    · show T.slotsUsed + R'.slots ≤ e.platform.maxSlots
      omega
  · rw [State.stackLimits_setFrames]; rfl
  · rw [State.stackBytes_setFrames]; rfl
  · refine ⟨?_, Nat.le_refl _, Nat.le_refl _, ?_, ?_, fun a c9 h9 => ⟨c9, h9, rfl, rfl, fun _ _ => rfl⟩⟩
    · obtain ⟨t, ht, -⟩ := State.frames_cons hr
      show T.setVm s.vm = { ((T.setVm s.vm).setFrames (.invoking m args :: below)).setFrames (T.setVm s.vm).frames with heap := T.heap, slotsUsed := T.slotsUsed }
      rw [State.setFrames_setFrames, State.setFrames_self ht]
      rfl
    · show T.slotsUsed = T.slotsUsed + ((T.heap.toList.drop T.heap.size).map (·.slots.size)).sum
      rw [List.drop_eq_nil_of_le (Nat.le_of_eq Array.length_toList)]
      rfl
    · show ((T.heap.toList.drop T.heap.size).map (·.slots.size)).sum ≤ 0
      rw [List.drop_eq_nil_of_le (Nat.le_of_eq Array.length_toList)]
      exact Nat.le_refl _
/-- 'throw new E()': new; dup; invokespecial; athrow -/
theorem vx_throw0 {cc : ByteArray} {pc : Nat} (hexec : p.tables.exec = Jvm.exec) (hb : c.code = cc) (hl : l.stackTraces = false) {own cls : String} {names : List String} {ik ic mc ms : Nat} {A : Nat → Prop}
    (hown : s.vm.findClass own = some m.cls) (hcls : Bundle.fit cls = true) (hnames : ∀ n ∈ names, Bundle.fit n = true)
    (hk : (Cond.classLink own ik cls).before args s = true) (hini : (Cond.initialized cls).before args s = true) (hat : ∀ w ∈ vx_at0 own ic cls names, w.before args s = true)
    (hgood : ∀ w ∈ Cond.classLink own ik cls :: Cond.initialized cls :: vx_at0 own ic cls names, vx_ot w = true)
    (hU : vx_Zq Bundle.tN "UNASSIGNED_STACK" Bundle.steD A s s.heap) (hN : vx_Zq Bundle.tN "SUPPRESSED_SENTINEL" Bundle.listD A s s.heap) (hS : va_S A s.heap H locs) (hsize : ls.size = c.maxLocals)
    (d0 : decode cc pc = .ok (.new ik, 3)) (d3 : decode cc (pc + 3) = .ok (.dup, 1)) (d4 : decode cc (pc + 4) = .ok (.invokespecial ic, 3)) (d7 : decode cc (pc + 7) = .ok (.athrow, 1))
    (hout : ∀ x ∈ c.exceptionTable.toList, covers x (pc + 7) = false)
    (hRframes : names.length + 3 < R.frames) (hRlocals : (rest.map fun v => v.category).sum + (13 * (names.length + 1) + 42) ≤ R.locals) (hRcells : cells + 1 ≤ R.cells) (hRslots : slots + 6 ≤ R.slots) (hlocks : meth.locks = false)
    (hx : ∀ t : State, s.vm.Alike t.vm → H.size ≤ t.heap.size → (∀ q : Nat, q < H.size → t.heap[q]? = H[q]?) → XC cls s t)
    (hf : ∀ z ∈ locs, free z.base) (hc : cells + 1 ≤ mc) (hs : slots + 6 ≤ ms) :
    W p l e R s m args below meth c H locs cells slots (vx_MQ below Qc XC args s mc ms free) (F0 m pc ls rest) := by
  intro T hT X
  have htr : e.platform.stackTraces = false := (show e.platform.stackTraces = l.stackTraces by rw [X.admits.platform]).trans hl
  have Y := vx_rebase X (R' := { frames := R.frames, locals := R.locals, cells := 1, slots := 6 }) (Nat.le_refl _) (Nat.le_refl _) hRcells hRslots
  obtain ⟨s', hA⟩ : ∃ z, z = (T.setVm s.vm).setFrames (.invoking m args :: below) := ⟨_, rfl⟩
  rw [← hA] at Y
  have hvm : s'.vm = s.vm := by rw [hA]; rfl
  have hhp : s'.heap = H := by rw [hA]; exact hT
  have hW0 : s.WarmedH s'.vm := by rw [hvm]; exact State.WarmedH.refl s
  have hat' : ∀ w ∈ vx_at0 own ic cls names, w.before args s' = true := fun w hw => vx_ot_at hW0 hvm.symm (hgood w (List.mem_cons_of_mem _ (List.mem_cons_of_mem _ hw))) (hat w hw)
  have hk' : (Cond.classLink own ik cls).before args s' = true := vx_ot_at hW0 hvm.symm (hgood _ List.mem_cons_self) hk
  have hini' : (Cond.initialized cls).before args s' = true := vx_ot_at hW0 hvm.symm (hgood _ (List.mem_cons_of_mem _ List.mem_cons_self)) hini
  have hU' : vx_Zq Bundle.tN "UNASSIGNED_STACK" Bundle.steD A s' s'.heap := by rw [hhp]; exact vx_Zq.moved hW0.alike (hU.kept hS.2.1)
  have hN' : vx_Zq Bundle.tN "SUPPRESSED_SENTINEL" Bundle.listD A s' s'.heap := by rw [hhp]; exact vx_Zq.moved hW0.alike (hN.kept hS.2.1)
  have h : ∀ w ∈ Bundle.ownAtoms0 own ic cls names, w.before args s' = true := vx_own hat' (vx_isRefq hU'.1) (vx_isRefq hN'.1) hU'.2.word hN'.2.word
  have hown' : s'.vm.findClass own = some m.cls := by rw [hvm]; exact hown
  have hins : (Cond.instantiable cls 6).before args s' = true := h _ (by simp [Bundle.ownAtoms0])
  obtain ⟨vm₁, cX, kX, hfX, hkX, -, -, X₁, st1⟩ := Y.newCold hexec (own := own) (C := cls) (index := ik) (n := 6) hown' hk' hins hini'
    (g := F0 m pc ls rest) rfl (by rw [hb]; exact d0) (Nat.le_refl _) (Nat.le_refl _)
  generalize hT1 : (T.setVm vm₁).pushCell { cls := cX, slots := kX.instanceTypes.map defaultValue, vm := .none } = T1 at X₁ st1
  have hcat : (Value.ref T.heap.size).category = 1 := rfl
  have hcellA : T1.heap[T.heap.size]? = some (freshCell cX kX) := by rw [← hT1]; exact State.heap_pushCell_size _ _
  have d3' : decode c.code (pc + 3) = .ok (.dup, 1) := by rw [hb]; exact d3
  obtain ⟨U, hsteps, hrun, hend, hW, hsame, ce, hce, hO⟩ := X₁.ctorThrow0 hexec htr (own := own) (cls := cls) (names := names) (ic := ic) hown' hcls hnames h (fun x hx => nomatch hx) hfX hkX hcellA (by rw [hhp, hT]; exact Nat.le_refl _)
    (g := { method := m, pc := pc + 4, locals := ls, stack := .ref T.heap.size :: .ref T.heap.size :: rest, locked := none }) rfl hsize rfl rfl (rest := rest) rfl
    (by rw [hb]; exact d4) (by rw [hb]; exact d7) hout hRframes (by simp only [List.map_cons, List.sum_cons, hcat]; omega) hlocks
  obtain ⟨f1, f2⟩ := vx_frame hsame
  rw [hhp] at f1 f2
  have hWs : s.WarmedH U.vm := State.WarmedH.trans hW0 hW
  have hcl : s.vm.findClass cls = some ce.cls := by
    have h9 := hO.cls
    rw [hvm] at h9
    exact h9
  have hall : s.sameButNew ({ U with vm := s.vm } : State) locs mc ms := by
    subst hA
    obtain ⟨e1, e2⟩ := hsame
    rw [State.setFrames_setFrames] at e1
    have h2 : (T.setVm s.vm).sameButNew ({ U with vm := s.vm } : State) [] (0 + 1) (0 + 6) := ⟨e1, e2⟩
    have h3 := X.same.trans h2
    rw [List.append_nil] at h3
    exact h3.mono hc hs
  refine ⟨U, ?_, .threw T.heap.size, hrun, hend, Or.inr ⟨T.heap.size, rfl, cls, ce, locs, hx U hWs.alike f1 (fun q hq => f2 q hq (fun z hz => nomatch hz)), hce, hO.vm, hcl, hWs, hall, hf⟩⟩
  refine st1 _ ?_
  show Steps p.tables e below (T1.setTop { method := m, pc := pc + 3, locals := ls, stack := .ref T.heap.size :: rest, locked := none }) _
  jvm_step X₁.here [X₁.here.top, hexec, d3', Value.category]
  exact hsteps
/-- 'throw new E("text")': new; dup; ldc; invokespecial; athrow -/
theorem vx_throwS {cc : ByteArray} {pc : Nat} (hexec : p.tables.exec = Jvm.exec) (hb : c.code = cc) (hl : l.stackTraces = false) {own cls text : String} {names : List String} {ik is ic mc ms sa : Nat} {A : Nat → Prop}
    (hown : s.vm.findClass own = some m.cls) (hcls : Bundle.fit cls = true) (hnames : ∀ n ∈ names, Bundle.fit n = true)
    (hk : (Cond.classLink own ik cls).before args s = true) (hini : (Cond.initialized cls).before args s = true) (hstr : vk_R own is text sa s) (hat : ∀ w ∈ vx_atS own ic cls names, w.before args s = true)
    (hgood : ∀ w ∈ Cond.classLink own ik cls :: Cond.initialized cls :: vx_atS own ic cls names, vx_ot w = true)
    (hU : vx_Zq Bundle.tN "UNASSIGNED_STACK" Bundle.steD A s s.heap) (hN : vx_Zq Bundle.tN "SUPPRESSED_SENTINEL" Bundle.listD A s s.heap) (hS : va_S A s.heap H locs) (hsize : ls.size = c.maxLocals)
    (d0 : decode cc pc = .ok (.new ik, 3)) (d3 : decode cc (pc + 3) = .ok (.dup, 1)) (d4 : decode cc (pc + 4) = .ok (.ldc is, 2)) (d6 : decode cc (pc + 6) = .ok (.invokespecial ic, 3)) (d9 : decode cc (pc + 9) = .ok (.athrow, 1))
    (hout : ∀ x ∈ c.exceptionTable.toList, covers x (pc + 9) = false)
    (hRframes : names.length + 3 < R.frames) (hRlocals : (rest.map fun v => v.category).sum + (13 * (names.length + 1) + 43) ≤ R.locals) (hRcells : cells + 1 ≤ R.cells) (hRslots : slots + 6 ≤ R.slots) (hlocks : meth.locks = false)
    (hx : ∀ t : State, s.vm.Alike t.vm → H.size ≤ t.heap.size → (∀ q : Nat, q < H.size → t.heap[q]? = H[q]?) → XC cls s t)
    (hf : ∀ z ∈ locs, free z.base) (hc : cells + 1 ≤ mc) (hs : slots + 6 ≤ ms) :
    W p l e R s m args below meth c H locs cells slots (vx_MQ below Qc XC args s mc ms free) (F0 m pc ls rest) := by
  intro T hT X
  have htr : e.platform.stackTraces = false := (show e.platform.stackTraces = l.stackTraces by rw [X.admits.platform]).trans hl
  have Y := vx_rebase X (R' := { frames := R.frames, locals := R.locals, cells := 1, slots := 6 }) (Nat.le_refl _) (Nat.le_refl _) hRcells hRslots
  obtain ⟨s', hA⟩ : ∃ z, z = (T.setVm s.vm).setFrames (.invoking m args :: below) := ⟨_, rfl⟩
  rw [← hA] at Y
  have hvm : s'.vm = s.vm := by rw [hA]; rfl
  have hhp : s'.heap = H := by rw [hA]; exact hT
  have hW0 : s.WarmedH s'.vm := by rw [hvm]; exact State.WarmedH.refl s
  have hat' : ∀ w ∈ vx_atS own ic cls names, w.before args s' = true := fun w hw => vx_ot_at hW0 hvm.symm (hgood w (List.mem_cons_of_mem _ (List.mem_cons_of_mem _ hw))) (hat w hw)
  have hk' : (Cond.classLink own ik cls).before args s' = true := vx_ot_at hW0 hvm.symm (hgood _ List.mem_cons_self) hk
  have hini' : (Cond.initialized cls).before args s' = true := vx_ot_at hW0 hvm.symm (hgood _ (List.mem_cons_of_mem _ List.mem_cons_self)) hini
  have hU' : vx_Zq Bundle.tN "UNASSIGNED_STACK" Bundle.steD A s' s'.heap := by rw [hhp]; exact vx_Zq.moved hW0.alike (hU.kept hS.2.1)
  have hN' : vx_Zq Bundle.tN "SUPPRESSED_SENTINEL" Bundle.listD A s' s'.heap := by rw [hhp]; exact vx_Zq.moved hW0.alike (hN.kept hS.2.1)
  have h : ∀ w ∈ Bundle.ownAtoms own ic cls names, w.before args s' = true := vx_own hat' (vx_isRefq hU'.1) (vx_isRefq hN'.1) hU'.2.word hN'.2.word
  have hown' : s'.vm.findClass own = some m.cls := by rw [hvm]; exact hown
  have hins : (Cond.instantiable cls 6).before args s' = true := h _ (by simp [Bundle.ownAtoms])
  obtain ⟨vm₁, cX, kX, hfX, hkX, -, -, X₁, st1⟩ := Y.newCold hexec (own := own) (C := cls) (index := ik) (n := 6) hown' hk' hins hini'
    (g := F0 m pc ls rest) rfl (by rw [hb]; exact d0) (Nat.le_refl _) (Nat.le_refl _)
  generalize hT1 : (T.setVm vm₁).pushCell { cls := cX, slots := kX.instanceTypes.map defaultValue, vm := .none } = T1 at X₁ st1
  have hcat : (Value.ref T.heap.size).category = 1 := rfl
  have hcellA : T1.heap[T.heap.size]? = some (freshCell cX kX) := by rw [← hT1]; exact State.heap_pushCell_size _ _
  have d3' : decode c.code (pc + 3) = .ok (.dup, 1) := by rw [hb]; exact d3
  have d4' : decode c.code (pc + 4) = .ok (.ldc is, 2) := by rw [hb]; exact d4
  have hstr' : vk_R own is text sa s' := vk_R.warm hW0 hstr
  obtain ⟨U, hsteps, hrun, hend, hW, hsame, ce, hce, hO⟩ := X₁.ctorThrowS hexec htr (own := own) (cls := cls) (names := names) (ic := ic) hown' hcls hnames h (fun x hx => nomatch hx) hfX hkX hcellA (by rw [hhp, hT]; exact Nat.le_refl _) (msg := .ref sa) rfl
    (g := { method := m, pc := pc + 6, locals := ls, stack := .ref sa :: .ref T.heap.size :: .ref T.heap.size :: rest, locked := none }) rfl hsize rfl rfl (rest := rest) rfl
    (by rw [hb]; exact d6) (by rw [hb]; exact d9) hout hRframes (by simp only [List.map_cons, List.sum_cons, hcat]; omega) hlocks
  obtain ⟨f1, f2⟩ := vx_frame hsame
  rw [hhp] at f1 f2
  have hWs : s.WarmedH U.vm := State.WarmedH.trans hW0 hW
  have hcl : s.vm.findClass cls = some ce.cls := by
    have h9 := hO.cls
    rw [hvm] at h9
    exact h9
  have hall : s.sameButNew ({ U with vm := s.vm } : State) locs mc ms := by
    subst hA
    obtain ⟨e1, e2⟩ := hsame
    rw [State.setFrames_setFrames] at e1
    have h2 : (T.setVm s.vm).sameButNew ({ U with vm := s.vm } : State) [] (0 + 1) (0 + 6) := ⟨e1, e2⟩
    have h3 := X.same.trans h2
    rw [List.append_nil] at h3
    exact h3.mono hc hs
  refine ⟨U, ?_, .threw T.heap.size, hrun, hend, Or.inr ⟨T.heap.size, rfl, cls, ce, locs, hx U hWs.alike f1 (fun q hq => f2 q hq (fun z hz => nomatch hz)), hce, hO.vm, hcl, hWs, hall, hf⟩⟩
  refine st1 _ ?_
  show Steps p.tables e below (T1.setTop { method := m, pc := pc + 3, locals := ls, stack := .ref T.heap.size :: rest, locked := none }) _
  jvm_step X₁.here [X₁.here.top, hexec, d3', Value.category]
  exact X₁.ldcString hexec (own := own) (text := text) (index := is) (a := sa) hown' hstr'.1 hstr'.2
    (g := { method := m, pc := pc + 4, locals := ls, stack := .ref T.heap.size :: .ref T.heap.size :: rest, locked := none }) rfl d4' _ hsteps
/-- 'throw new E("text")', the text by a wide index -/
theorem vx_throwSW {cc : ByteArray} {pc : Nat} (hexec : p.tables.exec = Jvm.exec) (hb : c.code = cc) (hl : l.stackTraces = false) {own cls text : String} {names : List String} {ik is ic mc ms sa : Nat} {A : Nat → Prop}
    (hown : s.vm.findClass own = some m.cls) (hcls : Bundle.fit cls = true) (hnames : ∀ n ∈ names, Bundle.fit n = true)
    (hk : (Cond.classLink own ik cls).before args s = true) (hini : (Cond.initialized cls).before args s = true) (hstr : vk_R own is text sa s) (hat : ∀ w ∈ vx_atS own ic cls names, w.before args s = true)
    (hgood : ∀ w ∈ Cond.classLink own ik cls :: Cond.initialized cls :: vx_atS own ic cls names, vx_ot w = true)
    (hU : vx_Zq Bundle.tN "UNASSIGNED_STACK" Bundle.steD A s s.heap) (hN : vx_Zq Bundle.tN "SUPPRESSED_SENTINEL" Bundle.listD A s s.heap) (hS : va_S A s.heap H locs) (hsize : ls.size = c.maxLocals)
    (d0 : decode cc pc = .ok (.new ik, 3)) (d3 : decode cc (pc + 3) = .ok (.dup, 1)) (d4 : decode cc (pc + 4) = .ok (.ldc_w is, 3)) (d7 : decode cc (pc + 7) = .ok (.invokespecial ic, 3)) (d10 : decode cc (pc + 10) = .ok (.athrow, 1))
    (hout : ∀ x ∈ c.exceptionTable.toList, covers x (pc + 10) = false)
    (hRframes : names.length + 3 < R.frames) (hRlocals : (rest.map fun v => v.category).sum + (13 * (names.length + 1) + 43) ≤ R.locals) (hRcells : cells + 1 ≤ R.cells) (hRslots : slots + 6 ≤ R.slots) (hlocks : meth.locks = false)
    (hx : ∀ t : State, s.vm.Alike t.vm → H.size ≤ t.heap.size → (∀ q : Nat, q < H.size → t.heap[q]? = H[q]?) → XC cls s t)
    (hf : ∀ z ∈ locs, free z.base) (hc : cells + 1 ≤ mc) (hs : slots + 6 ≤ ms) :
    W p l e R s m args below meth c H locs cells slots (vx_MQ below Qc XC args s mc ms free) (F0 m pc ls rest) := by
  intro T hT X
  have htr : e.platform.stackTraces = false := (show e.platform.stackTraces = l.stackTraces by rw [X.admits.platform]).trans hl
  have Y := vx_rebase X (R' := { frames := R.frames, locals := R.locals, cells := 1, slots := 6 }) (Nat.le_refl _) (Nat.le_refl _) hRcells hRslots
  obtain ⟨s', hA⟩ : ∃ z, z = (T.setVm s.vm).setFrames (.invoking m args :: below) := ⟨_, rfl⟩
  rw [← hA] at Y
  have hvm : s'.vm = s.vm := by rw [hA]; rfl
  have hhp : s'.heap = H := by rw [hA]; exact hT
  have hW0 : s.WarmedH s'.vm := by rw [hvm]; exact State.WarmedH.refl s
  have hat' : ∀ w ∈ vx_atS own ic cls names, w.before args s' = true := fun w hw => vx_ot_at hW0 hvm.symm (hgood w (List.mem_cons_of_mem _ (List.mem_cons_of_mem _ hw))) (hat w hw)
  have hk' : (Cond.classLink own ik cls).before args s' = true := vx_ot_at hW0 hvm.symm (hgood _ List.mem_cons_self) hk
  have hini' : (Cond.initialized cls).before args s' = true := vx_ot_at hW0 hvm.symm (hgood _ (List.mem_cons_of_mem _ List.mem_cons_self)) hini
  have hU' : vx_Zq Bundle.tN "UNASSIGNED_STACK" Bundle.steD A s' s'.heap := by rw [hhp]; exact vx_Zq.moved hW0.alike (hU.kept hS.2.1)
  have hN' : vx_Zq Bundle.tN "SUPPRESSED_SENTINEL" Bundle.listD A s' s'.heap := by rw [hhp]; exact vx_Zq.moved hW0.alike (hN.kept hS.2.1)
  have h : ∀ w ∈ Bundle.ownAtoms own ic cls names, w.before args s' = true := vx_own hat' (vx_isRefq hU'.1) (vx_isRefq hN'.1) hU'.2.word hN'.2.word
  have hown' : s'.vm.findClass own = some m.cls := by rw [hvm]; exact hown
  have hins : (Cond.instantiable cls 6).before args s' = true := h _ (by simp [Bundle.ownAtoms])
  obtain ⟨vm₁, cX, kX, hfX, hkX, -, -, X₁, st1⟩ := Y.newCold hexec (own := own) (C := cls) (index := ik) (n := 6) hown' hk' hins hini'
    (g := F0 m pc ls rest) rfl (by rw [hb]; exact d0) (Nat.le_refl _) (Nat.le_refl _)
  generalize hT1 : (T.setVm vm₁).pushCell { cls := cX, slots := kX.instanceTypes.map defaultValue, vm := .none } = T1 at X₁ st1
  have hcat : (Value.ref T.heap.size).category = 1 := rfl
  have hcellA : T1.heap[T.heap.size]? = some (freshCell cX kX) := by rw [← hT1]; exact State.heap_pushCell_size _ _
  have d3' : decode c.code (pc + 3) = .ok (.dup, 1) := by rw [hb]; exact d3
  have d4' : decode c.code (pc + 4) = .ok (.ldc_w is, 3) := by rw [hb]; exact d4
  have hstr' : vk_R own is text sa s' := vk_R.warm hW0 hstr
  obtain ⟨U, hsteps, hrun, hend, hW, hsame, ce, hce, hO⟩ := X₁.ctorThrowS hexec htr (own := own) (cls := cls) (names := names) (ic := ic) hown' hcls hnames h (fun x hx => nomatch hx) hfX hkX hcellA (by rw [hhp, hT]; exact Nat.le_refl _) (msg := .ref sa) rfl
    (g := { method := m, pc := pc + 7, locals := ls, stack := .ref sa :: .ref T.heap.size :: .ref T.heap.size :: rest, locked := none }) rfl hsize rfl rfl (rest := rest) rfl
    (by rw [hb]; exact d7) (by rw [hb]; exact d10) hout hRframes (by simp only [List.map_cons, List.sum_cons, hcat]; omega) hlocks
  obtain ⟨f1, f2⟩ := vx_frame hsame
  rw [hhp] at f1 f2
  have hWs : s.WarmedH U.vm := State.WarmedH.trans hW0 hW
  have hcl : s.vm.findClass cls = some ce.cls := by
    have h9 := hO.cls
    rw [hvm] at h9
    exact h9
  have hall : s.sameButNew ({ U with vm := s.vm } : State) locs mc ms := by
    subst hA
    obtain ⟨e1, e2⟩ := hsame
    rw [State.setFrames_setFrames] at e1
    have h2 : (T.setVm s.vm).sameButNew ({ U with vm := s.vm } : State) [] (0 + 1) (0 + 6) := ⟨e1, e2⟩
    have h3 := X.same.trans h2
    rw [List.append_nil] at h3
    exact h3.mono hc hs
  refine ⟨U, ?_, .threw T.heap.size, hrun, hend, Or.inr ⟨T.heap.size, rfl, cls, ce, locs, hx U hWs.alike f1 (fun q hq => f2 q hq (fun z hz => nomatch hz)), hce, hO.vm, hcl, hWs, hall, hf⟩⟩
  refine st1 _ ?_
  show Steps p.tables e below (T1.setTop { method := m, pc := pc + 3, locals := ls, stack := .ref T.heap.size :: rest, locked := none }) _
  jvm_step X₁.here [X₁.here.top, hexec, d3', Value.category]
  exact X₁.ldcStringW hexec (own := own) (text := text) (index := is) (a := sa) hown' hstr'.1 hstr'.2
    (g := { method := m, pc := pc + 4, locals := ls, stack := .ref T.heap.size :: .ref T.heap.size :: rest, locked := none }) rfl d4' _ hsteps
end Ends
section Bodies
variable {l : Launch}
theorem vx_ofW {y : MethodName} {ws ws' : List Cond} {rm : Room} {Pc : Array Value → State → Prop} {Qc : Array Value → State → Outcome → State → Prop} {XC : String → State → State → Prop} {mc ms : Nat} {free : Addr → Prop} {cc : ByteArray} {maxL : Nat} {ret : Option FieldType}
    (hy : plainName y.cls = true) (hw : ws = Cond.code y cc maxL ret :: ws')
    (body : ∀ p e s m args below meth c s₁, BodyLoose p l y (headSpec ws rm) cc maxL ret e s m args below meth c s₁ → c.maxLocals = maxL → (∀ x ∈ c.exceptionTable.toList, False) → Pc args s →
      W p l e (headSpec ws rm).room s m args below meth c s.heap [] 0 0 (vx_MQ below Qc XC args s mc ms free) (entryFrame m args maxL)) : vx_Met l y ws rm Pc Qc XC mc ms free := by
  refine MetFree.of_bodyS (code := cc) (maxLocals := maxL) (ret := ret) hy ?_ ?_
  · intro args s m h hn
    obtain ⟨meth, c, h1, h2, h3, h4, h5, h6, -, -⟩ := Cond.code_spec hn (atoms_spec (ws := ws) h _ (by rw [hw]; exact List.mem_cons_self))
    exact ⟨meth, c, h1, h2, h3, h4, h5, h6⟩
  · intro p e s m args below meth c s₁ B hml hP _
    have hh0 : s₁.heap = s.heap := by rw [B.state]; rfl
    have ht : ∀ x ∈ c.exceptionTable.toList, False := by
      obtain ⟨meth9, c9, h1, h2, -, -, -, -, h7, -⟩ := Cond.code_spec B.named (atoms_spec (ws := ws) B.pre _ (by rw [hw]; exact List.mem_cons_self))
      cases Option.some.inj (h1.symm.trans B.method)
      cases Option.some.inj (h2.symm.trans (Stand.of_body B).code)
      intro x hx
      rw [Array.isEmpty_iff.mp h7] at hx
      cases hx
    obtain ⟨t, a1, o, b1, b2, b3⟩ := body p e s m args below meth c s₁ B hml ht hP s₁ hh0 (Stand.of_body B)
    exact ⟨t, o, a1, b1, b2, b3⟩
/-- the table of a body with handlers -/
theorem vx_table {p : Program} {x y : MethodName} {S : Spec} {cc bytes : ByteArray} {maxL maxL' : Nat} {ret ret' : Option FieldType} {e : Env} {s s₁ : State} {m : MethodId} {args : Array Value} {below : List Frame} {meth : Method} {c : Code} {hh : List (Nat × Nat × Nat × Nat)}
    (B : BodyLoose p l y S cc maxL ret e s m args below meth c s₁) (h : (Cond.codeWith y bytes maxL' ret' hh).before args s = true) : c.exceptionTable.toList = tableOf hh := by
  obtain ⟨m9, meth9, c9, hn9, h1, h2, -, -, h6, -⟩ := Cond.codeWith_spec h
  cases Option.some.inj (hn9.symm.trans B.named)
  cases Option.some.inj (h1.symm.trans B.method)
  cases Option.some.inj (h2.symm.trans (Stand.of_body B).code)
  rw [← h6, table_eq]
end Bodies
end VXA
/-! ===== END ===== -/
/-! ===== BEGIN a static call of a method with an exception table ===== -/
section VXS
variable {p : Program} {l : Launch} {e : Env} {R : Room} {s : State} {m : MethodId} {args : Array Value} {below : List Frame} {meth : Method} {c : Code} {T : State} {H : Heap} {locs : List Loc} {cells slots : Nat}
abbrev vx_CSW (R : Room) (s : State) (args : Array Value) (own : String) (index : Nat) (y : MethodName) (bytes : ByteArray) (maxL : Nat) (ret : Option FieldType) (hh : List (Nat × Nat × Nat × Nat)) (ws : List Cond) (rm : Room) (mc ms n : Nat) : Prop :=
  (rm.cells = mc ∧ rm.slots = ms ∧ rm.frames + 1 ≤ R.frames ∧ 8 + (maxL + 11) + rm.locals ≤ R.locals ∧ (∀ w ∈ ws, ∀ (a' : Array Value) (U : State), s.WarmedH U.vm → w.before a' U = true) ∧ Cond.codeWith y bytes maxL ret hh ∈ ws) ∧
  (Cond.codeWith y bytes maxL ret hh).before args s = true ∧ (Cond.initialized y.cls).before args s = true ∧ (y.cls ≠ "java/lang/invoke/MethodHandle" ∧ y.cls ≠ "java/lang/invoke/VarHandle") ∧
  (∀ sig, parseMethodDescriptor y.desc = some sig → n = sig.parameters.length) ∧ (Cond.methodLink own index y).before args s = true ∧ (Cond.static y).before args s = true
theorem vx_cwSW {own : String} {index maxL mc ms : Nat} {y : MethodName} {bytes : ByteArray} {ret : Option FieldType} {hh : List (Nat × Nat × Nat × Nat)} {Ts ws ws' : List Cond} {rm : Room} (n : Nat) (ht : ∀ w ∈ Ts, w.before args s = true) (hT : GoodIn Ts (va_wsS own index y ws)) (hw : ws = Cond.codeWith y bytes maxL ret hh :: ws') (hrc : rm.cells = mc) (hrs : rm.slots = ms)
    (hd : y.cls ≠ "java/lang/invoke/MethodHandle" ∧ y.cls ≠ "java/lang/invoke/VarHandle" ∧ (parseMethodDescriptor y.desc).map (fun d => d.parameters.length) = some n) (hR : rm.frames + 1 ≤ R.frames ∧ 8 + (maxL + 11) + rm.locals ≤ R.locals) :
    vx_CSW R s args own index y bytes maxL ret hh ws rm mc ms n := by
  have ok : ∀ w ∈ va_wsS own index y ws, w.before args s = true := fun w h => ht w (hT w h).1
  have hG : GoodIn Ts ws := fun w h => hT w (by unfold va_wsS; exact List.mem_append_right _ h)
  have hc : Cond.codeWith y bytes maxL ret hh ∈ ws := by rw [hw]; exact List.mem_cons_self
  refine ⟨⟨hrc, hrs, hR.1, hR.2, pay_in ht hG, hc⟩, ht _ (hG _ hc).1, ok _ (by simp [va_wsS]), ⟨hd.1, hd.2.1⟩, fun sig h => ?_, ok _ (by simp [va_wsS]), ok _ (by simp [va_wsS])⟩
  have h2 := hd.2.2
  rw [h] at h2
  exact (Option.some.inj h2).symm
theorem vx_callSW (X : Stand p l e R s m args below meth c T locs cells slots) (hexec : p.tables.exec = Jvm.exec) {own : String} {index : Nat} {y : MethodName} {bytes : ByteArray} {maxL : Nat} {ret : Option FieldType} {hh : List (Nat × Nat × Nat × Nat)}
    (hown : s.vm.findClass own = some m.cls) (hlink : (Cond.methodLink own index y).before args s = true) (hstat : (Cond.static y).before args s = true) (hinit : (Cond.initialized y.cls).before args s = true)
    (hcode : (Cond.codeWith y bytes maxL ret hh).before args s = true) (hy : y.cls ≠ "java/lang/invoke/MethodHandle" ∧ y.cls ≠ "java/lang/invoke/VarHandle")
    {W9 : Nat} {Pre : Pt → Array Value → Prop} {Post : Pt → Array Value → Option Value → Pt → Prop} (hK : Back l R p e below s args y 3 W9 Pre Post)
    {g : JFrame} (hg : g.method = m) (hsize : g.locals.size = c.maxLocals) {argsL rest : List Value} (hlen : ∀ sig, parseMethodDescriptor y.desc = some sig → argsL.length = sig.parameters.length)
    (hstack : g.stack = argsL.reverse ++ rest) (hW : 2 * g.monitorRoom + (rest.map fun v => v.category).sum ≤ W9) (hdg : decode c.code g.pc = .ok (.invokestatic index, 3))
    (hpre : ∀ vm₁, s.WarmedH vm₁ → Pre ⟨T.setVm vm₁, locs, cells, slots⟩ argsL.toArray) :
    ∃ (v : Option Value) (vm₁ : Vm) (B : Pt), s.WarmedH vm₁ ∧ Stand p l e R s m args below meth c B.U B.locs B.cells B.slots ∧ Post ⟨T.setVm vm₁, locs, cells, slots⟩ argsL.toArray v B ∧
      ∀ target, Steps p.tables e below (B.U.setTop { g with pc := g.pc + 3, stack := v.toList ++ rest }) target → Steps p.tables e below (T.setTop g) target := by
  obtain ⟨mk, methM, cM, hnamed, hmethM, -, -, -, -, -, -, hsigM⟩ := Cond.codeWith_spec hcode
  have hstatic : methM.isStatic = true := Cond.static_spec hnamed hmethM hstat
  obtain ⟨kP, hkP, -⟩ := className_of_methodNamed hnamed
  have hinitP : kP.init = .initialized := Cond.initialized_spec (findClass_of_methodNamed hnamed) hkP hinit
  obtain ⟨vm₁, X₁, hstep₁⟩ := X.invokestatic hexec hown hlink hnamed hmethM hstatic hkP hinitP hy (g := g) hg (argsL := argsL) (rest := rest) (hlen _ hsigM) hstack hdg
  obtain ⟨v, B, X', hpost, hsteps⟩ := hK m meth c ⟨T.setVm vm₁, locs, cells, slots⟩ { g with stack := rest } (.invokestatic index) mk argsL.toArray X₁ hg hsize hdg hW (X₁.named hnamed) (hpre vm₁ X₁.warmed)
  exact ⟨v, vm₁, B, X₁.warmed, X', hpost, fun target h => hstep₁ _ fun acts => by rw [doInvoke_state]; exact hsteps.trans h⟩
theorem vx_runSW {y : MethodName} {bytes cc : ByteArray} {maxL nL mc ms n index : Nat} {ret : Option FieldType} {hh : List (Nat × Nat × Nat × Nat)} {ws : List Cond} {rm : Room} {Pc : Array Value → State → Prop} {Qc : Array Value → State → Outcome → State → Prop} {free : Addr → Prop} {Ts : List Cond} {own : String} {As rest : List Value} {g : JFrame}
    (S : CallFix p m c cc nL s args Ts own) (hM : Met l y ws rm Pc Qc mc ms free) (cw : vx_CSW R s args own index y bytes maxL ret hh ws rm mc ms n) (hp : PreS s H Pc As)
    (hg : g.method = m) (hn : As.length = n) (hsize : g.locals.size = nL) (hstack : g.stack = As.reverse ++ rest) (hW : 2 * g.monitorRoom + (rest.map fun v => v.category).sum ≤ 8) (hdg : decode cc g.pc = .ok (.invokestatic index, 3)) (hf : cells + mc ≤ R.cells ∧ slots + ms ≤ R.slots) :
    va_Run p l e R s m args below meth c H locs cells slots mc ms g rest (Qc As.toArray) (free) := by
  obtain ⟨⟨hrc, hrs, hfr, hlo, hws, hcw⟩, hcode, hini, hy, hlen, hl, hstt⟩ := cw
  have hK : Back l R p e below s args y 3 8 (PreOf R mc ms Pc) (PostOf Qc mc ms free) := va_backW (hh := hh) (bytes := bytes) (maxL := maxL) (ret := ret) hM hp.1 hrc hrs hfr hlo hws hcw (fun a' U hW => word_at hW (Or.inl (by first | rfl | simp [Cond.onTables, Cond.keeps, Cond.steady])) hini)
  obtain ⟨hx, hb, hml, ho, -⟩ := S
  intro T hT X
  obtain ⟨v, vm₁, ⟨U', l2, c2, s2⟩, hW₁, X', ⟨g', mk, t, L, e1, e2, hq, h1, hL, h2, h3⟩, st⟩ := vx_callSW X hx (hh := hh) (bytes := bytes) (maxL := maxL) (ret := ret) ho hl hstt hini hcode hy hK hg (hsize.trans hml.symm) (argsL := As) (rest := rest) (fun sig h => hn.trans (hlen sig h)) hstack hW (by rw [hb]; exact hdg)
    (fun vm₁ hW₁ => ⟨hf.1, hf.2, hp.2 (T.setVm vm₁) hT hW₁⟩)
  dsimp only [Pt.U, Pt.locs, Pt.cells, Pt.slots] at X' e1 e2 h1 h2 h3 st
  subst h1; subst h2; subst h3
  exact ⟨v, (T.setVm vm₁).calling g' mk As.toArray, t, U', L, hT, X', hL, e1, e2, hq, st⟩
/-- not caught here, past rows that name other classes: it goes on to the caller -/
theorem vx_outP {p : Program} {l : Launch} {e : Env} {R : Room} {s : State} {m : MethodId} {args : Array Value} {below : List Frame} {meth : Method} {c : Code} {H : Heap} {locs : List Loc} {cells slots : Nat} {free : Addr → Prop} {ls : Array Slot} {rest : List Value} {Qc : Array Value → State → Outcome → State → Prop} {XC : String → State → State → Prop}
    {pc : Nat} {own E : String} {ce : Cell} {q : Addr} {mc ms : Nat} (hown : s.vm.findClass own = some m.cls) (hlocks : meth.locks = false)
    (hpass : ∀ z ∈ c.exceptionTable.toList, covers z pc = false ∨ (z.catchType ≠ 0 ∧ ∃ nm : String, (Cond.classLink own z.catchType nm).before args s = true ∧ va_Nc E nm s)) (hcell : H[q]? = some ce) (hv : ce.vm = .none) (hcl : s.vm.findClass E = some ce.cls)
    (hx : ∀ t : State, t.heap = H → s.vm.Alike t.vm → XC E s t) (hf : ∀ z ∈ locs, free z.base) (hc : cells ≤ mc) (hs : slots ≤ ms) :
    vx_W p l e R s m args below meth c H locs cells slots (vx_MQ below Qc XC args s mc ms free) (F0 m pc ls rest) q := by
  intro T hT X
  have hpl : e.platform.magicAccessors = ({} : Platform).magicAccessors := by rw [X.admits.platform]
  obtain ⟨vm', hW', X', st⟩ := Stand.outThrough X hlocks q (g := F0 m pc ls rest) rfl rfl rfl (cell := ce) (by rw [hT]; exact hcell) (by rw [hv]; rfl)
    (by obtain ⟨k9, h9, -⟩ := Vm.findClass_spec hcl; exact ⟨k9, h9⟩) (fun z hz => by
      rcases hpass z hz with h | ⟨hz0, nm, hl1, hn1⟩
      · exact Or.inl h
      · obtain ⟨c6, hc6, hcl6⟩ := Cond.classLink_spec hown hl1 e.platform hpl
        obtain ⟨a8, b8, h1, h2, h3⟩ := hn1
        cases Option.some.inj (h1.symm.trans hcl)
        cases Option.some.inj (h2.symm.trans hc6)
        exact Or.inr ⟨hz0, _, hcl6, h3⟩)
  obtain ⟨g₀, hfr⟩ := X'.frames_eq
  have hcell9 : ((T.setVm vm').setFrames (.throwing q :: below)).heap[q]? = some ce := by
    show T.heap[q]? = some ce
    rw [hT]; exact hcell
  have hend : Ended ((T.setVm vm').setFrames (.throwing q :: below)) below (.threw q) := State.frames_setFrames _ (State.cur_lt_of_frames hfr)
  refine ⟨(T.setVm vm').setFrames (.throwing q :: below), ?_, .threw q, X'.here.running, hend, Or.inr ⟨q, rfl, E, ce, locs, hx _ hT (X'.ends _).1.alike, hcell9, hv, hcl, (X'.ends _).1, (X'.ends _).2.mono hc hs, hf⟩⟩
  rw [X.pushThrowing_eq]
  exact st
/-- a thing of a world lies in the heap -/
theorem vx_lt {D : va_G} {cl : List vw_C} {ws : va_W} {H1 : Heap} (h : va_P D cl ws H1) {k : Nat} {q : Nat × va_E} (hk : ws[k]? = some q) : q.1 < H1.size := (h k q hk).lt
end VXS
/-! ===== END ===== -/
/-! ===== BEGIN methods with a table of their own: called by a name, returning or throwing ===== -/
section VXH
/-! vx_backW, vx_callVX, vx_callSX, vx_callVW, vx_runVW, vx_runVX, vx_runSX, vx_ofWH follow the same proofs as their sisters above (Free/Laws.lean, Shelf42/LK1.lean); vx_outP calls Shelf42/NT130.lean (outThrough). -/
section
variable {l : Launch} {R : Room} {p : Program} {e : Env} {below : List Frame} {s : State} {sargs : Array Value} {y : MethodName} {len W9 : Nat}
theorem vx_backW {ws : List Cond} {rm : Room} {Pc : Array Value → State → Prop} {Qc : Array Value → State → Outcome → State → Prop} {XC : String → State → State → Prop} {mc ms : Nat} {free : Addr → Prop} {bytes : ByteArray} {maxL : Nat} {ret : Option FieldType} {hh : List (Nat × Nat × Nat × Nat)}
    (hM : vx_Met l y ws rm Pc Qc XC mc ms free) (hblind : FrameBlind Pc) (hrc : rm.cells = mc) (hrs : rm.slots = ms)
    (hframes : rm.frames + 1 ≤ R.frames) (hlocals : W9 + (maxL + 11) + rm.locals ≤ R.locals)
    (hws : ∀ w ∈ ws, ∀ a' U, s.WarmedH U.vm → w.before a' U = true) (hcode : Cond.codeWith y bytes maxL ret hh ∈ ws) (hinit : ∀ a' U, s.WarmedH U.vm → (Cond.initialized y.cls).before a' U = true) :
    vx_Back l R p e below s sargs y len W9 (PreOf R mc ms Pc) (PostOf Qc mc ms free) (vx_Post XC mc ms free) := by
  intro m meth c A g ig mk a X hg hsize hdg hW hn hp
  have h1 : (headSpec ws rm).pre.before a A.U = true := atoms_intro fun w hw => hws w hw _ _ X.warmed
  have h2 : (Cond.codeWith y bytes maxL ret hh).before a A.U = true := hws _ hcode _ _ X.warmed
  have h3 : (Cond.initialized y.cls).before a A.U = true := hinit _ _ X.warmed
  have h4 : A.cells + (headSpec ws rm).room.cells ≤ R.cells := by rw [show (headSpec ws rm).room.cells = mc from hrc]; exact hp.1
  have h5 : A.slots + (headSpec ws rm).room.slots ≤ R.slots := by rw [show (headSpec ws rm).room.slots = ms from hrs]; exact hp.2.1
  have hPc : Pc a (A.U.calling g mk a) := hblind _ _ _ _ hp.2.2
  obtain ⟨U, Ls, c0, s0⟩ := A
  dsimp only [Pt.U, Pt.locs, Pt.cells, Pt.slots] at h1 h2 h3 h4 h5 X hn hPc ⊢
  obtain ⟨m9, methY, cY, hn9, hmY, hcY, -, hlY, -⟩ := Cond.codeWith_spec h2
  cases Option.some.inj (hn9.symm.trans hn)
  obtain ⟨kY, hkY, -⟩ := className_of_methodNamed hn
  have hinitY : kY.init = .initialized := Cond.initialized_spec (findClass_of_methodNamed hn) hkY h3
  have h : At U g.method c below := by rw [hg]; exact X.here
  have hlocals9 : W9 + (maxL + 11) + (headSpec ws rm).room.locals ≤ R.locals := hlocals
  have happ : (headSpec ws rm).appliesLoose y e.platform (U.calling g mk a) = true :=
    Spec.appliesLoose_calling (g := g) h hdg hn hkY hinitY
      (X.room_calling (g := g) (R' := (headSpec ws rm).room) hsize hmY hcY hframes (by rw [hlY]; omega) h4 h5) h1
  obtain ⟨mid, hmid⟩ := h.above
  have hfr : (U.setTop g).frames = (.java g :: mid) ++ below := by rw [State.frames_setTop' g h.top, hmid]; rfl
  obtain ⟨o, s₂, hsteps, -, hend, hq⟩ := Steps.callFree hM p X.admits X.cas X.clock (acts := []) hfr happ hPc trivial
  have hq' : vx_Q Qc XC mc ms free a (U.calling g mk a) o s₂ := hq
  rw [State.frames_setTop' g h.top] at hend
  obtain ⟨g₀, hg0⟩ := Option.isSome_iff_exists.mp h.top
  obtain ⟨r, hr⟩ := State.topJava?_eq_some.mp hg0
  have hr' : (({ U with heap := s₂.heap, slotsUsed := s₂.slotsUsed } : State).setVm s₂.vm).frames = .java g₀ :: r := hr
  rcases hq' with ⟨hqc, L, hfe, hL⟩ | ⟨q, rfl, E, ce, L, hx, hce, hcv, hcl, hW₂, hsm, hL⟩
  · obtain ⟨⟨v, rfl⟩, hW₂, e2, q2, q3, q4, q5, q6⟩ := id hfe
    have e3 : s₂ = ({ (U.calling g mk a).setFrames s₂.frames with heap := s₂.heap, slotsUsed := s₂.slotsUsed } : State).setVm s₂.vm := by
      have : s₂ = ({ s₂ with vm := (U.calling g mk a).vm } : State).setVm s₂.vm := rfl
      rw [e2] at this
      exact this
    obtain ⟨c₂, i₂, len₂, hc₂, hd₂, hf₂⟩ := hend
    have hW' : U.WarmedH s₂.vm := hW₂
    have hcc : c₂ = c := by
      have h1 : s₂.code? g.method = U.code? g.method := by
        rw [State.code?_eq, State.code?_eq, hW'.alike.method?]
      exact Option.some.inj (hc₂.symm.trans (h1.trans h.code))
    subst hcc
    have hlen : len₂ = len := by rw [hdg] at hd₂; cases hd₂; rfl
    subst hlen
    have hs₂ : s₂ = (({ U with heap := s₂.heap, slotsUsed := s₂.slotsUsed } : State).setVm s₂.vm).setTop { g with pc := g.pc + len₂, stack := v.toList ++ g.stack } := by
      refine e3.trans ?_
      rw [hf₂, State.calling_eq h.top, State.setFrames_setFrames, State.setTop_of_frames _ hr', hr]
      rfl
    have hsame : U.sameButNew ({ U with heap := s₂.heap, slotsUsed := s₂.slotsUsed } : State) L mc ms := by
      refine ⟨?_, q2, q3, q4, q5, q6⟩
      obtain ⟨t, ht, -⟩ := State.frames_cons hr
      show ({ U with heap := s₂.heap, slotsUsed := s₂.slotsUsed } : State) = { U.setFrames U.frames with heap := s₂.heap, slotsUsed := s₂.slotsUsed }
      rw [State.setFrames_self ht]
    subst hg
    refine Or.inl ⟨v, ⟨(({ U with heap := s₂.heap, slotsUsed := s₂.slotsUsed } : State).setVm s₂.vm), Ls ++ L, c0 + mc, s0 + ms⟩,
      ⟨X.admits, X.cas, X.clock, X.frames, X.room, X.hears, X.method, X.code, (X.here.setHeapUsed s₂.heap s₂.slotsUsed).setVm hW'.alike, X.tail, State.WarmedH.trans X.warmed hW', X.limits, X.bytes, X.same.trans (hsame.setVm s.vm)⟩,
      ⟨g, mk, s₂, L, rfl, rfl, hqc, rfl, hL, rfl, rfl⟩, ?_⟩
    show Steps p.tables e below _ ((({ U with heap := s₂.heap, slotsUsed := s₂.slotsUsed } : State).setVm s₂.vm).setTop { g with pc := g.pc + len₂, stack := v.toList ++ g.stack })
    rw [← hs₂]
    exact hsteps
  · obtain ⟨e2, q2, q3, q4, q5, q6⟩ := id hsm
    have e3 : s₂ = ({ (U.calling g mk a).setFrames s₂.frames with heap := s₂.heap, slotsUsed := s₂.slotsUsed } : State).setVm s₂.vm := by
      have : s₂ = ({ s₂ with vm := (U.calling g mk a).vm } : State).setVm s₂.vm := rfl
      rw [e2] at this
      exact this
    have hf₂ : s₂.frames = .throwing q :: .java g :: U.frames.tail := hend
    have hW' : U.WarmedH s₂.vm := hW₂
    have hs₂ : s₂ = ((({ U with heap := s₂.heap, slotsUsed := s₂.slotsUsed } : State).setVm s₂.vm).setTop g).pushFrame (.throwing q) := by
      refine e3.trans ?_
      rw [hf₂, State.calling_eq h.top, State.setFrames_setFrames, State.pushFrame, State.frames_setTop _ hr', State.setTop_of_frames _ hr', State.setFrames_setFrames, hr]
      rfl
    have hsame : U.sameButNew ({ U with heap := s₂.heap, slotsUsed := s₂.slotsUsed } : State) L mc ms := by
      refine ⟨?_, q2, q3, q4, q5, q6⟩
      obtain ⟨t, ht, -⟩ := State.frames_cons hr
      show ({ U with heap := s₂.heap, slotsUsed := s₂.slotsUsed } : State) = { U.setFrames U.frames with heap := s₂.heap, slotsUsed := s₂.slotsUsed }
      rw [State.setFrames_self ht]
    subst hg
    refine Or.inr ⟨q, ⟨(({ U with heap := s₂.heap, slotsUsed := s₂.slotsUsed } : State).setVm s₂.vm), Ls ++ L, c0 + mc, s0 + ms⟩,
      ⟨X.admits, X.cas, X.clock, X.frames, X.room, X.hears, X.method, X.code, (X.here.setHeapUsed s₂.heap s₂.slotsUsed).setVm hW'.alike, X.tail, State.WarmedH.trans X.warmed hW', X.limits, X.bytes, X.same.trans (hsame.setVm s.vm)⟩,
      ⟨g, mk, s₂, L, E, ce, rfl, rfl, hx, hce, hcv, hcl, rfl, hL, rfl, rfl⟩, ?_⟩
    show Steps p.tables e below _ (((({ U with heap := s₂.heap, slotsUsed := s₂.slotsUsed } : State).setVm s₂.vm).setTop g).pushFrame (.throwing q))
    rw [← hs₂]
    exact hsteps
end
variable {p : Program} {l : Launch} {e : Env} {R : Room} {s : State} {m : MethodId} {args : Array Value} {below : List Frame} {meth : Method} {c : Code} {T : State} {H : Heap} {locs : List Loc} {cells slots : Nat}
theorem vx_callVX (X : Stand p l e R s m args below meth c T locs cells slots) (hexec : p.tables.exec = Jvm.exec) {own C : String} {index : Nat} {y : MethodName} {bytes : ByteArray} {maxL : Nat} {ret : Option FieldType} {hh : List (Nat × Nat × Nat × Nat)}
    (hown : s.vm.findClass own = some m.cls) (hlink : (Cond.methodLink own index y).before args s = true) (hinst : (Cond.instanceMethod y).before args s = true) (hsel : (Cond.selects C y y).before args s = true)
    (hcode : (Cond.codeWith y bytes maxL ret hh).before args s = true) (hy : y.cls ≠ "java/lang/invoke/MethodHandle" ∧ y.cls ≠ "java/lang/invoke/VarHandle")
    {W9 : Nat} {Pre : Pt → Array Value → Prop} {Post : Pt → Array Value → Option Value → Pt → Prop} {PostX : Pt → Array Value → Addr → Pt → Prop} (hK : vx_Back l R p e below s args y 3 W9 Pre Post PostX)
    {b : Addr} {cellB : Cell} (hcell : T.heap[b]? = some cellB) (hobj : cellB.vm.isStatics = false) (hcls : s.vm.findClass C = some cellB.cls)
    {g : JFrame} (hg : g.method = m) (hsize : g.locals.size = c.maxLocals) {argsL rest : List Value} (hlen : ∀ sig, parseMethodDescriptor y.desc = some sig → argsL.length = sig.parameters.length)
    (hstack : g.stack = argsL.reverse ++ .ref b :: rest) (hW : 2 * g.monitorRoom + (rest.map fun v => v.category).sum ≤ W9) (hdg : decode c.code g.pc = .ok (.invokevirtual index, 3))
    (hpre : ∀ vm₁, s.WarmedH vm₁ → Pre ⟨T.setVm vm₁, locs, cells, slots⟩ (Value.ref b :: argsL).toArray) :
    (∃ (v : Option Value) (vm₁ : Vm) (B : Pt), s.WarmedH vm₁ ∧ Stand p l e R s m args below meth c B.U B.locs B.cells B.slots ∧ Post ⟨T.setVm vm₁, locs, cells, slots⟩ (Value.ref b :: argsL).toArray v B ∧
      ∀ target, Steps p.tables e below (B.U.setTop { g with pc := g.pc + 3, stack := v.toList ++ rest }) target → Steps p.tables e below (T.setTop g) target) ∨
    (∃ (q : Addr) (vm₁ : Vm) (B : Pt), s.WarmedH vm₁ ∧ Stand p l e R s m args below meth c B.U B.locs B.cells B.slots ∧ PostX ⟨T.setVm vm₁, locs, cells, slots⟩ (Value.ref b :: argsL).toArray q B ∧
      Steps p.tables e below (T.setTop g) ((B.U.setTop { g with stack := rest }).pushFrame (.throwing q))) := by
  obtain ⟨mk, methM, hnamed, hmethM, hstM, habM⟩ := Cond.instanceMethod_spec hinst
  obtain ⟨m8, methM', cM, hn8, hmethM', -, -, -, -, -, -, hsigM⟩ := Cond.codeWith_spec hcode
  cases Option.some.inj (hn8.symm.trans hnamed)
  cases hmethM.symm.trans hmethM'
  obtain ⟨c2, r2, m2, q1, q2, q3, q4, kP, hkP, hkPi⟩ := Cond.selects_spec hsel
  cases hcls.symm.trans q1
  cases (State.methodFound?_of_named hnamed hy).symm.trans q2
  cases hnamed.symm.trans q3
  have hselP : selectMethod e.platform s.vm cellB.cls mk = .method mk := by rw [Launch.admits_selectMethod X.admits]; exact q4
  obtain ⟨vm₁, X₁, hstep₁⟩ := X.invokevirtual hexec hown hlink hnamed hmethM hstM hkP hkPi hy (a := b) (cell := cellB) hcell
    (fun z h => by rw [h] at hobj; cases hobj) hselP hmethM habM hkP hkPi (g := g) hg (argsL := argsL) (rest := rest) (hlen _ hsigM) hstack hdg
  rcases hK m meth c ⟨T.setVm vm₁, locs, cells, slots⟩ { g with stack := rest } (.invokevirtual index) mk (Value.ref b :: argsL).toArray X₁ hg hsize hdg hW (X₁.named hnamed) (hpre vm₁ X₁.warmed) with ⟨v, B, X', hpost, hsteps⟩ | ⟨q, B, X', hpost, hsteps⟩
  · exact Or.inl ⟨v, vm₁, B, X₁.warmed, X', hpost, fun target h => hstep₁ _ fun acts => by rw [doInvoke_state]; exact hsteps.trans h⟩
  · exact Or.inr ⟨q, vm₁, B, X₁.warmed, X', hpost, hstep₁ _ fun acts => by rw [doInvoke_state]; exact hsteps⟩
theorem vx_callSX (X : Stand p l e R s m args below meth c T locs cells slots) (hexec : p.tables.exec = Jvm.exec) {own : String} {index : Nat} {y : MethodName} {bytes : ByteArray} {maxL : Nat} {ret : Option FieldType} {hh : List (Nat × Nat × Nat × Nat)}
    (hown : s.vm.findClass own = some m.cls) (hlink : (Cond.methodLink own index y).before args s = true) (hstat : (Cond.static y).before args s = true) (hinit : (Cond.initialized y.cls).before args s = true)
    (hcode : (Cond.codeWith y bytes maxL ret hh).before args s = true) (hy : y.cls ≠ "java/lang/invoke/MethodHandle" ∧ y.cls ≠ "java/lang/invoke/VarHandle")
    {W9 : Nat} {Pre : Pt → Array Value → Prop} {Post : Pt → Array Value → Option Value → Pt → Prop} {PostX : Pt → Array Value → Addr → Pt → Prop} (hK : vx_Back l R p e below s args y 3 W9 Pre Post PostX)
    {g : JFrame} (hg : g.method = m) (hsize : g.locals.size = c.maxLocals) {argsL rest : List Value} (hlen : ∀ sig, parseMethodDescriptor y.desc = some sig → argsL.length = sig.parameters.length)
    (hstack : g.stack = argsL.reverse ++ rest) (hW : 2 * g.monitorRoom + (rest.map fun v => v.category).sum ≤ W9) (hdg : decode c.code g.pc = .ok (.invokestatic index, 3))
    (hpre : ∀ vm₁, s.WarmedH vm₁ → Pre ⟨T.setVm vm₁, locs, cells, slots⟩ argsL.toArray) :
    (∃ (v : Option Value) (vm₁ : Vm) (B : Pt), s.WarmedH vm₁ ∧ Stand p l e R s m args below meth c B.U B.locs B.cells B.slots ∧ Post ⟨T.setVm vm₁, locs, cells, slots⟩ argsL.toArray v B ∧
      ∀ target, Steps p.tables e below (B.U.setTop { g with pc := g.pc + 3, stack := v.toList ++ rest }) target → Steps p.tables e below (T.setTop g) target) ∨
    (∃ (q : Addr) (vm₁ : Vm) (B : Pt), s.WarmedH vm₁ ∧ Stand p l e R s m args below meth c B.U B.locs B.cells B.slots ∧ PostX ⟨T.setVm vm₁, locs, cells, slots⟩ argsL.toArray q B ∧
      Steps p.tables e below (T.setTop g) ((B.U.setTop { g with stack := rest }).pushFrame (.throwing q))) := by
  obtain ⟨mk, methM, cM, hnamed, hmethM, -, -, -, -, -, -, hsigM⟩ := Cond.codeWith_spec hcode
  have hstatic : methM.isStatic = true := Cond.static_spec hnamed hmethM hstat
  obtain ⟨kP, hkP, -⟩ := className_of_methodNamed hnamed
  have hinitP : kP.init = .initialized := Cond.initialized_spec (findClass_of_methodNamed hnamed) hkP hinit
  obtain ⟨vm₁, X₁, hstep₁⟩ := X.invokestatic hexec hown hlink hnamed hmethM hstatic hkP hinitP hy (g := g) hg (argsL := argsL) (rest := rest) (hlen _ hsigM) hstack hdg
  rcases hK m meth c ⟨T.setVm vm₁, locs, cells, slots⟩ { g with stack := rest } (.invokestatic index) mk argsL.toArray X₁ hg hsize hdg hW (X₁.named hnamed) (hpre vm₁ X₁.warmed) with ⟨v, B, X', hpost, hsteps⟩ | ⟨q, B, X', hpost, hsteps⟩
  · exact Or.inl ⟨v, vm₁, B, X₁.warmed, X', hpost, fun target h => hstep₁ _ fun acts => by rw [doInvoke_state]; exact hsteps.trans h⟩
  · exact Or.inr ⟨q, vm₁, B, X₁.warmed, X', hpost, hstep₁ _ fun acts => by rw [doInvoke_state]; exact hsteps⟩
theorem vx_callVW (X : Stand p l e R s m args below meth c T locs cells slots) (hexec : p.tables.exec = Jvm.exec) {own C : String} {index : Nat} {y : MethodName} {bytes : ByteArray} {maxL : Nat} {ret : Option FieldType} {hh : List (Nat × Nat × Nat × Nat)}
    (hown : s.vm.findClass own = some m.cls) (hlink : (Cond.methodLink own index y).before args s = true) (hinst : (Cond.instanceMethod y).before args s = true) (hsel : (Cond.selects C y y).before args s = true)
    (hcode : (Cond.codeWith y bytes maxL ret hh).before args s = true) (hy : y.cls ≠ "java/lang/invoke/MethodHandle" ∧ y.cls ≠ "java/lang/invoke/VarHandle")
    {W9 : Nat} {Pre : Pt → Array Value → Prop} {Post : Pt → Array Value → Option Value → Pt → Prop} (hK : Back l R p e below s args y 3 W9 Pre Post)
    {b : Addr} {cellB : Cell} (hcell : T.heap[b]? = some cellB) (hobj : cellB.vm.isStatics = false) (hcls : s.vm.findClass C = some cellB.cls)
    {g : JFrame} (hg : g.method = m) (hsize : g.locals.size = c.maxLocals) {argsL rest : List Value} (hlen : ∀ sig, parseMethodDescriptor y.desc = some sig → argsL.length = sig.parameters.length)
    (hstack : g.stack = argsL.reverse ++ .ref b :: rest) (hW : 2 * g.monitorRoom + (rest.map fun v => v.category).sum ≤ W9) (hdg : decode c.code g.pc = .ok (.invokevirtual index, 3))
    (hpre : ∀ vm₁, s.WarmedH vm₁ → Pre ⟨T.setVm vm₁, locs, cells, slots⟩ (Value.ref b :: argsL).toArray) :
    ∃ (v : Option Value) (vm₁ : Vm) (B : Pt), s.WarmedH vm₁ ∧ Stand p l e R s m args below meth c B.U B.locs B.cells B.slots ∧ Post ⟨T.setVm vm₁, locs, cells, slots⟩ (Value.ref b :: argsL).toArray v B ∧
      ∀ target, Steps p.tables e below (B.U.setTop { g with pc := g.pc + 3, stack := v.toList ++ rest }) target → Steps p.tables e below (T.setTop g) target := by
  obtain ⟨mk, methM, hnamed, hmethM, hstM, habM⟩ := Cond.instanceMethod_spec hinst
  obtain ⟨m8, methM', cM, hn8, hmethM', -, -, -, -, -, -, hsigM⟩ := Cond.codeWith_spec hcode
  cases Option.some.inj (hn8.symm.trans hnamed)
  cases hmethM.symm.trans hmethM'
  obtain ⟨c2, r2, m2, q1, q2, q3, q4, kP, hkP, hkPi⟩ := Cond.selects_spec hsel
  cases hcls.symm.trans q1
  cases (State.methodFound?_of_named hnamed hy).symm.trans q2
  cases hnamed.symm.trans q3
  have hselP : selectMethod e.platform s.vm cellB.cls mk = .method mk := by rw [Launch.admits_selectMethod X.admits]; exact q4
  obtain ⟨vm₁, X₁, hstep₁⟩ := X.invokevirtual hexec hown hlink hnamed hmethM hstM hkP hkPi hy (a := b) (cell := cellB) hcell
    (fun z h => by rw [h] at hobj; cases hobj) hselP hmethM habM hkP hkPi (g := g) hg (argsL := argsL) (rest := rest) (hlen _ hsigM) hstack hdg
  obtain ⟨v, B, X', hpost, hsteps⟩ := hK m meth c ⟨T.setVm vm₁, locs, cells, slots⟩ { g with stack := rest } (.invokevirtual index) mk (Value.ref b :: argsL).toArray X₁ hg hsize hdg hW (X₁.named hnamed) (hpre vm₁ X₁.warmed)
  exact ⟨v, vm₁, B, X₁.warmed, X', hpost, fun target h => hstep₁ _ fun acts => by rw [doInvoke_state]; exact hsteps.trans h⟩
abbrev vx_CVW (R : Room) (s : State) (args : Array Value) (own C : String) (index : Nat) (y : MethodName) (bytes : ByteArray) (maxL : Nat) (ret : Option FieldType) (hh : List (Nat × Nat × Nat × Nat)) (ws : List Cond) (rm : Room) (mc ms n : Nat) : Prop :=
  (rm.cells = mc ∧ rm.slots = ms ∧ rm.frames + 1 ≤ R.frames ∧ 8 + (maxL + 11) + rm.locals ≤ R.locals ∧ (∀ w ∈ ws, ∀ (a' : Array Value) (U : State), s.WarmedH U.vm → w.before a' U = true) ∧ Cond.codeWith y bytes maxL ret hh ∈ ws) ∧
  (Cond.codeWith y bytes maxL ret hh).before args s = true ∧ (Cond.initialized y.cls).before args s = true ∧ (y.cls ≠ "java/lang/invoke/MethodHandle" ∧ y.cls ≠ "java/lang/invoke/VarHandle") ∧
  (∀ sig, parseMethodDescriptor y.desc = some sig → n = sig.parameters.length) ∧ (Cond.methodLink own index y).before args s = true ∧ (Cond.instanceMethod y).before args s = true ∧ (Cond.selects C y y).before args s = true
theorem vx_cwVW {own C : String} {index maxL mc ms : Nat} {y : MethodName} {bytes : ByteArray} {ret : Option FieldType} {hh : List (Nat × Nat × Nat × Nat)} {Ts ws ws' : List Cond} {rm : Room} (n : Nat) (ht : ∀ w ∈ Ts, w.before args s = true) (hT : GoodIn Ts (wsV own index C y ws)) (hw : ws = Cond.codeWith y bytes maxL ret hh :: ws') (hrc : rm.cells = mc) (hrs : rm.slots = ms)
    (hd : y.cls = C ∧ y.cls ≠ "java/lang/invoke/MethodHandle" ∧ y.cls ≠ "java/lang/invoke/VarHandle" ∧ (parseMethodDescriptor y.desc).map (fun d => d.parameters.length) = some n) (hR : rm.frames + 1 ≤ R.frames ∧ 8 + (maxL + 11) + rm.locals ≤ R.locals) :
    vx_CVW R s args own C index y bytes maxL ret hh ws rm mc ms n := by
  obtain ⟨hC, hd⟩ := hd
  subst hC
  have ok : ∀ w ∈ wsV own index y.cls y ws, w.before args s = true := fun w h => ht w (hT w h).1
  have hG : GoodIn Ts ws := fun w h => hT w (by unfold wsV; exact List.mem_append_right _ h)
  have hc : Cond.codeWith y bytes maxL ret hh ∈ ws := by rw [hw]; exact List.mem_cons_self
  refine ⟨⟨hrc, hrs, hR.1, hR.2, pay_in ht hG, hc⟩, ht _ (hG _ hc).1, ok _ (by simp [wsV]), ⟨hd.1, hd.2.1⟩, fun sig h => ?_, ok _ (by simp [wsV]), ok _ (by simp [wsV]), ok _ (by simp [wsV])⟩
  have h2 := hd.2.2
  rw [h] at h2
  exact (Option.some.inj h2).symm
theorem vx_runVW {y : MethodName} {bytes cc : ByteArray} {maxL nL mc ms n index : Nat} {ret : Option FieldType} {hh : List (Nat × Nat × Nat × Nat)} {ws : List Cond} {rm : Room} {Pc : Array Value → State → Prop} {Qc : Array Value → State → Outcome → State → Prop} {free : Addr → Prop} {Ts : List Cond} {own C : String} {b : Addr} {As rest : List Value} {g : JFrame}
    (S : CallFix p m c cc nL s args Ts own) (hM : Met l y ws rm Pc Qc mc ms free) (cw : vx_CVW R s args own C index y bytes maxL ret hh ws rm mc ms n) (hp : PreV s H C b Pc As)
    (hg : g.method = m) (hn : As.length = n) (hsize : g.locals.size = nL) (hstack : g.stack = As.reverse ++ .ref b :: rest) (hW : 2 * g.monitorRoom + (rest.map fun v => v.category).sum ≤ 8) (hdg : decode cc g.pc = .ok (.invokevirtual index, 3)) (hf : cells + mc ≤ R.cells ∧ slots + ms ≤ R.slots) :
    va_Run p l e R s m args below meth c H locs cells slots mc ms g rest (Qc (Value.ref b :: As).toArray) free := by
  obtain ⟨⟨hrc, hrs, hfr, hlo, hws, hcw⟩, hcode, hini, hy, hlen, hl, hin, hse⟩ := cw
  have hK : Back l R p e below s args y 3 8 (PreOf R mc ms Pc) (PostOf Qc mc ms free) := va_backW (hh := hh) (bytes := bytes) (maxL := maxL) (ret := ret) hM hp.1 hrc hrs hfr hlo hws hcw (fun a' U hW => word_at hW (Or.inl (by first | rfl | simp [Cond.onTables, Cond.keeps, Cond.steady])) hini)
  obtain ⟨hx, hb, hml, ho, -⟩ := S
  obtain ⟨-, ⟨cellB, hcB, hoB, hclB⟩, hPc⟩ := hp
  intro T hT X
  obtain ⟨v, vm₁, ⟨U', l2, c2, s2⟩, hW₁, X', ⟨g', mk, t, L, e1, e2, hq, h1, hL, h2, h3⟩, st⟩ := vx_callVW X hx (C := C) (hh := hh) (bytes := bytes) (maxL := maxL) (ret := ret) ho hl hin hse hcode hy hK (by rw [hT]; exact hcB) hoB hclB hg (hsize.trans hml.symm) (argsL := As) (rest := rest) (fun sig h => hn.trans (hlen sig h)) hstack hW (by rw [hb]; exact hdg)
    (fun vm₁ hW₁ => ⟨hf.1, hf.2, hPc (T.setVm vm₁) hT hW₁⟩)
  dsimp only [Pt.U, Pt.locs, Pt.cells, Pt.slots] at X' e1 e2 h1 h2 h3 st
  subst h1; subst h2; subst h3
  exact ⟨v, (T.setVm vm₁).calling g' mk (Value.ref b :: As).toArray, t, U', L, hT, X', hL, e1, e2, hq, st⟩
section
variable {y : MethodName} {bytes cc : ByteArray} {maxL nL mc ms n index : Nat} {ret : Option FieldType} {ws : List Cond} {rm : Room} {Pc : Array Value → State → Prop} {Qc : Array Value → State → Outcome → State → Prop} {XC : String → State → State → Prop} {free : Addr → Prop} {Ts : List Cond} {own C : String} {b : Addr} {As rest : List Value} {g : JFrame}
theorem vx_runVX {hh : List (Nat × Nat × Nat × Nat)} (S : CallFix p m c cc nL s args Ts own) (hM : vx_Met l y ws rm Pc Qc XC mc ms free) (cw : vx_CVW R s args own C index y bytes maxL ret hh ws rm mc ms n) (hp : PreV s H C b Pc As)
    (hg : g.method = m) (hn : As.length = n) (hsize : g.locals.size = nL) (hstack : g.stack = As.reverse ++ .ref b :: rest) (hW : 2 * g.monitorRoom + (rest.map fun v => v.category).sum ≤ 8) (hdg : decode cc g.pc = .ok (.invokevirtual index, 3)) (hf : cells + mc ≤ R.cells ∧ slots + ms ≤ R.slots) :
    vx_Run p l e R s m args below meth c H locs cells slots mc ms g rest (Qc (Value.ref b :: As).toArray) XC free := by
  obtain ⟨⟨hrc, hrs, hfr, hlo, hws, hcw⟩, hcode, hini, hy, hlen, hl, hin, hse⟩ := cw
  have hK : vx_Back l R p e below s args y 3 8 (PreOf R mc ms Pc) (PostOf Qc mc ms free) (vx_Post XC mc ms free) := vx_backW (hh := hh) (bytes := bytes) (maxL := maxL) (ret := ret) hM hp.1 hrc hrs hfr hlo hws hcw (fun a' U hW => word_at hW (Or.inl (by first | rfl | simp [Cond.onTables, Cond.keeps, Cond.steady])) hini)
  obtain ⟨hx, hb, hml, ho, -⟩ := S
  obtain ⟨-, ⟨cellB, hcB, hoB, hclB⟩, hPc⟩ := hp
  intro T hT X
  rcases vx_callVX X hx (C := C) (hh := hh) (bytes := bytes) (maxL := maxL) (ret := ret) ho hl hin hse hcode hy hK (by rw [hT]; exact hcB) hoB hclB hg (hsize.trans hml.symm) (argsL := As) (rest := rest) (fun sig h => hn.trans (hlen sig h)) hstack hW (by rw [hb]; exact hdg)
    (fun vm₁ hW₁ => ⟨hf.1, hf.2, hPc (T.setVm vm₁) hT hW₁⟩) with ⟨v, vm₁, ⟨U', l2, c2, s2⟩, hW₁, X', ⟨g', mk, t, L, e1, e2, hq, h1, hL, h2, h3⟩, st⟩ | ⟨q, vm₁, ⟨U', l2, c2, s2⟩, hW₁, X', ⟨g', mk, t, L, E, ce, e1, e2, hq, hce, hcv, hcl, h1, hL, h2, h3⟩, st⟩
  · dsimp only [Pt.U, Pt.locs, Pt.cells, Pt.slots] at X' e1 e2 h1 h2 h3 st
    subst h1; subst h2; subst h3
    exact Or.inl ⟨v, (T.setVm vm₁).calling g' mk (Value.ref b :: As).toArray, t, U', L, hT, X', hL, e1, e2, hq, st⟩
  · dsimp only [Pt.U, Pt.locs, Pt.cells, Pt.slots] at X' e1 e2 h1 h2 h3 st hcl
    subst h1; subst h2; subst h3
    exact Or.inr ⟨q, (T.setVm vm₁).calling g' mk (Value.ref b :: As).toArray, t, U', L, E, ce, hT, X', hL, e1, e2, hq, hce, hcv, vx_cls hW₁ hcl, st⟩
theorem vx_runSX {hh : List (Nat × Nat × Nat × Nat)} (S : CallFix p m c cc nL s args Ts own) (hM : vx_Met l y ws rm Pc Qc XC mc ms free) (cw : vx_CSW R s args own index y bytes maxL ret hh ws rm mc ms n) (hp : PreS s H Pc As)
    (hg : g.method = m) (hn : As.length = n) (hsize : g.locals.size = nL) (hstack : g.stack = As.reverse ++ rest) (hW : 2 * g.monitorRoom + (rest.map fun v => v.category).sum ≤ 8) (hdg : decode cc g.pc = .ok (.invokestatic index, 3)) (hf : cells + mc ≤ R.cells ∧ slots + ms ≤ R.slots) :
    vx_Run p l e R s m args below meth c H locs cells slots mc ms g rest (Qc As.toArray) XC free := by
  obtain ⟨⟨hrc, hrs, hfr, hlo, hws, hcw⟩, hcode, hini, hy, hlen, hl, hstt⟩ := cw
  have hK : vx_Back l R p e below s args y 3 8 (PreOf R mc ms Pc) (PostOf Qc mc ms free) (vx_Post XC mc ms free) := vx_backW (hh := hh) (bytes := bytes) (maxL := maxL) (ret := ret) hM hp.1 hrc hrs hfr hlo hws hcw (fun a' U hW => word_at hW (Or.inl (by first | rfl | simp [Cond.onTables, Cond.keeps, Cond.steady])) hini)
  obtain ⟨hx, hb, hml, ho, -⟩ := S
  intro T hT X
  rcases vx_callSX X hx (hh := hh) (bytes := bytes) (maxL := maxL) (ret := ret) ho hl hstt hini hcode hy hK hg (hsize.trans hml.symm) (argsL := As) (rest := rest) (fun sig h => hn.trans (hlen sig h)) hstack hW (by rw [hb]; exact hdg)
    (fun vm₁ hW₁ => ⟨hf.1, hf.2, hp.2 (T.setVm vm₁) hT hW₁⟩) with ⟨v, vm₁, ⟨U', l2, c2, s2⟩, hW₁, X', ⟨g', mk, t, L, e1, e2, hq, h1, hL, h2, h3⟩, st⟩ | ⟨q, vm₁, ⟨U', l2, c2, s2⟩, hW₁, X', ⟨g', mk, t, L, E, ce, e1, e2, hq, hce, hcv, hcl, h1, hL, h2, h3⟩, st⟩
  · dsimp only [Pt.U, Pt.locs, Pt.cells, Pt.slots] at X' e1 e2 h1 h2 h3 st
    subst h1; subst h2; subst h3
    exact Or.inl ⟨v, (T.setVm vm₁).calling g' mk As.toArray, t, U', L, hT, X', hL, e1, e2, hq, st⟩
  · dsimp only [Pt.U, Pt.locs, Pt.cells, Pt.slots] at X' e1 e2 h1 h2 h3 st hcl
    subst h1; subst h2; subst h3
    exact Or.inr ⟨q, (T.setVm vm₁).calling g' mk As.toArray, t, U', L, E, ce, hT, X', hL, e1, e2, hq, hce, hcv, vx_cls hW₁ hcl, st⟩
end
end VXH
theorem vx_ofWH {l : Launch} {y : MethodName} {ws ws' : List Cond} {rm : Room} {Pc : Array Value → State → Prop} {Qc : Array Value → State → Outcome → State → Prop} {XC : String → State → State → Prop} {mc ms : Nat} {free : Addr → Prop} {cc : ByteArray} {maxL : Nat} {ret : Option FieldType} {hh : List (Nat × Nat × Nat × Nat)}
    (hy : plainName y.cls = true) (hw : ws = Cond.codeWith y cc maxL ret hh :: ws')
    (body : ∀ p e s m args below meth c s₁, BodyLoose p l y (headSpec ws rm) cc maxL ret e s m args below meth c s₁ → c.maxLocals = maxL → Pc args s →
      W p l e (headSpec ws rm).room s m args below meth c s.heap [] 0 0 (vx_MQ below Qc XC args s mc ms free) (entryFrame m args maxL)) : vx_Met l y ws rm Pc Qc XC mc ms free := by
  refine MetFree.of_bodyS (code := cc) (maxLocals := maxL) (ret := ret) hy ?_ ?_
  · intro args s m h hn
    obtain ⟨m9, meth, c, hn9, h1, h2, h3, h4, -, h5, h6, -⟩ := Cond.codeWith_spec (atoms_spec (ws := ws) h _ (by rw [hw]; exact List.mem_cons_self))
    cases hn.symm.trans hn9
    exact ⟨meth, c, h1, h2, h3, h4, h5, h6⟩
  · intro p e s m args below meth c s₁ B hml hP _
    have hh0 : s₁.heap = s.heap := by rw [B.state]; rfl
    obtain ⟨t, a1, o, b1, b2, b3⟩ := body p e s m args below meth c s₁ B hml hP s₁ hh0 (Stand.of_body B)
    exact ⟨t, o, a1, b1, b2, b3⟩
/-! ===== END ===== -/
end
