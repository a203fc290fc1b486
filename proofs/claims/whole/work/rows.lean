section
-- ===== PART A: goes FIRST, ahead of the names: the tables' words, and 'selects' of the private methods out of them =====
/-- a private method of a class that the tables say can be made, by its rows of tables_1 -/
def lw_okq (q : MethodName × Nat) : Prop := (q.1.cls ≠ "java/lang/invoke/MethodHandle" ∧ q.1.cls ≠ "java/lang/invoke/VarHandle") ∧ Cond.instantiable q.1.cls q.2 ∈ tables_1 ∧ Cond.privateMethod q.1 ∈ tables_1 ∧ Cond.instanceMethod q.1 ∈ tables_1
theorem lw_p0 : lw_okq (⟨"OfficeLadder$Republic", "tie", "(II)V"⟩, 9) := ⟨⟨by decide +kernel, by decide +kernel⟩, List.mem_of_getElem? (i := 28) (by decide +kernel), List.mem_of_getElem? (i := 353) (by decide +kernel), List.mem_of_getElem? (i := 354) (by decide +kernel)⟩
theorem lw_p1 : lw_okq (⟨"OfficeLadder$Filler", "addSlots", "(LOfficeLadder$Office;II)V"⟩, 15) := ⟨⟨by decide +kernel, by decide +kernel⟩, List.mem_of_getElem? (i := 103) (by decide +kernel), List.mem_of_getElem? (i := 564) (by decide +kernel), List.mem_of_getElem? (i := 565) (by decide +kernel)⟩
theorem lw_p2 : lw_okq (⟨"OfficeLadder$Filler", "place", "(LOfficeLadder$Republic;I)V"⟩, 15) := ⟨⟨by decide +kernel, by decide +kernel⟩, List.mem_of_getElem? (i := 103) (by decide +kernel), List.mem_of_getElem? (i := 578) (by decide +kernel), List.mem_of_getElem? (i := 579) (by decide +kernel)⟩
theorem lw_p3 : lw_okq (⟨"OfficeLadder$Filler", "tellFound", "()V"⟩, 15) := ⟨⟨by decide +kernel, by decide +kernel⟩, List.mem_of_getElem? (i := 103) (by decide +kernel), List.mem_of_getElem? (i := 582) (by decide +kernel), List.mem_of_getElem? (i := 583) (by decide +kernel)⟩
theorem lw_p4 : lw_okq (⟨"OfficeLadder$Filler", "isOver", "()Z"⟩, 15) := ⟨⟨by decide +kernel, by decide +kernel⟩, List.mem_of_getElem? (i := 103) (by decide +kernel), List.mem_of_getElem? (i := 586) (by decide +kernel), List.mem_of_getElem? (i := 587) (by decide +kernel)⟩
theorem lw_p5 : lw_okq (⟨"OfficeLadder$Filler", "fits", "(LOfficeLadder$Republic;II)Z"⟩, 15) := ⟨⟨by decide +kernel, by decide +kernel⟩, List.mem_of_getElem? (i := 103) (by decide +kernel), List.mem_of_getElem? (i := 590) (by decide +kernel), List.mem_of_getElem? (i := 591) (by decide +kernel)⟩
theorem lw_p6 : lw_okq (⟨"OfficeLadder$Filler", "takeAndGoOn", "(LOfficeLadder$Republic;II)V"⟩, 15) := ⟨⟨by decide +kernel, by decide +kernel⟩, List.mem_of_getElem? (i := 103) (by decide +kernel), List.mem_of_getElem? (i := 594) (by decide +kernel), List.mem_of_getElem? (i := 595) (by decide +kernel)⟩
theorem lw_p7 : lw_okq (⟨"OfficeLadder$Election", "begin", "(J)V"⟩, 11) := ⟨⟨by decide +kernel, by decide +kernel⟩, List.mem_of_getElem? (i := 161) (by decide +kernel), List.mem_of_getElem? (i := 648) (by decide +kernel), List.mem_of_getElem? (i := 649) (by decide +kernel)⟩
theorem lw_p8 : lw_okq (⟨"OfficeLadder$Election", "countUnit", "(I)V"⟩, 11) := ⟨⟨by decide +kernel, by decide +kernel⟩, List.mem_of_getElem? (i := 161) (by decide +kernel), List.mem_of_getElem? (i := 655) (by decide +kernel), List.mem_of_getElem? (i := 656) (by decide +kernel)⟩
theorem lw_p9 : lw_okq (⟨"OfficeLadder$Election", "elect", "(II)V"⟩, 11) := ⟨⟨by decide +kernel, by decide +kernel⟩, List.mem_of_getElem? (i := 161) (by decide +kernel), List.mem_of_getElem? (i := 659) (by decide +kernel), List.mem_of_getElem? (i := 660) (by decide +kernel)⟩
theorem lw_p10 : lw_okq (⟨"OfficeLadder$Election", "electRest", "()V"⟩, 11) := ⟨⟨by decide +kernel, by decide +kernel⟩, List.mem_of_getElem? (i := 161) (by decide +kernel), List.mem_of_getElem? (i := 663) (by decide +kernel), List.mem_of_getElem? (i := 664) (by decide +kernel)⟩
theorem lw_p11 : lw_okq (⟨"OfficeLadder$Election", "bestOfRest", "()I"⟩, 11) := ⟨⟨by decide +kernel, by decide +kernel⟩, List.mem_of_getElem? (i := 161) (by decide +kernel), List.mem_of_getElem? (i := 667) (by decide +kernel), List.mem_of_getElem? (i := 668) (by decide +kernel)⟩
theorem lw_p12 : lw_okq (⟨"OfficeLadder$Election", "isElected", "(I)Z"⟩, 11) := ⟨⟨by decide +kernel, by decide +kernel⟩, List.mem_of_getElem? (i := 161) (by decide +kernel), List.mem_of_getElem? (i := 671) (by decide +kernel), List.mem_of_getElem? (i := 672) (by decide +kernel)⟩
theorem lw_p13 : lw_okq (⟨"OfficeLadder$Election", "isAhead", "(II)Z"⟩, 11) := ⟨⟨by decide +kernel, by decide +kernel⟩, List.mem_of_getElem? (i := 161) (by decide +kernel), List.mem_of_getElem? (i := 675) (by decide +kernel), List.mem_of_getElem? (i := 676) (by decide +kernel)⟩
theorem lw_p14 : lw_okq (⟨"OfficeLadder$Election", "lead", "()I"⟩, 11) := ⟨⟨by decide +kernel, by decide +kernel⟩, List.mem_of_getElem? (i := 161) (by decide +kernel), List.mem_of_getElem? (i := 687) (by decide +kernel), List.mem_of_getElem? (i := 688) (by decide +kernel)⟩
theorem lw_p15 : lw_okq (⟨"OfficeLadder$Shelf", "become", "(II)V"⟩, 5) := ⟨⟨by decide +kernel, by decide +kernel⟩, List.mem_of_getElem? (i := 206) (by decide +kernel), List.mem_of_getElem? (i := 719) (by decide +kernel), List.mem_of_getElem? (i := 720) (by decide +kernel)⟩
def lw_privs_1 : List (MethodName × Nat) := [(⟨"OfficeLadder$Republic", "tie", "(II)V"⟩, 9), (⟨"OfficeLadder$Filler", "addSlots", "(LOfficeLadder$Office;II)V"⟩, 15), (⟨"OfficeLadder$Filler", "place", "(LOfficeLadder$Republic;I)V"⟩, 15), (⟨"OfficeLadder$Filler", "tellFound", "()V"⟩, 15), (⟨"OfficeLadder$Filler", "isOver", "()Z"⟩, 15), (⟨"OfficeLadder$Filler", "fits", "(LOfficeLadder$Republic;II)Z"⟩, 15), (⟨"OfficeLadder$Filler", "takeAndGoOn", "(LOfficeLadder$Republic;II)V"⟩, 15), (⟨"OfficeLadder$Election", "begin", "(J)V"⟩, 11), (⟨"OfficeLadder$Election", "countUnit", "(I)V"⟩, 11), (⟨"OfficeLadder$Election", "elect", "(II)V"⟩, 11), (⟨"OfficeLadder$Election", "electRest", "()V"⟩, 11), (⟨"OfficeLadder$Election", "bestOfRest", "()I"⟩, 11), (⟨"OfficeLadder$Election", "isElected", "(I)Z"⟩, 11), (⟨"OfficeLadder$Election", "isAhead", "(II)Z"⟩, 11), (⟨"OfficeLadder$Election", "lead", "()I"⟩, 11), (⟨"OfficeLadder$Shelf", "become", "(II)V"⟩, 5)]
theorem lw_r1 : ∀ q ∈ lw_privs_1, lw_okq q := List.forall_mem_cons.mpr ⟨lw_p0, List.forall_mem_cons.mpr ⟨lw_p1, List.forall_mem_cons.mpr ⟨lw_p2, List.forall_mem_cons.mpr ⟨lw_p3, List.forall_mem_cons.mpr ⟨lw_p4, List.forall_mem_cons.mpr ⟨lw_p5, List.forall_mem_cons.mpr ⟨lw_p6, List.forall_mem_cons.mpr ⟨lw_p7, List.forall_mem_cons.mpr ⟨lw_p8, List.forall_mem_cons.mpr ⟨lw_p9, List.forall_mem_cons.mpr ⟨lw_p10, List.forall_mem_cons.mpr ⟨lw_p11, List.forall_mem_cons.mpr ⟨lw_p12, List.forall_mem_cons.mpr ⟨lw_p13, List.forall_mem_cons.mpr ⟨lw_p14, List.forall_mem_cons.mpr ⟨lw_p15, fun _ h => absurd h List.not_mem_nil⟩⟩⟩⟩⟩⟩⟩⟩⟩⟩⟩⟩⟩⟩⟩⟩
theorem lw_p16 : lw_okq (⟨"OfficeLadder", "refusalOfLaw", "(I)I"⟩, 5) := ⟨⟨by decide +kernel, by decide +kernel⟩, List.mem_of_getElem? (i := 20) (by decide +kernel), List.mem_of_getElem? (i := 769) (by decide +kernel), List.mem_of_getElem? (i := 770) (by decide +kernel)⟩
theorem lw_p17 : lw_okq (⟨"java/lang/Throwable", "fillInStackTrace", "(I)Ljava/lang/Throwable;"⟩, 6) := ⟨⟨by decide +kernel, by decide +kernel⟩, List.mem_of_getElem? (i := 827) (by decide +kernel), List.mem_of_getElem? (i := 825) (by decide +kernel), List.mem_of_getElem? (i := 826) (by decide +kernel)⟩
theorem lw_p18 : lw_okq (⟨"OfficeLadderModel", "in", "(III)Z"⟩, 45) := ⟨⟨by decide +kernel, by decide +kernel⟩, List.mem_of_getElem? (i := 892) (by decide +kernel), List.mem_of_getElem? (i := 1038) (by decide +kernel), List.mem_of_getElem? (i := 1039) (by decide +kernel)⟩
theorem lw_p19 : lw_okq (⟨"OfficeLadderModel", "isSpan", "(II)Z"⟩, 45) := ⟨⟨by decide +kernel, by decide +kernel⟩, List.mem_of_getElem? (i := 892) (by decide +kernel), List.mem_of_getElem? (i := 1046) (by decide +kernel), List.mem_of_getElem? (i := 1047) (by decide +kernel)⟩
theorem lw_p20 : lw_okq (⟨"OfficeLadderModel", "isPerson", "(I)Z"⟩, 45) := ⟨⟨by decide +kernel, by decide +kernel⟩, List.mem_of_getElem? (i := 892) (by decide +kernel), List.mem_of_getElem? (i := 1054) (by decide +kernel), List.mem_of_getElem? (i := 1055) (by decide +kernel)⟩
theorem lw_p21 : lw_okq (⟨"OfficeLadderModel", "isYear", "(I)Z"⟩, 45) := ⟨⟨by decide +kernel, by decide +kernel⟩, List.mem_of_getElem? (i := 892) (by decide +kernel), List.mem_of_getElem? (i := 1062) (by decide +kernel), List.mem_of_getElem? (i := 1063) (by decide +kernel)⟩
theorem lw_p22 : lw_okq (⟨"OfficeLadderModel", "isOffice", "(I)Z"⟩, 45) := ⟨⟨by decide +kernel, by decide +kernel⟩, List.mem_of_getElem? (i := 892) (by decide +kernel), List.mem_of_getElem? (i := 1074) (by decide +kernel), List.mem_of_getElem? (i := 1075) (by decide +kernel)⟩
theorem lw_p23 : lw_okq (⟨"OfficeLadderModel", "at", "(III)I"⟩, 45) := ⟨⟨by decide +kernel, by decide +kernel⟩, List.mem_of_getElem? (i := 892) (by decide +kernel), List.mem_of_getElem? (i := 1086) (by decide +kernel), List.mem_of_getElem? (i := 1087) (by decide +kernel)⟩
theorem lw_p24 : lw_okq (⟨"OfficeLadderModel", "put", "(III)V"⟩, 45) := ⟨⟨by decide +kernel, by decide +kernel⟩, List.mem_of_getElem? (i := 892) (by decide +kernel), List.mem_of_getElem? (i := 1090) (by decide +kernel), List.mem_of_getElem? (i := 1091) (by decide +kernel)⟩
theorem lw_p25 : lw_okq (⟨"OfficeLadderModel", "isSeat", "(III)Z"⟩, 45) := ⟨⟨by decide +kernel, by decide +kernel⟩, List.mem_of_getElem? (i := 892) (by decide +kernel), List.mem_of_getElem? (i := 1098) (by decide +kernel), List.mem_of_getElem? (i := 1099) (by decide +kernel)⟩
theorem lw_p26 : lw_okq (⟨"OfficeLadderModel", "clear", "(II)I"⟩, 45) := ⟨⟨by decide +kernel, by decide +kernel⟩, List.mem_of_getElem? (i := 892) (by decide +kernel), List.mem_of_getElem? (i := 1102) (by decide +kernel), List.mem_of_getElem? (i := 1103) (by decide +kernel)⟩
theorem lw_p27 : lw_okq (⟨"OfficeLadderModel", "officeAt", "(I)I"⟩, 45) := ⟨⟨by decide +kernel, by decide +kernel⟩, List.mem_of_getElem? (i := 892) (by decide +kernel), List.mem_of_getElem? (i := 1118) (by decide +kernel), List.mem_of_getElem? (i := 1119) (by decide +kernel)⟩
theorem lw_p28 : lw_okq (⟨"OfficeLadderModel", "hasHeld", "(III)Z"⟩, 45) := ⟨⟨by decide +kernel, by decide +kernel⟩, List.mem_of_getElem? (i := 892) (by decide +kernel), List.mem_of_getElem? (i := 1126) (by decide +kernel), List.mem_of_getElem? (i := 1127) (by decide +kernel)⟩
theorem lw_p29 : lw_okq (⟨"OfficeLadderModel", "couldBe", "(III)I"⟩, 45) := ⟨⟨by decide +kernel, by decide +kernel⟩, List.mem_of_getElem? (i := 892) (by decide +kernel), List.mem_of_getElem? (i := 1134) (by decide +kernel), List.mem_of_getElem? (i := 1135) (by decide +kernel)⟩
theorem lw_p30 : lw_okq (⟨"OfficeLadderModel", "barOf", "(III)I"⟩, 45) := ⟨⟨by decide +kernel, by decide +kernel⟩, List.mem_of_getElem? (i := 892) (by decide +kernel), List.mem_of_getElem? (i := 1138) (by decide +kernel), List.mem_of_getElem? (i := 1139) (by decide +kernel)⟩
theorem lw_p31 : lw_okq (⟨"OfficeLadderModel", "isInForce", "(III)Z"⟩, 45) := ⟨⟨by decide +kernel, by decide +kernel⟩, List.mem_of_getElem? (i := 892) (by decide +kernel), List.mem_of_getElem? (i := 1142) (by decide +kernel), List.mem_of_getElem? (i := 1143) (by decide +kernel)⟩
def lw_privs_2 : List (MethodName × Nat) := [(⟨"OfficeLadder", "refusalOfLaw", "(I)I"⟩, 5), (⟨"java/lang/Throwable", "fillInStackTrace", "(I)Ljava/lang/Throwable;"⟩, 6), (⟨"OfficeLadderModel", "in", "(III)Z"⟩, 45), (⟨"OfficeLadderModel", "isSpan", "(II)Z"⟩, 45), (⟨"OfficeLadderModel", "isPerson", "(I)Z"⟩, 45), (⟨"OfficeLadderModel", "isYear", "(I)Z"⟩, 45), (⟨"OfficeLadderModel", "isOffice", "(I)Z"⟩, 45), (⟨"OfficeLadderModel", "at", "(III)I"⟩, 45), (⟨"OfficeLadderModel", "put", "(III)V"⟩, 45), (⟨"OfficeLadderModel", "isSeat", "(III)Z"⟩, 45), (⟨"OfficeLadderModel", "clear", "(II)I"⟩, 45), (⟨"OfficeLadderModel", "officeAt", "(I)I"⟩, 45), (⟨"OfficeLadderModel", "hasHeld", "(III)Z"⟩, 45), (⟨"OfficeLadderModel", "couldBe", "(III)I"⟩, 45), (⟨"OfficeLadderModel", "barOf", "(III)I"⟩, 45), (⟨"OfficeLadderModel", "isInForce", "(III)Z"⟩, 45)]
theorem lw_r2 : ∀ q ∈ lw_privs_2, lw_okq q := List.forall_mem_cons.mpr ⟨lw_p16, List.forall_mem_cons.mpr ⟨lw_p17, List.forall_mem_cons.mpr ⟨lw_p18, List.forall_mem_cons.mpr ⟨lw_p19, List.forall_mem_cons.mpr ⟨lw_p20, List.forall_mem_cons.mpr ⟨lw_p21, List.forall_mem_cons.mpr ⟨lw_p22, List.forall_mem_cons.mpr ⟨lw_p23, List.forall_mem_cons.mpr ⟨lw_p24, List.forall_mem_cons.mpr ⟨lw_p25, List.forall_mem_cons.mpr ⟨lw_p26, List.forall_mem_cons.mpr ⟨lw_p27, List.forall_mem_cons.mpr ⟨lw_p28, List.forall_mem_cons.mpr ⟨lw_p29, List.forall_mem_cons.mpr ⟨lw_p30, List.forall_mem_cons.mpr ⟨lw_p31, fun _ h => absurd h List.not_mem_nil⟩⟩⟩⟩⟩⟩⟩⟩⟩⟩⟩⟩⟩⟩⟩⟩
theorem lw_p32 : lw_okq (⟨"OfficeLadderModel", "bars", "(IIII)Z"⟩, 45) := ⟨⟨by decide +kernel, by decide +kernel⟩, List.mem_of_getElem? (i := 892) (by decide +kernel), List.mem_of_getElem? (i := 1146) (by decide +kernel), List.mem_of_getElem? (i := 1147) (by decide +kernel)⟩
theorem lw_p33 : lw_okq (⟨"OfficeLadderModel", "heldWithin", "(IIII)Z"⟩, 45) := ⟨⟨by decide +kernel, by decide +kernel⟩, List.mem_of_getElem? (i := 892) (by decide +kernel), List.mem_of_getElem? (i := 1150) (by decide +kernel), List.mem_of_getElem? (i := 1151) (by decide +kernel)⟩
theorem lw_p34 : lw_okq (⟨"OfficeLadderModel", "hasKin", "(III)Z"⟩, 45) := ⟨⟨by decide +kernel, by decide +kernel⟩, List.mem_of_getElem? (i := 892) (by decide +kernel), List.mem_of_getElem? (i := 1154) (by decide +kernel), List.mem_of_getElem? (i := 1155) (by decide +kernel)⟩
theorem lw_p35 : lw_okq (⟨"OfficeLadderModel", "isKin", "(II)Z"⟩, 45) := ⟨⟨by decide +kernel, by decide +kernel⟩, List.mem_of_getElem? (i := 892) (by decide +kernel), List.mem_of_getElem? (i := 1158) (by decide +kernel), List.mem_of_getElem? (i := 1159) (by decide +kernel)⟩
theorem lw_p36 : lw_okq (⟨"OfficeLadderModel", "goThrough", "(I)I"⟩, 45) := ⟨⟨by decide +kernel, by decide +kernel⟩, List.mem_of_getElem? (i := 892) (by decide +kernel), List.mem_of_getElem? (i := 1174) (by decide +kernel), List.mem_of_getElem? (i := 1175) (by decide +kernel)⟩
theorem lw_p37 : lw_okq (⟨"OfficeLadderModel", "isRight", "(III)Z"⟩, 45) := ⟨⟨by decide +kernel, by decide +kernel⟩, List.mem_of_getElem? (i := 892) (by decide +kernel), List.mem_of_getElem? (i := 1178) (by decide +kernel), List.mem_of_getElem? (i := 1179) (by decide +kernel)⟩
theorem lw_p38 : lw_okq (⟨"OfficeLadderModel", "fillYear", "(IZ)I"⟩, 45) := ⟨⟨by decide +kernel, by decide +kernel⟩, List.mem_of_getElem? (i := 892) (by decide +kernel), List.mem_of_getElem? (i := 1190) (by decide +kernel), List.mem_of_getElem? (i := 1191) (by decide +kernel)⟩
theorem lw_p39 : lw_okq (⟨"OfficeLadderModel", "areAllRight", "(I)Z"⟩, 45) := ⟨⟨by decide +kernel, by decide +kernel⟩, List.mem_of_getElem? (i := 892) (by decide +kernel), List.mem_of_getElem? (i := 1194) (by decide +kernel), List.mem_of_getElem? (i := 1195) (by decide +kernel)⟩
theorem lw_p40 : lw_okq (⟨"OfficeLadderModel", "isAmong", "()Z"⟩, 45) := ⟨⟨by decide +kernel, by decide +kernel⟩, List.mem_of_getElem? (i := 892) (by decide +kernel), List.mem_of_getElem? (i := 1198) (by decide +kernel), List.mem_of_getElem? (i := 1199) (by decide +kernel)⟩
theorem lw_p41 : lw_okq (⟨"OfficeLadderModel", "takeBack", "(II)V"⟩, 45) := ⟨⟨by decide +kernel, by decide +kernel⟩, List.mem_of_getElem? (i := 892) (by decide +kernel), List.mem_of_getElem? (i := 1202) (by decide +kernel), List.mem_of_getElem? (i := 1203) (by decide +kernel)⟩
theorem lw_p42 : lw_okq (⟨"OfficeLadderModel", "voted", "()I"⟩, 45) := ⟨⟨by decide +kernel, by decide +kernel⟩, List.mem_of_getElem? (i := 892) (by decide +kernel), List.mem_of_getElem? (i := 1218) (by decide +kernel), List.mem_of_getElem? (i := 1219) (by decide +kernel)⟩
theorem lw_p43 : lw_okq (⟨"OfficeLadderModel", "ones", "(I)I"⟩, 45) := ⟨⟨by decide +kernel, by decide +kernel⟩, List.mem_of_getElem? (i := 892) (by decide +kernel), List.mem_of_getElem? (i := 1226) (by decide +kernel), List.mem_of_getElem? (i := 1227) (by decide +kernel)⟩
theorem lw_p44 : lw_okq (⟨"OfficeLadderModel", "elect", "(J)V"⟩, 45) := ⟨⟨by decide +kernel, by decide +kernel⟩, List.mem_of_getElem? (i := 892) (by decide +kernel), List.mem_of_getElem? (i := 1234) (by decide +kernel), List.mem_of_getElem? (i := 1235) (by decide +kernel)⟩
theorem lw_p45 : lw_okq (⟨"OfficeLadderModel", "draw", "(IJ)V"⟩, 45) := ⟨⟨by decide +kernel, by decide +kernel⟩, List.mem_of_getElem? (i := 892) (by decide +kernel), List.mem_of_getElem? (i := 1238) (by decide +kernel), List.mem_of_getElem? (i := 1239) (by decide +kernel)⟩
theorem lw_p46 : lw_okq (⟨"OfficeLadderModel", "beginVotes", "()V"⟩, 45) := ⟨⟨by decide +kernel, by decide +kernel⟩, List.mem_of_getElem? (i := 892) (by decide +kernel), List.mem_of_getElem? (i := 1242) (by decide +kernel), List.mem_of_getElem? (i := 1243) (by decide +kernel)⟩
theorem lw_p47 : lw_okq (⟨"OfficeLadderModel", "unitVotes", "(I)V"⟩, 45) := ⟨⟨by decide +kernel, by decide +kernel⟩, List.mem_of_getElem? (i := 892) (by decide +kernel), List.mem_of_getElem? (i := 1246) (by decide +kernel), List.mem_of_getElem? (i := 1247) (by decide +kernel)⟩
def lw_privs_3 : List (MethodName × Nat) := [(⟨"OfficeLadderModel", "bars", "(IIII)Z"⟩, 45), (⟨"OfficeLadderModel", "heldWithin", "(IIII)Z"⟩, 45), (⟨"OfficeLadderModel", "hasKin", "(III)Z"⟩, 45), (⟨"OfficeLadderModel", "isKin", "(II)Z"⟩, 45), (⟨"OfficeLadderModel", "goThrough", "(I)I"⟩, 45), (⟨"OfficeLadderModel", "isRight", "(III)Z"⟩, 45), (⟨"OfficeLadderModel", "fillYear", "(IZ)I"⟩, 45), (⟨"OfficeLadderModel", "areAllRight", "(I)Z"⟩, 45), (⟨"OfficeLadderModel", "isAmong", "()Z"⟩, 45), (⟨"OfficeLadderModel", "takeBack", "(II)V"⟩, 45), (⟨"OfficeLadderModel", "voted", "()I"⟩, 45), (⟨"OfficeLadderModel", "ones", "(I)I"⟩, 45), (⟨"OfficeLadderModel", "elect", "(J)V"⟩, 45), (⟨"OfficeLadderModel", "draw", "(IJ)V"⟩, 45), (⟨"OfficeLadderModel", "beginVotes", "()V"⟩, 45), (⟨"OfficeLadderModel", "unitVotes", "(I)V"⟩, 45)]
theorem lw_r3 : ∀ q ∈ lw_privs_3, lw_okq q := List.forall_mem_cons.mpr ⟨lw_p32, List.forall_mem_cons.mpr ⟨lw_p33, List.forall_mem_cons.mpr ⟨lw_p34, List.forall_mem_cons.mpr ⟨lw_p35, List.forall_mem_cons.mpr ⟨lw_p36, List.forall_mem_cons.mpr ⟨lw_p37, List.forall_mem_cons.mpr ⟨lw_p38, List.forall_mem_cons.mpr ⟨lw_p39, List.forall_mem_cons.mpr ⟨lw_p40, List.forall_mem_cons.mpr ⟨lw_p41, List.forall_mem_cons.mpr ⟨lw_p42, List.forall_mem_cons.mpr ⟨lw_p43, List.forall_mem_cons.mpr ⟨lw_p44, List.forall_mem_cons.mpr ⟨lw_p45, List.forall_mem_cons.mpr ⟨lw_p46, List.forall_mem_cons.mpr ⟨lw_p47, fun _ h => absurd h List.not_mem_nil⟩⟩⟩⟩⟩⟩⟩⟩⟩⟩⟩⟩⟩⟩⟩⟩
theorem lw_p48 : lw_okq (⟨"OfficeLadderModel", "choose", "(II)V"⟩, 45) := ⟨⟨by decide +kernel, by decide +kernel⟩, List.mem_of_getElem? (i := 892) (by decide +kernel), List.mem_of_getElem? (i := 1250) (by decide +kernel), List.mem_of_getElem? (i := 1251) (by decide +kernel)⟩
theorem lw_p49 : lw_okq (⟨"OfficeLadderModel", "ahead", "()I"⟩, 45) := ⟨⟨by decide +kernel, by decide +kernel⟩, List.mem_of_getElem? (i := 892) (by decide +kernel), List.mem_of_getElem? (i := 1258) (by decide +kernel), List.mem_of_getElem? (i := 1259) (by decide +kernel)⟩
theorem lw_p50 : lw_okq (⟨"OfficeLadderModel", "isShelf", "(I)Z"⟩, 45) := ⟨⟨by decide +kernel, by decide +kernel⟩, List.mem_of_getElem? (i := 892) (by decide +kernel), List.mem_of_getElem? (i := 1278) (by decide +kernel), List.mem_of_getElem? (i := 1279) (by decide +kernel)⟩
theorem lw_p51 : lw_okq (⟨"OfficeLadderModel", "wipe", "(I)V"⟩, 45) := ⟨⟨by decide +kernel, by decide +kernel⟩, List.mem_of_getElem? (i := 892) (by decide +kernel), List.mem_of_getElem? (i := 1282) (by decide +kernel), List.mem_of_getElem? (i := 1283) (by decide +kernel)⟩
theorem lw_p52 : lw_okq (⟨"OfficeLadderModel", "lacksLaw", "(I)I"⟩, 45) := ⟨⟨by decide +kernel, by decide +kernel⟩, List.mem_of_getElem? (i := 892) (by decide +kernel), List.mem_of_getElem? (i := 1302) (by decide +kernel), List.mem_of_getElem? (i := 1303) (by decide +kernel)⟩
def lw_privs_4 : List (MethodName × Nat) := [(⟨"OfficeLadderModel", "choose", "(II)V"⟩, 45), (⟨"OfficeLadderModel", "ahead", "()I"⟩, 45), (⟨"OfficeLadderModel", "isShelf", "(I)Z"⟩, 45), (⟨"OfficeLadderModel", "wipe", "(I)V"⟩, 45), (⟨"OfficeLadderModel", "lacksLaw", "(I)I"⟩, 45)]
theorem lw_r4 : ∀ q ∈ lw_privs_4, lw_okq q := List.forall_mem_cons.mpr ⟨lw_p48, List.forall_mem_cons.mpr ⟨lw_p49, List.forall_mem_cons.mpr ⟨lw_p50, List.forall_mem_cons.mpr ⟨lw_p51, List.forall_mem_cons.mpr ⟨lw_p52, fun _ h => absurd h List.not_mem_nil⟩⟩⟩⟩⟩
def lw_privs : List (MethodName × Nat) := lw_privs_1 ++ (lw_privs_2 ++ (lw_privs_3 ++ (lw_privs_4)))
def lw_tbl : List Cond := k2_sels lw_privs ++ tables_1
theorem lw_privs_ok : ∀ q ∈ lw_privs, lw_okq q := by
  show ∀ q ∈ lw_privs_1 ++ (lw_privs_2 ++ (lw_privs_3 ++ (lw_privs_4))), lw_okq q
  exact List.forall_mem_append.mpr ⟨lw_r1, List.forall_mem_append.mpr ⟨lw_r2, List.forall_mem_append.mpr ⟨lw_r3, lw_r4⟩⟩⟩
-- ===== end of PART A; then your names; then what follows =====
end
section
-- names of the program, printed by program
def RX0 : String := "OfficeLadder$Election"
def TX0 : u_T := fun k => match k with
  | 0 => ("OfficeLadder$Election", "candidates", "I", false)
  | 1 => ("OfficeLadder$Election", "seats", "I", false)
  | 2 => ("OfficeLadder$Election", "voted", "I", false)
  | 3 => ("OfficeLadder$Election", "winners", "[I", true)
  | 4 => ("OfficeLadder$Election", "after", "[I", true)
  | 5 => ("OfficeLadder$Election", "electedCount", "I", false)
  | 6 => ("OfficeLadder$Election", "ballots", "[I", true)
  | 7 => ("OfficeLadder$Election", "order", "[I", true)
  | 8 => ("OfficeLadder$Election", "votes", "[I", true)
  | 9 => ("OfficeLadder$Election", "reachedAt", "[I", true)
  | _ => ("OfficeLadder$Election", "ranked", "[I", true)
def tyX0 : Nat → FieldType := fun k => match k with
  | 0 => .int
  | 1 => .int
  | 2 => .int
  | 3 => .array .int
  | 4 => .array .int
  | 5 => .int
  | 6 => .array .int
  | 7 => .array .int
  | 8 => .array .int
  | 9 => .array .int
  | _ => .array .int
theorem nmX0 : ∀ a, a < 11 → ∀ b, b < 11 → a ≠ b → (TX0 a).2.1 ≠ (TX0 b).2.1 := by decide +kernel
theorem tyX0_ok : ∀ k, k < 11 → parseFieldDescriptor (TX0 k).2.2.1 = some (tyX0 k) := by decide +kernel
abbrev cX0_init : ByteArray := prog_2_method_1_code
def yX0_init : MethodName := ⟨RX0, "<init>", "()V"⟩
abbrev cX0_open : ByteArray := prog_2_method_2_code
def yX0_open : MethodName := ⟨RX0, "open", "(II)V"⟩
abbrev cX0_isBallot : ByteArray := prog_2_method_3_code
def yX0_isBallot : MethodName := ⟨RX0, "isBallot", "(I)Z"⟩
abbrev cX0_take : ByteArray := prog_2_method_4_code
def yX0_take : MethodName := ⟨RX0, "take", "(II)Z"⟩
abbrev cX0_run : ByteArray := prog_2_method_5_code
def yX0_run : MethodName := ⟨RX0, "run", "(J)V"⟩
abbrev cX0_sureAfter : ByteArray := prog_2_method_6_code
def yX0_sureAfter : MethodName := ⟨RX0, "sureAfter", "(J)I"⟩
abbrev cX0_begin : ByteArray := prog_2_method_7_code
def yX0_begin : MethodName := ⟨RX0, "begin", "(J)V"⟩
abbrev cX0_countUnit : ByteArray := prog_2_method_8_code
def yX0_countUnit : MethodName := ⟨RX0, "countUnit", "(I)V"⟩
abbrev cX0_elect : ByteArray := prog_2_method_9_code
def yX0_elect : MethodName := ⟨RX0, "elect", "(II)V"⟩
abbrev cX0_electRest : ByteArray := prog_2_method_10_code
def yX0_electRest : MethodName := ⟨RX0, "electRest", "()V"⟩
abbrev cX0_bestOfRest : ByteArray := prog_2_method_11_code
def yX0_bestOfRest : MethodName := ⟨RX0, "bestOfRest", "()I"⟩
abbrev cX0_isElected : ByteArray := prog_2_method_12_code
def yX0_isElected : MethodName := ⟨RX0, "isElected", "(I)Z"⟩
abbrev cX0_isAhead : ByteArray := prog_2_method_13_code
def yX0_isAhead : MethodName := ⟨RX0, "isAhead", "(II)Z"⟩
abbrev cX0_lead : ByteArray := prog_2_method_14_code
def yX0_lead : MethodName := ⟨RX0, "lead", "()I"⟩
def RX1 : String := "OfficeLadder$Filler"
def TX1 : u_T := fun k => match k with
  | 0 => ("OfficeLadder$Filler", "slots", "I", false)
  | 1 => ("OfficeLadder$Filler", "found", "I", false)
  | 2 => ("OfficeLadder$Filler", "hits", "I", false)
  | 3 => ("OfficeLadder$Filler", "spent", "Z", false)
  | 4 => ("OfficeLadder$Filler", "tries", "I", false)
  | 5 => ("OfficeLadder$Filler", "onlyFirst", "Z", false)
  | 6 => ("OfficeLadder$Filler", "askedPerson", "I", false)
  | 7 => ("OfficeLadder$Filler", "askedOffice", "I", false)
  | 8 => ("OfficeLadder$Filler", "seated", "I", false)
  | 9 => ("OfficeLadder$Filler", "slotOffice", "[I", true)
  | 10 => ("OfficeLadder$Filler", "slotSeat", "[I", true)
  | 11 => ("OfficeLadder$Filler", "chosen", "[I", true)
  | 12 => ("OfficeLadder$Filler", "able", "[I", true)
  | 13 => ("OfficeLadder$Filler", "kinBound", "[Z", true)
  | _ => ("OfficeLadder$Filler", "putInto", "[I", true)
def tyX1 : Nat → FieldType := fun k => match k with
  | 0 => .int
  | 1 => .int
  | 2 => .int
  | 3 => .boolean
  | 4 => .int
  | 5 => .boolean
  | 6 => .int
  | 7 => .int
  | 8 => .int
  | 9 => .array .int
  | 10 => .array .int
  | 11 => .array .int
  | 12 => .array .int
  | 13 => .array .boolean
  | _ => .array .int
theorem nmX1 : ∀ a, a < 15 → ∀ b, b < 15 → a ≠ b → (TX1 a).2.1 ≠ (TX1 b).2.1 := by decide +kernel
theorem tyX1_ok : ∀ k, k < 15 → parseFieldDescriptor (TX1 k).2.2.1 = some (tyX1 k) := by decide +kernel
abbrev cX1_init : ByteArray := prog_3_method_1_code
def yX1_init : MethodName := ⟨RX1, "<init>", "()V"⟩
abbrev cX1_search : ByteArray := prog_3_method_2_code
def yX1_search : MethodName := ⟨RX1, "search", "(LOfficeLadder$Republic;IIIZ)V"⟩
abbrev cX1_putIn : ByteArray := prog_3_method_3_code
def yX1_putIn : MethodName := ⟨RX1, "putIn", "(LOfficeLadder$Republic;I)V"⟩
abbrev cX1_addSlots : ByteArray := prog_3_method_4_code
def yX1_addSlots : MethodName := ⟨RX1, "addSlots", "(LOfficeLadder$Office;II)V"⟩
abbrev cX1_ableIn : ByteArray := prog_3_method_5_code
def yX1_ableIn : MethodName := ⟨RX1, "ableIn", "(LOfficeLadder$Republic;II)I"⟩
abbrev cX1_place : ByteArray := prog_3_method_6_code
def yX1_place : MethodName := ⟨RX1, "place", "(LOfficeLadder$Republic;I)V"⟩
abbrev cX1_takeAndGoOn : ByteArray := prog_3_method_7_code
def yX1_takeAndGoOn : MethodName := ⟨RX1, "takeAndGoOn", "(LOfficeLadder$Republic;II)V"⟩
abbrev cX1_isOver : ByteArray := prog_3_method_8_code
def yX1_isOver : MethodName := ⟨RX1, "isOver", "()Z"⟩
abbrev cX1_fits : ByteArray := prog_3_method_9_code
def yX1_fits : MethodName := ⟨RX1, "fits", "(LOfficeLadder$Republic;II)Z"⟩
abbrev cX1_tellFound : ByteArray := prog_3_method_10_code
def yX1_tellFound : MethodName := ⟨RX1, "tellFound", "()V"⟩
def RX2 : String := "OfficeLadder$Law"
def TX2 : u_T := fun k => match k with
  | 0 => ("OfficeLadder$Law", "number", "I", true)
  | 1 => ("OfficeLadder$Law", "kind", "I", true)
  | 2 => ("OfficeLadder$Law", "office", "I", true)
  | 3 => ("OfficeLadder$Law", "n", "I", true)
  | 4 => ("OfficeLadder$Law", "from", "I", true)
  | _ => ("OfficeLadder$Law", "to", "I", false)
def tyX2 : Nat → FieldType := fun k => match k with
  | 0 => .int
  | 1 => .int
  | 2 => .int
  | 3 => .int
  | 4 => .int
  | _ => .int
theorem nmX2 : ∀ a, a < 6 → ∀ b, b < 6 → a ≠ b → (TX2 a).2.1 ≠ (TX2 b).2.1 := by decide +kernel
theorem tyX2_ok : ∀ k, k < 6 → parseFieldDescriptor (TX2 k).2.2.1 = some (tyX2 k) := by decide +kernel
abbrev cX2_init : ByteArray := prog_4_method_1_code
def yX2_init : MethodName := ⟨RX2, "<init>", "(IIIIII)V"⟩
abbrev cX2_binds : ByteArray := prog_4_method_2_code
def yX2_binds : MethodName := ⟨RX2, "binds", "(II)Z"⟩
abbrev cX2_bars : ByteArray := prog_4_method_3_code
def yX2_bars : MethodName := ⟨RX2, "bars", "(LOfficeLadder$Person;ILOfficeLadder$Past;)Z"⟩
abbrev cX2_leavesDoubt : ByteArray := prog_4_method_4_code
def yX2_leavesDoubt : MethodName := ⟨RX2, "leavesDoubt", "(LOfficeLadder$Person;I)Z"⟩
abbrev cX2_looksAtLists : ByteArray := prog_4_method_5_code
def yX2_looksAtLists : MethodName := ⟨RX2, "looksAtLists", "()Z"⟩
abbrev cX2_heft : ByteArray := prog_4_method_6_code
def yX2_heft : MethodName := ⟨RX2, "heft", "()I"⟩
abbrev cX2_fail : ByteArray := prog_4_method_7_code
def yX2_fail : MethodName := ⟨RX2, "fail", "()V"⟩
def RX3 : String := "OfficeLadder$Office"
def TX3 : u_T := fun k => match k with
  | 0 => ("OfficeLadder$Office", "seats", "I", true)
  | 1 => ("OfficeLadder$Office", "free", "Z", true)
  | _ => ("OfficeLadder$Office", "codes", "[B", true)
def tyX3 : Nat → FieldType := fun k => match k with
  | 0 => .int
  | 1 => .boolean
  | _ => .array .byte
theorem nmX3 : ∀ a, a < 3 → ∀ b, b < 3 → a ≠ b → (TX3 a).2.1 ≠ (TX3 b).2.1 := by decide +kernel
theorem tyX3_ok : ∀ k, k < 3 → parseFieldDescriptor (TX3 k).2.2.1 = some (tyX3 k) := by decide +kernel
abbrev cX3_init : ByteArray := prog_5_method_1_code
def yX3_init : MethodName := ⟨RX3, "<init>", "(IZ)V"⟩
abbrev cX3_code : ByteArray := prog_5_method_2_code
def yX3_code : MethodName := ⟨RX3, "code", "(II)I"⟩
abbrev cX3_setCode : ByteArray := prog_5_method_3_code
def yX3_setCode : MethodName := ⟨RX3, "setCode", "(III)V"⟩
abbrev cX3_holder : ByteArray := prog_5_method_4_code
def yX3_holder : MethodName := ⟨RX3, "holder", "(II)I"⟩
abbrev cX3_isVoid : ByteArray := prog_5_method_5_code
def yX3_isVoid : MethodName := ⟨RX3, "isVoid", "(II)Z"⟩
abbrev cX3_firstEmpty : ByteArray := prog_5_method_6_code
def yX3_firstEmpty : MethodName := ⟨RX3, "firstEmpty", "(I)I"⟩
abbrev cX3_heldAhead : ByteArray := prog_5_method_7_code
def yX3_heldAhead : MethodName := ⟨RX3, "heldAhead", "(II)I"⟩
abbrev cX3_holders : ByteArray := prog_5_method_8_code
def yX3_holders : MethodName := ⟨RX3, "holders", "(I)I"⟩
def RX4 : String := "OfficeLadder$Past"
def TX4 : u_T := fun k => match k with
  | 0 => ("OfficeLadder$Past", "officesHeld", "I", false)
  | 1 => ("OfficeLadder$Past", "lastHeld", "I", false)
  | 2 => ("OfficeLadder$Past", "lastHeldHere", "I", false)
  | _ => ("OfficeLadder$Past", "kinHolds", "Z", false)
def tyX4 : Nat → FieldType := fun k => match k with
  | 0 => .int
  | 1 => .int
  | 2 => .int
  | _ => .boolean
theorem nmX4 : ∀ a, a < 4 → ∀ b, b < 4 → a ≠ b → (TX4 a).2.1 ≠ (TX4 b).2.1 := by decide +kernel
theorem tyX4_ok : ∀ k, k < 4 → parseFieldDescriptor (TX4 k).2.2.1 = some (tyX4 k) := by decide +kernel
abbrev cX4_init : ByteArray := prog_6_method_1_code
def yX4_init : MethodName := ⟨RX4, "<init>", "()V"⟩
abbrev cX4_look : ByteArray := prog_6_method_2_code
def yX4_look : MethodName := ⟨RX4, "look", "(LOfficeLadder$Person;LOfficeLadder$Office;II)V"⟩
def RX5 : String := "OfficeLadder$Person"
def TX5 : u_T := fun k => match k with
  | 0 => ("OfficeLadder$Person", "order", "I", true)
  | 1 => ("OfficeLadder$Person", "father", "I", true)
  | 2 => ("OfficeLadder$Person", "posts", "[B", true)
  | 3 => ("OfficeLadder$Person", "first", "I", false)
  | 4 => ("OfficeLadder$Person", "last", "I", false)
  | 5 => ("OfficeLadder$Person", "death", "I", false)
  | 6 => ("OfficeLadder$Person", "exileFrom", "I", false)
  | 7 => ("OfficeLadder$Person", "exileTo", "I", false)
  | _ => ("OfficeLadder$Person", "kin", "I", false)
def tyX5 : Nat → FieldType := fun k => match k with
  | 0 => .int
  | 1 => .int
  | 2 => .array .byte
  | 3 => .int
  | 4 => .int
  | 5 => .int
  | 6 => .int
  | 7 => .int
  | _ => .int
theorem nmX5 : ∀ a, a < 9 → ∀ b, b < 9 → a ≠ b → (TX5 a).2.1 ≠ (TX5 b).2.1 := by decide +kernel
theorem tyX5_ok : ∀ k, k < 9 → parseFieldDescriptor (TX5 k).2.2.1 = some (tyX5 k) := by decide +kernel
abbrev cX5_init : ByteArray := prog_7_method_1_code
def yX5_init : MethodName := ⟨RX5, "<init>", "(IIII)V"⟩
abbrev cX5_hasExile : ByteArray := prog_7_method_2_code
def yX5_hasExile : MethodName := ⟨RX5, "hasExile", "()Z"⟩
abbrev cX5_setExile : ByteArray := prog_7_method_3_code
def yX5_setExile : MethodName := ⟨RX5, "setExile", "(II)V"⟩
abbrev cX5_yearsHeld : ByteArray := prog_7_method_4_code
def yX5_yearsHeld : MethodName := ⟨RX5, "yearsHeld", "(II)I"⟩
def RX6 : String := "OfficeLadder$Republic"
def TX6 : u_T := fun k => match k with
  | 0 => ("OfficeLadder$Republic", "offices", "[LOfficeLadder$Office;", true)
  | 1 => ("OfficeLadder$Republic", "people", "[LOfficeLadder$Person;", true)
  | 2 => ("OfficeLadder$Republic", "laws", "[LOfficeLadder$Law;", true)
  | 3 => ("OfficeLadder$Republic", "officeCount", "I", false)
  | 4 => ("OfficeLadder$Republic", "personCount", "I", false)
  | 5 => ("OfficeLadder$Republic", "lawCount", "I", false)
  | 6 => ("OfficeLadder$Republic", "heldSeats", "I", false)
  | 7 => ("OfficeLadder$Republic", "voidSeats", "I", false)
  | _ => ("OfficeLadder$Republic", "past", "LOfficeLadder$Past;", true)
def tyX6 : Nat → FieldType := fun k => match k with
  | 0 => .array (.object "OfficeLadder$Office")
  | 1 => .array (.object "OfficeLadder$Person")
  | 2 => .array (.object "OfficeLadder$Law")
  | 3 => .int
  | 4 => .int
  | 5 => .int
  | 6 => .int
  | 7 => .int
  | _ => .object "OfficeLadder$Past"
theorem nmX6 : ∀ a, a < 9 → ∀ b, b < 9 → a ≠ b → (TX6 a).2.1 ≠ (TX6 b).2.1 := by decide +kernel
theorem tyX6_ok : ∀ k, k < 9 → parseFieldDescriptor (TX6 k).2.2.1 = some (tyX6 k) := by decide +kernel
abbrev cX6_init : ByteArray := prog_8_method_1_code
def yX6_init : MethodName := ⟨RX6, "<init>", "()V"⟩
abbrev cX6_hasOffice : ByteArray := prog_8_method_2_code
def yX6_hasOffice : MethodName := ⟨RX6, "hasOffice", "(I)Z"⟩
abbrev cX6_hasPerson : ByteArray := prog_8_method_3_code
def yX6_hasPerson : MethodName := ⟨RX6, "hasPerson", "(I)Z"⟩
abbrev cX6_hasLaw : ByteArray := prog_8_method_4_code
def yX6_hasLaw : MethodName := ⟨RX6, "hasLaw", "(I)Z"⟩
abbrev cX6_hasSeat : ByteArray := prog_8_method_5_code
def yX6_hasSeat : MethodName := ⟨RX6, "hasSeat", "(III)Z"⟩
abbrev cX6_isNumberOf : ByteArray := prog_8_method_6_code
def yX6_isNumberOf : MethodName := ⟨RX6, "isNumberOf", "(II)Z"⟩
abbrev cX6_addOffice : ByteArray := prog_8_method_7_code
def yX6_addOffice : MethodName := ⟨RX6, "addOffice", "(LOfficeLadder$Office;)I"⟩
abbrev cX6_addLaw : ByteArray := prog_8_method_8_code
def yX6_addLaw : MethodName := ⟨RX6, "addLaw", "(LOfficeLadder$Law;)I"⟩
abbrev cX6_addPerson : ByteArray := prog_8_method_9_code
def yX6_addPerson : MethodName := ⟨RX6, "addPerson", "(LOfficeLadder$Person;)I"⟩
abbrev cX6_tie : ByteArray := prog_8_method_10_code
def yX6_tie : MethodName := ⟨RX6, "tie", "(II)V"⟩
abbrev cX6_put : ByteArray := prog_8_method_11_code
def yX6_put : MethodName := ⟨RX6, "put", "(IIII)V"⟩
abbrev cX6_vacate : ByteArray := prog_8_method_12_code
def yX6_vacate : MethodName := ⟨RX6, "vacate", "(IIII)V"⟩
abbrev cX6_mark : ByteArray := prog_8_method_13_code
def yX6_mark : MethodName := ⟨RX6, "mark", "(IIIIZ)V"⟩
abbrev cX6_firstBar : ByteArray := prog_8_method_14_code
def yX6_firstBar : MethodName := ⟨RX6, "firstBar", "(IIIZ)I"⟩
abbrev cX6_level : ByteArray := prog_8_method_15_code
def yX6_level : MethodName := ⟨RX6, "level", "(III)I"⟩
abbrev cX6_breachesIn : ByteArray := prog_8_method_16_code
def yX6_breachesIn : MethodName := ⟨RX6, "breachesIn", "(II)I"⟩
abbrev cX6_kinLawBinds : ByteArray := prog_8_method_17_code
def yX6_kinLawBinds : MethodName := ⟨RX6, "kinLawBinds", "(II)Z"⟩
def RX7 : String := "OfficeLadder$Shelf"
def TX7 : u_T := fun k => match k with
  | 0 => ("OfficeLadder$Shelf", "kind", "I", false)
  | 1 => ("OfficeLadder$Shelf", "law", "LOfficeLadder$Law;", false)
  | 2 => ("OfficeLadder$Shelf", "length", "I", false)
  | 3 => ("OfficeLadder$Shelf", "bytes", "[B", true)
  | _ => ("OfficeLadder$Shelf", "ints", "[I", true)
def tyX7 : Nat → FieldType := fun k => match k with
  | 0 => .int
  | 1 => .object "OfficeLadder$Law"
  | 2 => .int
  | 3 => .array .byte
  | _ => .array .int
theorem nmX7 : ∀ a, a < 5 → ∀ b, b < 5 → a ≠ b → (TX7 a).2.1 ≠ (TX7 b).2.1 := by decide +kernel
theorem tyX7_ok : ∀ k, k < 5 → parseFieldDescriptor (TX7 k).2.2.1 = some (tyX7 k) := by decide +kernel
abbrev cX7_init : ByteArray := prog_9_method_1_code
def yX7_init : MethodName := ⟨RX7, "<init>", "()V"⟩
abbrev cX7_isRow : ByteArray := prog_9_method_2_code
def yX7_isRow : MethodName := ⟨RX7, "isRow", "()Z"⟩
abbrev cX7_hasSpan : ByteArray := prog_9_method_3_code
def yX7_hasSpan : MethodName := ⟨RX7, "hasSpan", "(II)Z"⟩
abbrev cX7_at : ByteArray := prog_9_method_4_code
def yX7_at : MethodName := ⟨RX7, "at", "(I)J"⟩
abbrev cX7_clear : ByteArray := prog_9_method_5_code
def yX7_clear : MethodName := ⟨RX7, "clear", "()V"⟩
abbrev cX7_keepLaw : ByteArray := prog_9_method_6_code
def yX7_keepLaw : MethodName := ⟨RX7, "keepLaw", "(LOfficeLadder$Law;)V"⟩
abbrev cX7_keepHolders : ByteArray := prog_9_method_7_code
def yX7_keepHolders : MethodName := ⟨RX7, "keepHolders", "(LOfficeLadder$Office;)V"⟩
abbrev cX7_keepLife : ByteArray := prog_9_method_8_code
def yX7_keepLife : MethodName := ⟨RX7, "keepLife", "(LOfficeLadder$Person;)V"⟩
abbrev cX7_keepZeros : ByteArray := prog_9_method_9_code
def yX7_keepZeros : MethodName := ⟨RX7, "keepZeros", "(II)V"⟩
abbrev cX7_copyTo : ByteArray := prog_9_method_10_code
def yX7_copyTo : MethodName := ⟨RX7, "copyTo", "(LOfficeLadder$Shelf;III)V"⟩
abbrev cX7_become : ByteArray := prog_9_method_11_code
def yX7_become : MethodName := ⟨RX7, "become", "(II)V"⟩
def RX8 : String := "OfficeLadder"
def TX8 : u_T := fun k => match k with
  | 0 => ("OfficeLadder", "republic", "LOfficeLadder$Republic;", true)
  | 1 => ("OfficeLadder", "filler", "LOfficeLadder$Filler;", true)
  | 2 => ("OfficeLadder", "poll", "LOfficeLadder$Election;", true)
  | 3 => ("OfficeLadder", "shelves", "[LOfficeLadder$Shelf;", true)
  | _ => ("OfficeLadder", "lots", "[I", true)
def tyX8 : Nat → FieldType := fun k => match k with
  | 0 => .object "OfficeLadder$Republic"
  | 1 => .object "OfficeLadder$Filler"
  | 2 => .object "OfficeLadder$Election"
  | 3 => .array (.object "OfficeLadder$Shelf")
  | _ => .array .int
theorem nmX8 : ∀ a, a < 5 → ∀ b, b < 5 → a ≠ b → (TX8 a).2.1 ≠ (TX8 b).2.1 := by decide +kernel
theorem tyX8_ok : ∀ k, k < 5 → parseFieldDescriptor (TX8 k).2.2.1 = some (tyX8 k) := by decide +kernel
abbrev cX8_init : ByteArray := prog_1_method_1_code
def yX8_init : MethodName := ⟨RX8, "<init>", "()V"⟩
abbrev cX8_office : ByteArray := prog_1_method_2_code
def yX8_office : MethodName := ⟨RX8, "office", "(IZ)I"⟩
abbrev cX8_person : ByteArray := prog_1_method_3_code
def yX8_person : MethodName := ⟨RX8, "person", "(IIII)I"⟩
abbrev cX8_death : ByteArray := prog_1_method_4_code
def yX8_death : MethodName := ⟨RX8, "death", "(II)I"⟩
abbrev cX8_exile : ByteArray := prog_1_method_5_code
def yX8_exile : MethodName := ⟨RX8, "exile", "(III)I"⟩
abbrev cX8_birth : ByteArray := prog_1_method_6_code
def yX8_birth : MethodName := ⟨RX8, "birth", "(III)I"⟩
abbrev cX8_law : ByteArray := prog_1_method_7_code
def yX8_law : MethodName := ⟨RX8, "law", "(IIII)I"⟩
abbrev cX8_repeal : ByteArray := prog_1_method_8_code
def yX8_repeal : MethodName := ⟨RX8, "repeal", "(II)I"⟩
abbrev cX8_stone : ByteArray := prog_1_method_9_code
def yX8_stone : MethodName := ⟨RX8, "stone", "(III)I"⟩
abbrev cX8_empty : ByteArray := prog_1_method_10_code
def yX8_empty : MethodName := ⟨RX8, "empty", "(III)I"⟩
abbrev cX8_annul : ByteArray := prog_1_method_11_code
def yX8_annul : MethodName := ⟨RX8, "annul", "(IIIZ)I"⟩
abbrev cX8_seat : ByteArray := prog_1_method_12_code
def yX8_seat : MethodName := ⟨RX8, "seat", "(III)I"⟩
abbrev cX8_holds : ByteArray := prog_1_method_13_code
def yX8_holds : MethodName := ⟨RX8, "holds", "(II)I"⟩
abbrev cX8_held : ByteArray := prog_1_method_14_code
def yX8_held : MethodName := ⟨RX8, "held", "(III)I"⟩
abbrev cX8_could : ByteArray := prog_1_method_15_code
def yX8_could : MethodName := ⟨RX8, "could", "(IIII)I"⟩
abbrev cX8_first : ByteArray := prog_1_method_16_code
def yX8_first : MethodName := ⟨RX8, "first", "(IIIZ)I"⟩
abbrev cX8_who : ByteArray := prog_1_method_17_code
def yX8_who : MethodName := ⟨RX8, "who", "(IIZ)I"⟩
abbrev cX8_breaches : ByteArray := prog_1_method_18_code
def yX8_breaches : MethodName := ⟨RX8, "breaches", "()I"⟩
abbrev cX8_breach : ByteArray := prog_1_method_19_code
def yX8_breach : MethodName := ⟨RX8, "breach", "(I)I"⟩
abbrev cX8_fillings : ByteArray := prog_1_method_20_code
def yX8_fillings : MethodName := ⟨RX8, "fillings", "(I)I"⟩
abbrev cX8_fill : ByteArray := prog_1_method_21_code
def yX8_fill : MethodName := ⟨RX8, "fill", "(I)I"⟩
abbrev cX8_among : ByteArray := prog_1_method_22_code
def yX8_among : MethodName := ⟨RX8, "among", "(III)I"⟩
abbrev cX8_election : ByteArray := prog_1_method_23_code
def yX8_election : MethodName := ⟨RX8, "election", "(II)I"⟩
abbrev cX8_vote : ByteArray := prog_1_method_24_code
def yX8_vote : MethodName := ⟨RX8, "vote", "(II)I"⟩
abbrev cX8_elected : ByteArray := prog_1_method_25_code
def yX8_elected : MethodName := ⟨RX8, "elected", "(JII)I"⟩
abbrev cX8_sure : ByteArray := prog_1_method_26_code
def yX8_sure : MethodName := ⟨RX8, "sure", "(J)I"⟩
abbrev cX8_drawn : ByteArray := prog_1_method_27_code
def yX8_drawn : MethodName := ⟨RX8, "drawn", "(IJI)I"⟩
abbrev cX8_province : ByteArray := prog_1_method_28_code
def yX8_province : MethodName := ⟨RX8, "province", "(IIIIJ)I"⟩
abbrev cX8_count : ByteArray := prog_1_method_29_code
def yX8_count : MethodName := ⟨RX8, "count", "(I)I"⟩
abbrev cX8_keep : ByteArray := prog_1_method_30_code
def yX8_keep : MethodName := ⟨RX8, "keep", "(III)I"⟩
abbrev cX8_make : ByteArray := prog_1_method_31_code
def yX8_make : MethodName := ⟨RX8, "make", "(III)I"⟩
abbrev cX8_element : ByteArray := prog_1_method_32_code
def yX8_element : MethodName := ⟨RX8, "element", "(II)J"⟩
abbrev cX8_copy : ByteArray := prog_1_method_33_code
def yX8_copy : MethodName := ⟨RX8, "copy", "(IIIII)I"⟩
abbrev cX8_weight : ByteArray := prog_1_method_34_code
def yX8_weight : MethodName := ⟨RX8, "weight", "(I)I"⟩
abbrev cX8_toss : ByteArray := prog_1_method_35_code
def yX8_toss : MethodName := ⟨RX8, "toss", "(I)I"⟩
abbrev cX8_refusalOfLaw : ByteArray := prog_1_method_36_code
def yX8_refusalOfLaw : MethodName := ⟨RX8, "refusalOfLaw", "(I)I"⟩
abbrev cX8_isYear : ByteArray := prog_1_method_37_code
def yX8_isYear : MethodName := ⟨RX8, "isYear", "(I)Z"⟩
abbrev cX8_isOrder : ByteArray := prog_1_method_38_code
def yX8_isOrder : MethodName := ⟨RX8, "isOrder", "(I)Z"⟩
abbrev cX8_isBirth : ByteArray := prog_1_method_39_code
def yX8_isBirth : MethodName := ⟨RX8, "isBirth", "(II)Z"⟩
abbrev cX8_isShelf : ByteArray := prog_1_method_40_code
def yX8_isShelf : MethodName := ⟨RX8, "isShelf", "(I)Z"⟩
abbrev cX8_draw : ByteArray := prog_1_method_41_code
def yX8_draw : MethodName := ⟨RX8, "draw", "([IIJ)V"⟩
def RX9 : String := "OfficeLadderModel"
def TX9 : u_T := fun k => match k with
  | 0 => ("OfficeLadderModel", "thrown", "I", false)
  | 1 => ("OfficeLadderModel", "offices", "I", false)
  | 2 => ("OfficeLadderModel", "people", "I", false)
  | 3 => ("OfficeLadderModel", "laws", "I", false)
  | 4 => ("OfficeLadderModel", "seats", "[I", true)
  | 5 => ("OfficeLadderModel", "isFree", "[Z", true)
  | 6 => ("OfficeLadderModel", "order", "[I", true)
  | 7 => ("OfficeLadderModel", "born0", "[I", true)
  | 8 => ("OfficeLadderModel", "born1", "[I", true)
  | 9 => ("OfficeLadderModel", "father", "[I", true)
  | 10 => ("OfficeLadderModel", "died", "[I", true)
  | 11 => ("OfficeLadderModel", "away0", "[I", true)
  | 12 => ("OfficeLadderModel", "away1", "[I", true)
  | 13 => ("OfficeLadderModel", "kind", "[I", true)
  | 14 => ("OfficeLadderModel", "of", "[I", true)
  | 15 => ("OfficeLadderModel", "number", "[I", true)
  | 16 => ("OfficeLadderModel", "since", "[I", true)
  | 17 => ("OfficeLadderModel", "until", "[I", true)
  | 18 => ("OfficeLadderModel", "list", "[I", true)
  | 19 => ("OfficeLadderModel", "isVoid", "[Z", true)
  | 20 => ("OfficeLadderModel", "place", "[I", true)
  | 21 => ("OfficeLadderModel", "breaches", "I", false)
  | 22 => ("OfficeLadderModel", "gaps", "I", false)
  | 23 => ("OfficeLadderModel", "tries", "I", false)
  | 24 => ("OfficeLadderModel", "whose", "I", false)
  | 25 => ("OfficeLadderModel", "where", "I", false)
  | 26 => ("OfficeLadderModel", "amongMany", "I", false)
  | 27 => ("OfficeLadderModel", "gap", "[I", true)
  | 28 => ("OfficeLadderModel", "tried", "[I", true)
  | 29 => ("OfficeLadderModel", "candidates", "I", false)
  | 30 => ("OfficeLadderModel", "chairs", "I", false)
  | 31 => ("OfficeLadderModel", "ballot", "[I", true)
  | 32 => ("OfficeLadderModel", "drawn", "[I", true)
  | 33 => ("OfficeLadderModel", "left", "[I", true)
  | 34 => ("OfficeLadderModel", "votes", "[I", true)
  | 35 => ("OfficeLadderModel", "cameAt", "[I", true)
  | 36 => ("OfficeLadderModel", "chosen", "[I", true)
  | 37 => ("OfficeLadderModel", "chosenAt", "[I", true)
  | 38 => ("OfficeLadderModel", "chosenMany", "I", false)
  | 39 => ("OfficeLadderModel", "isChosen", "[Z", true)
  | 40 => ("OfficeLadderModel", "held0", "[I", true)
  | 41 => ("OfficeLadderModel", "heldLaw", "[I", true)
  | 42 => ("OfficeLadderModel", "size", "[I", true)
  | 43 => ("OfficeLadderModel", "item", "[I", true)
  | _ => ("OfficeLadderModel", "aside", "[I", true)
def tyX9 : Nat → FieldType := fun k => match k with
  | 0 => .int
  | 1 => .int
  | 2 => .int
  | 3 => .int
  | 4 => .array .int
  | 5 => .array .boolean
  | 6 => .array .int
  | 7 => .array .int
  | 8 => .array .int
  | 9 => .array .int
  | 10 => .array .int
  | 11 => .array .int
  | 12 => .array .int
  | 13 => .array .int
  | 14 => .array .int
  | 15 => .array .int
  | 16 => .array .int
  | 17 => .array .int
  | 18 => .array .int
  | 19 => .array .boolean
  | 20 => .array .int
  | 21 => .int
  | 22 => .int
  | 23 => .int
  | 24 => .int
  | 25 => .int
  | 26 => .int
  | 27 => .array .int
  | 28 => .array .int
  | 29 => .int
  | 30 => .int
  | 31 => .array .int
  | 32 => .array .int
  | 33 => .array .int
  | 34 => .array .int
  | 35 => .array .int
  | 36 => .array .int
  | 37 => .array .int
  | 38 => .int
  | 39 => .array .boolean
  | 40 => .array .int
  | 41 => .array .int
  | 42 => .array .int
  | 43 => .array .int
  | _ => .array .int
theorem nmX9 : ∀ a, a < 45 → ∀ b, b < 45 → a ≠ b → (TX9 a).2.1 ≠ (TX9 b).2.1 := by decide +kernel
theorem tyX9_ok : ∀ k, k < 45 → parseFieldDescriptor (TX9 k).2.2.1 = some (tyX9 k) := by decide +kernel
abbrev cX9_thrown : ByteArray := prog_11_method_1_code
def yX9_thrown : MethodName := ⟨RX9, "thrown", "()I"⟩
abbrev cX9_in : ByteArray := prog_11_method_2_code
def yX9_in : MethodName := ⟨RX9, "in", "(III)Z"⟩
abbrev cX9_init : ByteArray := prog_11_method_3_code
def yX9_init : MethodName := ⟨RX9, "<init>", "()V"⟩
abbrev cX9_isOffice : ByteArray := prog_11_method_4_code
def yX9_isOffice : MethodName := ⟨RX9, "isOffice", "(I)Z"⟩
abbrev cX9_isPerson : ByteArray := prog_11_method_5_code
def yX9_isPerson : MethodName := ⟨RX9, "isPerson", "(I)Z"⟩
abbrev cX9_isYear : ByteArray := prog_11_method_6_code
def yX9_isYear : MethodName := ⟨RX9, "isYear", "(I)Z"⟩
abbrev cX9_at : ByteArray := prog_11_method_7_code
def yX9_at : MethodName := ⟨RX9, "at", "(III)I"⟩
abbrev cX9_office : ByteArray := prog_11_method_8_code
def yX9_office : MethodName := ⟨RX9, "office", "(IZ)I"⟩
abbrev cX9_isSpan : ByteArray := prog_11_method_9_code
def yX9_isSpan : MethodName := ⟨RX9, "isSpan", "(II)Z"⟩
abbrev cX9_person : ByteArray := prog_11_method_10_code
def yX9_person : MethodName := ⟨RX9, "person", "(IIII)I"⟩
abbrev cX9_death : ByteArray := prog_11_method_11_code
def yX9_death : MethodName := ⟨RX9, "death", "(II)I"⟩
abbrev cX9_exile : ByteArray := prog_11_method_12_code
def yX9_exile : MethodName := ⟨RX9, "exile", "(III)I"⟩
abbrev cX9_birth : ByteArray := prog_11_method_13_code
def yX9_birth : MethodName := ⟨RX9, "birth", "(III)I"⟩
abbrev cX9_law : ByteArray := prog_11_method_14_code
def yX9_law : MethodName := ⟨RX9, "law", "(IIII)I"⟩
abbrev cX9_repeal : ByteArray := prog_11_method_15_code
def yX9_repeal : MethodName := ⟨RX9, "repeal", "(II)I"⟩
abbrev cX9_put : ByteArray := prog_11_method_16_code
def yX9_put : MethodName := ⟨RX9, "put", "(III)V"⟩
abbrev cX9_clear : ByteArray := prog_11_method_17_code
def yX9_clear : MethodName := ⟨RX9, "clear", "(II)I"⟩
abbrev cX9_stone : ByteArray := prog_11_method_18_code
def yX9_stone : MethodName := ⟨RX9, "stone", "(III)I"⟩
abbrev cX9_isSeat : ByteArray := prog_11_method_19_code
def yX9_isSeat : MethodName := ⟨RX9, "isSeat", "(III)Z"⟩
abbrev cX9_empty : ByteArray := prog_11_method_20_code
def yX9_empty : MethodName := ⟨RX9, "empty", "(III)I"⟩
abbrev cX9_annul : ByteArray := prog_11_method_21_code
def yX9_annul : MethodName := ⟨RX9, "annul", "(IIIZ)I"⟩
abbrev cX9_seat : ByteArray := prog_11_method_22_code
def yX9_seat : MethodName := ⟨RX9, "seat", "(III)I"⟩
abbrev cX9_officeAt : ByteArray := prog_11_method_23_code
def yX9_officeAt : MethodName := ⟨RX9, "officeAt", "(I)I"⟩
abbrev cX9_holds : ByteArray := prog_11_method_24_code
def yX9_holds : MethodName := ⟨RX9, "holds", "(II)I"⟩
abbrev cX9_hasHeld : ByteArray := prog_11_method_25_code
def yX9_hasHeld : MethodName := ⟨RX9, "hasHeld", "(III)Z"⟩
abbrev cX9_held : ByteArray := prog_11_method_26_code
def yX9_held : MethodName := ⟨RX9, "held", "(III)I"⟩
abbrev cX9_isKin : ByteArray := prog_11_method_27_code
def yX9_isKin : MethodName := ⟨RX9, "isKin", "(II)Z"⟩
abbrev cX9_hasKin : ByteArray := prog_11_method_28_code
def yX9_hasKin : MethodName := ⟨RX9, "hasKin", "(III)Z"⟩
abbrev cX9_isInForce : ByteArray := prog_11_method_29_code
def yX9_isInForce : MethodName := ⟨RX9, "isInForce", "(III)Z"⟩
abbrev cX9_heldWithin : ByteArray := prog_11_method_30_code
def yX9_heldWithin : MethodName := ⟨RX9, "heldWithin", "(IIII)Z"⟩
abbrev cX9_bars : ByteArray := prog_11_method_31_code
def yX9_bars : MethodName := ⟨RX9, "bars", "(IIII)Z"⟩
abbrev cX9_barOf : ByteArray := prog_11_method_32_code
def yX9_barOf : MethodName := ⟨RX9, "barOf", "(III)I"⟩
abbrev cX9_couldBe : ByteArray := prog_11_method_33_code
def yX9_couldBe : MethodName := ⟨RX9, "couldBe", "(III)I"⟩
abbrev cX9_could : ByteArray := prog_11_method_34_code
def yX9_could : MethodName := ⟨RX9, "could", "(IIII)I"⟩
abbrev cX9_first : ByteArray := prog_11_method_35_code
def yX9_first : MethodName := ⟨RX9, "first", "(IIIZ)I"⟩
abbrev cX9_who : ByteArray := prog_11_method_36_code
def yX9_who : MethodName := ⟨RX9, "who", "(IIZ)I"⟩
abbrev cX9_isRight : ByteArray := prog_11_method_37_code
def yX9_isRight : MethodName := ⟨RX9, "isRight", "(III)Z"⟩
abbrev cX9_goThrough : ByteArray := prog_11_method_38_code
def yX9_goThrough : MethodName := ⟨RX9, "goThrough", "(I)I"⟩
abbrev cX9_breaches : ByteArray := prog_11_method_39_code
def yX9_breaches : MethodName := ⟨RX9, "breaches", "()I"⟩
abbrev cX9_breach : ByteArray := prog_11_method_40_code
def yX9_breach : MethodName := ⟨RX9, "breach", "(I)I"⟩
abbrev cX9_areAllRight : ByteArray := prog_11_method_41_code
def yX9_areAllRight : MethodName := ⟨RX9, "areAllRight", "(I)Z"⟩
abbrev cX9_takeBack : ByteArray := prog_11_method_42_code
def yX9_takeBack : MethodName := ⟨RX9, "takeBack", "(II)V"⟩
abbrev cX9_isAmong : ByteArray := prog_11_method_43_code
def yX9_isAmong : MethodName := ⟨RX9, "isAmong", "()Z"⟩
abbrev cX9_fillYear : ByteArray := prog_11_method_44_code
def yX9_fillYear : MethodName := ⟨RX9, "fillYear", "(IZ)I"⟩
abbrev cX9_fillings : ByteArray := prog_11_method_45_code
def yX9_fillings : MethodName := ⟨RX9, "fillings", "(I)I"⟩
abbrev cX9_fill : ByteArray := prog_11_method_46_code
def yX9_fill : MethodName := ⟨RX9, "fill", "(I)I"⟩
abbrev cX9_among : ByteArray := prog_11_method_47_code
def yX9_among : MethodName := ⟨RX9, "among", "(III)I"⟩
abbrev cX9_draw : ByteArray := prog_11_method_48_code
def yX9_draw : MethodName := ⟨RX9, "draw", "(IJ)V"⟩
abbrev cX9_election : ByteArray := prog_11_method_49_code
def yX9_election : MethodName := ⟨RX9, "election", "(II)I"⟩
abbrev cX9_voted : ByteArray := prog_11_method_50_code
def yX9_voted : MethodName := ⟨RX9, "voted", "()I"⟩
abbrev cX9_ones : ByteArray := prog_11_method_51_code
def yX9_ones : MethodName := ⟨RX9, "ones", "(I)I"⟩
abbrev cX9_vote : ByteArray := prog_11_method_52_code
def yX9_vote : MethodName := ⟨RX9, "vote", "(II)I"⟩
abbrev cX9_choose : ByteArray := prog_11_method_53_code
def yX9_choose : MethodName := ⟨RX9, "choose", "(II)V"⟩
abbrev cX9_beginVotes : ByteArray := prog_11_method_54_code
def yX9_beginVotes : MethodName := ⟨RX9, "beginVotes", "()V"⟩
abbrev cX9_unitVotes : ByteArray := prog_11_method_55_code
def yX9_unitVotes : MethodName := ⟨RX9, "unitVotes", "(I)V"⟩
abbrev cX9_elect : ByteArray := prog_11_method_56_code
def yX9_elect : MethodName := ⟨RX9, "elect", "(J)V"⟩
abbrev cX9_elected : ByteArray := prog_11_method_57_code
def yX9_elected : MethodName := ⟨RX9, "elected", "(JII)I"⟩
abbrev cX9_ahead : ByteArray := prog_11_method_58_code
def yX9_ahead : MethodName := ⟨RX9, "ahead", "()I"⟩
abbrev cX9_sure : ByteArray := prog_11_method_59_code
def yX9_sure : MethodName := ⟨RX9, "sure", "(J)I"⟩
abbrev cX9_drawn : ByteArray := prog_11_method_60_code
def yX9_drawn : MethodName := ⟨RX9, "drawn", "(IJI)I"⟩
abbrev cX9_province : ByteArray := prog_11_method_61_code
def yX9_province : MethodName := ⟨RX9, "province", "(IIIIJ)I"⟩
abbrev cX9_count : ByteArray := prog_11_method_62_code
def yX9_count : MethodName := ⟨RX9, "count", "(I)I"⟩
abbrev cX9_isShelf : ByteArray := prog_11_method_63_code
def yX9_isShelf : MethodName := ⟨RX9, "isShelf", "(I)Z"⟩
abbrev cX9_wipe : ByteArray := prog_11_method_64_code
def yX9_wipe : MethodName := ⟨RX9, "wipe", "(I)V"⟩
abbrev cX9_keep : ByteArray := prog_11_method_65_code
def yX9_keep : MethodName := ⟨RX9, "keep", "(III)I"⟩
abbrev cX9_make : ByteArray := prog_11_method_66_code
def yX9_make : MethodName := ⟨RX9, "make", "(III)I"⟩
abbrev cX9_element : ByteArray := prog_11_method_67_code
def yX9_element : MethodName := ⟨RX9, "element", "(II)J"⟩
abbrev cX9_copy : ByteArray := prog_11_method_68_code
def yX9_copy : MethodName := ⟨RX9, "copy", "(IIIII)I"⟩
abbrev cX9_lacksLaw : ByteArray := prog_11_method_69_code
def yX9_lacksLaw : MethodName := ⟨RX9, "lacksLaw", "(I)I"⟩
abbrev cX9_weight : ByteArray := prog_11_method_70_code
def yX9_weight : MethodName := ⟨RX9, "weight", "(I)I"⟩
abbrev cX9_toss : ByteArray := prog_11_method_71_code
def yX9_toss : MethodName := ⟨RX9, "toss", "(I)I"⟩
def RJ6 : String := "java/lang/Integer"
def TJ6 : u_T := fun k => match k with
  | _ => ("", "", "", false)
def tyJ6 : Nat → FieldType := fun k => match k with
  | _ => .int
theorem nmJ6 : ∀ a, a < 0 → ∀ b, b < 0 → a ≠ b → (TJ6 a).2.1 ≠ (TJ6 b).2.1 := by decide +kernel
theorem tyJ6_ok : ∀ k, k < 0 → parseFieldDescriptor (TJ6 k).2.2.1 = some (tyJ6 k) := by decide +kernel
abbrev cJ6_bitCount_0f7a4 : ByteArray := prog_15_method_49_code
def yJ6_bitCount_0f7a4 : MethodName := ⟨RJ6, "bitCount", "(I)I"⟩
def RJ0 : String := "java/lang/String"
def TJ0 : u_T := fun k => match k with
  | _ => ("", "", "", false)
def tyJ0 : Nat → FieldType := fun k => match k with
  | _ => .int
theorem nmJ0 : ∀ a, a < 0 → ∀ b, b < 0 → a ≠ b → (TJ0 a).2.1 ≠ (TJ0 b).2.1 := by decide +kernel
theorem tyJ0_ok : ∀ k, k < 0 → parseFieldDescriptor (TJ0 k).2.2.1 = some (tyJ0 k) := by decide +kernel
def RJ10 : String := "java/lang/System"
def TJ10 : u_T := fun k => match k with
  | _ => ("", "", "", false)
def tyJ10 : Nat → FieldType := fun k => match k with
  | _ => .int
theorem nmJ10 : ∀ a, a < 0 → ∀ b, b < 0 → a ≠ b → (TJ10 a).2.1 ≠ (TJ10 b).2.1 := by decide +kernel
theorem tyJ10_ok : ∀ k, k < 0 → parseFieldDescriptor (TJ10 k).2.2.1 = some (tyJ10 k) := by decide +kernel
def RJ7 : String := "java/util/Arrays"
def TJ7 : u_T := fun k => match k with
  | _ => ("", "", "", false)
def tyJ7 : Nat → FieldType := fun k => match k with
  | _ => .int
theorem nmJ7 : ∀ a, a < 0 → ∀ b, b < 0 → a ≠ b → (TJ7 a).2.1 ≠ (TJ7 b).2.1 := by decide +kernel
theorem tyJ7_ok : ∀ k, k < 0 → parseFieldDescriptor (TJ7 k).2.2.1 = some (tyJ7 k) := by decide +kernel
abbrev cJ7_fill_53178 : ByteArray := prog_20_method_103_code
def yJ7_fill_53178 : MethodName := ⟨RJ7, "fill", "([II)V"⟩
abbrev cJ7_fill_031fb : ByteArray := prog_20_method_109_code
def yJ7_fill_031fb : MethodName := ⟨RJ7, "fill", "([BB)V"⟩
def RL : String := "OfficeLadderLaw"
abbrev cL_element : ByteArray := method_3_code
def yL_element : MethodName := ⟨RL, "element", "(LOfficeLadder;II[J)I"⟩
abbrev cL_law : ByteArray := code
def yL_law : MethodName := ⟨RL, "law", "([I)Z"⟩
abbrev vwCl : List vw_C := [(RX0, TX0, 11), (RX1, TX1, 15), (RX2, TX2, 6), (RX3, TX3, 3), (RX4, TX4, 4), (RX5, TX5, 9), (RX6, TX6, 9), (RX7, TX7, 5), (RX8, TX8, 5), (RX9, TX9, 45)]
end
section
def lw_good : List Cond := lw_tbl.filter goodWord
theorem g_tw {w : Cond} (n : Nat) (h : lw_tbl[n]? = some w) (hg : goodWord w = true) : w ∈ lw_good := List.mem_filter.mpr ⟨List.mem_of_getElem? h, hg⟩
theorem g_tw_tbl {w : Cond} (h : w ∈ lw_good) : w ∈ lw_tbl := (List.mem_filter.mp h).1
theorem g_in {ws : List Cond} (ns : List Nat) (h : ws.map some = ns.map (fun i => lw_tbl[i]?)) (hg : ws.all goodWord = true) : ∀ w ∈ ws, w ∈ lw_good := by
  intro w hw
  have h1 : some w ∈ ns.map (fun i => lw_tbl[i]?) := h ▸ List.mem_map.mpr ⟨w, hw, rfl⟩
  obtain ⟨i, -, hi⟩ := List.mem_map.mp h1
  exact g_tw i hi (List.all_eq_true.mp hg w hw)
theorem g_good {y y' : MethodName} {cc cc' : ByteArray} {n n' : Nat} {r r' : Option FieldType} (h : Cond.code y' cc' n' r' ∈ lw_good) : GoodIn lw_good (Cond.code y' cc' n' r' :: lw_good) := by
  have key : ∀ w ∈ lw_good, w ∈ lw_good ∧ ((w.onTables && w.keeps) = true ∨ ∃ ty, w = .arrayClass ty) := fun w hw => ⟨hw, good_of_word (List.mem_filter.mp hw).2⟩
  intro w hw
  rcases List.mem_cons.mp hw with rfl | hw
  · exact key _ h
  · exact key _ hw
theorem tw0 : (Jvm.Cond.selects "OfficeLadder$Republic" ({ cls := "OfficeLadder$Republic", name := "tie", desc := "(II)V" } : Jvm.MethodName) ({ cls := "OfficeLadder$Republic", name := "tie", desc := "(II)V" } : Jvm.MethodName)) ∈ lw_good := g_tw 0 (by decide +kernel) (by decide +kernel)
theorem tw1 : (Jvm.Cond.selects "OfficeLadder$Filler" ({ cls := "OfficeLadder$Filler", name := "addSlots", desc := "(LOfficeLadder$Office;II)V" } : Jvm.MethodName) ({ cls := "OfficeLadder$Filler", name := "addSlots", desc := "(LOfficeLadder$Office;II)V" } : Jvm.MethodName)) ∈ lw_good := g_tw 1 (by decide +kernel) (by decide +kernel)
theorem tw2 : (Jvm.Cond.selects "OfficeLadder$Filler" ({ cls := "OfficeLadder$Filler", name := "place", desc := "(LOfficeLadder$Republic;I)V" } : Jvm.MethodName) ({ cls := "OfficeLadder$Filler", name := "place", desc := "(LOfficeLadder$Republic;I)V" } : Jvm.MethodName)) ∈ lw_good := g_tw 2 (by decide +kernel) (by decide +kernel)
theorem tw3 : (Jvm.Cond.selects "OfficeLadder$Filler" ({ cls := "OfficeLadder$Filler", name := "tellFound", desc := "()V" } : Jvm.MethodName) ({ cls := "OfficeLadder$Filler", name := "tellFound", desc := "()V" } : Jvm.MethodName)) ∈ lw_good := g_tw 3 (by decide +kernel) (by decide +kernel)
theorem tw4 : (Jvm.Cond.selects "OfficeLadder$Filler" ({ cls := "OfficeLadder$Filler", name := "isOver", desc := "()Z" } : Jvm.MethodName) ({ cls := "OfficeLadder$Filler", name := "isOver", desc := "()Z" } : Jvm.MethodName)) ∈ lw_good := g_tw 4 (by decide +kernel) (by decide +kernel)
theorem tw5 : (Jvm.Cond.selects "OfficeLadder$Filler" ({ cls := "OfficeLadder$Filler", name := "fits", desc := "(LOfficeLadder$Republic;II)Z" } : Jvm.MethodName) ({ cls := "OfficeLadder$Filler", name := "fits", desc := "(LOfficeLadder$Republic;II)Z" } : Jvm.MethodName)) ∈ lw_good := g_tw 5 (by decide +kernel) (by decide +kernel)
theorem tw6 : (Jvm.Cond.selects "OfficeLadder$Filler" ({ cls := "OfficeLadder$Filler", name := "takeAndGoOn", desc := "(LOfficeLadder$Republic;II)V" } : Jvm.MethodName) ({ cls := "OfficeLadder$Filler", name := "takeAndGoOn", desc := "(LOfficeLadder$Republic;II)V" } : Jvm.MethodName)) ∈ lw_good := g_tw 6 (by decide +kernel) (by decide +kernel)
theorem tw7 : (Jvm.Cond.selects "OfficeLadder$Election" ({ cls := "OfficeLadder$Election", name := "begin", desc := "(J)V" } : Jvm.MethodName) ({ cls := "OfficeLadder$Election", name := "begin", desc := "(J)V" } : Jvm.MethodName)) ∈ lw_good := g_tw 7 (by decide +kernel) (by decide +kernel)
theorem tw8 : (Jvm.Cond.selects "OfficeLadder$Election" ({ cls := "OfficeLadder$Election", name := "countUnit", desc := "(I)V" } : Jvm.MethodName) ({ cls := "OfficeLadder$Election", name := "countUnit", desc := "(I)V" } : Jvm.MethodName)) ∈ lw_good := g_tw 8 (by decide +kernel) (by decide +kernel)
theorem tw9 : (Jvm.Cond.selects "OfficeLadder$Election" ({ cls := "OfficeLadder$Election", name := "elect", desc := "(II)V" } : Jvm.MethodName) ({ cls := "OfficeLadder$Election", name := "elect", desc := "(II)V" } : Jvm.MethodName)) ∈ lw_good := g_tw 9 (by decide +kernel) (by decide +kernel)
theorem tw10 : (Jvm.Cond.selects "OfficeLadder$Election" ({ cls := "OfficeLadder$Election", name := "electRest", desc := "()V" } : Jvm.MethodName) ({ cls := "OfficeLadder$Election", name := "electRest", desc := "()V" } : Jvm.MethodName)) ∈ lw_good := g_tw 10 (by decide +kernel) (by decide +kernel)
theorem tw11 : (Jvm.Cond.selects "OfficeLadder$Election" ({ cls := "OfficeLadder$Election", name := "bestOfRest", desc := "()I" } : Jvm.MethodName) ({ cls := "OfficeLadder$Election", name := "bestOfRest", desc := "()I" } : Jvm.MethodName)) ∈ lw_good := g_tw 11 (by decide +kernel) (by decide +kernel)
theorem tw12 : (Jvm.Cond.selects "OfficeLadder$Election" ({ cls := "OfficeLadder$Election", name := "isElected", desc := "(I)Z" } : Jvm.MethodName) ({ cls := "OfficeLadder$Election", name := "isElected", desc := "(I)Z" } : Jvm.MethodName)) ∈ lw_good := g_tw 12 (by decide +kernel) (by decide +kernel)
theorem tw13 : (Jvm.Cond.selects "OfficeLadder$Election" ({ cls := "OfficeLadder$Election", name := "isAhead", desc := "(II)Z" } : Jvm.MethodName) ({ cls := "OfficeLadder$Election", name := "isAhead", desc := "(II)Z" } : Jvm.MethodName)) ∈ lw_good := g_tw 13 (by decide +kernel) (by decide +kernel)
theorem tw14 : (Jvm.Cond.selects "OfficeLadder$Election" ({ cls := "OfficeLadder$Election", name := "lead", desc := "()I" } : Jvm.MethodName) ({ cls := "OfficeLadder$Election", name := "lead", desc := "()I" } : Jvm.MethodName)) ∈ lw_good := g_tw 14 (by decide +kernel) (by decide +kernel)
theorem tw15 : (Jvm.Cond.selects "OfficeLadder$Shelf" ({ cls := "OfficeLadder$Shelf", name := "become", desc := "(II)V" } : Jvm.MethodName) ({ cls := "OfficeLadder$Shelf", name := "become", desc := "(II)V" } : Jvm.MethodName)) ∈ lw_good := g_tw 15 (by decide +kernel) (by decide +kernel)
theorem tw16 : (Jvm.Cond.selects "OfficeLadder" ({ cls := "OfficeLadder", name := "refusalOfLaw", desc := "(I)I" } : Jvm.MethodName) ({ cls := "OfficeLadder", name := "refusalOfLaw", desc := "(I)I" } : Jvm.MethodName)) ∈ lw_good := g_tw 16 (by decide +kernel) (by decide +kernel)
theorem tw17 : (Jvm.Cond.selects "java/lang/Throwable" ({ cls := "java/lang/Throwable", name := "fillInStackTrace", desc := "(I)Ljava/lang/Throwable;" } : Jvm.MethodName) ({ cls := "java/lang/Throwable", name := "fillInStackTrace", desc := "(I)Ljava/lang/Throwable;" } : Jvm.MethodName)) ∈ lw_good := g_tw 17 (by decide +kernel) (by decide +kernel)
theorem tw18 : (Jvm.Cond.selects "OfficeLadderModel" ({ cls := "OfficeLadderModel", name := "in", desc := "(III)Z" } : Jvm.MethodName) ({ cls := "OfficeLadderModel", name := "in", desc := "(III)Z" } : Jvm.MethodName)) ∈ lw_good := g_tw 18 (by decide +kernel) (by decide +kernel)
theorem tw19 : (Jvm.Cond.selects "OfficeLadderModel" ({ cls := "OfficeLadderModel", name := "isSpan", desc := "(II)Z" } : Jvm.MethodName) ({ cls := "OfficeLadderModel", name := "isSpan", desc := "(II)Z" } : Jvm.MethodName)) ∈ lw_good := g_tw 19 (by decide +kernel) (by decide +kernel)
theorem tw20 : (Jvm.Cond.selects "OfficeLadderModel" ({ cls := "OfficeLadderModel", name := "isPerson", desc := "(I)Z" } : Jvm.MethodName) ({ cls := "OfficeLadderModel", name := "isPerson", desc := "(I)Z" } : Jvm.MethodName)) ∈ lw_good := g_tw 20 (by decide +kernel) (by decide +kernel)
theorem tw21 : (Jvm.Cond.selects "OfficeLadderModel" ({ cls := "OfficeLadderModel", name := "isYear", desc := "(I)Z" } : Jvm.MethodName) ({ cls := "OfficeLadderModel", name := "isYear", desc := "(I)Z" } : Jvm.MethodName)) ∈ lw_good := g_tw 21 (by decide +kernel) (by decide +kernel)
theorem tw22 : (Jvm.Cond.selects "OfficeLadderModel" ({ cls := "OfficeLadderModel", name := "isOffice", desc := "(I)Z" } : Jvm.MethodName) ({ cls := "OfficeLadderModel", name := "isOffice", desc := "(I)Z" } : Jvm.MethodName)) ∈ lw_good := g_tw 22 (by decide +kernel) (by decide +kernel)
theorem tw23 : (Jvm.Cond.selects "OfficeLadderModel" ({ cls := "OfficeLadderModel", name := "at", desc := "(III)I" } : Jvm.MethodName) ({ cls := "OfficeLadderModel", name := "at", desc := "(III)I" } : Jvm.MethodName)) ∈ lw_good := g_tw 23 (by decide +kernel) (by decide +kernel)
theorem tw24 : (Jvm.Cond.selects "OfficeLadderModel" ({ cls := "OfficeLadderModel", name := "put", desc := "(III)V" } : Jvm.MethodName) ({ cls := "OfficeLadderModel", name := "put", desc := "(III)V" } : Jvm.MethodName)) ∈ lw_good := g_tw 24 (by decide +kernel) (by decide +kernel)
theorem tw25 : (Jvm.Cond.selects "OfficeLadderModel" ({ cls := "OfficeLadderModel", name := "isSeat", desc := "(III)Z" } : Jvm.MethodName) ({ cls := "OfficeLadderModel", name := "isSeat", desc := "(III)Z" } : Jvm.MethodName)) ∈ lw_good := g_tw 25 (by decide +kernel) (by decide +kernel)
theorem tw26 : (Jvm.Cond.selects "OfficeLadderModel" ({ cls := "OfficeLadderModel", name := "clear", desc := "(II)I" } : Jvm.MethodName) ({ cls := "OfficeLadderModel", name := "clear", desc := "(II)I" } : Jvm.MethodName)) ∈ lw_good := g_tw 26 (by decide +kernel) (by decide +kernel)
theorem tw27 : (Jvm.Cond.selects "OfficeLadderModel" ({ cls := "OfficeLadderModel", name := "officeAt", desc := "(I)I" } : Jvm.MethodName) ({ cls := "OfficeLadderModel", name := "officeAt", desc := "(I)I" } : Jvm.MethodName)) ∈ lw_good := g_tw 27 (by decide +kernel) (by decide +kernel)
theorem tw28 : (Jvm.Cond.selects "OfficeLadderModel" ({ cls := "OfficeLadderModel", name := "hasHeld", desc := "(III)Z" } : Jvm.MethodName) ({ cls := "OfficeLadderModel", name := "hasHeld", desc := "(III)Z" } : Jvm.MethodName)) ∈ lw_good := g_tw 28 (by decide +kernel) (by decide +kernel)
theorem tw29 : (Jvm.Cond.selects "OfficeLadderModel" ({ cls := "OfficeLadderModel", name := "couldBe", desc := "(III)I" } : Jvm.MethodName) ({ cls := "OfficeLadderModel", name := "couldBe", desc := "(III)I" } : Jvm.MethodName)) ∈ lw_good := g_tw 29 (by decide +kernel) (by decide +kernel)
theorem tw30 : (Jvm.Cond.selects "OfficeLadderModel" ({ cls := "OfficeLadderModel", name := "barOf", desc := "(III)I" } : Jvm.MethodName) ({ cls := "OfficeLadderModel", name := "barOf", desc := "(III)I" } : Jvm.MethodName)) ∈ lw_good := g_tw 30 (by decide +kernel) (by decide +kernel)
theorem tw31 : (Jvm.Cond.selects "OfficeLadderModel" ({ cls := "OfficeLadderModel", name := "isInForce", desc := "(III)Z" } : Jvm.MethodName) ({ cls := "OfficeLadderModel", name := "isInForce", desc := "(III)Z" } : Jvm.MethodName)) ∈ lw_good := g_tw 31 (by decide +kernel) (by decide +kernel)
theorem tw32 : (Jvm.Cond.selects "OfficeLadderModel" ({ cls := "OfficeLadderModel", name := "bars", desc := "(IIII)Z" } : Jvm.MethodName) ({ cls := "OfficeLadderModel", name := "bars", desc := "(IIII)Z" } : Jvm.MethodName)) ∈ lw_good := g_tw 32 (by decide +kernel) (by decide +kernel)
theorem tw33 : (Jvm.Cond.selects "OfficeLadderModel" ({ cls := "OfficeLadderModel", name := "heldWithin", desc := "(IIII)Z" } : Jvm.MethodName) ({ cls := "OfficeLadderModel", name := "heldWithin", desc := "(IIII)Z" } : Jvm.MethodName)) ∈ lw_good := g_tw 33 (by decide +kernel) (by decide +kernel)
theorem tw34 : (Jvm.Cond.selects "OfficeLadderModel" ({ cls := "OfficeLadderModel", name := "hasKin", desc := "(III)Z" } : Jvm.MethodName) ({ cls := "OfficeLadderModel", name := "hasKin", desc := "(III)Z" } : Jvm.MethodName)) ∈ lw_good := g_tw 34 (by decide +kernel) (by decide +kernel)
theorem tw35 : (Jvm.Cond.selects "OfficeLadderModel" ({ cls := "OfficeLadderModel", name := "isKin", desc := "(II)Z" } : Jvm.MethodName) ({ cls := "OfficeLadderModel", name := "isKin", desc := "(II)Z" } : Jvm.MethodName)) ∈ lw_good := g_tw 35 (by decide +kernel) (by decide +kernel)
theorem tw36 : (Jvm.Cond.selects "OfficeLadderModel" ({ cls := "OfficeLadderModel", name := "goThrough", desc := "(I)I" } : Jvm.MethodName) ({ cls := "OfficeLadderModel", name := "goThrough", desc := "(I)I" } : Jvm.MethodName)) ∈ lw_good := g_tw 36 (by decide +kernel) (by decide +kernel)
theorem tw37 : (Jvm.Cond.selects "OfficeLadderModel" ({ cls := "OfficeLadderModel", name := "isRight", desc := "(III)Z" } : Jvm.MethodName) ({ cls := "OfficeLadderModel", name := "isRight", desc := "(III)Z" } : Jvm.MethodName)) ∈ lw_good := g_tw 37 (by decide +kernel) (by decide +kernel)
theorem tw38 : (Jvm.Cond.selects "OfficeLadderModel" ({ cls := "OfficeLadderModel", name := "fillYear", desc := "(IZ)I" } : Jvm.MethodName) ({ cls := "OfficeLadderModel", name := "fillYear", desc := "(IZ)I" } : Jvm.MethodName)) ∈ lw_good := g_tw 38 (by decide +kernel) (by decide +kernel)
theorem tw39 : (Jvm.Cond.selects "OfficeLadderModel" ({ cls := "OfficeLadderModel", name := "areAllRight", desc := "(I)Z" } : Jvm.MethodName) ({ cls := "OfficeLadderModel", name := "areAllRight", desc := "(I)Z" } : Jvm.MethodName)) ∈ lw_good := g_tw 39 (by decide +kernel) (by decide +kernel)
theorem tw40 : (Jvm.Cond.selects "OfficeLadderModel" ({ cls := "OfficeLadderModel", name := "isAmong", desc := "()Z" } : Jvm.MethodName) ({ cls := "OfficeLadderModel", name := "isAmong", desc := "()Z" } : Jvm.MethodName)) ∈ lw_good := g_tw 40 (by decide +kernel) (by decide +kernel)
theorem tw41 : (Jvm.Cond.selects "OfficeLadderModel" ({ cls := "OfficeLadderModel", name := "takeBack", desc := "(II)V" } : Jvm.MethodName) ({ cls := "OfficeLadderModel", name := "takeBack", desc := "(II)V" } : Jvm.MethodName)) ∈ lw_good := g_tw 41 (by decide +kernel) (by decide +kernel)
theorem tw42 : (Jvm.Cond.selects "OfficeLadderModel" ({ cls := "OfficeLadderModel", name := "voted", desc := "()I" } : Jvm.MethodName) ({ cls := "OfficeLadderModel", name := "voted", desc := "()I" } : Jvm.MethodName)) ∈ lw_good := g_tw 42 (by decide +kernel) (by decide +kernel)
theorem tw43 : (Jvm.Cond.selects "OfficeLadderModel" ({ cls := "OfficeLadderModel", name := "ones", desc := "(I)I" } : Jvm.MethodName) ({ cls := "OfficeLadderModel", name := "ones", desc := "(I)I" } : Jvm.MethodName)) ∈ lw_good := g_tw 43 (by decide +kernel) (by decide +kernel)
theorem tw44 : (Jvm.Cond.selects "OfficeLadderModel" ({ cls := "OfficeLadderModel", name := "elect", desc := "(J)V" } : Jvm.MethodName) ({ cls := "OfficeLadderModel", name := "elect", desc := "(J)V" } : Jvm.MethodName)) ∈ lw_good := g_tw 44 (by decide +kernel) (by decide +kernel)
theorem tw45 : (Jvm.Cond.selects "OfficeLadderModel" ({ cls := "OfficeLadderModel", name := "draw", desc := "(IJ)V" } : Jvm.MethodName) ({ cls := "OfficeLadderModel", name := "draw", desc := "(IJ)V" } : Jvm.MethodName)) ∈ lw_good := g_tw 45 (by decide +kernel) (by decide +kernel)
theorem tw46 : (Jvm.Cond.selects "OfficeLadderModel" ({ cls := "OfficeLadderModel", name := "beginVotes", desc := "()V" } : Jvm.MethodName) ({ cls := "OfficeLadderModel", name := "beginVotes", desc := "()V" } : Jvm.MethodName)) ∈ lw_good := g_tw 46 (by decide +kernel) (by decide +kernel)
theorem tw47 : (Jvm.Cond.selects "OfficeLadderModel" ({ cls := "OfficeLadderModel", name := "unitVotes", desc := "(I)V" } : Jvm.MethodName) ({ cls := "OfficeLadderModel", name := "unitVotes", desc := "(I)V" } : Jvm.MethodName)) ∈ lw_good := g_tw 47 (by decide +kernel) (by decide +kernel)
theorem tw48 : (Jvm.Cond.selects "OfficeLadderModel" ({ cls := "OfficeLadderModel", name := "choose", desc := "(II)V" } : Jvm.MethodName) ({ cls := "OfficeLadderModel", name := "choose", desc := "(II)V" } : Jvm.MethodName)) ∈ lw_good := g_tw 48 (by decide +kernel) (by decide +kernel)
theorem tw49 : (Jvm.Cond.selects "OfficeLadderModel" ({ cls := "OfficeLadderModel", name := "ahead", desc := "()I" } : Jvm.MethodName) ({ cls := "OfficeLadderModel", name := "ahead", desc := "()I" } : Jvm.MethodName)) ∈ lw_good := g_tw 49 (by decide +kernel) (by decide +kernel)
theorem tw50 : (Jvm.Cond.selects "OfficeLadderModel" ({ cls := "OfficeLadderModel", name := "isShelf", desc := "(I)Z" } : Jvm.MethodName) ({ cls := "OfficeLadderModel", name := "isShelf", desc := "(I)Z" } : Jvm.MethodName)) ∈ lw_good := g_tw 50 (by decide +kernel) (by decide +kernel)
theorem tw51 : (Jvm.Cond.selects "OfficeLadderModel" ({ cls := "OfficeLadderModel", name := "wipe", desc := "(I)V" } : Jvm.MethodName) ({ cls := "OfficeLadderModel", name := "wipe", desc := "(I)V" } : Jvm.MethodName)) ∈ lw_good := g_tw 51 (by decide +kernel) (by decide +kernel)
theorem tw52 : (Jvm.Cond.selects "OfficeLadderModel" ({ cls := "OfficeLadderModel", name := "lacksLaw", desc := "(I)I" } : Jvm.MethodName) ({ cls := "OfficeLadderModel", name := "lacksLaw", desc := "(I)I" } : Jvm.MethodName)) ∈ lw_good := g_tw 52 (by decide +kernel) (by decide +kernel)
theorem tw53 : (Jvm.Cond.initialized "OfficeLadderLaw") ∈ lw_good := g_tw 53 (by decide +kernel) (by decide +kernel)
theorem tw54 : (Jvm.Cond.initialized "OfficeLadder") ∈ lw_good := g_tw 54 (by decide +kernel) (by decide +kernel)
theorem tw55 : (Jvm.Cond.initialized "OfficeLadder$Republic") ∈ lw_good := g_tw 55 (by decide +kernel) (by decide +kernel)
theorem tw56 : (Jvm.Cond.initialized "OfficeLadder$Past") ∈ lw_good := g_tw 56 (by decide +kernel) (by decide +kernel)
theorem tw57 : (Jvm.Cond.initialized "OfficeLadder$Filler") ∈ lw_good := g_tw 57 (by decide +kernel) (by decide +kernel)
theorem tw58 : (Jvm.Cond.initialized "OfficeLadder$Election") ∈ lw_good := g_tw 58 (by decide +kernel) (by decide +kernel)
theorem tw59 : (Jvm.Cond.initialized "OfficeLadder$Shelf") ∈ lw_good := g_tw 59 (by decide +kernel) (by decide +kernel)
theorem tw60 : (Jvm.Cond.initialized "OfficeLadderModel") ∈ lw_good := g_tw 60 (by decide +kernel) (by decide +kernel)
theorem tw61 : (Jvm.Cond.initialized "OfficeLadder$Office") ∈ lw_good := g_tw 61 (by decide +kernel) (by decide +kernel)
theorem tw62 : (Jvm.Cond.initialized "java/util/Arrays") ∈ lw_good := g_tw 62 (by decide +kernel) (by decide +kernel)
theorem tw63 : (Jvm.Cond.initialized "OfficeLadder$Person") ∈ lw_good := g_tw 63 (by decide +kernel) (by decide +kernel)
theorem tw64 : (Jvm.Cond.initialized "OfficeLadder$Law") ∈ lw_good := g_tw 64 (by decide +kernel) (by decide +kernel)
theorem tw65 : (Jvm.Cond.initialized "java/lang/Integer") ∈ lw_good := g_tw 65 (by decide +kernel) (by decide +kernel)
theorem tw66 : (Jvm.Cond.initialized "java/lang/Throwable") ∈ lw_good := g_tw 66 (by decide +kernel) (by decide +kernel)
theorem tw67 : (Jvm.Cond.initialized "java/lang/Exception") ∈ lw_good := g_tw 67 (by decide +kernel) (by decide +kernel)
theorem tw68 : (Jvm.Cond.initialized "java/lang/RuntimeException") ∈ lw_good := g_tw 68 (by decide +kernel) (by decide +kernel)
theorem tw69 : (Jvm.Cond.initialized "java/lang/IllegalArgumentException") ∈ lw_good := g_tw 69 (by decide +kernel) (by decide +kernel)
theorem tw70 : (Jvm.Cond.initialized "java/lang/IllegalStateException") ∈ lw_good := g_tw 70 (by decide +kernel) (by decide +kernel)
theorem tw71 : (Jvm.Cond.initialized "java/lang/System") ∈ lw_good := g_tw 71 (by decide +kernel) (by decide +kernel)
theorem tw72 : (Jvm.Cond.classLink "OfficeLadderLaw" (8 : Nat) "OfficeLadder") ∈ lw_good := g_tw 72 (by decide +kernel) (by decide +kernel)
theorem tw73 : (Jvm.Cond.instantiable "OfficeLadder" (5 : Nat)) ∈ lw_good := g_tw 73 (by decide +kernel) (by decide +kernel)
theorem tw74 : (Jvm.Cond.methodLink "OfficeLadderLaw" (17 : Nat) ({ cls := "OfficeLadder", name := "<init>", desc := "()V" } : Jvm.MethodName)) ∈ lw_good := g_tw 74 (by decide +kernel) (by decide +kernel)
theorem tw75 : (Jvm.Cond.instanceMethod ({ cls := "OfficeLadder", name := "<init>", desc := "()V" } : Jvm.MethodName)) ∈ lw_good := g_tw 75 (by decide +kernel) (by decide +kernel)
theorem tw76 : (Jvm.Cond.code ({ cls := "OfficeLadder", name := "<init>", desc := "()V" } : Jvm.MethodName) prog_1_method_1_code (2 : Nat) (Option.none : Option Jvm.ClassFile.FieldType)) ∈ lw_good := g_tw 76 (by decide +kernel) (by decide +kernel)
theorem tw77 : (Jvm.Cond.methodLink "OfficeLadder" (3 : Nat) ({ cls := "java/lang/Object", name := "<init>", desc := "()V" } : Jvm.MethodName)) ∈ lw_good := g_tw 77 (by decide +kernel) (by decide +kernel)
theorem tw78 : (Jvm.Cond.instanceMethod ({ cls := "java/lang/Object", name := "<init>", desc := "()V" } : Jvm.MethodName)) ∈ lw_good := g_tw 78 (by decide +kernel) (by decide +kernel)
theorem tw79 : (Jvm.Cond.code ({ cls := "java/lang/Object", name := "<init>", desc := "()V" } : Jvm.MethodName) object_method_1_code (1 : Nat) (Option.none : Option Jvm.ClassFile.FieldType)) ∈ lw_good := g_tw 79 (by decide +kernel) (by decide +kernel)
theorem tw80 : (Jvm.Cond.classLink "OfficeLadder" (9 : Nat) "OfficeLadder$Republic") ∈ lw_good := g_tw 80 (by decide +kernel) (by decide +kernel)
theorem tw81 : (Jvm.Cond.instantiable "OfficeLadder$Republic" (9 : Nat)) ∈ lw_good := g_tw 81 (by decide +kernel) (by decide +kernel)
theorem tw83 : (Jvm.Cond.instanceMethod ({ cls := "OfficeLadder$Republic", name := "<init>", desc := "()V" } : Jvm.MethodName)) ∈ lw_good := g_tw 83 (by decide +kernel) (by decide +kernel)
theorem tw84 : (Jvm.Cond.code ({ cls := "OfficeLadder$Republic", name := "<init>", desc := "()V" } : Jvm.MethodName) prog_8_method_1_code (1 : Nat) (Option.none : Option Jvm.ClassFile.FieldType)) ∈ lw_good := g_tw 84 (by decide +kernel) (by decide +kernel)
theorem tw85 : (Jvm.Cond.methodLink "OfficeLadder$Republic" (3 : Nat) ({ cls := "java/lang/Object", name := "<init>", desc := "()V" } : Jvm.MethodName)) ∈ lw_good := g_tw 85 (by decide +kernel) (by decide +kernel)
theorem tw86 : (Jvm.Cond.classLink "OfficeLadder$Republic" (9 : Nat) "OfficeLadder$Office") ∈ lw_good := g_tw 86 (by decide +kernel) (by decide +kernel)
theorem tw88 : (Jvm.Cond.classLink "OfficeLadder$Republic" (17 : Nat) "OfficeLadder$Person") ∈ lw_good := g_tw 88 (by decide +kernel) (by decide +kernel)
theorem tw90 : (Jvm.Cond.classLink "OfficeLadder$Republic" (23 : Nat) "OfficeLadder$Law") ∈ lw_good := g_tw 90 (by decide +kernel) (by decide +kernel)
theorem tw92 : (Jvm.Cond.classLink "OfficeLadder$Republic" (45 : Nat) "OfficeLadder$Past") ∈ lw_good := g_tw 92 (by decide +kernel) (by decide +kernel)
theorem tw93 : (Jvm.Cond.instantiable "OfficeLadder$Past" (4 : Nat)) ∈ lw_good := g_tw 93 (by decide +kernel) (by decide +kernel)
theorem tw95 : (Jvm.Cond.instanceMethod ({ cls := "OfficeLadder$Past", name := "<init>", desc := "()V" } : Jvm.MethodName)) ∈ lw_good := g_tw 95 (by decide +kernel) (by decide +kernel)
theorem tw96 : (Jvm.Cond.code ({ cls := "OfficeLadder$Past", name := "<init>", desc := "()V" } : Jvm.MethodName) prog_6_method_1_code (1 : Nat) (Option.none : Option Jvm.ClassFile.FieldType)) ∈ lw_good := g_tw 96 (by decide +kernel) (by decide +kernel)
theorem tw97 : (Jvm.Cond.methodLink "OfficeLadder$Past" (3 : Nat) ({ cls := "java/lang/Object", name := "<init>", desc := "()V" } : Jvm.MethodName)) ∈ lw_good := g_tw 97 (by decide +kernel) (by decide +kernel)
theorem tw98 : (Jvm.Cond.fieldLink "OfficeLadder$Past" (9 : Nat) "OfficeLadder$Past" "officesHeld" "I") ∈ lw_good := g_tw 98 (by decide +kernel) (by decide +kernel)
theorem tw99 : (Jvm.Cond.fieldLink "OfficeLadder$Law" (35 : Nat) "OfficeLadder$Past" "officesHeld" "I") ∈ lw_good := g_tw 99 (by decide +kernel) (by decide +kernel)
theorem tw100 : (Jvm.Cond.fieldLink "OfficeLadder$Past" (15 : Nat) "OfficeLadder$Past" "lastHeld" "I") ∈ lw_good := g_tw 100 (by decide +kernel) (by decide +kernel)
theorem tw101 : (Jvm.Cond.fieldLink "OfficeLadder$Law" (40 : Nat) "OfficeLadder$Past" "lastHeld" "I") ∈ lw_good := g_tw 101 (by decide +kernel) (by decide +kernel)
theorem tw102 : (Jvm.Cond.fieldLink "OfficeLadder$Past" (18 : Nat) "OfficeLadder$Past" "lastHeldHere" "I") ∈ lw_good := g_tw 102 (by decide +kernel) (by decide +kernel)
theorem tw103 : (Jvm.Cond.fieldLink "OfficeLadder$Law" (43 : Nat) "OfficeLadder$Past" "lastHeldHere" "I") ∈ lw_good := g_tw 103 (by decide +kernel) (by decide +kernel)
theorem tw104 : (Jvm.Cond.fieldLink "OfficeLadder$Past" (36 : Nat) "OfficeLadder$Past" "kinHolds" "Z") ∈ lw_good := g_tw 104 (by decide +kernel) (by decide +kernel)
theorem tw105 : (Jvm.Cond.fieldLink "OfficeLadder$Law" (49 : Nat) "OfficeLadder$Past" "kinHolds" "Z") ∈ lw_good := g_tw 105 (by decide +kernel) (by decide +kernel)
theorem tw115 : (Jvm.Cond.fieldLink "OfficeLadder$Republic" (11 : Nat) "OfficeLadder$Republic" "offices" "[LOfficeLadder$Office;") ∈ lw_good := g_tw 115 (by decide +kernel) (by decide +kernel)
theorem tw116 : (Jvm.Cond.fieldLink "OfficeLadder$Filler" (65 : Nat) "OfficeLadder$Republic" "offices" "[LOfficeLadder$Office;") ∈ lw_good := g_tw 116 (by decide +kernel) (by decide +kernel)
theorem tw117 : (Jvm.Cond.fieldLink "OfficeLadder" (132 : Nat) "OfficeLadder$Republic" "offices" "[LOfficeLadder$Office;") ∈ lw_good := g_tw 117 (by decide +kernel) (by decide +kernel)
theorem tw118 : (Jvm.Cond.fieldLink "OfficeLadder$Republic" (19 : Nat) "OfficeLadder$Republic" "people" "[LOfficeLadder$Person;") ∈ lw_good := g_tw 118 (by decide +kernel) (by decide +kernel)
theorem tw119 : (Jvm.Cond.fieldLink "OfficeLadder" (77 : Nat) "OfficeLadder$Republic" "people" "[LOfficeLadder$Person;") ∈ lw_good := g_tw 119 (by decide +kernel) (by decide +kernel)
theorem tw120 : (Jvm.Cond.fieldLink "OfficeLadder$Filler" (124 : Nat) "OfficeLadder$Republic" "people" "[LOfficeLadder$Person;") ∈ lw_good := g_tw 120 (by decide +kernel) (by decide +kernel)
theorem tw121 : (Jvm.Cond.fieldLink "OfficeLadder$Republic" (25 : Nat) "OfficeLadder$Republic" "laws" "[LOfficeLadder$Law;") ∈ lw_good := g_tw 121 (by decide +kernel) (by decide +kernel)
theorem tw122 : (Jvm.Cond.fieldLink "OfficeLadder" (122 : Nat) "OfficeLadder$Republic" "laws" "[LOfficeLadder$Law;") ∈ lw_good := g_tw 122 (by decide +kernel) (by decide +kernel)
theorem tw123 : (Jvm.Cond.fieldLink "OfficeLadder$Republic" (29 : Nat) "OfficeLadder$Republic" "officeCount" "I") ∈ lw_good := g_tw 123 (by decide +kernel) (by decide +kernel)
theorem tw124 : (Jvm.Cond.fieldLink "OfficeLadder" (41 : Nat) "OfficeLadder$Republic" "officeCount" "I") ∈ lw_good := g_tw 124 (by decide +kernel) (by decide +kernel)
theorem tw125 : (Jvm.Cond.fieldLink "OfficeLadder$Filler" (60 : Nat) "OfficeLadder$Republic" "officeCount" "I") ∈ lw_good := g_tw 125 (by decide +kernel) (by decide +kernel)
theorem tw126 : (Jvm.Cond.fieldLink "OfficeLadder$Republic" (33 : Nat) "OfficeLadder$Republic" "personCount" "I") ∈ lw_good := g_tw 126 (by decide +kernel) (by decide +kernel)
theorem tw127 : (Jvm.Cond.fieldLink "OfficeLadder" (65 : Nat) "OfficeLadder$Republic" "personCount" "I") ∈ lw_good := g_tw 127 (by decide +kernel) (by decide +kernel)
theorem tw128 : (Jvm.Cond.fieldLink "OfficeLadder$Filler" (102 : Nat) "OfficeLadder$Republic" "personCount" "I") ∈ lw_good := g_tw 128 (by decide +kernel) (by decide +kernel)
theorem tw129 : (Jvm.Cond.fieldLink "OfficeLadder$Republic" (36 : Nat) "OfficeLadder$Republic" "lawCount" "I") ∈ lw_good := g_tw 129 (by decide +kernel) (by decide +kernel)
theorem tw130 : (Jvm.Cond.fieldLink "OfficeLadder" (107 : Nat) "OfficeLadder$Republic" "lawCount" "I") ∈ lw_good := g_tw 130 (by decide +kernel) (by decide +kernel)
theorem tw131 : (Jvm.Cond.fieldLink "OfficeLadder$Republic" (39 : Nat) "OfficeLadder$Republic" "heldSeats" "I") ∈ lw_good := g_tw 131 (by decide +kernel) (by decide +kernel)
theorem tw132 : (Jvm.Cond.fieldLink "OfficeLadder" (239 : Nat) "OfficeLadder$Republic" "heldSeats" "I") ∈ lw_good := g_tw 132 (by decide +kernel) (by decide +kernel)
theorem tw133 : (Jvm.Cond.fieldLink "OfficeLadder$Republic" (42 : Nat) "OfficeLadder$Republic" "voidSeats" "I") ∈ lw_good := g_tw 133 (by decide +kernel) (by decide +kernel)
theorem tw134 : (Jvm.Cond.fieldLink "OfficeLadder" (242 : Nat) "OfficeLadder$Republic" "voidSeats" "I") ∈ lw_good := g_tw 134 (by decide +kernel) (by decide +kernel)
theorem tw135 : (Jvm.Cond.fieldLink "OfficeLadder$Republic" (48 : Nat) "OfficeLadder$Republic" "past" "LOfficeLadder$Past;") ∈ lw_good := g_tw 135 (by decide +kernel) (by decide +kernel)
theorem tw155 : (Jvm.Cond.classLink "OfficeLadder" (16 : Nat) "OfficeLadder$Filler") ∈ lw_good := g_tw 155 (by decide +kernel) (by decide +kernel)
theorem tw156 : (Jvm.Cond.instantiable "OfficeLadder$Filler" (15 : Nat)) ∈ lw_good := g_tw 156 (by decide +kernel) (by decide +kernel)
theorem tw158 : (Jvm.Cond.instanceMethod ({ cls := "OfficeLadder$Filler", name := "<init>", desc := "()V" } : Jvm.MethodName)) ∈ lw_good := g_tw 158 (by decide +kernel) (by decide +kernel)
theorem tw159 : (Jvm.Cond.code ({ cls := "OfficeLadder$Filler", name := "<init>", desc := "()V" } : Jvm.MethodName) prog_3_method_1_code (1 : Nat) (Option.none : Option Jvm.ClassFile.FieldType)) ∈ lw_good := g_tw 159 (by decide +kernel) (by decide +kernel)
theorem tw160 : (Jvm.Cond.methodLink "OfficeLadder$Filler" (3 : Nat) ({ cls := "java/lang/Object", name := "<init>", desc := "()V" } : Jvm.MethodName)) ∈ lw_good := g_tw 160 (by decide +kernel) (by decide +kernel)
theorem tw161 : (Jvm.Cond.fieldLink "OfficeLadder$Filler" (57 : Nat) "OfficeLadder$Filler" "slots" "I") ∈ lw_good := g_tw 161 (by decide +kernel) (by decide +kernel)
theorem tw162 : (Jvm.Cond.fieldLink "OfficeLadder" (197 : Nat) "OfficeLadder$Filler" "slots" "I") ∈ lw_good := g_tw 162 (by decide +kernel) (by decide +kernel)
theorem tw163 : (Jvm.Cond.fieldLink "OfficeLadder$Filler" (42 : Nat) "OfficeLadder$Filler" "found" "I") ∈ lw_good := g_tw 163 (by decide +kernel) (by decide +kernel)
theorem tw164 : (Jvm.Cond.fieldLink "OfficeLadder" (190 : Nat) "OfficeLadder$Filler" "found" "I") ∈ lw_good := g_tw 164 (by decide +kernel) (by decide +kernel)
theorem tw165 : (Jvm.Cond.fieldLink "OfficeLadder$Filler" (45 : Nat) "OfficeLadder$Filler" "hits" "I") ∈ lw_good := g_tw 165 (by decide +kernel) (by decide +kernel)
theorem tw166 : (Jvm.Cond.fieldLink "OfficeLadder" (200 : Nat) "OfficeLadder$Filler" "hits" "I") ∈ lw_good := g_tw 166 (by decide +kernel) (by decide +kernel)
theorem tw167 : (Jvm.Cond.fieldLink "OfficeLadder$Filler" (51 : Nat) "OfficeLadder$Filler" "spent" "Z") ∈ lw_good := g_tw 167 (by decide +kernel) (by decide +kernel)
theorem tw168 : (Jvm.Cond.fieldLink "OfficeLadder" (186 : Nat) "OfficeLadder$Filler" "spent" "Z") ∈ lw_good := g_tw 168 (by decide +kernel) (by decide +kernel)
theorem tw169 : (Jvm.Cond.fieldLink "OfficeLadder$Filler" (48 : Nat) "OfficeLadder$Filler" "tries" "I") ∈ lw_good := g_tw 169 (by decide +kernel) (by decide +kernel)
theorem tw170 : (Jvm.Cond.fieldLink "OfficeLadder$Filler" (38 : Nat) "OfficeLadder$Filler" "onlyFirst" "Z") ∈ lw_good := g_tw 170 (by decide +kernel) (by decide +kernel)
theorem tw171 : (Jvm.Cond.fieldLink "OfficeLadder$Filler" (31 : Nat) "OfficeLadder$Filler" "askedPerson" "I") ∈ lw_good := g_tw 171 (by decide +kernel) (by decide +kernel)
theorem tw172 : (Jvm.Cond.fieldLink "OfficeLadder$Filler" (35 : Nat) "OfficeLadder$Filler" "askedOffice" "I") ∈ lw_good := g_tw 172 (by decide +kernel) (by decide +kernel)
theorem tw173 : (Jvm.Cond.fieldLink "OfficeLadder$Filler" (54 : Nat) "OfficeLadder$Filler" "seated" "I") ∈ lw_good := g_tw 173 (by decide +kernel) (by decide +kernel)
theorem tw174 : (Jvm.Cond.fieldLink "OfficeLadder$Filler" (9 : Nat) "OfficeLadder$Filler" "slotOffice" "[I") ∈ lw_good := g_tw 174 (by decide +kernel) (by decide +kernel)
theorem tw175 : (Jvm.Cond.fieldLink "OfficeLadder$Filler" (15 : Nat) "OfficeLadder$Filler" "slotSeat" "[I") ∈ lw_good := g_tw 175 (by decide +kernel) (by decide +kernel)
theorem tw176 : (Jvm.Cond.fieldLink "OfficeLadder$Filler" (18 : Nat) "OfficeLadder$Filler" "chosen" "[I") ∈ lw_good := g_tw 176 (by decide +kernel) (by decide +kernel)
theorem tw177 : (Jvm.Cond.fieldLink "OfficeLadder$Filler" (21 : Nat) "OfficeLadder$Filler" "able" "[I") ∈ lw_good := g_tw 177 (by decide +kernel) (by decide +kernel)
theorem tw178 : (Jvm.Cond.fieldLink "OfficeLadder$Filler" (24 : Nat) "OfficeLadder$Filler" "kinBound" "[Z") ∈ lw_good := g_tw 178 (by decide +kernel) (by decide +kernel)
theorem tw179 : (Jvm.Cond.fieldLink "OfficeLadder$Filler" (28 : Nat) "OfficeLadder$Filler" "putInto" "[I") ∈ lw_good := g_tw 179 (by decide +kernel) (by decide +kernel)
theorem tw211 : (Jvm.Cond.arrayClass Jvm.ClassFile.FieldType.int) ∈ lw_good := g_tw 211 (by decide +kernel) (by decide +kernel)
theorem tw212 : (Jvm.Cond.arrayClass Jvm.ClassFile.FieldType.boolean) ∈ lw_good := g_tw 212 (by decide +kernel) (by decide +kernel)
theorem tw213 : (Jvm.Cond.classLink "OfficeLadder" (23 : Nat) "OfficeLadder$Election") ∈ lw_good := g_tw 213 (by decide +kernel) (by decide +kernel)
theorem tw214 : (Jvm.Cond.instantiable "OfficeLadder$Election" (11 : Nat)) ∈ lw_good := g_tw 214 (by decide +kernel) (by decide +kernel)
theorem tw216 : (Jvm.Cond.instanceMethod ({ cls := "OfficeLadder$Election", name := "<init>", desc := "()V" } : Jvm.MethodName)) ∈ lw_good := g_tw 216 (by decide +kernel) (by decide +kernel)
theorem tw217 : (Jvm.Cond.code ({ cls := "OfficeLadder$Election", name := "<init>", desc := "()V" } : Jvm.MethodName) prog_2_method_1_code (1 : Nat) (Option.none : Option Jvm.ClassFile.FieldType)) ∈ lw_good := g_tw 217 (by decide +kernel) (by decide +kernel)
theorem tw218 : (Jvm.Cond.methodLink "OfficeLadder$Election" (3 : Nat) ({ cls := "java/lang/Object", name := "<init>", desc := "()V" } : Jvm.MethodName)) ∈ lw_good := g_tw 218 (by decide +kernel) (by decide +kernel)
theorem tw219 : (Jvm.Cond.fieldLink "OfficeLadder$Election" (9 : Nat) "OfficeLadder$Election" "candidates" "I") ∈ lw_good := g_tw 219 (by decide +kernel) (by decide +kernel)
theorem tw220 : (Jvm.Cond.fieldLink "OfficeLadder$Election" (15 : Nat) "OfficeLadder$Election" "seats" "I") ∈ lw_good := g_tw 220 (by decide +kernel) (by decide +kernel)
theorem tw221 : (Jvm.Cond.fieldLink "OfficeLadder" (215 : Nat) "OfficeLadder$Election" "seats" "I") ∈ lw_good := g_tw 221 (by decide +kernel) (by decide +kernel)
theorem tw222 : (Jvm.Cond.fieldLink "OfficeLadder$Election" (18 : Nat) "OfficeLadder$Election" "voted" "I") ∈ lw_good := g_tw 222 (by decide +kernel) (by decide +kernel)
theorem tw223 : (Jvm.Cond.fieldLink "OfficeLadder" (203 : Nat) "OfficeLadder$Election" "voted" "I") ∈ lw_good := g_tw 223 (by decide +kernel) (by decide +kernel)
theorem tw224 : (Jvm.Cond.fieldLink "OfficeLadder$Election" (21 : Nat) "OfficeLadder$Election" "winners" "[I") ∈ lw_good := g_tw 224 (by decide +kernel) (by decide +kernel)
theorem tw225 : (Jvm.Cond.fieldLink "OfficeLadder" (222 : Nat) "OfficeLadder$Election" "winners" "[I") ∈ lw_good := g_tw 225 (by decide +kernel) (by decide +kernel)
theorem tw226 : (Jvm.Cond.fieldLink "OfficeLadder$Election" (25 : Nat) "OfficeLadder$Election" "after" "[I") ∈ lw_good := g_tw 226 (by decide +kernel) (by decide +kernel)
theorem tw227 : (Jvm.Cond.fieldLink "OfficeLadder" (225 : Nat) "OfficeLadder$Election" "after" "[I") ∈ lw_good := g_tw 227 (by decide +kernel) (by decide +kernel)
theorem tw228 : (Jvm.Cond.fieldLink "OfficeLadder$Election" (28 : Nat) "OfficeLadder$Election" "electedCount" "I") ∈ lw_good := g_tw 228 (by decide +kernel) (by decide +kernel)
theorem tw229 : (Jvm.Cond.fieldLink "OfficeLadder$Election" (31 : Nat) "OfficeLadder$Election" "ballots" "[I") ∈ lw_good := g_tw 229 (by decide +kernel) (by decide +kernel)
theorem tw230 : (Jvm.Cond.fieldLink "OfficeLadder$Election" (34 : Nat) "OfficeLadder$Election" "order" "[I") ∈ lw_good := g_tw 230 (by decide +kernel) (by decide +kernel)
theorem tw231 : (Jvm.Cond.fieldLink "OfficeLadder$Election" (37 : Nat) "OfficeLadder$Election" "votes" "[I") ∈ lw_good := g_tw 231 (by decide +kernel) (by decide +kernel)
theorem tw232 : (Jvm.Cond.fieldLink "OfficeLadder$Election" (40 : Nat) "OfficeLadder$Election" "reachedAt" "[I") ∈ lw_good := g_tw 232 (by decide +kernel) (by decide +kernel)
theorem tw233 : (Jvm.Cond.fieldLink "OfficeLadder$Election" (43 : Nat) "OfficeLadder$Election" "ranked" "[I") ∈ lw_good := g_tw 233 (by decide +kernel) (by decide +kernel)
theorem tw257 : (Jvm.Cond.classLink "OfficeLadder" (30 : Nat) "OfficeLadder$Shelf") ∈ lw_good := g_tw 257 (by decide +kernel) (by decide +kernel)
theorem tw259 : (Jvm.Cond.instantiable "OfficeLadder$Shelf" (5 : Nat)) ∈ lw_good := g_tw 259 (by decide +kernel) (by decide +kernel)
theorem tw261 : (Jvm.Cond.instanceMethod ({ cls := "OfficeLadder$Shelf", name := "<init>", desc := "()V" } : Jvm.MethodName)) ∈ lw_good := g_tw 261 (by decide +kernel) (by decide +kernel)
theorem tw262 : (Jvm.Cond.code ({ cls := "OfficeLadder$Shelf", name := "<init>", desc := "()V" } : Jvm.MethodName) prog_9_method_1_code (1 : Nat) (Option.none : Option Jvm.ClassFile.FieldType)) ∈ lw_good := g_tw 262 (by decide +kernel) (by decide +kernel)
theorem tw263 : (Jvm.Cond.methodLink "OfficeLadder$Shelf" (3 : Nat) ({ cls := "java/lang/Object", name := "<init>", desc := "()V" } : Jvm.MethodName)) ∈ lw_good := g_tw 263 (by decide +kernel) (by decide +kernel)
theorem tw264 : (Jvm.Cond.fieldLink "OfficeLadder$Shelf" (9 : Nat) "OfficeLadder$Shelf" "kind" "I") ∈ lw_good := g_tw 264 (by decide +kernel) (by decide +kernel)
theorem tw265 : (Jvm.Cond.fieldLink "OfficeLadder" (290 : Nat) "OfficeLadder$Shelf" "kind" "I") ∈ lw_good := g_tw 265 (by decide +kernel) (by decide +kernel)
theorem tw266 : (Jvm.Cond.fieldLink "OfficeLadder$Shelf" (15 : Nat) "OfficeLadder$Shelf" "law" "LOfficeLadder$Law;") ∈ lw_good := g_tw 266 (by decide +kernel) (by decide +kernel)
theorem tw267 : (Jvm.Cond.fieldLink "OfficeLadder" (303 : Nat) "OfficeLadder$Shelf" "law" "LOfficeLadder$Law;") ∈ lw_good := g_tw 267 (by decide +kernel) (by decide +kernel)
theorem tw268 : (Jvm.Cond.fieldLink "OfficeLadder$Shelf" (19 : Nat) "OfficeLadder$Shelf" "length" "I") ∈ lw_good := g_tw 268 (by decide +kernel) (by decide +kernel)
theorem tw269 : (Jvm.Cond.fieldLink "OfficeLadder" (281 : Nat) "OfficeLadder$Shelf" "length" "I") ∈ lw_good := g_tw 269 (by decide +kernel) (by decide +kernel)
theorem tw270 : (Jvm.Cond.fieldLink "OfficeLadder$Shelf" (22 : Nat) "OfficeLadder$Shelf" "bytes" "[B") ∈ lw_good := g_tw 270 (by decide +kernel) (by decide +kernel)
theorem tw271 : (Jvm.Cond.fieldLink "OfficeLadder$Shelf" (26 : Nat) "OfficeLadder$Shelf" "ints" "[I") ∈ lw_good := g_tw 271 (by decide +kernel) (by decide +kernel)
theorem tw283 : (Jvm.Cond.arrayClass Jvm.ClassFile.FieldType.byte) ∈ lw_good := g_tw 283 (by decide +kernel) (by decide +kernel)
theorem tw284 : (Jvm.Cond.fieldLink "OfficeLadder" (12 : Nat) "OfficeLadder" "republic" "LOfficeLadder$Republic;") ∈ lw_good := g_tw 284 (by decide +kernel) (by decide +kernel)
theorem tw285 : (Jvm.Cond.fieldLink "OfficeLadder" (19 : Nat) "OfficeLadder" "filler" "LOfficeLadder$Filler;") ∈ lw_good := g_tw 285 (by decide +kernel) (by decide +kernel)
theorem tw286 : (Jvm.Cond.fieldLink "OfficeLadder" (26 : Nat) "OfficeLadder" "poll" "LOfficeLadder$Election;") ∈ lw_good := g_tw 286 (by decide +kernel) (by decide +kernel)
theorem tw287 : (Jvm.Cond.fieldLink "OfficeLadder" (32 : Nat) "OfficeLadder" "shelves" "[LOfficeLadder$Shelf;") ∈ lw_good := g_tw 287 (by decide +kernel) (by decide +kernel)
theorem tw288 : (Jvm.Cond.fieldLink "OfficeLadder" (36 : Nat) "OfficeLadder" "lots" "[I") ∈ lw_good := g_tw 288 (by decide +kernel) (by decide +kernel)
theorem tw300 : (Jvm.Cond.methodLink "OfficeLadderLaw" (21 : Nat) ({ cls := "OfficeLadder", name := "office", desc := "(IZ)I" } : Jvm.MethodName)) ∈ lw_good := g_tw 300 (by decide +kernel) (by decide +kernel)
theorem tw301 : (Jvm.Cond.instanceMethod ({ cls := "OfficeLadder", name := "office", desc := "(IZ)I" } : Jvm.MethodName)) ∈ lw_good := g_tw 301 (by decide +kernel) (by decide +kernel)
theorem tw302 : (Jvm.Cond.selects "OfficeLadder" ({ cls := "OfficeLadder", name := "office", desc := "(IZ)I" } : Jvm.MethodName) ({ cls := "OfficeLadder", name := "office", desc := "(IZ)I" } : Jvm.MethodName)) ∈ lw_good := g_tw 302 (by decide +kernel) (by decide +kernel)
theorem tw303 : (Jvm.Cond.code ({ cls := "OfficeLadder", name := "office", desc := "(IZ)I" } : Jvm.MethodName) prog_1_method_2_code (3 : Nat) (Option.some Jvm.ClassFile.FieldType.int)) ∈ lw_good := g_tw 303 (by decide +kernel) (by decide +kernel)
theorem tw304 : (Jvm.Cond.classLink "OfficeLadder" (45 : Nat) "OfficeLadder$Office") ∈ lw_good := g_tw 304 (by decide +kernel) (by decide +kernel)
theorem tw305 : (Jvm.Cond.instantiable "OfficeLadder$Office" (3 : Nat)) ∈ lw_good := g_tw 305 (by decide +kernel) (by decide +kernel)
theorem tw306 : (Jvm.Cond.methodLink "OfficeLadder" (47 : Nat) ({ cls := "OfficeLadder$Office", name := "<init>", desc := "(IZ)V" } : Jvm.MethodName)) ∈ lw_good := g_tw 306 (by decide +kernel) (by decide +kernel)
theorem tw307 : (Jvm.Cond.instanceMethod ({ cls := "OfficeLadder$Office", name := "<init>", desc := "(IZ)V" } : Jvm.MethodName)) ∈ lw_good := g_tw 307 (by decide +kernel) (by decide +kernel)
theorem tw308 : (Jvm.Cond.code ({ cls := "OfficeLadder$Office", name := "<init>", desc := "(IZ)V" } : Jvm.MethodName) prog_5_method_1_code (3 : Nat) (Option.none : Option Jvm.ClassFile.FieldType)) ∈ lw_good := g_tw 308 (by decide +kernel) (by decide +kernel)
theorem tw309 : (Jvm.Cond.methodLink "OfficeLadder$Office" (3 : Nat) ({ cls := "java/lang/Object", name := "<init>", desc := "()V" } : Jvm.MethodName)) ∈ lw_good := g_tw 309 (by decide +kernel) (by decide +kernel)
theorem tw310 : (Jvm.Cond.methodLink "OfficeLadder$Office" (23 : Nat) ({ cls := "java/util/Arrays", name := "fill", desc := "([BB)V" } : Jvm.MethodName)) ∈ lw_good := g_tw 310 (by decide +kernel) (by decide +kernel)
theorem tw311 : (Jvm.Cond.static ({ cls := "java/util/Arrays", name := "fill", desc := "([BB)V" } : Jvm.MethodName)) ∈ lw_good := g_tw 311 (by decide +kernel) (by decide +kernel)
theorem tw312 : (Jvm.Cond.code ({ cls := "java/util/Arrays", name := "fill", desc := "([BB)V" } : Jvm.MethodName) prog_20_method_109_code (4 : Nat) (Option.none : Option Jvm.ClassFile.FieldType)) ∈ lw_good := g_tw 312 (by decide +kernel) (by decide +kernel)
theorem tw313 : (Jvm.Cond.fieldLink "OfficeLadder$Office" (9 : Nat) "OfficeLadder$Office" "seats" "I") ∈ lw_good := g_tw 313 (by decide +kernel) (by decide +kernel)
theorem tw314 : (Jvm.Cond.fieldLink "OfficeLadder$Filler" (89 : Nat) "OfficeLadder$Office" "seats" "I") ∈ lw_good := g_tw 314 (by decide +kernel) (by decide +kernel)
theorem tw315 : (Jvm.Cond.fieldLink "OfficeLadder$Republic" (59 : Nat) "OfficeLadder$Office" "seats" "I") ∈ lw_good := g_tw 315 (by decide +kernel) (by decide +kernel)
theorem tw316 : (Jvm.Cond.fieldLink "OfficeLadder$Office" (15 : Nat) "OfficeLadder$Office" "free" "Z") ∈ lw_good := g_tw 316 (by decide +kernel) (by decide +kernel)
theorem tw317 : (Jvm.Cond.fieldLink "OfficeLadder$Republic" (99 : Nat) "OfficeLadder$Office" "free" "Z") ∈ lw_good := g_tw 317 (by decide +kernel) (by decide +kernel)
theorem tw318 : (Jvm.Cond.fieldLink "OfficeLadder$Office" (19 : Nat) "OfficeLadder$Office" "codes" "[B") ∈ lw_good := g_tw 318 (by decide +kernel) (by decide +kernel)
theorem tw326 : (Jvm.Cond.methodLink "OfficeLadder" (50 : Nat) ({ cls := "OfficeLadder$Republic", name := "addOffice", desc := "(LOfficeLadder$Office;)I" } : Jvm.MethodName)) ∈ lw_good := g_tw 326 (by decide +kernel) (by decide +kernel)
theorem tw327 : (Jvm.Cond.instanceMethod ({ cls := "OfficeLadder$Republic", name := "addOffice", desc := "(LOfficeLadder$Office;)I" } : Jvm.MethodName)) ∈ lw_good := g_tw 327 (by decide +kernel) (by decide +kernel)
theorem tw328 : (Jvm.Cond.selects "OfficeLadder$Republic" ({ cls := "OfficeLadder$Republic", name := "addOffice", desc := "(LOfficeLadder$Office;)I" } : Jvm.MethodName) ({ cls := "OfficeLadder$Republic", name := "addOffice", desc := "(LOfficeLadder$Office;)I" } : Jvm.MethodName)) ∈ lw_good := g_tw 328 (by decide +kernel) (by decide +kernel)
theorem tw329 : (Jvm.Cond.code ({ cls := "OfficeLadder$Republic", name := "addOffice", desc := "(LOfficeLadder$Office;)I" } : Jvm.MethodName) prog_8_method_7_code (2 : Nat) (Option.some Jvm.ClassFile.FieldType.int)) ∈ lw_good := g_tw 329 (by decide +kernel) (by decide +kernel)
theorem tw330 : (Jvm.Cond.methodLink "OfficeLadderLaw" (26 : Nat) ({ cls := "OfficeLadder", name := "person", desc := "(IIII)I" } : Jvm.MethodName)) ∈ lw_good := g_tw 330 (by decide +kernel) (by decide +kernel)
theorem tw331 : (Jvm.Cond.instanceMethod ({ cls := "OfficeLadder", name := "person", desc := "(IIII)I" } : Jvm.MethodName)) ∈ lw_good := g_tw 331 (by decide +kernel) (by decide +kernel)
theorem tw332 : (Jvm.Cond.selects "OfficeLadder" ({ cls := "OfficeLadder", name := "person", desc := "(IIII)I" } : Jvm.MethodName) ({ cls := "OfficeLadder", name := "person", desc := "(IIII)I" } : Jvm.MethodName)) ∈ lw_good := g_tw 332 (by decide +kernel) (by decide +kernel)
theorem tw333 : (Jvm.Cond.code ({ cls := "OfficeLadder", name := "person", desc := "(IIII)I" } : Jvm.MethodName) prog_1_method_3_code (5 : Nat) (Option.some Jvm.ClassFile.FieldType.int)) ∈ lw_good := g_tw 333 (by decide +kernel) (by decide +kernel)
theorem tw334 : (Jvm.Cond.methodLink "OfficeLadder" (54 : Nat) ({ cls := "OfficeLadder", name := "isOrder", desc := "(I)Z" } : Jvm.MethodName)) ∈ lw_good := g_tw 334 (by decide +kernel) (by decide +kernel)
theorem tw335 : (Jvm.Cond.static ({ cls := "OfficeLadder", name := "isOrder", desc := "(I)Z" } : Jvm.MethodName)) ∈ lw_good := g_tw 335 (by decide +kernel) (by decide +kernel)
theorem tw336 : (Jvm.Cond.code ({ cls := "OfficeLadder", name := "isOrder", desc := "(I)Z" } : Jvm.MethodName) prog_1_method_38_code (1 : Nat) (Option.some Jvm.ClassFile.FieldType.boolean)) ∈ lw_good := g_tw 336 (by decide +kernel) (by decide +kernel)
theorem tw337 : (Jvm.Cond.methodLink "OfficeLadder" (58 : Nat) ({ cls := "OfficeLadder", name := "isBirth", desc := "(II)Z" } : Jvm.MethodName)) ∈ lw_good := g_tw 337 (by decide +kernel) (by decide +kernel)
theorem tw338 : (Jvm.Cond.static ({ cls := "OfficeLadder", name := "isBirth", desc := "(II)Z" } : Jvm.MethodName)) ∈ lw_good := g_tw 338 (by decide +kernel) (by decide +kernel)
theorem tw339 : (Jvm.Cond.code ({ cls := "OfficeLadder", name := "isBirth", desc := "(II)Z" } : Jvm.MethodName) prog_1_method_39_code (2 : Nat) (Option.some Jvm.ClassFile.FieldType.boolean)) ∈ lw_good := g_tw 339 (by decide +kernel) (by decide +kernel)
theorem tw340 : (Jvm.Cond.methodLink "OfficeLadder" (62 : Nat) ({ cls := "OfficeLadder$Republic", name := "hasPerson", desc := "(I)Z" } : Jvm.MethodName)) ∈ lw_good := g_tw 340 (by decide +kernel) (by decide +kernel)
theorem tw341 : (Jvm.Cond.instanceMethod ({ cls := "OfficeLadder$Republic", name := "hasPerson", desc := "(I)Z" } : Jvm.MethodName)) ∈ lw_good := g_tw 341 (by decide +kernel) (by decide +kernel)
theorem tw342 : (Jvm.Cond.selects "OfficeLadder$Republic" ({ cls := "OfficeLadder$Republic", name := "hasPerson", desc := "(I)Z" } : Jvm.MethodName) ({ cls := "OfficeLadder$Republic", name := "hasPerson", desc := "(I)Z" } : Jvm.MethodName)) ∈ lw_good := g_tw 342 (by decide +kernel) (by decide +kernel)
theorem tw343 : (Jvm.Cond.code ({ cls := "OfficeLadder$Republic", name := "hasPerson", desc := "(I)Z" } : Jvm.MethodName) prog_8_method_3_code (2 : Nat) (Option.some Jvm.ClassFile.FieldType.boolean)) ∈ lw_good := g_tw 343 (by decide +kernel) (by decide +kernel)
theorem tw344 : (Jvm.Cond.classLink "OfficeLadder" (68 : Nat) "OfficeLadder$Person") ∈ lw_good := g_tw 344 (by decide +kernel) (by decide +kernel)
theorem tw345 : (Jvm.Cond.instantiable "OfficeLadder$Person" (9 : Nat)) ∈ lw_good := g_tw 345 (by decide +kernel) (by decide +kernel)
theorem tw346 : (Jvm.Cond.methodLink "OfficeLadder" (70 : Nat) ({ cls := "OfficeLadder$Person", name := "<init>", desc := "(IIII)V" } : Jvm.MethodName)) ∈ lw_good := g_tw 346 (by decide +kernel) (by decide +kernel)
theorem tw347 : (Jvm.Cond.instanceMethod ({ cls := "OfficeLadder$Person", name := "<init>", desc := "(IIII)V" } : Jvm.MethodName)) ∈ lw_good := g_tw 347 (by decide +kernel) (by decide +kernel)
theorem tw348 : (Jvm.Cond.code ({ cls := "OfficeLadder$Person", name := "<init>", desc := "(IIII)V" } : Jvm.MethodName) prog_7_method_1_code (5 : Nat) (Option.none : Option Jvm.ClassFile.FieldType)) ∈ lw_good := g_tw 348 (by decide +kernel) (by decide +kernel)
theorem tw349 : (Jvm.Cond.methodLink "OfficeLadder$Person" (3 : Nat) ({ cls := "java/lang/Object", name := "<init>", desc := "()V" } : Jvm.MethodName)) ∈ lw_good := g_tw 349 (by decide +kernel) (by decide +kernel)
theorem tw350 : (Jvm.Cond.methodLink "OfficeLadder$Person" (40 : Nat) ({ cls := "java/util/Arrays", name := "fill", desc := "([BB)V" } : Jvm.MethodName)) ∈ lw_good := g_tw 350 (by decide +kernel) (by decide +kernel)
theorem tw351 : (Jvm.Cond.fieldLink "OfficeLadder$Person" (28 : Nat) "OfficeLadder$Person" "order" "I") ∈ lw_good := g_tw 351 (by decide +kernel) (by decide +kernel)
theorem tw352 : (Jvm.Cond.fieldLink "OfficeLadder$Law" (46 : Nat) "OfficeLadder$Person" "order" "I") ∈ lw_good := g_tw 352 (by decide +kernel) (by decide +kernel)
theorem tw353 : (Jvm.Cond.fieldLink "OfficeLadder$Person" (37 : Nat) "OfficeLadder$Person" "father" "I") ∈ lw_good := g_tw 353 (by decide +kernel) (by decide +kernel)
theorem tw354 : (Jvm.Cond.fieldLink "OfficeLadder$Republic" (65 : Nat) "OfficeLadder$Person" "father" "I") ∈ lw_good := g_tw 354 (by decide +kernel) (by decide +kernel)
theorem tw355 : (Jvm.Cond.fieldLink "OfficeLadder$Person" (9 : Nat) "OfficeLadder$Person" "posts" "[B") ∈ lw_good := g_tw 355 (by decide +kernel) (by decide +kernel)
theorem tw356 : (Jvm.Cond.fieldLink "OfficeLadder$Past" (21 : Nat) "OfficeLadder$Person" "posts" "[B") ∈ lw_good := g_tw 356 (by decide +kernel) (by decide +kernel)
theorem tw357 : (Jvm.Cond.fieldLink "OfficeLadder" (140 : Nat) "OfficeLadder$Person" "posts" "[B") ∈ lw_good := g_tw 357 (by decide +kernel) (by decide +kernel)
theorem tw358 : (Jvm.Cond.fieldLink "OfficeLadder$Republic" (79 : Nat) "OfficeLadder$Person" "posts" "[B") ∈ lw_good := g_tw 358 (by decide +kernel) (by decide +kernel)
theorem tw359 : (Jvm.Cond.fieldLink "OfficeLadder$Person" (31 : Nat) "OfficeLadder$Person" "first" "I") ∈ lw_good := g_tw 359 (by decide +kernel) (by decide +kernel)
theorem tw360 : (Jvm.Cond.fieldLink "OfficeLadder$Law" (30 : Nat) "OfficeLadder$Person" "first" "I") ∈ lw_good := g_tw 360 (by decide +kernel) (by decide +kernel)
theorem tw361 : (Jvm.Cond.fieldLink "OfficeLadder" (95 : Nat) "OfficeLadder$Person" "first" "I") ∈ lw_good := g_tw 361 (by decide +kernel) (by decide +kernel)
theorem tw362 : (Jvm.Cond.fieldLink "OfficeLadder$Shelf" (40 : Nat) "OfficeLadder$Person" "first" "I") ∈ lw_good := g_tw 362 (by decide +kernel) (by decide +kernel)
theorem tw363 : (Jvm.Cond.fieldLink "OfficeLadder$Republic" (90 : Nat) "OfficeLadder$Person" "first" "I") ∈ lw_good := g_tw 363 (by decide +kernel) (by decide +kernel)
theorem tw364 : (Jvm.Cond.fieldLink "OfficeLadder$Person" (34 : Nat) "OfficeLadder$Person" "last" "I") ∈ lw_good := g_tw 364 (by decide +kernel) (by decide +kernel)
theorem tw365 : (Jvm.Cond.fieldLink "OfficeLadder$Law" (53 : Nat) "OfficeLadder$Person" "last" "I") ∈ lw_good := g_tw 365 (by decide +kernel) (by decide +kernel)
theorem tw366 : (Jvm.Cond.fieldLink "OfficeLadder" (98 : Nat) "OfficeLadder$Person" "last" "I") ∈ lw_good := g_tw 366 (by decide +kernel) (by decide +kernel)
theorem tw367 : (Jvm.Cond.fieldLink "OfficeLadder$Shelf" (45 : Nat) "OfficeLadder$Person" "last" "I") ∈ lw_good := g_tw 367 (by decide +kernel) (by decide +kernel)
theorem tw368 : (Jvm.Cond.fieldLink "OfficeLadder$Person" (15 : Nat) "OfficeLadder$Person" "death" "I") ∈ lw_good := g_tw 368 (by decide +kernel) (by decide +kernel)
theorem tw369 : (Jvm.Cond.fieldLink "OfficeLadder" (81 : Nat) "OfficeLadder$Person" "death" "I") ∈ lw_good := g_tw 369 (by decide +kernel) (by decide +kernel)
theorem tw370 : (Jvm.Cond.fieldLink "OfficeLadder$Shelf" (48 : Nat) "OfficeLadder$Person" "death" "I") ∈ lw_good := g_tw 370 (by decide +kernel) (by decide +kernel)
theorem tw371 : (Jvm.Cond.fieldLink "OfficeLadder$Republic" (87 : Nat) "OfficeLadder$Person" "death" "I") ∈ lw_good := g_tw 371 (by decide +kernel) (by decide +kernel)
theorem tw372 : (Jvm.Cond.fieldLink "OfficeLadder$Person" (19 : Nat) "OfficeLadder$Person" "exileFrom" "I") ∈ lw_good := g_tw 372 (by decide +kernel) (by decide +kernel)
theorem tw373 : (Jvm.Cond.fieldLink "OfficeLadder$Shelf" (51 : Nat) "OfficeLadder$Person" "exileFrom" "I") ∈ lw_good := g_tw 373 (by decide +kernel) (by decide +kernel)
theorem tw374 : (Jvm.Cond.fieldLink "OfficeLadder$Republic" (93 : Nat) "OfficeLadder$Person" "exileFrom" "I") ∈ lw_good := g_tw 374 (by decide +kernel) (by decide +kernel)
theorem tw375 : (Jvm.Cond.fieldLink "OfficeLadder$Person" (22 : Nat) "OfficeLadder$Person" "exileTo" "I") ∈ lw_good := g_tw 375 (by decide +kernel) (by decide +kernel)
theorem tw376 : (Jvm.Cond.fieldLink "OfficeLadder$Shelf" (54 : Nat) "OfficeLadder$Person" "exileTo" "I") ∈ lw_good := g_tw 376 (by decide +kernel) (by decide +kernel)
theorem tw377 : (Jvm.Cond.fieldLink "OfficeLadder$Republic" (96 : Nat) "OfficeLadder$Person" "exileTo" "I") ∈ lw_good := g_tw 377 (by decide +kernel) (by decide +kernel)
theorem tw378 : (Jvm.Cond.fieldLink "OfficeLadder$Person" (25 : Nat) "OfficeLadder$Person" "kin" "I") ∈ lw_good := g_tw 378 (by decide +kernel) (by decide +kernel)
theorem tw379 : (Jvm.Cond.fieldLink "OfficeLadder$Past" (27 : Nat) "OfficeLadder$Person" "kin" "I") ∈ lw_good := g_tw 379 (by decide +kernel) (by decide +kernel)
theorem tw380 : (Jvm.Cond.fieldLink "OfficeLadder$Filler" (128 : Nat) "OfficeLadder$Person" "kin" "I") ∈ lw_good := g_tw 380 (by decide +kernel) (by decide +kernel)
theorem tw381 : (Jvm.Cond.fieldLink "OfficeLadder$Republic" (72 : Nat) "OfficeLadder$Person" "kin" "I") ∈ lw_good := g_tw 381 (by decide +kernel) (by decide +kernel)
theorem tw401 : (Jvm.Cond.methodLink "OfficeLadder" (73 : Nat) ({ cls := "OfficeLadder$Republic", name := "addPerson", desc := "(LOfficeLadder$Person;)I" } : Jvm.MethodName)) ∈ lw_good := g_tw 401 (by decide +kernel) (by decide +kernel)
theorem tw402 : (Jvm.Cond.instanceMethod ({ cls := "OfficeLadder$Republic", name := "addPerson", desc := "(LOfficeLadder$Person;)I" } : Jvm.MethodName)) ∈ lw_good := g_tw 402 (by decide +kernel) (by decide +kernel)
theorem tw403 : (Jvm.Cond.selects "OfficeLadder$Republic" ({ cls := "OfficeLadder$Republic", name := "addPerson", desc := "(LOfficeLadder$Person;)I" } : Jvm.MethodName) ({ cls := "OfficeLadder$Republic", name := "addPerson", desc := "(LOfficeLadder$Person;)I" } : Jvm.MethodName)) ∈ lw_good := g_tw 403 (by decide +kernel) (by decide +kernel)
theorem tw404 : (Jvm.Cond.code ({ cls := "OfficeLadder$Republic", name := "addPerson", desc := "(LOfficeLadder$Person;)I" } : Jvm.MethodName) prog_8_method_9_code (4 : Nat) (Option.some Jvm.ClassFile.FieldType.int)) ∈ lw_good := g_tw 404 (by decide +kernel) (by decide +kernel)
theorem tw405 : (Jvm.Cond.methodLink "OfficeLadder$Republic" (68 : Nat) ({ cls := "OfficeLadder$Republic", name := "tie", desc := "(II)V" } : Jvm.MethodName)) ∈ lw_good := g_tw 405 (by decide +kernel) (by decide +kernel)
theorem tw407 : (Jvm.Cond.instanceMethod ({ cls := "OfficeLadder$Republic", name := "tie", desc := "(II)V" } : Jvm.MethodName)) ∈ lw_good := g_tw 407 (by decide +kernel) (by decide +kernel)
theorem tw408 : (Jvm.Cond.code ({ cls := "OfficeLadder$Republic", name := "tie", desc := "(II)V" } : Jvm.MethodName) prog_8_method_10_code (3 : Nat) (Option.none : Option Jvm.ClassFile.FieldType)) ∈ lw_good := g_tw 408 (by decide +kernel) (by decide +kernel)
theorem tw409 : (Jvm.Cond.methodLink "OfficeLadderLaw" (31 : Nat) ({ cls := "OfficeLadder", name := "death", desc := "(II)I" } : Jvm.MethodName)) ∈ lw_good := g_tw 409 (by decide +kernel) (by decide +kernel)
theorem tw410 : (Jvm.Cond.instanceMethod ({ cls := "OfficeLadder", name := "death", desc := "(II)I" } : Jvm.MethodName)) ∈ lw_good := g_tw 410 (by decide +kernel) (by decide +kernel)
theorem tw411 : (Jvm.Cond.selects "OfficeLadder" ({ cls := "OfficeLadder", name := "death", desc := "(II)I" } : Jvm.MethodName) ({ cls := "OfficeLadder", name := "death", desc := "(II)I" } : Jvm.MethodName)) ∈ lw_good := g_tw 411 (by decide +kernel) (by decide +kernel)
theorem tw412 : (Jvm.Cond.code ({ cls := "OfficeLadder", name := "death", desc := "(II)I" } : Jvm.MethodName) prog_1_method_4_code (5 : Nat) (Option.some Jvm.ClassFile.FieldType.int)) ∈ lw_good := g_tw 412 (by decide +kernel) (by decide +kernel)
theorem tw413 : (Jvm.Cond.methodLink "OfficeLadderLaw" (36 : Nat) ({ cls := "OfficeLadder", name := "exile", desc := "(III)I" } : Jvm.MethodName)) ∈ lw_good := g_tw 413 (by decide +kernel) (by decide +kernel)
theorem tw414 : (Jvm.Cond.instanceMethod ({ cls := "OfficeLadder", name := "exile", desc := "(III)I" } : Jvm.MethodName)) ∈ lw_good := g_tw 414 (by decide +kernel) (by decide +kernel)
theorem tw415 : (Jvm.Cond.selects "OfficeLadder" ({ cls := "OfficeLadder", name := "exile", desc := "(III)I" } : Jvm.MethodName) ({ cls := "OfficeLadder", name := "exile", desc := "(III)I" } : Jvm.MethodName)) ∈ lw_good := g_tw 415 (by decide +kernel) (by decide +kernel)
theorem tw416 : (Jvm.Cond.code ({ cls := "OfficeLadder", name := "exile", desc := "(III)I" } : Jvm.MethodName) prog_1_method_5_code (6 : Nat) (Option.some Jvm.ClassFile.FieldType.int)) ∈ lw_good := g_tw 416 (by decide +kernel) (by decide +kernel)
theorem tw417 : (Jvm.Cond.methodLink "OfficeLadder" (84 : Nat) ({ cls := "OfficeLadder", name := "isYear", desc := "(I)Z" } : Jvm.MethodName)) ∈ lw_good := g_tw 417 (by decide +kernel) (by decide +kernel)
theorem tw418 : (Jvm.Cond.static ({ cls := "OfficeLadder", name := "isYear", desc := "(I)Z" } : Jvm.MethodName)) ∈ lw_good := g_tw 418 (by decide +kernel) (by decide +kernel)
theorem tw419 : (Jvm.Cond.code ({ cls := "OfficeLadder", name := "isYear", desc := "(I)Z" } : Jvm.MethodName) prog_1_method_37_code (1 : Nat) (Option.some Jvm.ClassFile.FieldType.boolean)) ∈ lw_good := g_tw 419 (by decide +kernel) (by decide +kernel)
theorem tw420 : (Jvm.Cond.methodLink "OfficeLadder" (87 : Nat) ({ cls := "OfficeLadder$Person", name := "hasExile", desc := "()Z" } : Jvm.MethodName)) ∈ lw_good := g_tw 420 (by decide +kernel) (by decide +kernel)
theorem tw421 : (Jvm.Cond.instanceMethod ({ cls := "OfficeLadder$Person", name := "hasExile", desc := "()Z" } : Jvm.MethodName)) ∈ lw_good := g_tw 421 (by decide +kernel) (by decide +kernel)
theorem tw422 : (Jvm.Cond.selects "OfficeLadder$Person" ({ cls := "OfficeLadder$Person", name := "hasExile", desc := "()Z" } : Jvm.MethodName) ({ cls := "OfficeLadder$Person", name := "hasExile", desc := "()Z" } : Jvm.MethodName)) ∈ lw_good := g_tw 422 (by decide +kernel) (by decide +kernel)
theorem tw423 : (Jvm.Cond.code ({ cls := "OfficeLadder$Person", name := "hasExile", desc := "()Z" } : Jvm.MethodName) prog_7_method_2_code (1 : Nat) (Option.some Jvm.ClassFile.FieldType.boolean)) ∈ lw_good := g_tw 423 (by decide +kernel) (by decide +kernel)
theorem tw424 : (Jvm.Cond.methodLink "OfficeLadder" (91 : Nat) ({ cls := "OfficeLadder$Person", name := "setExile", desc := "(II)V" } : Jvm.MethodName)) ∈ lw_good := g_tw 424 (by decide +kernel) (by decide +kernel)
theorem tw425 : (Jvm.Cond.instanceMethod ({ cls := "OfficeLadder$Person", name := "setExile", desc := "(II)V" } : Jvm.MethodName)) ∈ lw_good := g_tw 425 (by decide +kernel) (by decide +kernel)
theorem tw426 : (Jvm.Cond.selects "OfficeLadder$Person" ({ cls := "OfficeLadder$Person", name := "setExile", desc := "(II)V" } : Jvm.MethodName) ({ cls := "OfficeLadder$Person", name := "setExile", desc := "(II)V" } : Jvm.MethodName)) ∈ lw_good := g_tw 426 (by decide +kernel) (by decide +kernel)
theorem tw427 : (Jvm.Cond.code ({ cls := "OfficeLadder$Person", name := "setExile", desc := "(II)V" } : Jvm.MethodName) prog_7_method_3_code (4 : Nat) (Option.none : Option Jvm.ClassFile.FieldType)) ∈ lw_good := g_tw 427 (by decide +kernel) (by decide +kernel)
theorem tw428 : (Jvm.Cond.methodLink "OfficeLadderLaw" (41 : Nat) ({ cls := "OfficeLadder", name := "birth", desc := "(III)I" } : Jvm.MethodName)) ∈ lw_good := g_tw 428 (by decide +kernel) (by decide +kernel)
theorem tw429 : (Jvm.Cond.instanceMethod ({ cls := "OfficeLadder", name := "birth", desc := "(III)I" } : Jvm.MethodName)) ∈ lw_good := g_tw 429 (by decide +kernel) (by decide +kernel)
theorem tw430 : (Jvm.Cond.selects "OfficeLadder" ({ cls := "OfficeLadder", name := "birth", desc := "(III)I" } : Jvm.MethodName) ({ cls := "OfficeLadder", name := "birth", desc := "(III)I" } : Jvm.MethodName)) ∈ lw_good := g_tw 430 (by decide +kernel) (by decide +kernel)
theorem tw431 : (Jvm.Cond.code ({ cls := "OfficeLadder", name := "birth", desc := "(III)I" } : Jvm.MethodName) prog_1_method_6_code (6 : Nat) (Option.some Jvm.ClassFile.FieldType.int)) ∈ lw_good := g_tw 431 (by decide +kernel) (by decide +kernel)
theorem tw432 : (Jvm.Cond.methodLink "OfficeLadderLaw" (45 : Nat) ({ cls := "OfficeLadder", name := "law", desc := "(IIII)I" } : Jvm.MethodName)) ∈ lw_good := g_tw 432 (by decide +kernel) (by decide +kernel)
theorem tw433 : (Jvm.Cond.instanceMethod ({ cls := "OfficeLadder", name := "law", desc := "(IIII)I" } : Jvm.MethodName)) ∈ lw_good := g_tw 433 (by decide +kernel) (by decide +kernel)
theorem tw434 : (Jvm.Cond.selects "OfficeLadder" ({ cls := "OfficeLadder", name := "law", desc := "(IIII)I" } : Jvm.MethodName) ({ cls := "OfficeLadder", name := "law", desc := "(IIII)I" } : Jvm.MethodName)) ∈ lw_good := g_tw 434 (by decide +kernel) (by decide +kernel)
theorem tw435 : (Jvm.Cond.code ({ cls := "OfficeLadder", name := "law", desc := "(IIII)I" } : Jvm.MethodName) prog_1_method_7_code (7 : Nat) (Option.some Jvm.ClassFile.FieldType.int)) ∈ lw_good := g_tw 435 (by decide +kernel) (by decide +kernel)
theorem tw436 : (Jvm.Cond.methodLink "OfficeLadder" (101 : Nat) ({ cls := "OfficeLadder$Republic", name := "hasOffice", desc := "(I)Z" } : Jvm.MethodName)) ∈ lw_good := g_tw 436 (by decide +kernel) (by decide +kernel)
theorem tw437 : (Jvm.Cond.instanceMethod ({ cls := "OfficeLadder$Republic", name := "hasOffice", desc := "(I)Z" } : Jvm.MethodName)) ∈ lw_good := g_tw 437 (by decide +kernel) (by decide +kernel)
theorem tw438 : (Jvm.Cond.selects "OfficeLadder$Republic" ({ cls := "OfficeLadder$Republic", name := "hasOffice", desc := "(I)Z" } : Jvm.MethodName) ({ cls := "OfficeLadder$Republic", name := "hasOffice", desc := "(I)Z" } : Jvm.MethodName)) ∈ lw_good := g_tw 438 (by decide +kernel) (by decide +kernel)
theorem tw439 : (Jvm.Cond.code ({ cls := "OfficeLadder$Republic", name := "hasOffice", desc := "(I)Z" } : Jvm.MethodName) prog_8_method_2_code (2 : Nat) (Option.some Jvm.ClassFile.FieldType.boolean)) ∈ lw_good := g_tw 439 (by decide +kernel) (by decide +kernel)
theorem tw440 : (Jvm.Cond.methodLink "OfficeLadder" (104 : Nat) ({ cls := "OfficeLadder$Republic", name := "isNumberOf", desc := "(II)Z" } : Jvm.MethodName)) ∈ lw_good := g_tw 440 (by decide +kernel) (by decide +kernel)
theorem tw441 : (Jvm.Cond.instanceMethod ({ cls := "OfficeLadder$Republic", name := "isNumberOf", desc := "(II)Z" } : Jvm.MethodName)) ∈ lw_good := g_tw 441 (by decide +kernel) (by decide +kernel)
theorem tw442 : (Jvm.Cond.selects "OfficeLadder$Republic" ({ cls := "OfficeLadder$Republic", name := "isNumberOf", desc := "(II)Z" } : Jvm.MethodName) ({ cls := "OfficeLadder$Republic", name := "isNumberOf", desc := "(II)Z" } : Jvm.MethodName)) ∈ lw_good := g_tw 442 (by decide +kernel) (by decide +kernel)
theorem tw443 : (Jvm.Cond.code ({ cls := "OfficeLadder$Republic", name := "isNumberOf", desc := "(II)Z" } : Jvm.MethodName) prog_8_method_6_code (3 : Nat) (Option.some Jvm.ClassFile.FieldType.boolean)) ∈ lw_good := g_tw 443 (by decide +kernel) (by decide +kernel)
theorem tw444 : (Jvm.Cond.methodLink "OfficeLadder$Republic" (52 : Nat) ({ cls := "OfficeLadder$Republic", name := "hasOffice", desc := "(I)Z" } : Jvm.MethodName)) ∈ lw_good := g_tw 444 (by decide +kernel) (by decide +kernel)
theorem tw446 : (Jvm.Cond.classLink "OfficeLadder" (110 : Nat) "OfficeLadder$Law") ∈ lw_good := g_tw 446 (by decide +kernel) (by decide +kernel)
theorem tw447 : (Jvm.Cond.instantiable "OfficeLadder$Law" (6 : Nat)) ∈ lw_good := g_tw 447 (by decide +kernel) (by decide +kernel)
theorem tw448 : (Jvm.Cond.methodLink "OfficeLadder" (112 : Nat) ({ cls := "OfficeLadder$Law", name := "<init>", desc := "(IIIIII)V" } : Jvm.MethodName)) ∈ lw_good := g_tw 448 (by decide +kernel) (by decide +kernel)
theorem tw449 : (Jvm.Cond.instanceMethod ({ cls := "OfficeLadder$Law", name := "<init>", desc := "(IIIIII)V" } : Jvm.MethodName)) ∈ lw_good := g_tw 449 (by decide +kernel) (by decide +kernel)
theorem tw450 : (Jvm.Cond.code ({ cls := "OfficeLadder$Law", name := "<init>", desc := "(IIIIII)V" } : Jvm.MethodName) prog_4_method_1_code (7 : Nat) (Option.none : Option Jvm.ClassFile.FieldType)) ∈ lw_good := g_tw 450 (by decide +kernel) (by decide +kernel)
theorem tw451 : (Jvm.Cond.methodLink "OfficeLadder$Law" (3 : Nat) ({ cls := "java/lang/Object", name := "<init>", desc := "()V" } : Jvm.MethodName)) ∈ lw_good := g_tw 451 (by decide +kernel) (by decide +kernel)
theorem tw452 : (Jvm.Cond.fieldLink "OfficeLadder$Law" (9 : Nat) "OfficeLadder$Law" "number" "I") ∈ lw_good := g_tw 452 (by decide +kernel) (by decide +kernel)
theorem tw453 : (Jvm.Cond.fieldLink "OfficeLadder" (314 : Nat) "OfficeLadder$Law" "number" "I") ∈ lw_good := g_tw 453 (by decide +kernel) (by decide +kernel)
theorem tw454 : (Jvm.Cond.fieldLink "OfficeLadder$Law" (15 : Nat) "OfficeLadder$Law" "kind" "I") ∈ lw_good := g_tw 454 (by decide +kernel) (by decide +kernel)
theorem tw455 : (Jvm.Cond.fieldLink "OfficeLadder$Republic" (126 : Nat) "OfficeLadder$Law" "kind" "I") ∈ lw_good := g_tw 455 (by decide +kernel) (by decide +kernel)
theorem tw456 : (Jvm.Cond.fieldLink "OfficeLadder$Law" (18 : Nat) "OfficeLadder$Law" "office" "I") ∈ lw_good := g_tw 456 (by decide +kernel) (by decide +kernel)
theorem tw457 : (Jvm.Cond.fieldLink "OfficeLadder$Law" (21 : Nat) "OfficeLadder$Law" "n" "I") ∈ lw_good := g_tw 457 (by decide +kernel) (by decide +kernel)
theorem tw458 : (Jvm.Cond.fieldLink "OfficeLadder$Law" (24 : Nat) "OfficeLadder$Law" "from" "I") ∈ lw_good := g_tw 458 (by decide +kernel) (by decide +kernel)
theorem tw459 : (Jvm.Cond.fieldLink "OfficeLadder" (126 : Nat) "OfficeLadder$Law" "from" "I") ∈ lw_good := g_tw 459 (by decide +kernel) (by decide +kernel)
theorem tw460 : (Jvm.Cond.fieldLink "OfficeLadder$Law" (27 : Nat) "OfficeLadder$Law" "to" "I") ∈ lw_good := g_tw 460 (by decide +kernel) (by decide +kernel)
theorem tw461 : (Jvm.Cond.fieldLink "OfficeLadder" (129 : Nat) "OfficeLadder$Law" "to" "I") ∈ lw_good := g_tw 461 (by decide +kernel) (by decide +kernel)
theorem tw475 : (Jvm.Cond.methodLink "OfficeLadder" (115 : Nat) ({ cls := "OfficeLadder$Republic", name := "addLaw", desc := "(LOfficeLadder$Law;)I" } : Jvm.MethodName)) ∈ lw_good := g_tw 475 (by decide +kernel) (by decide +kernel)
theorem tw476 : (Jvm.Cond.instanceMethod ({ cls := "OfficeLadder$Republic", name := "addLaw", desc := "(LOfficeLadder$Law;)I" } : Jvm.MethodName)) ∈ lw_good := g_tw 476 (by decide +kernel) (by decide +kernel)
theorem tw477 : (Jvm.Cond.selects "OfficeLadder$Republic" ({ cls := "OfficeLadder$Republic", name := "addLaw", desc := "(LOfficeLadder$Law;)I" } : Jvm.MethodName) ({ cls := "OfficeLadder$Republic", name := "addLaw", desc := "(LOfficeLadder$Law;)I" } : Jvm.MethodName)) ∈ lw_good := g_tw 477 (by decide +kernel) (by decide +kernel)
theorem tw478 : (Jvm.Cond.code ({ cls := "OfficeLadder$Republic", name := "addLaw", desc := "(LOfficeLadder$Law;)I" } : Jvm.MethodName) prog_8_method_8_code (2 : Nat) (Option.some Jvm.ClassFile.FieldType.int)) ∈ lw_good := g_tw 478 (by decide +kernel) (by decide +kernel)
theorem tw479 : (Jvm.Cond.methodLink "OfficeLadderLaw" (49 : Nat) ({ cls := "OfficeLadder", name := "repeal", desc := "(II)I" } : Jvm.MethodName)) ∈ lw_good := g_tw 479 (by decide +kernel) (by decide +kernel)
theorem tw480 : (Jvm.Cond.instanceMethod ({ cls := "OfficeLadder", name := "repeal", desc := "(II)I" } : Jvm.MethodName)) ∈ lw_good := g_tw 480 (by decide +kernel) (by decide +kernel)
theorem tw481 : (Jvm.Cond.selects "OfficeLadder" ({ cls := "OfficeLadder", name := "repeal", desc := "(II)I" } : Jvm.MethodName) ({ cls := "OfficeLadder", name := "repeal", desc := "(II)I" } : Jvm.MethodName)) ∈ lw_good := g_tw 481 (by decide +kernel) (by decide +kernel)
theorem tw482 : (Jvm.Cond.code ({ cls := "OfficeLadder", name := "repeal", desc := "(II)I" } : Jvm.MethodName) prog_1_method_8_code (5 : Nat) (Option.some Jvm.ClassFile.FieldType.int)) ∈ lw_good := g_tw 482 (by decide +kernel) (by decide +kernel)
theorem tw483 : (Jvm.Cond.methodLink "OfficeLadder" (119 : Nat) ({ cls := "OfficeLadder$Republic", name := "hasLaw", desc := "(I)Z" } : Jvm.MethodName)) ∈ lw_good := g_tw 483 (by decide +kernel) (by decide +kernel)
theorem tw484 : (Jvm.Cond.instanceMethod ({ cls := "OfficeLadder$Republic", name := "hasLaw", desc := "(I)Z" } : Jvm.MethodName)) ∈ lw_good := g_tw 484 (by decide +kernel) (by decide +kernel)
theorem tw485 : (Jvm.Cond.selects "OfficeLadder$Republic" ({ cls := "OfficeLadder$Republic", name := "hasLaw", desc := "(I)Z" } : Jvm.MethodName) ({ cls := "OfficeLadder$Republic", name := "hasLaw", desc := "(I)Z" } : Jvm.MethodName)) ∈ lw_good := g_tw 485 (by decide +kernel) (by decide +kernel)
theorem tw486 : (Jvm.Cond.code ({ cls := "OfficeLadder$Republic", name := "hasLaw", desc := "(I)Z" } : Jvm.MethodName) prog_8_method_4_code (2 : Nat) (Option.some Jvm.ClassFile.FieldType.boolean)) ∈ lw_good := g_tw 486 (by decide +kernel) (by decide +kernel)
theorem tw487 : (Jvm.Cond.methodLink "OfficeLadderLaw" (53 : Nat) ({ cls := "OfficeLadder", name := "stone", desc := "(III)I" } : Jvm.MethodName)) ∈ lw_good := g_tw 487 (by decide +kernel) (by decide +kernel)
theorem tw488 : (Jvm.Cond.instanceMethod ({ cls := "OfficeLadder", name := "stone", desc := "(III)I" } : Jvm.MethodName)) ∈ lw_good := g_tw 488 (by decide +kernel) (by decide +kernel)
theorem tw489 : (Jvm.Cond.selects "OfficeLadder" ({ cls := "OfficeLadder", name := "stone", desc := "(III)I" } : Jvm.MethodName) ({ cls := "OfficeLadder", name := "stone", desc := "(III)I" } : Jvm.MethodName)) ∈ lw_good := g_tw 489 (by decide +kernel) (by decide +kernel)
theorem tw490 : (Jvm.Cond.code ({ cls := "OfficeLadder", name := "stone", desc := "(III)I" } : Jvm.MethodName) prog_1_method_9_code (5 : Nat) (Option.some Jvm.ClassFile.FieldType.int)) ∈ lw_good := g_tw 490 (by decide +kernel) (by decide +kernel)
theorem tw491 : (Jvm.Cond.methodLink "OfficeLadder" (136 : Nat) ({ cls := "OfficeLadder$Office", name := "firstEmpty", desc := "(I)I" } : Jvm.MethodName)) ∈ lw_good := g_tw 491 (by decide +kernel) (by decide +kernel)
theorem tw492 : (Jvm.Cond.instanceMethod ({ cls := "OfficeLadder$Office", name := "firstEmpty", desc := "(I)I" } : Jvm.MethodName)) ∈ lw_good := g_tw 492 (by decide +kernel) (by decide +kernel)
theorem tw493 : (Jvm.Cond.selects "OfficeLadder$Office" ({ cls := "OfficeLadder$Office", name := "firstEmpty", desc := "(I)I" } : Jvm.MethodName) ({ cls := "OfficeLadder$Office", name := "firstEmpty", desc := "(I)I" } : Jvm.MethodName)) ∈ lw_good := g_tw 493 (by decide +kernel) (by decide +kernel)
theorem tw494 : (Jvm.Cond.code ({ cls := "OfficeLadder$Office", name := "firstEmpty", desc := "(I)I" } : Jvm.MethodName) prog_5_method_6_code (3 : Nat) (Option.some Jvm.ClassFile.FieldType.int)) ∈ lw_good := g_tw 494 (by decide +kernel) (by decide +kernel)
theorem tw495 : (Jvm.Cond.methodLink "OfficeLadder$Office" (29 : Nat) ({ cls := "OfficeLadder$Office", name := "code", desc := "(II)I" } : Jvm.MethodName)) ∈ lw_good := g_tw 495 (by decide +kernel) (by decide +kernel)
theorem tw496 : (Jvm.Cond.instanceMethod ({ cls := "OfficeLadder$Office", name := "code", desc := "(II)I" } : Jvm.MethodName)) ∈ lw_good := g_tw 496 (by decide +kernel) (by decide +kernel)
theorem tw497 : (Jvm.Cond.selects "OfficeLadder$Office" ({ cls := "OfficeLadder$Office", name := "code", desc := "(II)I" } : Jvm.MethodName) ({ cls := "OfficeLadder$Office", name := "code", desc := "(II)I" } : Jvm.MethodName)) ∈ lw_good := g_tw 497 (by decide +kernel) (by decide +kernel)
theorem tw498 : (Jvm.Cond.code ({ cls := "OfficeLadder$Office", name := "code", desc := "(II)I" } : Jvm.MethodName) prog_5_method_2_code (3 : Nat) (Option.some Jvm.ClassFile.FieldType.int)) ∈ lw_good := g_tw 498 (by decide +kernel) (by decide +kernel)
theorem tw499 : (Jvm.Cond.methodLink "OfficeLadder" (144 : Nat) ({ cls := "OfficeLadder$Republic", name := "put", desc := "(IIII)V" } : Jvm.MethodName)) ∈ lw_good := g_tw 499 (by decide +kernel) (by decide +kernel)
theorem tw500 : (Jvm.Cond.instanceMethod ({ cls := "OfficeLadder$Republic", name := "put", desc := "(IIII)V" } : Jvm.MethodName)) ∈ lw_good := g_tw 500 (by decide +kernel) (by decide +kernel)
theorem tw501 : (Jvm.Cond.selects "OfficeLadder$Republic" ({ cls := "OfficeLadder$Republic", name := "put", desc := "(IIII)V" } : Jvm.MethodName) ({ cls := "OfficeLadder$Republic", name := "put", desc := "(IIII)V" } : Jvm.MethodName)) ∈ lw_good := g_tw 501 (by decide +kernel) (by decide +kernel)
theorem tw502 : (Jvm.Cond.code ({ cls := "OfficeLadder$Republic", name := "put", desc := "(IIII)V" } : Jvm.MethodName) prog_8_method_11_code (5 : Nat) (Option.none : Option Jvm.ClassFile.FieldType)) ∈ lw_good := g_tw 502 (by decide +kernel) (by decide +kernel)
theorem tw503 : (Jvm.Cond.methodLink "OfficeLadder$Republic" (75 : Nat) ({ cls := "OfficeLadder$Office", name := "setCode", desc := "(III)V" } : Jvm.MethodName)) ∈ lw_good := g_tw 503 (by decide +kernel) (by decide +kernel)
theorem tw504 : (Jvm.Cond.instanceMethod ({ cls := "OfficeLadder$Office", name := "setCode", desc := "(III)V" } : Jvm.MethodName)) ∈ lw_good := g_tw 504 (by decide +kernel) (by decide +kernel)
theorem tw505 : (Jvm.Cond.selects "OfficeLadder$Office" ({ cls := "OfficeLadder$Office", name := "setCode", desc := "(III)V" } : Jvm.MethodName) ({ cls := "OfficeLadder$Office", name := "setCode", desc := "(III)V" } : Jvm.MethodName)) ∈ lw_good := g_tw 505 (by decide +kernel) (by decide +kernel)
theorem tw506 : (Jvm.Cond.code ({ cls := "OfficeLadder$Office", name := "setCode", desc := "(III)V" } : Jvm.MethodName) prog_5_method_3_code (4 : Nat) (Option.none : Option Jvm.ClassFile.FieldType)) ∈ lw_good := g_tw 506 (by decide +kernel) (by decide +kernel)
theorem tw507 : (Jvm.Cond.methodLink "OfficeLadderLaw" (57 : Nat) ({ cls := "OfficeLadder", name := "empty", desc := "(III)I" } : Jvm.MethodName)) ∈ lw_good := g_tw 507 (by decide +kernel) (by decide +kernel)
theorem tw508 : (Jvm.Cond.instanceMethod ({ cls := "OfficeLadder", name := "empty", desc := "(III)I" } : Jvm.MethodName)) ∈ lw_good := g_tw 508 (by decide +kernel) (by decide +kernel)
theorem tw509 : (Jvm.Cond.selects "OfficeLadder" ({ cls := "OfficeLadder", name := "empty", desc := "(III)I" } : Jvm.MethodName) ({ cls := "OfficeLadder", name := "empty", desc := "(III)I" } : Jvm.MethodName)) ∈ lw_good := g_tw 509 (by decide +kernel) (by decide +kernel)
theorem tw510 : (Jvm.Cond.code ({ cls := "OfficeLadder", name := "empty", desc := "(III)I" } : Jvm.MethodName) prog_1_method_10_code (5 : Nat) (Option.some Jvm.ClassFile.FieldType.int)) ∈ lw_good := g_tw 510 (by decide +kernel) (by decide +kernel)
theorem tw511 : (Jvm.Cond.methodLink "OfficeLadder" (147 : Nat) ({ cls := "OfficeLadder$Republic", name := "hasSeat", desc := "(III)Z" } : Jvm.MethodName)) ∈ lw_good := g_tw 511 (by decide +kernel) (by decide +kernel)
theorem tw512 : (Jvm.Cond.instanceMethod ({ cls := "OfficeLadder$Republic", name := "hasSeat", desc := "(III)Z" } : Jvm.MethodName)) ∈ lw_good := g_tw 512 (by decide +kernel) (by decide +kernel)
theorem tw513 : (Jvm.Cond.selects "OfficeLadder$Republic" ({ cls := "OfficeLadder$Republic", name := "hasSeat", desc := "(III)Z" } : Jvm.MethodName) ({ cls := "OfficeLadder$Republic", name := "hasSeat", desc := "(III)Z" } : Jvm.MethodName)) ∈ lw_good := g_tw 513 (by decide +kernel) (by decide +kernel)
theorem tw514 : (Jvm.Cond.code ({ cls := "OfficeLadder$Republic", name := "hasSeat", desc := "(III)Z" } : Jvm.MethodName) prog_8_method_5_code (4 : Nat) (Option.some Jvm.ClassFile.FieldType.boolean)) ∈ lw_good := g_tw 514 (by decide +kernel) (by decide +kernel)
theorem tw516 : (Jvm.Cond.methodLink "OfficeLadder" (151 : Nat) ({ cls := "OfficeLadder$Office", name := "holder", desc := "(II)I" } : Jvm.MethodName)) ∈ lw_good := g_tw 516 (by decide +kernel) (by decide +kernel)
theorem tw517 : (Jvm.Cond.instanceMethod ({ cls := "OfficeLadder$Office", name := "holder", desc := "(II)I" } : Jvm.MethodName)) ∈ lw_good := g_tw 517 (by decide +kernel) (by decide +kernel)
theorem tw518 : (Jvm.Cond.selects "OfficeLadder$Office" ({ cls := "OfficeLadder$Office", name := "holder", desc := "(II)I" } : Jvm.MethodName) ({ cls := "OfficeLadder$Office", name := "holder", desc := "(II)I" } : Jvm.MethodName)) ∈ lw_good := g_tw 518 (by decide +kernel) (by decide +kernel)
theorem tw519 : (Jvm.Cond.code ({ cls := "OfficeLadder$Office", name := "holder", desc := "(II)I" } : Jvm.MethodName) prog_5_method_4_code (4 : Nat) (Option.some Jvm.ClassFile.FieldType.int)) ∈ lw_good := g_tw 519 (by decide +kernel) (by decide +kernel)
theorem tw520 : (Jvm.Cond.methodLink "OfficeLadder" (155 : Nat) ({ cls := "OfficeLadder$Republic", name := "vacate", desc := "(IIII)V" } : Jvm.MethodName)) ∈ lw_good := g_tw 520 (by decide +kernel) (by decide +kernel)
theorem tw521 : (Jvm.Cond.instanceMethod ({ cls := "OfficeLadder$Republic", name := "vacate", desc := "(IIII)V" } : Jvm.MethodName)) ∈ lw_good := g_tw 521 (by decide +kernel) (by decide +kernel)
theorem tw522 : (Jvm.Cond.selects "OfficeLadder$Republic" ({ cls := "OfficeLadder$Republic", name := "vacate", desc := "(IIII)V" } : Jvm.MethodName) ({ cls := "OfficeLadder$Republic", name := "vacate", desc := "(IIII)V" } : Jvm.MethodName)) ∈ lw_good := g_tw 522 (by decide +kernel) (by decide +kernel)
theorem tw523 : (Jvm.Cond.code ({ cls := "OfficeLadder$Republic", name := "vacate", desc := "(IIII)V" } : Jvm.MethodName) prog_8_method_12_code (5 : Nat) (Option.none : Option Jvm.ClassFile.FieldType)) ∈ lw_good := g_tw 523 (by decide +kernel) (by decide +kernel)
theorem tw524 : (Jvm.Cond.methodLink "OfficeLadder$Republic" (83 : Nat) ({ cls := "OfficeLadder$Office", name := "isVoid", desc := "(II)Z" } : Jvm.MethodName)) ∈ lw_good := g_tw 524 (by decide +kernel) (by decide +kernel)
theorem tw525 : (Jvm.Cond.instanceMethod ({ cls := "OfficeLadder$Office", name := "isVoid", desc := "(II)Z" } : Jvm.MethodName)) ∈ lw_good := g_tw 525 (by decide +kernel) (by decide +kernel)
theorem tw526 : (Jvm.Cond.selects "OfficeLadder$Office" ({ cls := "OfficeLadder$Office", name := "isVoid", desc := "(II)Z" } : Jvm.MethodName) ({ cls := "OfficeLadder$Office", name := "isVoid", desc := "(II)Z" } : Jvm.MethodName)) ∈ lw_good := g_tw 526 (by decide +kernel) (by decide +kernel)
theorem tw527 : (Jvm.Cond.code ({ cls := "OfficeLadder$Office", name := "isVoid", desc := "(II)Z" } : Jvm.MethodName) prog_5_method_5_code (3 : Nat) (Option.some Jvm.ClassFile.FieldType.boolean)) ∈ lw_good := g_tw 527 (by decide +kernel) (by decide +kernel)
theorem tw528 : (Jvm.Cond.methodLink "OfficeLadderLaw" (61 : Nat) ({ cls := "OfficeLadder", name := "annul", desc := "(IIIZ)I" } : Jvm.MethodName)) ∈ lw_good := g_tw 528 (by decide +kernel) (by decide +kernel)
theorem tw529 : (Jvm.Cond.instanceMethod ({ cls := "OfficeLadder", name := "annul", desc := "(IIIZ)I" } : Jvm.MethodName)) ∈ lw_good := g_tw 529 (by decide +kernel) (by decide +kernel)
theorem tw530 : (Jvm.Cond.selects "OfficeLadder" ({ cls := "OfficeLadder", name := "annul", desc := "(IIIZ)I" } : Jvm.MethodName) ({ cls := "OfficeLadder", name := "annul", desc := "(IIIZ)I" } : Jvm.MethodName)) ∈ lw_good := g_tw 530 (by decide +kernel) (by decide +kernel)
theorem tw531 : (Jvm.Cond.code ({ cls := "OfficeLadder", name := "annul", desc := "(IIIZ)I" } : Jvm.MethodName) prog_1_method_11_code (6 : Nat) (Option.some Jvm.ClassFile.FieldType.int)) ∈ lw_good := g_tw 531 (by decide +kernel) (by decide +kernel)
theorem tw532 : (Jvm.Cond.methodLink "OfficeLadder" (158 : Nat) ({ cls := "OfficeLadder$Office", name := "isVoid", desc := "(II)Z" } : Jvm.MethodName)) ∈ lw_good := g_tw 532 (by decide +kernel) (by decide +kernel)
theorem tw533 : (Jvm.Cond.methodLink "OfficeLadder" (161 : Nat) ({ cls := "OfficeLadder$Republic", name := "mark", desc := "(IIIIZ)V" } : Jvm.MethodName)) ∈ lw_good := g_tw 533 (by decide +kernel) (by decide +kernel)
theorem tw534 : (Jvm.Cond.instanceMethod ({ cls := "OfficeLadder$Republic", name := "mark", desc := "(IIIIZ)V" } : Jvm.MethodName)) ∈ lw_good := g_tw 534 (by decide +kernel) (by decide +kernel)
theorem tw535 : (Jvm.Cond.selects "OfficeLadder$Republic" ({ cls := "OfficeLadder$Republic", name := "mark", desc := "(IIIIZ)V" } : Jvm.MethodName) ({ cls := "OfficeLadder$Republic", name := "mark", desc := "(IIIIZ)V" } : Jvm.MethodName)) ∈ lw_good := g_tw 535 (by decide +kernel) (by decide +kernel)
theorem tw536 : (Jvm.Cond.code ({ cls := "OfficeLadder$Republic", name := "mark", desc := "(IIIIZ)V" } : Jvm.MethodName) prog_8_method_13_code (7 : Nat) (Option.none : Option Jvm.ClassFile.FieldType)) ∈ lw_good := g_tw 536 (by decide +kernel) (by decide +kernel)
theorem tw537 : (Jvm.Cond.methodLink "OfficeLadderLaw" (66 : Nat) ({ cls := "OfficeLadder", name := "seat", desc := "(III)I" } : Jvm.MethodName)) ∈ lw_good := g_tw 537 (by decide +kernel) (by decide +kernel)
theorem tw538 : (Jvm.Cond.instanceMethod ({ cls := "OfficeLadder", name := "seat", desc := "(III)I" } : Jvm.MethodName)) ∈ lw_good := g_tw 538 (by decide +kernel) (by decide +kernel)
theorem tw539 : (Jvm.Cond.selects "OfficeLadder" ({ cls := "OfficeLadder", name := "seat", desc := "(III)I" } : Jvm.MethodName) ({ cls := "OfficeLadder", name := "seat", desc := "(III)I" } : Jvm.MethodName)) ∈ lw_good := g_tw 539 (by decide +kernel) (by decide +kernel)
theorem tw540 : (Jvm.Cond.code ({ cls := "OfficeLadder", name := "seat", desc := "(III)I" } : Jvm.MethodName) prog_1_method_12_code (5 : Nat) (Option.some Jvm.ClassFile.FieldType.int)) ∈ lw_good := g_tw 540 (by decide +kernel) (by decide +kernel)
theorem tw541 : (Jvm.Cond.methodLink "OfficeLadder" (165 : Nat) ({ cls := "OfficeLadder$Office", name := "code", desc := "(II)I" } : Jvm.MethodName)) ∈ lw_good := g_tw 541 (by decide +kernel) (by decide +kernel)
theorem tw542 : (Jvm.Cond.methodLink "OfficeLadderLaw" (70 : Nat) ({ cls := "OfficeLadder", name := "holds", desc := "(II)I" } : Jvm.MethodName)) ∈ lw_good := g_tw 542 (by decide +kernel) (by decide +kernel)
theorem tw543 : (Jvm.Cond.instanceMethod ({ cls := "OfficeLadder", name := "holds", desc := "(II)I" } : Jvm.MethodName)) ∈ lw_good := g_tw 543 (by decide +kernel) (by decide +kernel)
theorem tw544 : (Jvm.Cond.selects "OfficeLadder" ({ cls := "OfficeLadder", name := "holds", desc := "(II)I" } : Jvm.MethodName) ({ cls := "OfficeLadder", name := "holds", desc := "(II)I" } : Jvm.MethodName)) ∈ lw_good := g_tw 544 (by decide +kernel) (by decide +kernel)
theorem tw545 : (Jvm.Cond.code ({ cls := "OfficeLadder", name := "holds", desc := "(II)I" } : Jvm.MethodName) prog_1_method_13_code (4 : Nat) (Option.some Jvm.ClassFile.FieldType.int)) ∈ lw_good := g_tw 545 (by decide +kernel) (by decide +kernel)
theorem tw546 : (Jvm.Cond.methodLink "OfficeLadderLaw" (74 : Nat) ({ cls := "OfficeLadder", name := "held", desc := "(III)I" } : Jvm.MethodName)) ∈ lw_good := g_tw 546 (by decide +kernel) (by decide +kernel)
theorem tw547 : (Jvm.Cond.instanceMethod ({ cls := "OfficeLadder", name := "held", desc := "(III)I" } : Jvm.MethodName)) ∈ lw_good := g_tw 547 (by decide +kernel) (by decide +kernel)
theorem tw548 : (Jvm.Cond.selects "OfficeLadder" ({ cls := "OfficeLadder", name := "held", desc := "(III)I" } : Jvm.MethodName) ({ cls := "OfficeLadder", name := "held", desc := "(III)I" } : Jvm.MethodName)) ∈ lw_good := g_tw 548 (by decide +kernel) (by decide +kernel)
theorem tw549 : (Jvm.Cond.code ({ cls := "OfficeLadder", name := "held", desc := "(III)I" } : Jvm.MethodName) prog_1_method_14_code (4 : Nat) (Option.some Jvm.ClassFile.FieldType.int)) ∈ lw_good := g_tw 549 (by decide +kernel) (by decide +kernel)
theorem tw550 : (Jvm.Cond.methodLink "OfficeLadder" (168 : Nat) ({ cls := "OfficeLadder$Person", name := "yearsHeld", desc := "(II)I" } : Jvm.MethodName)) ∈ lw_good := g_tw 550 (by decide +kernel) (by decide +kernel)
theorem tw551 : (Jvm.Cond.instanceMethod ({ cls := "OfficeLadder$Person", name := "yearsHeld", desc := "(II)I" } : Jvm.MethodName)) ∈ lw_good := g_tw 551 (by decide +kernel) (by decide +kernel)
theorem tw552 : (Jvm.Cond.selects "OfficeLadder$Person" ({ cls := "OfficeLadder$Person", name := "yearsHeld", desc := "(II)I" } : Jvm.MethodName) ({ cls := "OfficeLadder$Person", name := "yearsHeld", desc := "(II)I" } : Jvm.MethodName)) ∈ lw_good := g_tw 552 (by decide +kernel) (by decide +kernel)
theorem tw553 : (Jvm.Cond.code ({ cls := "OfficeLadder$Person", name := "yearsHeld", desc := "(II)I" } : Jvm.MethodName) prog_7_method_4_code (6 : Nat) (Option.some Jvm.ClassFile.FieldType.int)) ∈ lw_good := g_tw 553 (by decide +kernel) (by decide +kernel)
theorem tw554 : (Jvm.Cond.methodLink "OfficeLadderLaw" (78 : Nat) ({ cls := "OfficeLadder", name := "could", desc := "(IIII)I" } : Jvm.MethodName)) ∈ lw_good := g_tw 554 (by decide +kernel) (by decide +kernel)
theorem tw555 : (Jvm.Cond.instanceMethod ({ cls := "OfficeLadder", name := "could", desc := "(IIII)I" } : Jvm.MethodName)) ∈ lw_good := g_tw 555 (by decide +kernel) (by decide +kernel)
theorem tw556 : (Jvm.Cond.selects "OfficeLadder" ({ cls := "OfficeLadder", name := "could", desc := "(IIII)I" } : Jvm.MethodName) ({ cls := "OfficeLadder", name := "could", desc := "(IIII)I" } : Jvm.MethodName)) ∈ lw_good := g_tw 556 (by decide +kernel) (by decide +kernel)
theorem tw557 : (Jvm.Cond.code ({ cls := "OfficeLadder", name := "could", desc := "(IIII)I" } : Jvm.MethodName) prog_1_method_15_code (5 : Nat) (Option.some Jvm.ClassFile.FieldType.int)) ∈ lw_good := g_tw 557 (by decide +kernel) (by decide +kernel)
theorem tw558 : (Jvm.Cond.methodLink "OfficeLadder" (171 : Nat) ({ cls := "OfficeLadder$Republic", name := "level", desc := "(III)I" } : Jvm.MethodName)) ∈ lw_good := g_tw 558 (by decide +kernel) (by decide +kernel)
theorem tw559 : (Jvm.Cond.instanceMethod ({ cls := "OfficeLadder$Republic", name := "level", desc := "(III)I" } : Jvm.MethodName)) ∈ lw_good := g_tw 559 (by decide +kernel) (by decide +kernel)
theorem tw560 : (Jvm.Cond.selects "OfficeLadder$Republic" ({ cls := "OfficeLadder$Republic", name := "level", desc := "(III)I" } : Jvm.MethodName) ({ cls := "OfficeLadder$Republic", name := "level", desc := "(III)I" } : Jvm.MethodName)) ∈ lw_good := g_tw 560 (by decide +kernel) (by decide +kernel)
theorem tw561 : (Jvm.Cond.code ({ cls := "OfficeLadder$Republic", name := "level", desc := "(III)I" } : Jvm.MethodName) prog_8_method_15_code (5 : Nat) (Option.some Jvm.ClassFile.FieldType.int)) ∈ lw_good := g_tw 561 (by decide +kernel) (by decide +kernel)
theorem tw562 : (Jvm.Cond.methodLink "OfficeLadder$Republic" (114 : Nat) ({ cls := "OfficeLadder$Republic", name := "firstBar", desc := "(IIIZ)I" } : Jvm.MethodName)) ∈ lw_good := g_tw 562 (by decide +kernel) (by decide +kernel)
theorem tw563 : (Jvm.Cond.instanceMethod ({ cls := "OfficeLadder$Republic", name := "firstBar", desc := "(IIIZ)I" } : Jvm.MethodName)) ∈ lw_good := g_tw 563 (by decide +kernel) (by decide +kernel)
theorem tw564 : (Jvm.Cond.selects "OfficeLadder$Republic" ({ cls := "OfficeLadder$Republic", name := "firstBar", desc := "(IIIZ)I" } : Jvm.MethodName) ({ cls := "OfficeLadder$Republic", name := "firstBar", desc := "(IIIZ)I" } : Jvm.MethodName)) ∈ lw_good := g_tw 564 (by decide +kernel) (by decide +kernel)
theorem tw565 : (Jvm.Cond.code ({ cls := "OfficeLadder$Republic", name := "firstBar", desc := "(IIIZ)I" } : Jvm.MethodName) prog_8_method_14_code (7 : Nat) (Option.some Jvm.ClassFile.FieldType.int)) ∈ lw_good := g_tw 565 (by decide +kernel) (by decide +kernel)
theorem tw566 : (Jvm.Cond.methodLink "OfficeLadder$Republic" (103 : Nat) ({ cls := "OfficeLadder$Past", name := "look", desc := "(LOfficeLadder$Person;LOfficeLadder$Office;II)V" } : Jvm.MethodName)) ∈ lw_good := g_tw 566 (by decide +kernel) (by decide +kernel)
theorem tw567 : (Jvm.Cond.instanceMethod ({ cls := "OfficeLadder$Past", name := "look", desc := "(LOfficeLadder$Person;LOfficeLadder$Office;II)V" } : Jvm.MethodName)) ∈ lw_good := g_tw 567 (by decide +kernel) (by decide +kernel)
theorem tw568 : (Jvm.Cond.selects "OfficeLadder$Past" ({ cls := "OfficeLadder$Past", name := "look", desc := "(LOfficeLadder$Person;LOfficeLadder$Office;II)V" } : Jvm.MethodName) ({ cls := "OfficeLadder$Past", name := "look", desc := "(LOfficeLadder$Person;LOfficeLadder$Office;II)V" } : Jvm.MethodName)) ∈ lw_good := g_tw 568 (by decide +kernel) (by decide +kernel)
theorem tw569 : (Jvm.Cond.code ({ cls := "OfficeLadder$Past", name := "look", desc := "(LOfficeLadder$Person;LOfficeLadder$Office;II)V" } : Jvm.MethodName) prog_6_method_2_code (7 : Nat) (Option.none : Option Jvm.ClassFile.FieldType)) ∈ lw_good := g_tw 569 (by decide +kernel) (by decide +kernel)
theorem tw570 : (Jvm.Cond.methodLink "OfficeLadder$Past" (30 : Nat) ({ cls := "OfficeLadder$Office", name := "holders", desc := "(I)I" } : Jvm.MethodName)) ∈ lw_good := g_tw 570 (by decide +kernel) (by decide +kernel)
theorem tw571 : (Jvm.Cond.instanceMethod ({ cls := "OfficeLadder$Office", name := "holders", desc := "(I)I" } : Jvm.MethodName)) ∈ lw_good := g_tw 571 (by decide +kernel) (by decide +kernel)
theorem tw572 : (Jvm.Cond.selects "OfficeLadder$Office" ({ cls := "OfficeLadder$Office", name := "holders", desc := "(I)I" } : Jvm.MethodName) ({ cls := "OfficeLadder$Office", name := "holders", desc := "(I)I" } : Jvm.MethodName)) ∈ lw_good := g_tw 572 (by decide +kernel) (by decide +kernel)
theorem tw573 : (Jvm.Cond.code ({ cls := "OfficeLadder$Office", name := "holders", desc := "(I)I" } : Jvm.MethodName) prog_5_method_8_code (5 : Nat) (Option.some Jvm.ClassFile.FieldType.int)) ∈ lw_good := g_tw 573 (by decide +kernel) (by decide +kernel)
theorem tw574 : (Jvm.Cond.methodLink "OfficeLadder$Republic" (107 : Nat) ({ cls := "OfficeLadder$Law", name := "binds", desc := "(II)Z" } : Jvm.MethodName)) ∈ lw_good := g_tw 574 (by decide +kernel) (by decide +kernel)
theorem tw575 : (Jvm.Cond.instanceMethod ({ cls := "OfficeLadder$Law", name := "binds", desc := "(II)Z" } : Jvm.MethodName)) ∈ lw_good := g_tw 575 (by decide +kernel) (by decide +kernel)
theorem tw576 : (Jvm.Cond.selects "OfficeLadder$Law" ({ cls := "OfficeLadder$Law", name := "binds", desc := "(II)Z" } : Jvm.MethodName) ({ cls := "OfficeLadder$Law", name := "binds", desc := "(II)Z" } : Jvm.MethodName)) ∈ lw_good := g_tw 576 (by decide +kernel) (by decide +kernel)
theorem tw577 : (Jvm.Cond.code ({ cls := "OfficeLadder$Law", name := "binds", desc := "(II)Z" } : Jvm.MethodName) prog_4_method_2_code (3 : Nat) (Option.some Jvm.ClassFile.FieldType.boolean)) ∈ lw_good := g_tw 577 (by decide +kernel) (by decide +kernel)
theorem tw578 : (Jvm.Cond.methodLink "OfficeLadder$Republic" (110 : Nat) ({ cls := "OfficeLadder$Law", name := "bars", desc := "(LOfficeLadder$Person;ILOfficeLadder$Past;)Z" } : Jvm.MethodName)) ∈ lw_good := g_tw 578 (by decide +kernel) (by decide +kernel)
theorem tw579 : (Jvm.Cond.instanceMethod ({ cls := "OfficeLadder$Law", name := "bars", desc := "(LOfficeLadder$Person;ILOfficeLadder$Past;)Z" } : Jvm.MethodName)) ∈ lw_good := g_tw 579 (by decide +kernel) (by decide +kernel)
theorem tw580 : (Jvm.Cond.selects "OfficeLadder$Law" ({ cls := "OfficeLadder$Law", name := "bars", desc := "(LOfficeLadder$Person;ILOfficeLadder$Past;)Z" } : Jvm.MethodName) ({ cls := "OfficeLadder$Law", name := "bars", desc := "(LOfficeLadder$Person;ILOfficeLadder$Past;)Z" } : Jvm.MethodName)) ∈ lw_good := g_tw 580 (by decide +kernel) (by decide +kernel)
theorem tw581 : (Jvm.Cond.code ({ cls := "OfficeLadder$Law", name := "bars", desc := "(LOfficeLadder$Person;ILOfficeLadder$Past;)Z" } : Jvm.MethodName) prog_4_method_3_code (4 : Nat) (Option.some Jvm.ClassFile.FieldType.boolean)) ∈ lw_good := g_tw 581 (by decide +kernel) (by decide +kernel)
theorem tw582 : (Jvm.Cond.methodLink "OfficeLadder$Republic" (118 : Nat) ({ cls := "OfficeLadder$Law", name := "leavesDoubt", desc := "(LOfficeLadder$Person;I)Z" } : Jvm.MethodName)) ∈ lw_good := g_tw 582 (by decide +kernel) (by decide +kernel)
theorem tw583 : (Jvm.Cond.instanceMethod ({ cls := "OfficeLadder$Law", name := "leavesDoubt", desc := "(LOfficeLadder$Person;I)Z" } : Jvm.MethodName)) ∈ lw_good := g_tw 583 (by decide +kernel) (by decide +kernel)
theorem tw584 : (Jvm.Cond.selects "OfficeLadder$Law" ({ cls := "OfficeLadder$Law", name := "leavesDoubt", desc := "(LOfficeLadder$Person;I)Z" } : Jvm.MethodName) ({ cls := "OfficeLadder$Law", name := "leavesDoubt", desc := "(LOfficeLadder$Person;I)Z" } : Jvm.MethodName)) ∈ lw_good := g_tw 584 (by decide +kernel) (by decide +kernel)
theorem tw585 : (Jvm.Cond.code ({ cls := "OfficeLadder$Law", name := "leavesDoubt", desc := "(LOfficeLadder$Person;I)Z" } : Jvm.MethodName) prog_4_method_4_code (3 : Nat) (Option.some Jvm.ClassFile.FieldType.boolean)) ∈ lw_good := g_tw 585 (by decide +kernel) (by decide +kernel)
theorem tw586 : (Jvm.Cond.methodLink "OfficeLadder" (175 : Nat) ({ cls := "OfficeLadder$Republic", name := "firstBar", desc := "(IIIZ)I" } : Jvm.MethodName)) ∈ lw_good := g_tw 586 (by decide +kernel) (by decide +kernel)
theorem tw587 : (Jvm.Cond.methodLink "OfficeLadderLaw" (82 : Nat) ({ cls := "OfficeLadder", name := "first", desc := "(IIIZ)I" } : Jvm.MethodName)) ∈ lw_good := g_tw 587 (by decide +kernel) (by decide +kernel)
theorem tw588 : (Jvm.Cond.instanceMethod ({ cls := "OfficeLadder", name := "first", desc := "(IIIZ)I" } : Jvm.MethodName)) ∈ lw_good := g_tw 588 (by decide +kernel) (by decide +kernel)
theorem tw589 : (Jvm.Cond.selects "OfficeLadder" ({ cls := "OfficeLadder", name := "first", desc := "(IIIZ)I" } : Jvm.MethodName) ({ cls := "OfficeLadder", name := "first", desc := "(IIIZ)I" } : Jvm.MethodName)) ∈ lw_good := g_tw 589 (by decide +kernel) (by decide +kernel)
theorem tw590 : (Jvm.Cond.code ({ cls := "OfficeLadder", name := "first", desc := "(IIIZ)I" } : Jvm.MethodName) prog_1_method_16_code (7 : Nat) (Option.some Jvm.ClassFile.FieldType.int)) ∈ lw_good := g_tw 590 (by decide +kernel) (by decide +kernel)
theorem tw591 : (Jvm.Cond.methodLink "OfficeLadderLaw" (86 : Nat) ({ cls := "OfficeLadder", name := "who", desc := "(IIZ)I" } : Jvm.MethodName)) ∈ lw_good := g_tw 591 (by decide +kernel) (by decide +kernel)
theorem tw592 : (Jvm.Cond.instanceMethod ({ cls := "OfficeLadder", name := "who", desc := "(IIZ)I" } : Jvm.MethodName)) ∈ lw_good := g_tw 592 (by decide +kernel) (by decide +kernel)
theorem tw593 : (Jvm.Cond.selects "OfficeLadder" ({ cls := "OfficeLadder", name := "who", desc := "(IIZ)I" } : Jvm.MethodName) ({ cls := "OfficeLadder", name := "who", desc := "(IIZ)I" } : Jvm.MethodName)) ∈ lw_good := g_tw 593 (by decide +kernel) (by decide +kernel)
theorem tw594 : (Jvm.Cond.code ({ cls := "OfficeLadder", name := "who", desc := "(IIZ)I" } : Jvm.MethodName) prog_1_method_17_code (7 : Nat) (Option.some Jvm.ClassFile.FieldType.int)) ∈ lw_good := g_tw 594 (by decide +kernel) (by decide +kernel)
theorem tw595 : (Jvm.Cond.methodLink "OfficeLadderLaw" (91 : Nat) ({ cls := "OfficeLadder", name := "breaches", desc := "()I" } : Jvm.MethodName)) ∈ lw_good := g_tw 595 (by decide +kernel) (by decide +kernel)
theorem tw596 : (Jvm.Cond.instanceMethod ({ cls := "OfficeLadder", name := "breaches", desc := "()I" } : Jvm.MethodName)) ∈ lw_good := g_tw 596 (by decide +kernel) (by decide +kernel)
theorem tw597 : (Jvm.Cond.selects "OfficeLadder" ({ cls := "OfficeLadder", name := "breaches", desc := "()I" } : Jvm.MethodName) ({ cls := "OfficeLadder", name := "breaches", desc := "()I" } : Jvm.MethodName)) ∈ lw_good := g_tw 597 (by decide +kernel) (by decide +kernel)
theorem tw598 : (Jvm.Cond.code ({ cls := "OfficeLadder", name := "breaches", desc := "()I" } : Jvm.MethodName) prog_1_method_18_code (4 : Nat) (Option.some Jvm.ClassFile.FieldType.int)) ∈ lw_good := g_tw 598 (by decide +kernel) (by decide +kernel)
theorem tw599 : (Jvm.Cond.methodLink "OfficeLadder" (179 : Nat) ({ cls := "OfficeLadder$Republic", name := "breachesIn", desc := "(II)I" } : Jvm.MethodName)) ∈ lw_good := g_tw 599 (by decide +kernel) (by decide +kernel)
theorem tw600 : (Jvm.Cond.instanceMethod ({ cls := "OfficeLadder$Republic", name := "breachesIn", desc := "(II)I" } : Jvm.MethodName)) ∈ lw_good := g_tw 600 (by decide +kernel) (by decide +kernel)
theorem tw601 : (Jvm.Cond.selects "OfficeLadder$Republic" ({ cls := "OfficeLadder$Republic", name := "breachesIn", desc := "(II)I" } : Jvm.MethodName) ({ cls := "OfficeLadder$Republic", name := "breachesIn", desc := "(II)I" } : Jvm.MethodName)) ∈ lw_good := g_tw 601 (by decide +kernel) (by decide +kernel)
theorem tw602 : (Jvm.Cond.code ({ cls := "OfficeLadder$Republic", name := "breachesIn", desc := "(II)I" } : Jvm.MethodName) prog_8_method_16_code (7 : Nat) (Option.some Jvm.ClassFile.FieldType.int)) ∈ lw_good := g_tw 602 (by decide +kernel) (by decide +kernel)
theorem tw603 : (Jvm.Cond.methodLink "OfficeLadder$Republic" (122 : Nat) ({ cls := "OfficeLadder$Office", name := "code", desc := "(II)I" } : Jvm.MethodName)) ∈ lw_good := g_tw 603 (by decide +kernel) (by decide +kernel)
theorem tw604 : (Jvm.Cond.methodLink "OfficeLadderLaw" (96 : Nat) ({ cls := "OfficeLadder", name := "breach", desc := "(I)I" } : Jvm.MethodName)) ∈ lw_good := g_tw 604 (by decide +kernel) (by decide +kernel)
theorem tw605 : (Jvm.Cond.instanceMethod ({ cls := "OfficeLadder", name := "breach", desc := "(I)I" } : Jvm.MethodName)) ∈ lw_good := g_tw 605 (by decide +kernel) (by decide +kernel)
theorem tw606 : (Jvm.Cond.selects "OfficeLadder" ({ cls := "OfficeLadder", name := "breach", desc := "(I)I" } : Jvm.MethodName) ({ cls := "OfficeLadder", name := "breach", desc := "(I)I" } : Jvm.MethodName)) ∈ lw_good := g_tw 606 (by decide +kernel) (by decide +kernel)
theorem tw607 : (Jvm.Cond.code ({ cls := "OfficeLadder", name := "breach", desc := "(I)I" } : Jvm.MethodName) prog_1_method_19_code (5 : Nat) (Option.some Jvm.ClassFile.FieldType.int)) ∈ lw_good := g_tw 607 (by decide +kernel) (by decide +kernel)
theorem tw608 : (Jvm.Cond.methodLink "OfficeLadderLaw" (101 : Nat) ({ cls := "OfficeLadder", name := "fillings", desc := "(I)I" } : Jvm.MethodName)) ∈ lw_good := g_tw 608 (by decide +kernel) (by decide +kernel)
theorem tw609 : (Jvm.Cond.instanceMethod ({ cls := "OfficeLadder", name := "fillings", desc := "(I)I" } : Jvm.MethodName)) ∈ lw_good := g_tw 609 (by decide +kernel) (by decide +kernel)
theorem tw610 : (Jvm.Cond.selects "OfficeLadder" ({ cls := "OfficeLadder", name := "fillings", desc := "(I)I" } : Jvm.MethodName) ({ cls := "OfficeLadder", name := "fillings", desc := "(I)I" } : Jvm.MethodName)) ∈ lw_good := g_tw 610 (by decide +kernel) (by decide +kernel)
theorem tw611 : (Jvm.Cond.code ({ cls := "OfficeLadder", name := "fillings", desc := "(I)I" } : Jvm.MethodName) prog_1_method_20_code (2 : Nat) (Option.some Jvm.ClassFile.FieldType.int)) ∈ lw_good := g_tw 611 (by decide +kernel) (by decide +kernel)
theorem tw612 : (Jvm.Cond.methodLink "OfficeLadder" (182 : Nat) ({ cls := "OfficeLadder$Filler", name := "search", desc := "(LOfficeLadder$Republic;IIIZ)V" } : Jvm.MethodName)) ∈ lw_good := g_tw 612 (by decide +kernel) (by decide +kernel)
theorem tw613 : (Jvm.Cond.instanceMethod ({ cls := "OfficeLadder$Filler", name := "search", desc := "(LOfficeLadder$Republic;IIIZ)V" } : Jvm.MethodName)) ∈ lw_good := g_tw 613 (by decide +kernel) (by decide +kernel)
theorem tw614 : (Jvm.Cond.selects "OfficeLadder$Filler" ({ cls := "OfficeLadder$Filler", name := "search", desc := "(LOfficeLadder$Republic;IIIZ)V" } : Jvm.MethodName) ({ cls := "OfficeLadder$Filler", name := "search", desc := "(LOfficeLadder$Republic;IIIZ)V" } : Jvm.MethodName)) ∈ lw_good := g_tw 614 (by decide +kernel) (by decide +kernel)
theorem tw615 : (Jvm.Cond.code ({ cls := "OfficeLadder$Filler", name := "search", desc := "(LOfficeLadder$Republic;IIIZ)V" } : Jvm.MethodName) prog_3_method_2_code (7 : Nat) (Option.none : Option Jvm.ClassFile.FieldType)) ∈ lw_good := g_tw 615 (by decide +kernel) (by decide +kernel)
theorem tw616 : (Jvm.Cond.methodLink "OfficeLadder$Filler" (69 : Nat) ({ cls := "OfficeLadder$Filler", name := "addSlots", desc := "(LOfficeLadder$Office;II)V" } : Jvm.MethodName)) ∈ lw_good := g_tw 616 (by decide +kernel) (by decide +kernel)
theorem tw618 : (Jvm.Cond.instanceMethod ({ cls := "OfficeLadder$Filler", name := "addSlots", desc := "(LOfficeLadder$Office;II)V" } : Jvm.MethodName)) ∈ lw_good := g_tw 618 (by decide +kernel) (by decide +kernel)
theorem tw619 : (Jvm.Cond.code ({ cls := "OfficeLadder$Filler", name := "addSlots", desc := "(LOfficeLadder$Office;II)V" } : Jvm.MethodName) prog_3_method_4_code (5 : Nat) (Option.none : Option Jvm.ClassFile.FieldType)) ∈ lw_good := g_tw 619 (by decide +kernel) (by decide +kernel)
theorem tw620 : (Jvm.Cond.methodLink "OfficeLadder$Filler" (94 : Nat) ({ cls := "OfficeLadder$Office", name := "code", desc := "(II)I" } : Jvm.MethodName)) ∈ lw_good := g_tw 620 (by decide +kernel) (by decide +kernel)
theorem tw621 : (Jvm.Cond.methodLink "OfficeLadder$Filler" (73 : Nat) ({ cls := "OfficeLadder$Republic", name := "kinLawBinds", desc := "(II)Z" } : Jvm.MethodName)) ∈ lw_good := g_tw 621 (by decide +kernel) (by decide +kernel)
theorem tw622 : (Jvm.Cond.instanceMethod ({ cls := "OfficeLadder$Republic", name := "kinLawBinds", desc := "(II)Z" } : Jvm.MethodName)) ∈ lw_good := g_tw 622 (by decide +kernel) (by decide +kernel)
theorem tw623 : (Jvm.Cond.selects "OfficeLadder$Republic" ({ cls := "OfficeLadder$Republic", name := "kinLawBinds", desc := "(II)Z" } : Jvm.MethodName) ({ cls := "OfficeLadder$Republic", name := "kinLawBinds", desc := "(II)Z" } : Jvm.MethodName)) ∈ lw_good := g_tw 623 (by decide +kernel) (by decide +kernel)
theorem tw624 : (Jvm.Cond.code ({ cls := "OfficeLadder$Republic", name := "kinLawBinds", desc := "(II)Z" } : Jvm.MethodName) prog_8_method_17_code (4 : Nat) (Option.some Jvm.ClassFile.FieldType.boolean)) ∈ lw_good := g_tw 624 (by decide +kernel) (by decide +kernel)
theorem tw625 : (Jvm.Cond.methodLink "OfficeLadder$Filler" (77 : Nat) ({ cls := "OfficeLadder$Filler", name := "ableIn", desc := "(LOfficeLadder$Republic;II)I" } : Jvm.MethodName)) ∈ lw_good := g_tw 625 (by decide +kernel) (by decide +kernel)
theorem tw626 : (Jvm.Cond.static ({ cls := "OfficeLadder$Filler", name := "ableIn", desc := "(LOfficeLadder$Republic;II)I" } : Jvm.MethodName)) ∈ lw_good := g_tw 626 (by decide +kernel) (by decide +kernel)
theorem tw627 : (Jvm.Cond.code ({ cls := "OfficeLadder$Filler", name := "ableIn", desc := "(LOfficeLadder$Republic;II)I" } : Jvm.MethodName) prog_3_method_5_code (5 : Nat) (Option.some Jvm.ClassFile.FieldType.int)) ∈ lw_good := g_tw 627 (by decide +kernel) (by decide +kernel)
theorem tw628 : (Jvm.Cond.methodLink "OfficeLadder$Filler" (98 : Nat) ({ cls := "OfficeLadder$Office", name := "firstEmpty", desc := "(I)I" } : Jvm.MethodName)) ∈ lw_good := g_tw 628 (by decide +kernel) (by decide +kernel)
theorem tw629 : (Jvm.Cond.methodLink "OfficeLadder$Filler" (105 : Nat) ({ cls := "OfficeLadder$Republic", name := "firstBar", desc := "(IIIZ)I" } : Jvm.MethodName)) ∈ lw_good := g_tw 629 (by decide +kernel) (by decide +kernel)
theorem tw630 : (Jvm.Cond.methodLink "OfficeLadder$Filler" (81 : Nat) ({ cls := "OfficeLadder$Filler", name := "place", desc := "(LOfficeLadder$Republic;I)V" } : Jvm.MethodName)) ∈ lw_good := g_tw 630 (by decide +kernel) (by decide +kernel)
theorem tw632 : (Jvm.Cond.instanceMethod ({ cls := "OfficeLadder$Filler", name := "place", desc := "(LOfficeLadder$Republic;I)V" } : Jvm.MethodName)) ∈ lw_good := g_tw 632 (by decide +kernel) (by decide +kernel)
theorem tw633 : (Jvm.Cond.code ({ cls := "OfficeLadder$Filler", name := "place", desc := "(LOfficeLadder$Republic;I)V" } : Jvm.MethodName) prog_3_method_6_code (7 : Nat) (Option.none : Option Jvm.ClassFile.FieldType)) ∈ lw_good := g_tw 633 (by decide +kernel) (by decide +kernel)
theorem tw634 : (Jvm.Cond.methodLink "OfficeLadder$Filler" (109 : Nat) ({ cls := "OfficeLadder$Filler", name := "tellFound", desc := "()V" } : Jvm.MethodName)) ∈ lw_good := g_tw 634 (by decide +kernel) (by decide +kernel)
theorem tw636 : (Jvm.Cond.instanceMethod ({ cls := "OfficeLadder$Filler", name := "tellFound", desc := "()V" } : Jvm.MethodName)) ∈ lw_good := g_tw 636 (by decide +kernel) (by decide +kernel)
theorem tw637 : (Jvm.Cond.code ({ cls := "OfficeLadder$Filler", name := "tellFound", desc := "()V" } : Jvm.MethodName) prog_3_method_10_code (1 : Nat) (Option.none : Option Jvm.ClassFile.FieldType)) ∈ lw_good := g_tw 637 (by decide +kernel) (by decide +kernel)
theorem tw638 : (Jvm.Cond.methodLink "OfficeLadder$Filler" (112 : Nat) ({ cls := "OfficeLadder$Filler", name := "isOver", desc := "()Z" } : Jvm.MethodName)) ∈ lw_good := g_tw 638 (by decide +kernel) (by decide +kernel)
theorem tw640 : (Jvm.Cond.instanceMethod ({ cls := "OfficeLadder$Filler", name := "isOver", desc := "()Z" } : Jvm.MethodName)) ∈ lw_good := g_tw 640 (by decide +kernel) (by decide +kernel)
theorem tw641 : (Jvm.Cond.code ({ cls := "OfficeLadder$Filler", name := "isOver", desc := "()Z" } : Jvm.MethodName) prog_3_method_8_code (1 : Nat) (Option.some Jvm.ClassFile.FieldType.boolean)) ∈ lw_good := g_tw 641 (by decide +kernel) (by decide +kernel)
theorem tw642 : (Jvm.Cond.methodLink "OfficeLadder$Filler" (116 : Nat) ({ cls := "OfficeLadder$Filler", name := "fits", desc := "(LOfficeLadder$Republic;II)Z" } : Jvm.MethodName)) ∈ lw_good := g_tw 642 (by decide +kernel) (by decide +kernel)
theorem tw644 : (Jvm.Cond.instanceMethod ({ cls := "OfficeLadder$Filler", name := "fits", desc := "(LOfficeLadder$Republic;II)Z" } : Jvm.MethodName)) ∈ lw_good := g_tw 644 (by decide +kernel) (by decide +kernel)
theorem tw645 : (Jvm.Cond.code ({ cls := "OfficeLadder$Filler", name := "fits", desc := "(LOfficeLadder$Republic;II)Z" } : Jvm.MethodName) prog_3_method_9_code (4 : Nat) (Option.some Jvm.ClassFile.FieldType.boolean)) ∈ lw_good := g_tw 645 (by decide +kernel) (by decide +kernel)
theorem tw646 : (Jvm.Cond.methodLink "OfficeLadder$Filler" (120 : Nat) ({ cls := "OfficeLadder$Filler", name := "takeAndGoOn", desc := "(LOfficeLadder$Republic;II)V" } : Jvm.MethodName)) ∈ lw_good := g_tw 646 (by decide +kernel) (by decide +kernel)
theorem tw648 : (Jvm.Cond.instanceMethod ({ cls := "OfficeLadder$Filler", name := "takeAndGoOn", desc := "(LOfficeLadder$Republic;II)V" } : Jvm.MethodName)) ∈ lw_good := g_tw 648 (by decide +kernel) (by decide +kernel)
theorem tw649 : (Jvm.Cond.code ({ cls := "OfficeLadder$Filler", name := "takeAndGoOn", desc := "(LOfficeLadder$Republic;II)V" } : Jvm.MethodName) prog_3_method_7_code (6 : Nat) (Option.none : Option Jvm.ClassFile.FieldType)) ∈ lw_good := g_tw 649 (by decide +kernel) (by decide +kernel)
theorem tw650 : (Jvm.Cond.methodLink "OfficeLadderLaw" (105 : Nat) ({ cls := "OfficeLadder", name := "fill", desc := "(I)I" } : Jvm.MethodName)) ∈ lw_good := g_tw 650 (by decide +kernel) (by decide +kernel)
theorem tw651 : (Jvm.Cond.instanceMethod ({ cls := "OfficeLadder", name := "fill", desc := "(I)I" } : Jvm.MethodName)) ∈ lw_good := g_tw 651 (by decide +kernel) (by decide +kernel)
theorem tw652 : (Jvm.Cond.selects "OfficeLadder" ({ cls := "OfficeLadder", name := "fill", desc := "(I)I" } : Jvm.MethodName) ({ cls := "OfficeLadder", name := "fill", desc := "(I)I" } : Jvm.MethodName)) ∈ lw_good := g_tw 652 (by decide +kernel) (by decide +kernel)
theorem tw653 : (Jvm.Cond.code ({ cls := "OfficeLadder", name := "fill", desc := "(I)I" } : Jvm.MethodName) prog_1_method_21_code (2 : Nat) (Option.some Jvm.ClassFile.FieldType.int)) ∈ lw_good := g_tw 653 (by decide +kernel) (by decide +kernel)
theorem tw654 : (Jvm.Cond.methodLink "OfficeLadder" (193 : Nat) ({ cls := "OfficeLadder$Filler", name := "putIn", desc := "(LOfficeLadder$Republic;I)V" } : Jvm.MethodName)) ∈ lw_good := g_tw 654 (by decide +kernel) (by decide +kernel)
theorem tw655 : (Jvm.Cond.instanceMethod ({ cls := "OfficeLadder$Filler", name := "putIn", desc := "(LOfficeLadder$Republic;I)V" } : Jvm.MethodName)) ∈ lw_good := g_tw 655 (by decide +kernel) (by decide +kernel)
theorem tw656 : (Jvm.Cond.selects "OfficeLadder$Filler" ({ cls := "OfficeLadder$Filler", name := "putIn", desc := "(LOfficeLadder$Republic;I)V" } : Jvm.MethodName) ({ cls := "OfficeLadder$Filler", name := "putIn", desc := "(LOfficeLadder$Republic;I)V" } : Jvm.MethodName)) ∈ lw_good := g_tw 656 (by decide +kernel) (by decide +kernel)
theorem tw657 : (Jvm.Cond.code ({ cls := "OfficeLadder$Filler", name := "putIn", desc := "(LOfficeLadder$Republic;I)V" } : Jvm.MethodName) prog_3_method_3_code (4 : Nat) (Option.none : Option Jvm.ClassFile.FieldType)) ∈ lw_good := g_tw 657 (by decide +kernel) (by decide +kernel)
theorem tw658 : (Jvm.Cond.methodLink "OfficeLadder$Filler" (85 : Nat) ({ cls := "OfficeLadder$Republic", name := "put", desc := "(IIII)V" } : Jvm.MethodName)) ∈ lw_good := g_tw 658 (by decide +kernel) (by decide +kernel)
theorem tw659 : (Jvm.Cond.methodLink "OfficeLadderLaw" (109 : Nat) ({ cls := "OfficeLadder", name := "among", desc := "(III)I" } : Jvm.MethodName)) ∈ lw_good := g_tw 659 (by decide +kernel) (by decide +kernel)
theorem tw660 : (Jvm.Cond.instanceMethod ({ cls := "OfficeLadder", name := "among", desc := "(III)I" } : Jvm.MethodName)) ∈ lw_good := g_tw 660 (by decide +kernel) (by decide +kernel)
theorem tw661 : (Jvm.Cond.selects "OfficeLadder" ({ cls := "OfficeLadder", name := "among", desc := "(III)I" } : Jvm.MethodName) ({ cls := "OfficeLadder", name := "among", desc := "(III)I" } : Jvm.MethodName)) ∈ lw_good := g_tw 661 (by decide +kernel) (by decide +kernel)
theorem tw662 : (Jvm.Cond.code ({ cls := "OfficeLadder", name := "among", desc := "(III)I" } : Jvm.MethodName) prog_1_method_22_code (4 : Nat) (Option.some Jvm.ClassFile.FieldType.int)) ∈ lw_good := g_tw 662 (by decide +kernel) (by decide +kernel)
theorem tw663 : (Jvm.Cond.methodLink "OfficeLadderLaw" (113 : Nat) ({ cls := "OfficeLadder", name := "election", desc := "(II)I" } : Jvm.MethodName)) ∈ lw_good := g_tw 663 (by decide +kernel) (by decide +kernel)
theorem tw664 : (Jvm.Cond.instanceMethod ({ cls := "OfficeLadder", name := "election", desc := "(II)I" } : Jvm.MethodName)) ∈ lw_good := g_tw 664 (by decide +kernel) (by decide +kernel)
theorem tw665 : (Jvm.Cond.selects "OfficeLadder" ({ cls := "OfficeLadder", name := "election", desc := "(II)I" } : Jvm.MethodName) ({ cls := "OfficeLadder", name := "election", desc := "(II)I" } : Jvm.MethodName)) ∈ lw_good := g_tw 665 (by decide +kernel) (by decide +kernel)
theorem tw666 : (Jvm.Cond.code ({ cls := "OfficeLadder", name := "election", desc := "(II)I" } : Jvm.MethodName) prog_1_method_23_code (4 : Nat) (Option.some Jvm.ClassFile.FieldType.int)) ∈ lw_good := g_tw 666 (by decide +kernel) (by decide +kernel)
theorem tw667 : (Jvm.Cond.methodLink "OfficeLadder" (206 : Nat) ({ cls := "OfficeLadder$Election", name := "open", desc := "(II)V" } : Jvm.MethodName)) ∈ lw_good := g_tw 667 (by decide +kernel) (by decide +kernel)
theorem tw668 : (Jvm.Cond.instanceMethod ({ cls := "OfficeLadder$Election", name := "open", desc := "(II)V" } : Jvm.MethodName)) ∈ lw_good := g_tw 668 (by decide +kernel) (by decide +kernel)
theorem tw669 : (Jvm.Cond.selects "OfficeLadder$Election" ({ cls := "OfficeLadder$Election", name := "open", desc := "(II)V" } : Jvm.MethodName) ({ cls := "OfficeLadder$Election", name := "open", desc := "(II)V" } : Jvm.MethodName)) ∈ lw_good := g_tw 669 (by decide +kernel) (by decide +kernel)
theorem tw670 : (Jvm.Cond.code ({ cls := "OfficeLadder$Election", name := "open", desc := "(II)V" } : Jvm.MethodName) prog_2_method_2_code (3 : Nat) (Option.none : Option Jvm.ClassFile.FieldType)) ∈ lw_good := g_tw 670 (by decide +kernel) (by decide +kernel)
theorem tw671 : (Jvm.Cond.methodLink "OfficeLadder$Election" (46 : Nat) ({ cls := "java/util/Arrays", name := "fill", desc := "([II)V" } : Jvm.MethodName)) ∈ lw_good := g_tw 671 (by decide +kernel) (by decide +kernel)
theorem tw672 : (Jvm.Cond.static ({ cls := "java/util/Arrays", name := "fill", desc := "([II)V" } : Jvm.MethodName)) ∈ lw_good := g_tw 672 (by decide +kernel) (by decide +kernel)
theorem tw673 : (Jvm.Cond.code ({ cls := "java/util/Arrays", name := "fill", desc := "([II)V" } : Jvm.MethodName) prog_20_method_103_code (4 : Nat) (Option.none : Option Jvm.ClassFile.FieldType)) ∈ lw_good := g_tw 673 (by decide +kernel) (by decide +kernel)
theorem tw674 : (Jvm.Cond.methodLink "OfficeLadderLaw" (117 : Nat) ({ cls := "OfficeLadder", name := "vote", desc := "(II)I" } : Jvm.MethodName)) ∈ lw_good := g_tw 674 (by decide +kernel) (by decide +kernel)
theorem tw675 : (Jvm.Cond.instanceMethod ({ cls := "OfficeLadder", name := "vote", desc := "(II)I" } : Jvm.MethodName)) ∈ lw_good := g_tw 675 (by decide +kernel) (by decide +kernel)
theorem tw676 : (Jvm.Cond.selects "OfficeLadder" ({ cls := "OfficeLadder", name := "vote", desc := "(II)I" } : Jvm.MethodName) ({ cls := "OfficeLadder", name := "vote", desc := "(II)I" } : Jvm.MethodName)) ∈ lw_good := g_tw 676 (by decide +kernel) (by decide +kernel)
theorem tw677 : (Jvm.Cond.code ({ cls := "OfficeLadder", name := "vote", desc := "(II)I" } : Jvm.MethodName) prog_1_method_24_code (3 : Nat) (Option.some Jvm.ClassFile.FieldType.int)) ∈ lw_good := g_tw 677 (by decide +kernel) (by decide +kernel)
theorem tw678 : (Jvm.Cond.methodLink "OfficeLadder" (209 : Nat) ({ cls := "OfficeLadder$Election", name := "isBallot", desc := "(I)Z" } : Jvm.MethodName)) ∈ lw_good := g_tw 678 (by decide +kernel) (by decide +kernel)
theorem tw679 : (Jvm.Cond.instanceMethod ({ cls := "OfficeLadder$Election", name := "isBallot", desc := "(I)Z" } : Jvm.MethodName)) ∈ lw_good := g_tw 679 (by decide +kernel) (by decide +kernel)
theorem tw680 : (Jvm.Cond.selects "OfficeLadder$Election" ({ cls := "OfficeLadder$Election", name := "isBallot", desc := "(I)Z" } : Jvm.MethodName) ({ cls := "OfficeLadder$Election", name := "isBallot", desc := "(I)Z" } : Jvm.MethodName)) ∈ lw_good := g_tw 680 (by decide +kernel) (by decide +kernel)
theorem tw681 : (Jvm.Cond.code ({ cls := "OfficeLadder$Election", name := "isBallot", desc := "(I)Z" } : Jvm.MethodName) prog_2_method_3_code (2 : Nat) (Option.some Jvm.ClassFile.FieldType.boolean)) ∈ lw_good := g_tw 681 (by decide +kernel) (by decide +kernel)
theorem tw682 : (Jvm.Cond.methodLink "OfficeLadder$Election" (52 : Nat) ({ cls := "java/lang/Integer", name := "bitCount", desc := "(I)I" } : Jvm.MethodName)) ∈ lw_good := g_tw 682 (by decide +kernel) (by decide +kernel)
theorem tw683 : (Jvm.Cond.static ({ cls := "java/lang/Integer", name := "bitCount", desc := "(I)I" } : Jvm.MethodName)) ∈ lw_good := g_tw 683 (by decide +kernel) (by decide +kernel)
theorem tw684 : (Jvm.Cond.code ({ cls := "java/lang/Integer", name := "bitCount", desc := "(I)I" } : Jvm.MethodName) prog_15_method_49_code (1 : Nat) (Option.some Jvm.ClassFile.FieldType.int)) ∈ lw_good := g_tw 684 (by decide +kernel) (by decide +kernel)
theorem tw685 : (Jvm.Cond.constant "java/lang/Integer" (265 : Nat) (1431655765 : Int32)) ∈ lw_good := g_tw 685 (by decide +kernel) (by decide +kernel)
theorem tw686 : (Jvm.Cond.constant "java/lang/Integer" (266 : Nat) (858993459 : Int32)) ∈ lw_good := g_tw 686 (by decide +kernel) (by decide +kernel)
theorem tw687 : (Jvm.Cond.constant "java/lang/Integer" (267 : Nat) (252645135 : Int32)) ∈ lw_good := g_tw 687 (by decide +kernel) (by decide +kernel)
theorem tw688 : (Jvm.Cond.methodLink "OfficeLadder" (212 : Nat) ({ cls := "OfficeLadder$Election", name := "take", desc := "(II)Z" } : Jvm.MethodName)) ∈ lw_good := g_tw 688 (by decide +kernel) (by decide +kernel)
theorem tw689 : (Jvm.Cond.instanceMethod ({ cls := "OfficeLadder$Election", name := "take", desc := "(II)Z" } : Jvm.MethodName)) ∈ lw_good := g_tw 689 (by decide +kernel) (by decide +kernel)
theorem tw690 : (Jvm.Cond.selects "OfficeLadder$Election" ({ cls := "OfficeLadder$Election", name := "take", desc := "(II)Z" } : Jvm.MethodName) ({ cls := "OfficeLadder$Election", name := "take", desc := "(II)Z" } : Jvm.MethodName)) ∈ lw_good := g_tw 690 (by decide +kernel) (by decide +kernel)
theorem tw691 : (Jvm.Cond.code ({ cls := "OfficeLadder$Election", name := "take", desc := "(II)Z" } : Jvm.MethodName) prog_2_method_4_code (4 : Nat) (Option.some Jvm.ClassFile.FieldType.boolean)) ∈ lw_good := g_tw 691 (by decide +kernel) (by decide +kernel)
theorem tw692 : (Jvm.Cond.methodLink "OfficeLadderLaw" (123 : Nat) ({ cls := "OfficeLadder", name := "elected", desc := "(JII)I" } : Jvm.MethodName)) ∈ lw_good := g_tw 692 (by decide +kernel) (by decide +kernel)
theorem tw693 : (Jvm.Cond.instanceMethod ({ cls := "OfficeLadder", name := "elected", desc := "(JII)I" } : Jvm.MethodName)) ∈ lw_good := g_tw 693 (by decide +kernel) (by decide +kernel)
theorem tw694 : (Jvm.Cond.selects "OfficeLadder" ({ cls := "OfficeLadder", name := "elected", desc := "(JII)I" } : Jvm.MethodName) ({ cls := "OfficeLadder", name := "elected", desc := "(JII)I" } : Jvm.MethodName)) ∈ lw_good := g_tw 694 (by decide +kernel) (by decide +kernel)
theorem tw695 : (Jvm.Cond.code ({ cls := "OfficeLadder", name := "elected", desc := "(JII)I" } : Jvm.MethodName) prog_1_method_25_code (5 : Nat) (Option.some Jvm.ClassFile.FieldType.int)) ∈ lw_good := g_tw 695 (by decide +kernel) (by decide +kernel)
theorem tw696 : (Jvm.Cond.methodLink "OfficeLadder" (218 : Nat) ({ cls := "OfficeLadder$Election", name := "run", desc := "(J)V" } : Jvm.MethodName)) ∈ lw_good := g_tw 696 (by decide +kernel) (by decide +kernel)
theorem tw697 : (Jvm.Cond.instanceMethod ({ cls := "OfficeLadder$Election", name := "run", desc := "(J)V" } : Jvm.MethodName)) ∈ lw_good := g_tw 697 (by decide +kernel) (by decide +kernel)
theorem tw698 : (Jvm.Cond.selects "OfficeLadder$Election" ({ cls := "OfficeLadder$Election", name := "run", desc := "(J)V" } : Jvm.MethodName) ({ cls := "OfficeLadder$Election", name := "run", desc := "(J)V" } : Jvm.MethodName)) ∈ lw_good := g_tw 698 (by decide +kernel) (by decide +kernel)
theorem tw699 : (Jvm.Cond.code ({ cls := "OfficeLadder$Election", name := "run", desc := "(J)V" } : Jvm.MethodName) prog_2_method_5_code (4 : Nat) (Option.none : Option Jvm.ClassFile.FieldType)) ∈ lw_good := g_tw 699 (by decide +kernel) (by decide +kernel)
theorem tw700 : (Jvm.Cond.methodLink "OfficeLadder$Election" (58 : Nat) ({ cls := "OfficeLadder$Election", name := "begin", desc := "(J)V" } : Jvm.MethodName)) ∈ lw_good := g_tw 700 (by decide +kernel) (by decide +kernel)
theorem tw702 : (Jvm.Cond.instanceMethod ({ cls := "OfficeLadder$Election", name := "begin", desc := "(J)V" } : Jvm.MethodName)) ∈ lw_good := g_tw 702 (by decide +kernel) (by decide +kernel)
theorem tw703 : (Jvm.Cond.code ({ cls := "OfficeLadder$Election", name := "begin", desc := "(J)V" } : Jvm.MethodName) prog_2_method_7_code (3 : Nat) (Option.none : Option Jvm.ClassFile.FieldType)) ∈ lw_good := g_tw 703 (by decide +kernel) (by decide +kernel)
theorem tw705 : (Jvm.Cond.static ({ cls := "OfficeLadder", name := "draw", desc := "([IIJ)V" } : Jvm.MethodName)) ∈ lw_good := g_tw 705 (by decide +kernel) (by decide +kernel)
theorem tw706 : (Jvm.Cond.code ({ cls := "OfficeLadder", name := "draw", desc := "([IIJ)V" } : Jvm.MethodName) prog_1_method_41_code (11 : Nat) (Option.none : Option Jvm.ClassFile.FieldType)) ∈ lw_good := g_tw 706 (by decide +kernel) (by decide +kernel)
theorem tw707 : (Jvm.Cond.methodLink "OfficeLadder$Election" (62 : Nat) ({ cls := "OfficeLadder$Election", name := "countUnit", desc := "(I)V" } : Jvm.MethodName)) ∈ lw_good := g_tw 707 (by decide +kernel) (by decide +kernel)
theorem tw709 : (Jvm.Cond.instanceMethod ({ cls := "OfficeLadder$Election", name := "countUnit", desc := "(I)V" } : Jvm.MethodName)) ∈ lw_good := g_tw 709 (by decide +kernel) (by decide +kernel)
theorem tw710 : (Jvm.Cond.code ({ cls := "OfficeLadder$Election", name := "countUnit", desc := "(I)V" } : Jvm.MethodName) prog_2_method_8_code (4 : Nat) (Option.none : Option Jvm.ClassFile.FieldType)) ∈ lw_good := g_tw 710 (by decide +kernel) (by decide +kernel)
theorem tw711 : (Jvm.Cond.methodLink "OfficeLadder$Election" (77 : Nat) ({ cls := "OfficeLadder$Election", name := "elect", desc := "(II)V" } : Jvm.MethodName)) ∈ lw_good := g_tw 711 (by decide +kernel) (by decide +kernel)
theorem tw713 : (Jvm.Cond.instanceMethod ({ cls := "OfficeLadder$Election", name := "elect", desc := "(II)V" } : Jvm.MethodName)) ∈ lw_good := g_tw 713 (by decide +kernel) (by decide +kernel)
theorem tw714 : (Jvm.Cond.code ({ cls := "OfficeLadder$Election", name := "elect", desc := "(II)V" } : Jvm.MethodName) prog_2_method_9_code (3 : Nat) (Option.none : Option Jvm.ClassFile.FieldType)) ∈ lw_good := g_tw 714 (by decide +kernel) (by decide +kernel)
theorem tw715 : (Jvm.Cond.methodLink "OfficeLadder$Election" (66 : Nat) ({ cls := "OfficeLadder$Election", name := "electRest", desc := "()V" } : Jvm.MethodName)) ∈ lw_good := g_tw 715 (by decide +kernel) (by decide +kernel)
theorem tw717 : (Jvm.Cond.instanceMethod ({ cls := "OfficeLadder$Election", name := "electRest", desc := "()V" } : Jvm.MethodName)) ∈ lw_good := g_tw 717 (by decide +kernel) (by decide +kernel)
theorem tw718 : (Jvm.Cond.code ({ cls := "OfficeLadder$Election", name := "electRest", desc := "()V" } : Jvm.MethodName) prog_2_method_10_code (2 : Nat) (Option.none : Option Jvm.ClassFile.FieldType)) ∈ lw_good := g_tw 718 (by decide +kernel) (by decide +kernel)
theorem tw719 : (Jvm.Cond.methodLink "OfficeLadder$Election" (81 : Nat) ({ cls := "OfficeLadder$Election", name := "bestOfRest", desc := "()I" } : Jvm.MethodName)) ∈ lw_good := g_tw 719 (by decide +kernel) (by decide +kernel)
theorem tw721 : (Jvm.Cond.instanceMethod ({ cls := "OfficeLadder$Election", name := "bestOfRest", desc := "()I" } : Jvm.MethodName)) ∈ lw_good := g_tw 721 (by decide +kernel) (by decide +kernel)
theorem tw722 : (Jvm.Cond.code ({ cls := "OfficeLadder$Election", name := "bestOfRest", desc := "()I" } : Jvm.MethodName) prog_2_method_11_code (3 : Nat) (Option.some Jvm.ClassFile.FieldType.int)) ∈ lw_good := g_tw 722 (by decide +kernel) (by decide +kernel)
theorem tw723 : (Jvm.Cond.methodLink "OfficeLadder$Election" (84 : Nat) ({ cls := "OfficeLadder$Election", name := "isElected", desc := "(I)Z" } : Jvm.MethodName)) ∈ lw_good := g_tw 723 (by decide +kernel) (by decide +kernel)
theorem tw725 : (Jvm.Cond.instanceMethod ({ cls := "OfficeLadder$Election", name := "isElected", desc := "(I)Z" } : Jvm.MethodName)) ∈ lw_good := g_tw 725 (by decide +kernel) (by decide +kernel)
theorem tw726 : (Jvm.Cond.code ({ cls := "OfficeLadder$Election", name := "isElected", desc := "(I)Z" } : Jvm.MethodName) prog_2_method_12_code (3 : Nat) (Option.some Jvm.ClassFile.FieldType.boolean)) ∈ lw_good := g_tw 726 (by decide +kernel) (by decide +kernel)
theorem tw727 : (Jvm.Cond.methodLink "OfficeLadder$Election" (88 : Nat) ({ cls := "OfficeLadder$Election", name := "isAhead", desc := "(II)Z" } : Jvm.MethodName)) ∈ lw_good := g_tw 727 (by decide +kernel) (by decide +kernel)
theorem tw729 : (Jvm.Cond.instanceMethod ({ cls := "OfficeLadder$Election", name := "isAhead", desc := "(II)Z" } : Jvm.MethodName)) ∈ lw_good := g_tw 729 (by decide +kernel) (by decide +kernel)
theorem tw730 : (Jvm.Cond.code ({ cls := "OfficeLadder$Election", name := "isAhead", desc := "(II)Z" } : Jvm.MethodName) prog_2_method_13_code (3 : Nat) (Option.some Jvm.ClassFile.FieldType.boolean)) ∈ lw_good := g_tw 730 (by decide +kernel) (by decide +kernel)
theorem tw731 : (Jvm.Cond.methodLink "OfficeLadderLaw" (128 : Nat) ({ cls := "OfficeLadder", name := "sure", desc := "(J)I" } : Jvm.MethodName)) ∈ lw_good := g_tw 731 (by decide +kernel) (by decide +kernel)
theorem tw732 : (Jvm.Cond.instanceMethod ({ cls := "OfficeLadder", name := "sure", desc := "(J)I" } : Jvm.MethodName)) ∈ lw_good := g_tw 732 (by decide +kernel) (by decide +kernel)
theorem tw733 : (Jvm.Cond.selects "OfficeLadder" ({ cls := "OfficeLadder", name := "sure", desc := "(J)I" } : Jvm.MethodName) ({ cls := "OfficeLadder", name := "sure", desc := "(J)I" } : Jvm.MethodName)) ∈ lw_good := g_tw 733 (by decide +kernel) (by decide +kernel)
theorem tw734 : (Jvm.Cond.code ({ cls := "OfficeLadder", name := "sure", desc := "(J)I" } : Jvm.MethodName) prog_1_method_26_code (3 : Nat) (Option.some Jvm.ClassFile.FieldType.int)) ∈ lw_good := g_tw 734 (by decide +kernel) (by decide +kernel)
theorem tw735 : (Jvm.Cond.methodLink "OfficeLadder" (228 : Nat) ({ cls := "OfficeLadder$Election", name := "sureAfter", desc := "(J)I" } : Jvm.MethodName)) ∈ lw_good := g_tw 735 (by decide +kernel) (by decide +kernel)
theorem tw736 : (Jvm.Cond.instanceMethod ({ cls := "OfficeLadder$Election", name := "sureAfter", desc := "(J)I" } : Jvm.MethodName)) ∈ lw_good := g_tw 736 (by decide +kernel) (by decide +kernel)
theorem tw737 : (Jvm.Cond.selects "OfficeLadder$Election" ({ cls := "OfficeLadder$Election", name := "sureAfter", desc := "(J)I" } : Jvm.MethodName) ({ cls := "OfficeLadder$Election", name := "sureAfter", desc := "(J)I" } : Jvm.MethodName)) ∈ lw_good := g_tw 737 (by decide +kernel) (by decide +kernel)
theorem tw738 : (Jvm.Cond.code ({ cls := "OfficeLadder$Election", name := "sureAfter", desc := "(J)I" } : Jvm.MethodName) prog_2_method_6_code (4 : Nat) (Option.some Jvm.ClassFile.FieldType.int)) ∈ lw_good := g_tw 738 (by decide +kernel) (by decide +kernel)
theorem tw739 : (Jvm.Cond.methodLink "OfficeLadder$Election" (69 : Nat) ({ cls := "OfficeLadder$Election", name := "lead", desc := "()I" } : Jvm.MethodName)) ∈ lw_good := g_tw 739 (by decide +kernel) (by decide +kernel)
theorem tw741 : (Jvm.Cond.instanceMethod ({ cls := "OfficeLadder$Election", name := "lead", desc := "()I" } : Jvm.MethodName)) ∈ lw_good := g_tw 741 (by decide +kernel) (by decide +kernel)
theorem tw742 : (Jvm.Cond.code ({ cls := "OfficeLadder$Election", name := "lead", desc := "()I" } : Jvm.MethodName) prog_2_method_14_code (4 : Nat) (Option.some Jvm.ClassFile.FieldType.int)) ∈ lw_good := g_tw 742 (by decide +kernel) (by decide +kernel)
theorem tw743 : (Jvm.Cond.methodLink "OfficeLadderLaw" (133 : Nat) ({ cls := "OfficeLadder", name := "drawn", desc := "(IJI)I" } : Jvm.MethodName)) ∈ lw_good := g_tw 743 (by decide +kernel) (by decide +kernel)
theorem tw744 : (Jvm.Cond.instanceMethod ({ cls := "OfficeLadder", name := "drawn", desc := "(IJI)I" } : Jvm.MethodName)) ∈ lw_good := g_tw 744 (by decide +kernel) (by decide +kernel)
theorem tw745 : (Jvm.Cond.selects "OfficeLadder" ({ cls := "OfficeLadder", name := "drawn", desc := "(IJI)I" } : Jvm.MethodName) ({ cls := "OfficeLadder", name := "drawn", desc := "(IJI)I" } : Jvm.MethodName)) ∈ lw_good := g_tw 745 (by decide +kernel) (by decide +kernel)
theorem tw746 : (Jvm.Cond.code ({ cls := "OfficeLadder", name := "drawn", desc := "(IJI)I" } : Jvm.MethodName) prog_1_method_27_code (5 : Nat) (Option.some Jvm.ClassFile.FieldType.int)) ∈ lw_good := g_tw 746 (by decide +kernel) (by decide +kernel)
theorem tw747 : (Jvm.Cond.methodLink "OfficeLadder" (232 : Nat) ({ cls := "OfficeLadder", name := "draw", desc := "([IIJ)V" } : Jvm.MethodName)) ∈ lw_good := g_tw 747 (by decide +kernel) (by decide +kernel)
theorem tw748 : (Jvm.Cond.methodLink "OfficeLadderLaw" (138 : Nat) ({ cls := "OfficeLadder", name := "province", desc := "(IIIIJ)I" } : Jvm.MethodName)) ∈ lw_good := g_tw 748 (by decide +kernel) (by decide +kernel)
theorem tw749 : (Jvm.Cond.instanceMethod ({ cls := "OfficeLadder", name := "province", desc := "(IIIIJ)I" } : Jvm.MethodName)) ∈ lw_good := g_tw 749 (by decide +kernel) (by decide +kernel)
theorem tw750 : (Jvm.Cond.selects "OfficeLadder" ({ cls := "OfficeLadder", name := "province", desc := "(IIIIJ)I" } : Jvm.MethodName) ({ cls := "OfficeLadder", name := "province", desc := "(IIIIJ)I" } : Jvm.MethodName)) ∈ lw_good := g_tw 750 (by decide +kernel) (by decide +kernel)
theorem tw751 : (Jvm.Cond.code ({ cls := "OfficeLadder", name := "province", desc := "(IIIIJ)I" } : Jvm.MethodName) prog_1_method_28_code (9 : Nat) (Option.some Jvm.ClassFile.FieldType.int)) ∈ lw_good := g_tw 751 (by decide +kernel) (by decide +kernel)
theorem tw752 : (Jvm.Cond.methodLink "OfficeLadder" (236 : Nat) ({ cls := "OfficeLadder$Office", name := "heldAhead", desc := "(II)I" } : Jvm.MethodName)) ∈ lw_good := g_tw 752 (by decide +kernel) (by decide +kernel)
theorem tw753 : (Jvm.Cond.instanceMethod ({ cls := "OfficeLadder$Office", name := "heldAhead", desc := "(II)I" } : Jvm.MethodName)) ∈ lw_good := g_tw 753 (by decide +kernel) (by decide +kernel)
theorem tw754 : (Jvm.Cond.selects "OfficeLadder$Office" ({ cls := "OfficeLadder$Office", name := "heldAhead", desc := "(II)I" } : Jvm.MethodName) ({ cls := "OfficeLadder$Office", name := "heldAhead", desc := "(II)I" } : Jvm.MethodName)) ∈ lw_good := g_tw 754 (by decide +kernel) (by decide +kernel)
theorem tw755 : (Jvm.Cond.code ({ cls := "OfficeLadder$Office", name := "heldAhead", desc := "(II)I" } : Jvm.MethodName) prog_5_method_7_code (5 : Nat) (Option.some Jvm.ClassFile.FieldType.int)) ∈ lw_good := g_tw 755 (by decide +kernel) (by decide +kernel)
theorem tw756 : (Jvm.Cond.methodLink "OfficeLadderLaw" (143 : Nat) ({ cls := "OfficeLadder", name := "count", desc := "(I)I" } : Jvm.MethodName)) ∈ lw_good := g_tw 756 (by decide +kernel) (by decide +kernel)
theorem tw757 : (Jvm.Cond.instanceMethod ({ cls := "OfficeLadder", name := "count", desc := "(I)I" } : Jvm.MethodName)) ∈ lw_good := g_tw 757 (by decide +kernel) (by decide +kernel)
theorem tw758 : (Jvm.Cond.selects "OfficeLadder" ({ cls := "OfficeLadder", name := "count", desc := "(I)I" } : Jvm.MethodName) ({ cls := "OfficeLadder", name := "count", desc := "(I)I" } : Jvm.MethodName)) ∈ lw_good := g_tw 758 (by decide +kernel) (by decide +kernel)
theorem tw759 : (Jvm.Cond.code ({ cls := "OfficeLadder", name := "count", desc := "(I)I" } : Jvm.MethodName) prog_1_method_29_code (2 : Nat) (Option.some Jvm.ClassFile.FieldType.int)) ∈ lw_good := g_tw 759 (by decide +kernel) (by decide +kernel)
theorem tw760 : (Jvm.Cond.methodLink "OfficeLadderLaw" (147 : Nat) ({ cls := "OfficeLadder", name := "keep", desc := "(III)I" } : Jvm.MethodName)) ∈ lw_good := g_tw 760 (by decide +kernel) (by decide +kernel)
theorem tw761 : (Jvm.Cond.instanceMethod ({ cls := "OfficeLadder", name := "keep", desc := "(III)I" } : Jvm.MethodName)) ∈ lw_good := g_tw 761 (by decide +kernel) (by decide +kernel)
theorem tw762 : (Jvm.Cond.selects "OfficeLadder" ({ cls := "OfficeLadder", name := "keep", desc := "(III)I" } : Jvm.MethodName) ({ cls := "OfficeLadder", name := "keep", desc := "(III)I" } : Jvm.MethodName)) ∈ lw_good := g_tw 762 (by decide +kernel) (by decide +kernel)
theorem tw763 : (Jvm.Cond.code ({ cls := "OfficeLadder", name := "keep", desc := "(III)I" } : Jvm.MethodName) prog_1_method_30_code (5 : Nat) (Option.some Jvm.ClassFile.FieldType.int)) ∈ lw_good := g_tw 763 (by decide +kernel) (by decide +kernel)
theorem tw764 : (Jvm.Cond.methodLink "OfficeLadder" (245 : Nat) ({ cls := "OfficeLadder", name := "isShelf", desc := "(I)Z" } : Jvm.MethodName)) ∈ lw_good := g_tw 764 (by decide +kernel) (by decide +kernel)
theorem tw765 : (Jvm.Cond.static ({ cls := "OfficeLadder", name := "isShelf", desc := "(I)Z" } : Jvm.MethodName)) ∈ lw_good := g_tw 765 (by decide +kernel) (by decide +kernel)
theorem tw766 : (Jvm.Cond.code ({ cls := "OfficeLadder", name := "isShelf", desc := "(I)Z" } : Jvm.MethodName) prog_1_method_40_code (1 : Nat) (Option.some Jvm.ClassFile.FieldType.boolean)) ∈ lw_good := g_tw 766 (by decide +kernel) (by decide +kernel)
theorem tw767 : (Jvm.Cond.methodLink "OfficeLadder" (248 : Nat) ({ cls := "OfficeLadder$Shelf", name := "clear", desc := "()V" } : Jvm.MethodName)) ∈ lw_good := g_tw 767 (by decide +kernel) (by decide +kernel)
theorem tw768 : (Jvm.Cond.instanceMethod ({ cls := "OfficeLadder$Shelf", name := "clear", desc := "()V" } : Jvm.MethodName)) ∈ lw_good := g_tw 768 (by decide +kernel) (by decide +kernel)
theorem tw769 : (Jvm.Cond.selects "OfficeLadder$Shelf" ({ cls := "OfficeLadder$Shelf", name := "clear", desc := "()V" } : Jvm.MethodName) ({ cls := "OfficeLadder$Shelf", name := "clear", desc := "()V" } : Jvm.MethodName)) ∈ lw_good := g_tw 769 (by decide +kernel) (by decide +kernel)
theorem tw770 : (Jvm.Cond.code ({ cls := "OfficeLadder$Shelf", name := "clear", desc := "()V" } : Jvm.MethodName) prog_9_method_5_code (1 : Nat) (Option.none : Option Jvm.ClassFile.FieldType)) ∈ lw_good := g_tw 770 (by decide +kernel) (by decide +kernel)
theorem tw771 : (Jvm.Cond.methodLink "OfficeLadder$Shelf" (30 : Nat) ({ cls := "OfficeLadder$Shelf", name := "become", desc := "(II)V" } : Jvm.MethodName)) ∈ lw_good := g_tw 771 (by decide +kernel) (by decide +kernel)
theorem tw773 : (Jvm.Cond.instanceMethod ({ cls := "OfficeLadder$Shelf", name := "become", desc := "(II)V" } : Jvm.MethodName)) ∈ lw_good := g_tw 773 (by decide +kernel) (by decide +kernel)
theorem tw774 : (Jvm.Cond.code ({ cls := "OfficeLadder$Shelf", name := "become", desc := "(II)V" } : Jvm.MethodName) prog_9_method_11_code (3 : Nat) (Option.none : Option Jvm.ClassFile.FieldType)) ∈ lw_good := g_tw 774 (by decide +kernel) (by decide +kernel)
theorem tw775 : (Jvm.Cond.methodLink "OfficeLadder" (251 : Nat) ({ cls := "OfficeLadder$Shelf", name := "keepLaw", desc := "(LOfficeLadder$Law;)V" } : Jvm.MethodName)) ∈ lw_good := g_tw 775 (by decide +kernel) (by decide +kernel)
theorem tw776 : (Jvm.Cond.instanceMethod ({ cls := "OfficeLadder$Shelf", name := "keepLaw", desc := "(LOfficeLadder$Law;)V" } : Jvm.MethodName)) ∈ lw_good := g_tw 776 (by decide +kernel) (by decide +kernel)
theorem tw777 : (Jvm.Cond.selects "OfficeLadder$Shelf" ({ cls := "OfficeLadder$Shelf", name := "keepLaw", desc := "(LOfficeLadder$Law;)V" } : Jvm.MethodName) ({ cls := "OfficeLadder$Shelf", name := "keepLaw", desc := "(LOfficeLadder$Law;)V" } : Jvm.MethodName)) ∈ lw_good := g_tw 777 (by decide +kernel) (by decide +kernel)
theorem tw778 : (Jvm.Cond.code ({ cls := "OfficeLadder$Shelf", name := "keepLaw", desc := "(LOfficeLadder$Law;)V" } : Jvm.MethodName) prog_9_method_6_code (2 : Nat) (Option.none : Option Jvm.ClassFile.FieldType)) ∈ lw_good := g_tw 778 (by decide +kernel) (by decide +kernel)
theorem tw779 : (Jvm.Cond.methodLink "OfficeLadder" (255 : Nat) ({ cls := "OfficeLadder$Shelf", name := "keepHolders", desc := "(LOfficeLadder$Office;)V" } : Jvm.MethodName)) ∈ lw_good := g_tw 779 (by decide +kernel) (by decide +kernel)
theorem tw780 : (Jvm.Cond.instanceMethod ({ cls := "OfficeLadder$Shelf", name := "keepHolders", desc := "(LOfficeLadder$Office;)V" } : Jvm.MethodName)) ∈ lw_good := g_tw 780 (by decide +kernel) (by decide +kernel)
theorem tw781 : (Jvm.Cond.selects "OfficeLadder$Shelf" ({ cls := "OfficeLadder$Shelf", name := "keepHolders", desc := "(LOfficeLadder$Office;)V" } : Jvm.MethodName) ({ cls := "OfficeLadder$Shelf", name := "keepHolders", desc := "(LOfficeLadder$Office;)V" } : Jvm.MethodName)) ∈ lw_good := g_tw 781 (by decide +kernel) (by decide +kernel)
theorem tw782 : (Jvm.Cond.code ({ cls := "OfficeLadder$Shelf", name := "keepHolders", desc := "(LOfficeLadder$Office;)V" } : Jvm.MethodName) prog_9_method_7_code (3 : Nat) (Option.none : Option Jvm.ClassFile.FieldType)) ∈ lw_good := g_tw 782 (by decide +kernel) (by decide +kernel)
theorem tw783 : (Jvm.Cond.methodLink "OfficeLadder$Shelf" (34 : Nat) ({ cls := "OfficeLadder$Office", name := "holder", desc := "(II)I" } : Jvm.MethodName)) ∈ lw_good := g_tw 783 (by decide +kernel) (by decide +kernel)
theorem tw784 : (Jvm.Cond.methodLink "OfficeLadder" (259 : Nat) ({ cls := "OfficeLadder$Shelf", name := "keepLife", desc := "(LOfficeLadder$Person;)V" } : Jvm.MethodName)) ∈ lw_good := g_tw 784 (by decide +kernel) (by decide +kernel)
theorem tw785 : (Jvm.Cond.instanceMethod ({ cls := "OfficeLadder$Shelf", name := "keepLife", desc := "(LOfficeLadder$Person;)V" } : Jvm.MethodName)) ∈ lw_good := g_tw 785 (by decide +kernel) (by decide +kernel)
theorem tw786 : (Jvm.Cond.selects "OfficeLadder$Shelf" ({ cls := "OfficeLadder$Shelf", name := "keepLife", desc := "(LOfficeLadder$Person;)V" } : Jvm.MethodName) ({ cls := "OfficeLadder$Shelf", name := "keepLife", desc := "(LOfficeLadder$Person;)V" } : Jvm.MethodName)) ∈ lw_good := g_tw 786 (by decide +kernel) (by decide +kernel)
theorem tw787 : (Jvm.Cond.code ({ cls := "OfficeLadder$Shelf", name := "keepLife", desc := "(LOfficeLadder$Person;)V" } : Jvm.MethodName) prog_9_method_8_code (2 : Nat) (Option.none : Option Jvm.ClassFile.FieldType)) ∈ lw_good := g_tw 787 (by decide +kernel) (by decide +kernel)
theorem tw788 : (Jvm.Cond.methodLink "OfficeLadderLaw" (151 : Nat) ({ cls := "OfficeLadder", name := "make", desc := "(III)I" } : Jvm.MethodName)) ∈ lw_good := g_tw 788 (by decide +kernel) (by decide +kernel)
theorem tw789 : (Jvm.Cond.instanceMethod ({ cls := "OfficeLadder", name := "make", desc := "(III)I" } : Jvm.MethodName)) ∈ lw_good := g_tw 789 (by decide +kernel) (by decide +kernel)
theorem tw790 : (Jvm.Cond.selects "OfficeLadder" ({ cls := "OfficeLadder", name := "make", desc := "(III)I" } : Jvm.MethodName) ({ cls := "OfficeLadder", name := "make", desc := "(III)I" } : Jvm.MethodName)) ∈ lw_good := g_tw 790 (by decide +kernel) (by decide +kernel)
theorem tw791 : (Jvm.Cond.code ({ cls := "OfficeLadder", name := "make", desc := "(III)I" } : Jvm.MethodName) prog_1_method_31_code (4 : Nat) (Option.some Jvm.ClassFile.FieldType.int)) ∈ lw_good := g_tw 791 (by decide +kernel) (by decide +kernel)
theorem tw792 : (Jvm.Cond.methodLink "OfficeLadder" (263 : Nat) ({ cls := "OfficeLadder$Shelf", name := "keepZeros", desc := "(II)V" } : Jvm.MethodName)) ∈ lw_good := g_tw 792 (by decide +kernel) (by decide +kernel)
theorem tw793 : (Jvm.Cond.instanceMethod ({ cls := "OfficeLadder$Shelf", name := "keepZeros", desc := "(II)V" } : Jvm.MethodName)) ∈ lw_good := g_tw 793 (by decide +kernel) (by decide +kernel)
theorem tw794 : (Jvm.Cond.selects "OfficeLadder$Shelf" ({ cls := "OfficeLadder$Shelf", name := "keepZeros", desc := "(II)V" } : Jvm.MethodName) ({ cls := "OfficeLadder$Shelf", name := "keepZeros", desc := "(II)V" } : Jvm.MethodName)) ∈ lw_good := g_tw 794 (by decide +kernel) (by decide +kernel)
theorem tw795 : (Jvm.Cond.code ({ cls := "OfficeLadder$Shelf", name := "keepZeros", desc := "(II)V" } : Jvm.MethodName) prog_9_method_9_code (3 : Nat) (Option.none : Option Jvm.ClassFile.FieldType)) ∈ lw_good := g_tw 795 (by decide +kernel) (by decide +kernel)
theorem tw796 : (Jvm.Cond.methodLink "OfficeLadder$Shelf" (57 : Nat) ({ cls := "java/util/Arrays", name := "fill", desc := "([BB)V" } : Jvm.MethodName)) ∈ lw_good := g_tw 796 (by decide +kernel) (by decide +kernel)
theorem tw797 : (Jvm.Cond.methodLink "OfficeLadder$Shelf" (63 : Nat) ({ cls := "java/util/Arrays", name := "fill", desc := "([II)V" } : Jvm.MethodName)) ∈ lw_good := g_tw 797 (by decide +kernel) (by decide +kernel)
theorem tw798 : (Jvm.Cond.methodLink "OfficeLadderLaw" (164 : Nat) ({ cls := "OfficeLadder", name := "copy", desc := "(IIIII)I" } : Jvm.MethodName)) ∈ lw_good := g_tw 798 (by decide +kernel) (by decide +kernel)
theorem tw799 : (Jvm.Cond.instanceMethod ({ cls := "OfficeLadder", name := "copy", desc := "(IIIII)I" } : Jvm.MethodName)) ∈ lw_good := g_tw 799 (by decide +kernel) (by decide +kernel)
theorem tw800 : (Jvm.Cond.selects "OfficeLadder" ({ cls := "OfficeLadder", name := "copy", desc := "(IIIII)I" } : Jvm.MethodName) ({ cls := "OfficeLadder", name := "copy", desc := "(IIIII)I" } : Jvm.MethodName)) ∈ lw_good := g_tw 800 (by decide +kernel) (by decide +kernel)
theorem tw801 : (Jvm.Cond.code ({ cls := "OfficeLadder", name := "copy", desc := "(IIIII)I" } : Jvm.MethodName) prog_1_method_33_code (8 : Nat) (Option.some Jvm.ClassFile.FieldType.int)) ∈ lw_good := g_tw 801 (by decide +kernel) (by decide +kernel)
theorem tw802 : (Jvm.Cond.methodLink "OfficeLadder" (273 : Nat) ({ cls := "OfficeLadder$Shelf", name := "isRow", desc := "()Z" } : Jvm.MethodName)) ∈ lw_good := g_tw 802 (by decide +kernel) (by decide +kernel)
theorem tw803 : (Jvm.Cond.instanceMethod ({ cls := "OfficeLadder$Shelf", name := "isRow", desc := "()Z" } : Jvm.MethodName)) ∈ lw_good := g_tw 803 (by decide +kernel) (by decide +kernel)
theorem tw804 : (Jvm.Cond.selects "OfficeLadder$Shelf" ({ cls := "OfficeLadder$Shelf", name := "isRow", desc := "()Z" } : Jvm.MethodName) ({ cls := "OfficeLadder$Shelf", name := "isRow", desc := "()Z" } : Jvm.MethodName)) ∈ lw_good := g_tw 804 (by decide +kernel) (by decide +kernel)
theorem tw805 : (Jvm.Cond.code ({ cls := "OfficeLadder$Shelf", name := "isRow", desc := "()Z" } : Jvm.MethodName) prog_9_method_2_code (1 : Nat) (Option.some Jvm.ClassFile.FieldType.boolean)) ∈ lw_good := g_tw 805 (by decide +kernel) (by decide +kernel)
theorem tw806 : (Jvm.Cond.methodLink "OfficeLadder" (293 : Nat) ({ cls := "OfficeLadder$Shelf", name := "hasSpan", desc := "(II)Z" } : Jvm.MethodName)) ∈ lw_good := g_tw 806 (by decide +kernel) (by decide +kernel)
theorem tw807 : (Jvm.Cond.instanceMethod ({ cls := "OfficeLadder$Shelf", name := "hasSpan", desc := "(II)Z" } : Jvm.MethodName)) ∈ lw_good := g_tw 807 (by decide +kernel) (by decide +kernel)
theorem tw808 : (Jvm.Cond.selects "OfficeLadder$Shelf" ({ cls := "OfficeLadder$Shelf", name := "hasSpan", desc := "(II)Z" } : Jvm.MethodName) ({ cls := "OfficeLadder$Shelf", name := "hasSpan", desc := "(II)Z" } : Jvm.MethodName)) ∈ lw_good := g_tw 808 (by decide +kernel) (by decide +kernel)
theorem tw809 : (Jvm.Cond.code ({ cls := "OfficeLadder$Shelf", name := "hasSpan", desc := "(II)Z" } : Jvm.MethodName) prog_9_method_3_code (3 : Nat) (Option.some Jvm.ClassFile.FieldType.boolean)) ∈ lw_good := g_tw 809 (by decide +kernel) (by decide +kernel)
theorem tw810 : (Jvm.Cond.methodLink "OfficeLadder" (296 : Nat) ({ cls := "OfficeLadder$Shelf", name := "copyTo", desc := "(LOfficeLadder$Shelf;III)V" } : Jvm.MethodName)) ∈ lw_good := g_tw 810 (by decide +kernel) (by decide +kernel)
theorem tw811 : (Jvm.Cond.instanceMethod ({ cls := "OfficeLadder$Shelf", name := "copyTo", desc := "(LOfficeLadder$Shelf;III)V" } : Jvm.MethodName)) ∈ lw_good := g_tw 811 (by decide +kernel) (by decide +kernel)
theorem tw812 : (Jvm.Cond.selects "OfficeLadder$Shelf" ({ cls := "OfficeLadder$Shelf", name := "copyTo", desc := "(LOfficeLadder$Shelf;III)V" } : Jvm.MethodName) ({ cls := "OfficeLadder$Shelf", name := "copyTo", desc := "(LOfficeLadder$Shelf;III)V" } : Jvm.MethodName)) ∈ lw_good := g_tw 812 (by decide +kernel) (by decide +kernel)
theorem tw813 : (Jvm.Cond.code ({ cls := "OfficeLadder$Shelf", name := "copyTo", desc := "(LOfficeLadder$Shelf;III)V" } : Jvm.MethodName) prog_9_method_10_code (5 : Nat) (Option.none : Option Jvm.ClassFile.FieldType)) ∈ lw_good := g_tw 813 (by decide +kernel) (by decide +kernel)
theorem tw814 : (Jvm.Cond.methodLink "OfficeLadder$Shelf" (66 : Nat) ({ cls := "java/lang/System", name := "arraycopy", desc := "(Ljava/lang/Object;ILjava/lang/Object;II)V" } : Jvm.MethodName)) ∈ lw_good := g_tw 814 (by decide +kernel) (by decide +kernel)
theorem tw815 : (Jvm.Cond.static ({ cls := "java/lang/System", name := "arraycopy", desc := "(Ljava/lang/Object;ILjava/lang/Object;II)V" } : Jvm.MethodName)) ∈ lw_good := g_tw 815 (by decide +kernel) (by decide +kernel)
theorem tw817 : (Jvm.Cond.methodLink "OfficeLadderLaw" (169 : Nat) ({ cls := "OfficeLadder", name := "weight", desc := "(I)I" } : Jvm.MethodName)) ∈ lw_good := g_tw 817 (by decide +kernel) (by decide +kernel)
theorem tw818 : (Jvm.Cond.instanceMethod ({ cls := "OfficeLadder", name := "weight", desc := "(I)I" } : Jvm.MethodName)) ∈ lw_good := g_tw 818 (by decide +kernel) (by decide +kernel)
theorem tw819 : (Jvm.Cond.selects "OfficeLadder" ({ cls := "OfficeLadder", name := "weight", desc := "(I)I" } : Jvm.MethodName) ({ cls := "OfficeLadder", name := "weight", desc := "(I)I" } : Jvm.MethodName)) ∈ lw_good := g_tw 819 (by decide +kernel) (by decide +kernel)
theorem tw820 : (Jvm.Cond.code ({ cls := "OfficeLadder", name := "weight", desc := "(I)I" } : Jvm.MethodName) prog_1_method_34_code (3 : Nat) (Option.some Jvm.ClassFile.FieldType.int)) ∈ lw_good := g_tw 820 (by decide +kernel) (by decide +kernel)
theorem tw821 : (Jvm.Cond.methodLink "OfficeLadder" (300 : Nat) ({ cls := "OfficeLadder", name := "refusalOfLaw", desc := "(I)I" } : Jvm.MethodName)) ∈ lw_good := g_tw 821 (by decide +kernel) (by decide +kernel)
theorem tw823 : (Jvm.Cond.instanceMethod ({ cls := "OfficeLadder", name := "refusalOfLaw", desc := "(I)I" } : Jvm.MethodName)) ∈ lw_good := g_tw 823 (by decide +kernel) (by decide +kernel)
theorem tw824 : (Jvm.Cond.code ({ cls := "OfficeLadder", name := "refusalOfLaw", desc := "(I)I" } : Jvm.MethodName) prog_1_method_36_code (2 : Nat) (Option.some Jvm.ClassFile.FieldType.int)) ∈ lw_good := g_tw 824 (by decide +kernel) (by decide +kernel)
theorem tw825 : (Jvm.Cond.methodLink "OfficeLadder" (307 : Nat) ({ cls := "OfficeLadder$Law", name := "heft", desc := "()I" } : Jvm.MethodName)) ∈ lw_good := g_tw 825 (by decide +kernel) (by decide +kernel)
theorem tw826 : (Jvm.Cond.instanceMethod ({ cls := "OfficeLadder$Law", name := "heft", desc := "()I" } : Jvm.MethodName)) ∈ lw_good := g_tw 826 (by decide +kernel) (by decide +kernel)
theorem tw827 : (Jvm.Cond.selects "OfficeLadder$Law" ({ cls := "OfficeLadder$Law", name := "heft", desc := "()I" } : Jvm.MethodName) ({ cls := "OfficeLadder$Law", name := "heft", desc := "()I" } : Jvm.MethodName)) ∈ lw_good := g_tw 827 (by decide +kernel) (by decide +kernel)
theorem tw828 : (Jvm.Cond.code ({ cls := "OfficeLadder$Law", name := "heft", desc := "()I" } : Jvm.MethodName) prog_4_method_6_code (2 : Nat) (Option.some Jvm.ClassFile.FieldType.int)) ∈ lw_good := g_tw 828 (by decide +kernel) (by decide +kernel)
theorem tw829 : (Jvm.Cond.methodLink "OfficeLadder$Law" (56 : Nat) ({ cls := "OfficeLadder$Law", name := "looksAtLists", desc := "()Z" } : Jvm.MethodName)) ∈ lw_good := g_tw 829 (by decide +kernel) (by decide +kernel)
theorem tw830 : (Jvm.Cond.instanceMethod ({ cls := "OfficeLadder$Law", name := "looksAtLists", desc := "()Z" } : Jvm.MethodName)) ∈ lw_good := g_tw 830 (by decide +kernel) (by decide +kernel)
theorem tw831 : (Jvm.Cond.selects "OfficeLadder$Law" ({ cls := "OfficeLadder$Law", name := "looksAtLists", desc := "()Z" } : Jvm.MethodName) ({ cls := "OfficeLadder$Law", name := "looksAtLists", desc := "()Z" } : Jvm.MethodName)) ∈ lw_good := g_tw 831 (by decide +kernel) (by decide +kernel)
theorem tw832 : (Jvm.Cond.code ({ cls := "OfficeLadder$Law", name := "looksAtLists", desc := "()Z" } : Jvm.MethodName) prog_4_method_5_code (1 : Nat) (Option.some Jvm.ClassFile.FieldType.boolean)) ∈ lw_good := g_tw 832 (by decide +kernel) (by decide +kernel)
theorem tw833 : (Jvm.Cond.methodLink "OfficeLadderLaw" (173 : Nat) ({ cls := "OfficeLadder", name := "toss", desc := "(I)I" } : Jvm.MethodName)) ∈ lw_good := g_tw 833 (by decide +kernel) (by decide +kernel)
theorem tw834 : (Jvm.Cond.instanceMethod ({ cls := "OfficeLadder", name := "toss", desc := "(I)I" } : Jvm.MethodName)) ∈ lw_good := g_tw 834 (by decide +kernel) (by decide +kernel)
theorem tw835 : (Jvm.Cond.selects "OfficeLadder" ({ cls := "OfficeLadder", name := "toss", desc := "(I)I" } : Jvm.MethodName) ({ cls := "OfficeLadder", name := "toss", desc := "(I)I" } : Jvm.MethodName)) ∈ lw_good := g_tw 835 (by decide +kernel) (by decide +kernel)
theorem tw837 : (Jvm.Cond.classLink "OfficeLadder" (276 : Nat) "java/lang/IllegalStateException") ∈ lw_good := g_tw 837 (by decide +kernel) (by decide +kernel)
theorem tw838 : (Jvm.Cond.methodLink "OfficeLadder" (311 : Nat) ({ cls := "OfficeLadder$Law", name := "fail", desc := "()V" } : Jvm.MethodName)) ∈ lw_good := g_tw 838 (by decide +kernel) (by decide +kernel)
theorem tw839 : (Jvm.Cond.instanceMethod ({ cls := "OfficeLadder$Law", name := "fail", desc := "()V" } : Jvm.MethodName)) ∈ lw_good := g_tw 839 (by decide +kernel) (by decide +kernel)
theorem tw840 : (Jvm.Cond.selects "OfficeLadder$Law" ({ cls := "OfficeLadder$Law", name := "fail", desc := "()V" } : Jvm.MethodName) ({ cls := "OfficeLadder$Law", name := "fail", desc := "()V" } : Jvm.MethodName)) ∈ lw_good := g_tw 840 (by decide +kernel) (by decide +kernel)
theorem tw841 : (Jvm.Cond.code ({ cls := "OfficeLadder$Law", name := "fail", desc := "()V" } : Jvm.MethodName) prog_4_method_7_code (1 : Nat) (Option.none : Option Jvm.ClassFile.FieldType)) ∈ lw_good := g_tw 841 (by decide +kernel) (by decide +kernel)
theorem tw842 : (Jvm.Cond.classLink "OfficeLadder$Law" (60 : Nat) "java/lang/IllegalStateException") ∈ lw_good := g_tw 842 (by decide +kernel) (by decide +kernel)
theorem tw843 : (Jvm.Cond.instantiable "java/lang/IllegalStateException" (6 : Nat)) ∈ lw_good := g_tw 843 (by decide +kernel) (by decide +kernel)
theorem tw851 : (Jvm.Cond.selects "java/lang/IllegalStateException" ({ cls := "java/lang/Throwable", name := "fillInStackTrace", desc := "(I)Ljava/lang/Throwable;" } : Jvm.MethodName) ({ cls := "java/lang/Throwable", name := "fillInStackTrace", desc := "(I)Ljava/lang/Throwable;" } : Jvm.MethodName)) ∈ lw_good := g_tw 851 (by decide +kernel) (by decide +kernel)
theorem tw852 : (Jvm.Cond.selects "java/lang/IllegalStateException" ({ cls := "java/lang/Throwable", name := "fillInStackTrace", desc := "()Ljava/lang/Throwable;" } : Jvm.MethodName) ({ cls := "java/lang/Throwable", name := "fillInStackTrace", desc := "()Ljava/lang/Throwable;" } : Jvm.MethodName)) ∈ lw_good := g_tw 852 (by decide +kernel) (by decide +kernel)
theorem tw863 : (Jvm.Cond.fieldLink "java/lang/Throwable" (198 : Nat) "java/lang/Throwable" "backtrace" "Ljava/lang/Object;") ∈ lw_good := g_tw 863 (by decide +kernel) (by decide +kernel)
theorem tw865 : (Jvm.Cond.instanceMethod ({ cls := "java/lang/Throwable", name := "<init>", desc := "()V" } : Jvm.MethodName)) ∈ lw_good := g_tw 865 (by decide +kernel) (by decide +kernel)
theorem tw866 : (Jvm.Cond.code ({ cls := "java/lang/Throwable", name := "<init>", desc := "()V" } : Jvm.MethodName) prog_19_method_1_code (1 : Nat) (Option.none : Option Jvm.ClassFile.FieldType)) ∈ lw_good := g_tw 866 (by decide +kernel) (by decide +kernel)
theorem tw867 : (Jvm.Cond.methodLink "java/lang/Throwable" (1 : Nat) ({ cls := "java/lang/Object", name := "<init>", desc := "()V" } : Jvm.MethodName)) ∈ lw_good := g_tw 867 (by decide +kernel) (by decide +kernel)
theorem tw868 : (Jvm.Cond.fieldLink "java/lang/Throwable" (13 : Nat) "java/lang/Throwable" "UNASSIGNED_STACK" "[Ljava/lang/StackTraceElement;") ∈ lw_good := g_tw 868 (by decide +kernel) (by decide +kernel)
theorem tw870 : (Jvm.Cond.fieldLink "java/lang/Throwable" (20 : Nat) "java/lang/Throwable" "SUPPRESSED_SENTINEL" "Ljava/util/List;") ∈ lw_good := g_tw 870 (by decide +kernel) (by decide +kernel)
theorem tw872 : (Jvm.Cond.methodLink "java/lang/Throwable" (27 : Nat) ({ cls := "java/lang/Throwable", name := "fillInStackTrace", desc := "()Ljava/lang/Throwable;" } : Jvm.MethodName)) ∈ lw_good := g_tw 872 (by decide +kernel) (by decide +kernel)
theorem tw873 : (Jvm.Cond.instanceMethod ({ cls := "java/lang/Throwable", name := "fillInStackTrace", desc := "()Ljava/lang/Throwable;" } : Jvm.MethodName)) ∈ lw_good := g_tw 873 (by decide +kernel) (by decide +kernel)
theorem tw875 : (Jvm.Cond.selects "java/lang/IllegalArgumentException" ({ cls := "java/lang/Throwable", name := "fillInStackTrace", desc := "()Ljava/lang/Throwable;" } : Jvm.MethodName) ({ cls := "java/lang/Throwable", name := "fillInStackTrace", desc := "()Ljava/lang/Throwable;" } : Jvm.MethodName)) ∈ lw_good := g_tw 875 (by decide +kernel) (by decide +kernel)
theorem tw877 : (Jvm.Cond.methodLink "java/lang/Throwable" (202 : Nat) ({ cls := "java/lang/Throwable", name := "fillInStackTrace", desc := "(I)Ljava/lang/Throwable;" } : Jvm.MethodName)) ∈ lw_good := g_tw 877 (by decide +kernel) (by decide +kernel)
theorem tw879 : (Jvm.Cond.instanceMethod ({ cls := "java/lang/Throwable", name := "fillInStackTrace", desc := "(I)Ljava/lang/Throwable;" } : Jvm.MethodName)) ∈ lw_good := g_tw 879 (by decide +kernel) (by decide +kernel)
theorem tw880 : (Jvm.Cond.instantiable "java/lang/Throwable" (6 : Nat)) ∈ lw_good := g_tw 880 (by decide +kernel) (by decide +kernel)
theorem tw883 : (Jvm.Cond.methodLink "OfficeLadder$Law" (64 : Nat) ({ cls := "java/lang/IllegalStateException", name := "<init>", desc := "(Ljava/lang/String;)V" } : Jvm.MethodName)) ∈ lw_good := g_tw 883 (by decide +kernel) (by decide +kernel)
theorem tw884 : (Jvm.Cond.instanceMethod ({ cls := "java/lang/IllegalStateException", name := "<init>", desc := "(Ljava/lang/String;)V" } : Jvm.MethodName)) ∈ lw_good := g_tw 884 (by decide +kernel) (by decide +kernel)
theorem tw885 : (Jvm.Cond.code ({ cls := "java/lang/IllegalStateException", name := "<init>", desc := "(Ljava/lang/String;)V" } : Jvm.MethodName) prog_14_method_2_code (2 : Nat) (Option.none : Option Jvm.ClassFile.FieldType)) ∈ lw_good := g_tw 885 (by decide +kernel) (by decide +kernel)
theorem tw886 : (Jvm.Cond.methodLink "java/lang/IllegalStateException" (7 : Nat) ({ cls := "java/lang/RuntimeException", name := "<init>", desc := "(Ljava/lang/String;)V" } : Jvm.MethodName)) ∈ lw_good := g_tw 886 (by decide +kernel) (by decide +kernel)
theorem tw887 : (Jvm.Cond.instanceMethod ({ cls := "java/lang/RuntimeException", name := "<init>", desc := "(Ljava/lang/String;)V" } : Jvm.MethodName)) ∈ lw_good := g_tw 887 (by decide +kernel) (by decide +kernel)
theorem tw888 : (Jvm.Cond.code ({ cls := "java/lang/RuntimeException", name := "<init>", desc := "(Ljava/lang/String;)V" } : Jvm.MethodName) prog_16_method_2_code (2 : Nat) (Option.none : Option Jvm.ClassFile.FieldType)) ∈ lw_good := g_tw 888 (by decide +kernel) (by decide +kernel)
theorem tw889 : (Jvm.Cond.methodLink "java/lang/RuntimeException" (7 : Nat) ({ cls := "java/lang/Exception", name := "<init>", desc := "(Ljava/lang/String;)V" } : Jvm.MethodName)) ∈ lw_good := g_tw 889 (by decide +kernel) (by decide +kernel)
theorem tw890 : (Jvm.Cond.instanceMethod ({ cls := "java/lang/Exception", name := "<init>", desc := "(Ljava/lang/String;)V" } : Jvm.MethodName)) ∈ lw_good := g_tw 890 (by decide +kernel) (by decide +kernel)
theorem tw891 : (Jvm.Cond.code ({ cls := "java/lang/Exception", name := "<init>", desc := "(Ljava/lang/String;)V" } : Jvm.MethodName) prog_12_method_2_code (2 : Nat) (Option.none : Option Jvm.ClassFile.FieldType)) ∈ lw_good := g_tw 891 (by decide +kernel) (by decide +kernel)
theorem tw892 : (Jvm.Cond.methodLink "java/lang/Exception" (7 : Nat) ({ cls := "java/lang/Throwable", name := "<init>", desc := "(Ljava/lang/String;)V" } : Jvm.MethodName)) ∈ lw_good := g_tw 892 (by decide +kernel) (by decide +kernel)
theorem tw893 : (Jvm.Cond.instanceMethod ({ cls := "java/lang/Throwable", name := "<init>", desc := "(Ljava/lang/String;)V" } : Jvm.MethodName)) ∈ lw_good := g_tw 893 (by decide +kernel) (by decide +kernel)
theorem tw894 : (Jvm.Cond.code ({ cls := "java/lang/Throwable", name := "<init>", desc := "(Ljava/lang/String;)V" } : Jvm.MethodName) prog_19_method_2_code (2 : Nat) (Option.none : Option Jvm.ClassFile.FieldType)) ∈ lw_good := g_tw 894 (by decide +kernel) (by decide +kernel)
theorem tw895 : (Jvm.Cond.fieldLink "java/lang/Throwable" (198 : Nat) "java/lang/Throwable" "backtrace" "Ljava/lang/Object;") ∈ lw_good := g_tw 895 (by decide +kernel) (by decide +kernel)
theorem tw896 : (Jvm.Cond.fieldLink "java/lang/Throwable" (31 : Nat) "java/lang/Throwable" "detailMessage" "Ljava/lang/String;") ∈ lw_good := g_tw 896 (by decide +kernel) (by decide +kernel)
theorem tw897 : (Jvm.Cond.fieldLink "java/lang/Throwable" (7 : Nat) "java/lang/Throwable" "cause" "Ljava/lang/Throwable;") ∈ lw_good := g_tw 897 (by decide +kernel) (by decide +kernel)
theorem tw898 : (Jvm.Cond.fieldLink "java/lang/Throwable" (17 : Nat) "java/lang/Throwable" "stackTrace" "[Ljava/lang/StackTraceElement;") ∈ lw_good := g_tw 898 (by decide +kernel) (by decide +kernel)
theorem tw899 : (Jvm.Cond.fieldLink "java/lang/Throwable" (24 : Nat) "java/lang/Throwable" "suppressedExceptions" "Ljava/util/List;") ∈ lw_good := g_tw 899 (by decide +kernel) (by decide +kernel)
theorem tw908 : (Jvm.Cond.methodLink "OfficeLadderLaw" (155 : Nat) ({ cls := "OfficeLadderLaw", name := "element", desc := "(LOfficeLadder;II[J)I" } : Jvm.MethodName)) ∈ lw_good := g_tw 908 (by decide +kernel) (by decide +kernel)
theorem tw909 : (Jvm.Cond.static ({ cls := "OfficeLadderLaw", name := "element", desc := "(LOfficeLadder;II[J)I" } : Jvm.MethodName)) ∈ lw_good := g_tw 909 (by decide +kernel) (by decide +kernel)
theorem tw911 : (Jvm.Cond.classLink "OfficeLadderLaw" (13 : Nat) "java/lang/IllegalArgumentException") ∈ lw_good := g_tw 911 (by decide +kernel) (by decide +kernel)
theorem tw912 : (Jvm.Cond.classLink "OfficeLadderLaw" (15 : Nat) "java/lang/IllegalStateException") ∈ lw_good := g_tw 912 (by decide +kernel) (by decide +kernel)
theorem tw913 : (Jvm.Cond.methodLink "OfficeLadderLaw" (7 : Nat) ({ cls := "OfficeLadder", name := "element", desc := "(II)J" } : Jvm.MethodName)) ∈ lw_good := g_tw 913 (by decide +kernel) (by decide +kernel)
theorem tw914 : (Jvm.Cond.instanceMethod ({ cls := "OfficeLadder", name := "element", desc := "(II)J" } : Jvm.MethodName)) ∈ lw_good := g_tw 914 (by decide +kernel) (by decide +kernel)
theorem tw915 : (Jvm.Cond.selects "OfficeLadder" ({ cls := "OfficeLadder", name := "element", desc := "(II)J" } : Jvm.MethodName) ({ cls := "OfficeLadder", name := "element", desc := "(II)J" } : Jvm.MethodName)) ∈ lw_good := g_tw 915 (by decide +kernel) (by decide +kernel)
theorem tw916 : (Jvm.Cond.code ({ cls := "OfficeLadder", name := "element", desc := "(II)J" } : Jvm.MethodName) prog_1_method_32_code (4 : Nat) (Option.some Jvm.ClassFile.FieldType.long)) ∈ lw_good := g_tw 916 (by decide +kernel) (by decide +kernel)
theorem tw917 : (Jvm.Cond.classLink "OfficeLadder" (266 : Nat) "java/lang/IllegalArgumentException") ∈ lw_good := g_tw 917 (by decide +kernel) (by decide +kernel)
theorem tw918 : (Jvm.Cond.instantiable "java/lang/IllegalArgumentException" (6 : Nat)) ∈ lw_good := g_tw 918 (by decide +kernel) (by decide +kernel)
theorem tw920 : (Jvm.Cond.selects "java/lang/IllegalArgumentException" ({ cls := "java/lang/Throwable", name := "fillInStackTrace", desc := "(I)Ljava/lang/Throwable;" } : Jvm.MethodName) ({ cls := "java/lang/Throwable", name := "fillInStackTrace", desc := "(I)Ljava/lang/Throwable;" } : Jvm.MethodName)) ∈ lw_good := g_tw 920 (by decide +kernel) (by decide +kernel)
theorem tw927 : (Jvm.Cond.methodLink "OfficeLadder" (270 : Nat) ({ cls := "java/lang/IllegalArgumentException", name := "<init>", desc := "(Ljava/lang/String;)V" } : Jvm.MethodName)) ∈ lw_good := g_tw 927 (by decide +kernel) (by decide +kernel)
theorem tw928 : (Jvm.Cond.instanceMethod ({ cls := "java/lang/IllegalArgumentException", name := "<init>", desc := "(Ljava/lang/String;)V" } : Jvm.MethodName)) ∈ lw_good := g_tw 928 (by decide +kernel) (by decide +kernel)
theorem tw929 : (Jvm.Cond.code ({ cls := "java/lang/IllegalArgumentException", name := "<init>", desc := "(Ljava/lang/String;)V" } : Jvm.MethodName) prog_13_method_2_code (2 : Nat) (Option.none : Option Jvm.ClassFile.FieldType)) ∈ lw_good := g_tw 929 (by decide +kernel) (by decide +kernel)
theorem tw930 : (Jvm.Cond.methodLink "java/lang/IllegalArgumentException" (7 : Nat) ({ cls := "java/lang/RuntimeException", name := "<init>", desc := "(Ljava/lang/String;)V" } : Jvm.MethodName)) ∈ lw_good := g_tw 930 (by decide +kernel) (by decide +kernel)
theorem tw934 : (Jvm.Cond.methodLink "OfficeLadder" (280 : Nat) ({ cls := "java/lang/IllegalStateException", name := "<init>", desc := "(Ljava/lang/String;)V" } : Jvm.MethodName)) ∈ lw_good := g_tw 934 (by decide +kernel) (by decide +kernel)
theorem tw936 : (Jvm.Cond.methodLink "OfficeLadder" (286 : Nat) ({ cls := "OfficeLadder$Shelf", name := "at", desc := "(I)J" } : Jvm.MethodName)) ∈ lw_good := g_tw 936 (by decide +kernel) (by decide +kernel)
theorem tw937 : (Jvm.Cond.instanceMethod ({ cls := "OfficeLadder$Shelf", name := "at", desc := "(I)J" } : Jvm.MethodName)) ∈ lw_good := g_tw 937 (by decide +kernel) (by decide +kernel)
theorem tw938 : (Jvm.Cond.selects "OfficeLadder$Shelf" ({ cls := "OfficeLadder$Shelf", name := "at", desc := "(I)J" } : Jvm.MethodName) ({ cls := "OfficeLadder$Shelf", name := "at", desc := "(I)J" } : Jvm.MethodName)) ∈ lw_good := g_tw 938 (by decide +kernel) (by decide +kernel)
theorem tw939 : (Jvm.Cond.code ({ cls := "OfficeLadder$Shelf", name := "at", desc := "(I)J" } : Jvm.MethodName) prog_9_method_4_code (2 : Nat) (Option.some Jvm.ClassFile.FieldType.long)) ∈ lw_good := g_tw 939 (by decide +kernel) (by decide +kernel)
theorem tw940 : (Jvm.Cond.methodLink "OfficeLadderLaw" (161 : Nat) ({ cls := "OfficeLadderModel", name := "thrown", desc := "()I" } : Jvm.MethodName)) ∈ lw_good := g_tw 940 (by decide +kernel) (by decide +kernel)
theorem tw941 : (Jvm.Cond.instanceMethod ({ cls := "OfficeLadderModel", name := "thrown", desc := "()I" } : Jvm.MethodName)) ∈ lw_good := g_tw 941 (by decide +kernel) (by decide +kernel)
theorem tw942 : (Jvm.Cond.selects "OfficeLadderModel" ({ cls := "OfficeLadderModel", name := "thrown", desc := "()I" } : Jvm.MethodName) ({ cls := "OfficeLadderModel", name := "thrown", desc := "()I" } : Jvm.MethodName)) ∈ lw_good := g_tw 942 (by decide +kernel) (by decide +kernel)
theorem tw943 : (Jvm.Cond.code ({ cls := "OfficeLadderModel", name := "thrown", desc := "()I" } : Jvm.MethodName) prog_11_method_1_code (1 : Nat) (Option.some Jvm.ClassFile.FieldType.int)) ∈ lw_good := g_tw 943 (by decide +kernel) (by decide +kernel)
theorem tw944 : (Jvm.Cond.classLink "OfficeLadderLaw" (18 : Nat) "OfficeLadderModel") ∈ lw_good := g_tw 944 (by decide +kernel) (by decide +kernel)
theorem tw945 : (Jvm.Cond.instantiable "OfficeLadderModel" (45 : Nat)) ∈ lw_good := g_tw 945 (by decide +kernel) (by decide +kernel)
theorem tw946 : (Jvm.Cond.methodLink "OfficeLadderLaw" (20 : Nat) ({ cls := "OfficeLadderModel", name := "<init>", desc := "()V" } : Jvm.MethodName)) ∈ lw_good := g_tw 946 (by decide +kernel) (by decide +kernel)
theorem tw947 : (Jvm.Cond.instanceMethod ({ cls := "OfficeLadderModel", name := "<init>", desc := "()V" } : Jvm.MethodName)) ∈ lw_good := g_tw 947 (by decide +kernel) (by decide +kernel)
theorem tw948 : (Jvm.Cond.code ({ cls := "OfficeLadderModel", name := "<init>", desc := "()V" } : Jvm.MethodName) prog_11_method_3_code (2 : Nat) (Option.none : Option Jvm.ClassFile.FieldType)) ∈ lw_good := g_tw 948 (by decide +kernel) (by decide +kernel)
theorem tw949 : (Jvm.Cond.methodLink "OfficeLadderModel" (7 : Nat) ({ cls := "java/lang/Object", name := "<init>", desc := "()V" } : Jvm.MethodName)) ∈ lw_good := g_tw 949 (by decide +kernel) (by decide +kernel)
theorem tw950 : (Jvm.Cond.fieldLink "OfficeLadderModel" (1 : Nat) "OfficeLadderModel" "thrown" "I") ∈ lw_good := g_tw 950 (by decide +kernel) (by decide +kernel)
theorem tw951 : (Jvm.Cond.fieldLink "OfficeLadderModel" (13 : Nat) "OfficeLadderModel" "offices" "I") ∈ lw_good := g_tw 951 (by decide +kernel) (by decide +kernel)
theorem tw952 : (Jvm.Cond.fieldLink "OfficeLadderModel" (16 : Nat) "OfficeLadderModel" "people" "I") ∈ lw_good := g_tw 952 (by decide +kernel) (by decide +kernel)
theorem tw953 : (Jvm.Cond.fieldLink "OfficeLadderModel" (19 : Nat) "OfficeLadderModel" "laws" "I") ∈ lw_good := g_tw 953 (by decide +kernel) (by decide +kernel)
theorem tw954 : (Jvm.Cond.fieldLink "OfficeLadderModel" (22 : Nat) "OfficeLadderModel" "seats" "[I") ∈ lw_good := g_tw 954 (by decide +kernel) (by decide +kernel)
theorem tw955 : (Jvm.Cond.fieldLink "OfficeLadderModel" (26 : Nat) "OfficeLadderModel" "isFree" "[Z") ∈ lw_good := g_tw 955 (by decide +kernel) (by decide +kernel)
theorem tw956 : (Jvm.Cond.fieldLink "OfficeLadderModel" (30 : Nat) "OfficeLadderModel" "order" "[I") ∈ lw_good := g_tw 956 (by decide +kernel) (by decide +kernel)
theorem tw957 : (Jvm.Cond.fieldLink "OfficeLadderModel" (33 : Nat) "OfficeLadderModel" "born0" "[I") ∈ lw_good := g_tw 957 (by decide +kernel) (by decide +kernel)
theorem tw958 : (Jvm.Cond.fieldLink "OfficeLadderModel" (36 : Nat) "OfficeLadderModel" "born1" "[I") ∈ lw_good := g_tw 958 (by decide +kernel) (by decide +kernel)
theorem tw959 : (Jvm.Cond.fieldLink "OfficeLadderModel" (39 : Nat) "OfficeLadderModel" "father" "[I") ∈ lw_good := g_tw 959 (by decide +kernel) (by decide +kernel)
theorem tw960 : (Jvm.Cond.fieldLink "OfficeLadderModel" (42 : Nat) "OfficeLadderModel" "died" "[I") ∈ lw_good := g_tw 960 (by decide +kernel) (by decide +kernel)
theorem tw961 : (Jvm.Cond.fieldLink "OfficeLadderModel" (45 : Nat) "OfficeLadderModel" "away0" "[I") ∈ lw_good := g_tw 961 (by decide +kernel) (by decide +kernel)
theorem tw962 : (Jvm.Cond.fieldLink "OfficeLadderModel" (48 : Nat) "OfficeLadderModel" "away1" "[I") ∈ lw_good := g_tw 962 (by decide +kernel) (by decide +kernel)
theorem tw963 : (Jvm.Cond.fieldLink "OfficeLadderModel" (51 : Nat) "OfficeLadderModel" "kind" "[I") ∈ lw_good := g_tw 963 (by decide +kernel) (by decide +kernel)
theorem tw964 : (Jvm.Cond.fieldLink "OfficeLadderModel" (54 : Nat) "OfficeLadderModel" "of" "[I") ∈ lw_good := g_tw 964 (by decide +kernel) (by decide +kernel)
theorem tw965 : (Jvm.Cond.fieldLink "OfficeLadderModel" (57 : Nat) "OfficeLadderModel" "number" "[I") ∈ lw_good := g_tw 965 (by decide +kernel) (by decide +kernel)
theorem tw966 : (Jvm.Cond.fieldLink "OfficeLadderModel" (60 : Nat) "OfficeLadderModel" "since" "[I") ∈ lw_good := g_tw 966 (by decide +kernel) (by decide +kernel)
theorem tw967 : (Jvm.Cond.fieldLink "OfficeLadderModel" (63 : Nat) "OfficeLadderModel" "until" "[I") ∈ lw_good := g_tw 967 (by decide +kernel) (by decide +kernel)
theorem tw968 : (Jvm.Cond.fieldLink "OfficeLadderModel" (66 : Nat) "OfficeLadderModel" "list" "[I") ∈ lw_good := g_tw 968 (by decide +kernel) (by decide +kernel)
theorem tw969 : (Jvm.Cond.fieldLink "OfficeLadderModel" (69 : Nat) "OfficeLadderModel" "isVoid" "[Z") ∈ lw_good := g_tw 969 (by decide +kernel) (by decide +kernel)
theorem tw970 : (Jvm.Cond.fieldLink "OfficeLadderModel" (72 : Nat) "OfficeLadderModel" "place" "[I") ∈ lw_good := g_tw 970 (by decide +kernel) (by decide +kernel)
theorem tw971 : (Jvm.Cond.fieldLink "OfficeLadderModel" (75 : Nat) "OfficeLadderModel" "breaches" "I") ∈ lw_good := g_tw 971 (by decide +kernel) (by decide +kernel)
theorem tw972 : (Jvm.Cond.fieldLink "OfficeLadderModel" (78 : Nat) "OfficeLadderModel" "gaps" "I") ∈ lw_good := g_tw 972 (by decide +kernel) (by decide +kernel)
theorem tw973 : (Jvm.Cond.fieldLink "OfficeLadderModel" (81 : Nat) "OfficeLadderModel" "tries" "I") ∈ lw_good := g_tw 973 (by decide +kernel) (by decide +kernel)
theorem tw974 : (Jvm.Cond.fieldLink "OfficeLadderModel" (84 : Nat) "OfficeLadderModel" "whose" "I") ∈ lw_good := g_tw 974 (by decide +kernel) (by decide +kernel)
theorem tw975 : (Jvm.Cond.fieldLink "OfficeLadderModel" (87 : Nat) "OfficeLadderModel" "where" "I") ∈ lw_good := g_tw 975 (by decide +kernel) (by decide +kernel)
theorem tw976 : (Jvm.Cond.fieldLink "OfficeLadderModel" (90 : Nat) "OfficeLadderModel" "amongMany" "I") ∈ lw_good := g_tw 976 (by decide +kernel) (by decide +kernel)
theorem tw977 : (Jvm.Cond.fieldLink "OfficeLadderModel" (93 : Nat) "OfficeLadderModel" "gap" "[I") ∈ lw_good := g_tw 977 (by decide +kernel) (by decide +kernel)
theorem tw978 : (Jvm.Cond.fieldLink "OfficeLadderModel" (96 : Nat) "OfficeLadderModel" "tried" "[I") ∈ lw_good := g_tw 978 (by decide +kernel) (by decide +kernel)
theorem tw979 : (Jvm.Cond.fieldLink "OfficeLadderModel" (99 : Nat) "OfficeLadderModel" "candidates" "I") ∈ lw_good := g_tw 979 (by decide +kernel) (by decide +kernel)
theorem tw980 : (Jvm.Cond.fieldLink "OfficeLadderModel" (102 : Nat) "OfficeLadderModel" "chairs" "I") ∈ lw_good := g_tw 980 (by decide +kernel) (by decide +kernel)
theorem tw981 : (Jvm.Cond.fieldLink "OfficeLadderModel" (105 : Nat) "OfficeLadderModel" "ballot" "[I") ∈ lw_good := g_tw 981 (by decide +kernel) (by decide +kernel)
theorem tw982 : (Jvm.Cond.fieldLink "OfficeLadderModel" (108 : Nat) "OfficeLadderModel" "drawn" "[I") ∈ lw_good := g_tw 982 (by decide +kernel) (by decide +kernel)
theorem tw983 : (Jvm.Cond.fieldLink "OfficeLadderModel" (111 : Nat) "OfficeLadderModel" "left" "[I") ∈ lw_good := g_tw 983 (by decide +kernel) (by decide +kernel)
theorem tw984 : (Jvm.Cond.fieldLink "OfficeLadderModel" (114 : Nat) "OfficeLadderModel" "votes" "[I") ∈ lw_good := g_tw 984 (by decide +kernel) (by decide +kernel)
theorem tw985 : (Jvm.Cond.fieldLink "OfficeLadderModel" (117 : Nat) "OfficeLadderModel" "cameAt" "[I") ∈ lw_good := g_tw 985 (by decide +kernel) (by decide +kernel)
theorem tw986 : (Jvm.Cond.fieldLink "OfficeLadderModel" (120 : Nat) "OfficeLadderModel" "chosen" "[I") ∈ lw_good := g_tw 986 (by decide +kernel) (by decide +kernel)
theorem tw987 : (Jvm.Cond.fieldLink "OfficeLadderModel" (123 : Nat) "OfficeLadderModel" "chosenAt" "[I") ∈ lw_good := g_tw 987 (by decide +kernel) (by decide +kernel)
theorem tw988 : (Jvm.Cond.fieldLink "OfficeLadderModel" (126 : Nat) "OfficeLadderModel" "chosenMany" "I") ∈ lw_good := g_tw 988 (by decide +kernel) (by decide +kernel)
theorem tw989 : (Jvm.Cond.fieldLink "OfficeLadderModel" (129 : Nat) "OfficeLadderModel" "isChosen" "[Z") ∈ lw_good := g_tw 989 (by decide +kernel) (by decide +kernel)
theorem tw990 : (Jvm.Cond.fieldLink "OfficeLadderModel" (132 : Nat) "OfficeLadderModel" "held0" "[I") ∈ lw_good := g_tw 990 (by decide +kernel) (by decide +kernel)
theorem tw991 : (Jvm.Cond.fieldLink "OfficeLadderModel" (135 : Nat) "OfficeLadderModel" "heldLaw" "[I") ∈ lw_good := g_tw 991 (by decide +kernel) (by decide +kernel)
theorem tw992 : (Jvm.Cond.fieldLink "OfficeLadderModel" (138 : Nat) "OfficeLadderModel" "size" "[I") ∈ lw_good := g_tw 992 (by decide +kernel) (by decide +kernel)
theorem tw993 : (Jvm.Cond.fieldLink "OfficeLadderModel" (141 : Nat) "OfficeLadderModel" "item" "[I") ∈ lw_good := g_tw 993 (by decide +kernel) (by decide +kernel)
theorem tw994 : (Jvm.Cond.fieldLink "OfficeLadderModel" (144 : Nat) "OfficeLadderModel" "aside" "[I") ∈ lw_good := g_tw 994 (by decide +kernel) (by decide +kernel)
theorem tw1086 : (Jvm.Cond.methodLink "OfficeLadderLaw" (25 : Nat) ({ cls := "OfficeLadderModel", name := "office", desc := "(IZ)I" } : Jvm.MethodName)) ∈ lw_good := g_tw 1086 (by decide +kernel) (by decide +kernel)
theorem tw1087 : (Jvm.Cond.instanceMethod ({ cls := "OfficeLadderModel", name := "office", desc := "(IZ)I" } : Jvm.MethodName)) ∈ lw_good := g_tw 1087 (by decide +kernel) (by decide +kernel)
theorem tw1088 : (Jvm.Cond.selects "OfficeLadderModel" ({ cls := "OfficeLadderModel", name := "office", desc := "(IZ)I" } : Jvm.MethodName) ({ cls := "OfficeLadderModel", name := "office", desc := "(IZ)I" } : Jvm.MethodName)) ∈ lw_good := g_tw 1088 (by decide +kernel) (by decide +kernel)
theorem tw1089 : (Jvm.Cond.code ({ cls := "OfficeLadderModel", name := "office", desc := "(IZ)I" } : Jvm.MethodName) prog_11_method_8_code (3 : Nat) (Option.some Jvm.ClassFile.FieldType.int)) ∈ lw_good := g_tw 1089 (by decide +kernel) (by decide +kernel)
theorem tw1090 : (Jvm.Cond.methodLink "OfficeLadderModel" (147 : Nat) ({ cls := "OfficeLadderModel", name := "in", desc := "(III)Z" } : Jvm.MethodName)) ∈ lw_good := g_tw 1090 (by decide +kernel) (by decide +kernel)
theorem tw1092 : (Jvm.Cond.instanceMethod ({ cls := "OfficeLadderModel", name := "in", desc := "(III)Z" } : Jvm.MethodName)) ∈ lw_good := g_tw 1092 (by decide +kernel) (by decide +kernel)
theorem tw1093 : (Jvm.Cond.code ({ cls := "OfficeLadderModel", name := "in", desc := "(III)Z" } : Jvm.MethodName) prog_11_method_2_code (4 : Nat) (Option.some Jvm.ClassFile.FieldType.boolean)) ∈ lw_good := g_tw 1093 (by decide +kernel) (by decide +kernel)
theorem tw1094 : (Jvm.Cond.methodLink "OfficeLadderLaw" (30 : Nat) ({ cls := "OfficeLadderModel", name := "person", desc := "(IIII)I" } : Jvm.MethodName)) ∈ lw_good := g_tw 1094 (by decide +kernel) (by decide +kernel)
theorem tw1095 : (Jvm.Cond.instanceMethod ({ cls := "OfficeLadderModel", name := "person", desc := "(IIII)I" } : Jvm.MethodName)) ∈ lw_good := g_tw 1095 (by decide +kernel) (by decide +kernel)
theorem tw1096 : (Jvm.Cond.selects "OfficeLadderModel" ({ cls := "OfficeLadderModel", name := "person", desc := "(IIII)I" } : Jvm.MethodName) ({ cls := "OfficeLadderModel", name := "person", desc := "(IIII)I" } : Jvm.MethodName)) ∈ lw_good := g_tw 1096 (by decide +kernel) (by decide +kernel)
theorem tw1097 : (Jvm.Cond.code ({ cls := "OfficeLadderModel", name := "person", desc := "(IIII)I" } : Jvm.MethodName) prog_11_method_10_code (5 : Nat) (Option.some Jvm.ClassFile.FieldType.int)) ∈ lw_good := g_tw 1097 (by decide +kernel) (by decide +kernel)
theorem tw1098 : (Jvm.Cond.methodLink "OfficeLadderModel" (151 : Nat) ({ cls := "OfficeLadderModel", name := "isSpan", desc := "(II)Z" } : Jvm.MethodName)) ∈ lw_good := g_tw 1098 (by decide +kernel) (by decide +kernel)
theorem tw1100 : (Jvm.Cond.instanceMethod ({ cls := "OfficeLadderModel", name := "isSpan", desc := "(II)Z" } : Jvm.MethodName)) ∈ lw_good := g_tw 1100 (by decide +kernel) (by decide +kernel)
theorem tw1101 : (Jvm.Cond.code ({ cls := "OfficeLadderModel", name := "isSpan", desc := "(II)Z" } : Jvm.MethodName) prog_11_method_9_code (3 : Nat) (Option.some Jvm.ClassFile.FieldType.boolean)) ∈ lw_good := g_tw 1101 (by decide +kernel) (by decide +kernel)
theorem tw1102 : (Jvm.Cond.methodLink "OfficeLadderLaw" (35 : Nat) ({ cls := "OfficeLadderModel", name := "death", desc := "(II)I" } : Jvm.MethodName)) ∈ lw_good := g_tw 1102 (by decide +kernel) (by decide +kernel)
theorem tw1103 : (Jvm.Cond.instanceMethod ({ cls := "OfficeLadderModel", name := "death", desc := "(II)I" } : Jvm.MethodName)) ∈ lw_good := g_tw 1103 (by decide +kernel) (by decide +kernel)
theorem tw1104 : (Jvm.Cond.selects "OfficeLadderModel" ({ cls := "OfficeLadderModel", name := "death", desc := "(II)I" } : Jvm.MethodName) ({ cls := "OfficeLadderModel", name := "death", desc := "(II)I" } : Jvm.MethodName)) ∈ lw_good := g_tw 1104 (by decide +kernel) (by decide +kernel)
theorem tw1105 : (Jvm.Cond.code ({ cls := "OfficeLadderModel", name := "death", desc := "(II)I" } : Jvm.MethodName) prog_11_method_11_code (4 : Nat) (Option.some Jvm.ClassFile.FieldType.int)) ∈ lw_good := g_tw 1105 (by decide +kernel) (by decide +kernel)
theorem tw1106 : (Jvm.Cond.methodLink "OfficeLadderModel" (155 : Nat) ({ cls := "OfficeLadderModel", name := "isPerson", desc := "(I)Z" } : Jvm.MethodName)) ∈ lw_good := g_tw 1106 (by decide +kernel) (by decide +kernel)
theorem tw1108 : (Jvm.Cond.instanceMethod ({ cls := "OfficeLadderModel", name := "isPerson", desc := "(I)Z" } : Jvm.MethodName)) ∈ lw_good := g_tw 1108 (by decide +kernel) (by decide +kernel)
theorem tw1109 : (Jvm.Cond.code ({ cls := "OfficeLadderModel", name := "isPerson", desc := "(I)Z" } : Jvm.MethodName) prog_11_method_5_code (2 : Nat) (Option.some Jvm.ClassFile.FieldType.boolean)) ∈ lw_good := g_tw 1109 (by decide +kernel) (by decide +kernel)
theorem tw1110 : (Jvm.Cond.methodLink "OfficeLadderLaw" (40 : Nat) ({ cls := "OfficeLadderModel", name := "exile", desc := "(III)I" } : Jvm.MethodName)) ∈ lw_good := g_tw 1110 (by decide +kernel) (by decide +kernel)
theorem tw1111 : (Jvm.Cond.instanceMethod ({ cls := "OfficeLadderModel", name := "exile", desc := "(III)I" } : Jvm.MethodName)) ∈ lw_good := g_tw 1111 (by decide +kernel) (by decide +kernel)
theorem tw1112 : (Jvm.Cond.selects "OfficeLadderModel" ({ cls := "OfficeLadderModel", name := "exile", desc := "(III)I" } : Jvm.MethodName) ({ cls := "OfficeLadderModel", name := "exile", desc := "(III)I" } : Jvm.MethodName)) ∈ lw_good := g_tw 1112 (by decide +kernel) (by decide +kernel)
theorem tw1113 : (Jvm.Cond.code ({ cls := "OfficeLadderModel", name := "exile", desc := "(III)I" } : Jvm.MethodName) prog_11_method_12_code (5 : Nat) (Option.some Jvm.ClassFile.FieldType.int)) ∈ lw_good := g_tw 1113 (by decide +kernel) (by decide +kernel)
theorem tw1114 : (Jvm.Cond.methodLink "OfficeLadderModel" (159 : Nat) ({ cls := "OfficeLadderModel", name := "isYear", desc := "(I)Z" } : Jvm.MethodName)) ∈ lw_good := g_tw 1114 (by decide +kernel) (by decide +kernel)
theorem tw1116 : (Jvm.Cond.instanceMethod ({ cls := "OfficeLadderModel", name := "isYear", desc := "(I)Z" } : Jvm.MethodName)) ∈ lw_good := g_tw 1116 (by decide +kernel) (by decide +kernel)
theorem tw1117 : (Jvm.Cond.code ({ cls := "OfficeLadderModel", name := "isYear", desc := "(I)Z" } : Jvm.MethodName) prog_11_method_6_code (2 : Nat) (Option.some Jvm.ClassFile.FieldType.boolean)) ∈ lw_good := g_tw 1117 (by decide +kernel) (by decide +kernel)
theorem tw1118 : (Jvm.Cond.methodLink "OfficeLadderLaw" (44 : Nat) ({ cls := "OfficeLadderModel", name := "birth", desc := "(III)I" } : Jvm.MethodName)) ∈ lw_good := g_tw 1118 (by decide +kernel) (by decide +kernel)
theorem tw1119 : (Jvm.Cond.instanceMethod ({ cls := "OfficeLadderModel", name := "birth", desc := "(III)I" } : Jvm.MethodName)) ∈ lw_good := g_tw 1119 (by decide +kernel) (by decide +kernel)
theorem tw1120 : (Jvm.Cond.selects "OfficeLadderModel" ({ cls := "OfficeLadderModel", name := "birth", desc := "(III)I" } : Jvm.MethodName) ({ cls := "OfficeLadderModel", name := "birth", desc := "(III)I" } : Jvm.MethodName)) ∈ lw_good := g_tw 1120 (by decide +kernel) (by decide +kernel)
theorem tw1121 : (Jvm.Cond.code ({ cls := "OfficeLadderModel", name := "birth", desc := "(III)I" } : Jvm.MethodName) prog_11_method_13_code (5 : Nat) (Option.some Jvm.ClassFile.FieldType.int)) ∈ lw_good := g_tw 1121 (by decide +kernel) (by decide +kernel)
theorem tw1122 : (Jvm.Cond.methodLink "OfficeLadderLaw" (48 : Nat) ({ cls := "OfficeLadderModel", name := "law", desc := "(IIII)I" } : Jvm.MethodName)) ∈ lw_good := g_tw 1122 (by decide +kernel) (by decide +kernel)
theorem tw1123 : (Jvm.Cond.instanceMethod ({ cls := "OfficeLadderModel", name := "law", desc := "(IIII)I" } : Jvm.MethodName)) ∈ lw_good := g_tw 1123 (by decide +kernel) (by decide +kernel)
theorem tw1124 : (Jvm.Cond.selects "OfficeLadderModel" ({ cls := "OfficeLadderModel", name := "law", desc := "(IIII)I" } : Jvm.MethodName) ({ cls := "OfficeLadderModel", name := "law", desc := "(IIII)I" } : Jvm.MethodName)) ∈ lw_good := g_tw 1124 (by decide +kernel) (by decide +kernel)
theorem tw1125 : (Jvm.Cond.code ({ cls := "OfficeLadderModel", name := "law", desc := "(IIII)I" } : Jvm.MethodName) prog_11_method_14_code (8 : Nat) (Option.some Jvm.ClassFile.FieldType.int)) ∈ lw_good := g_tw 1125 (by decide +kernel) (by decide +kernel)
theorem tw1126 : (Jvm.Cond.methodLink "OfficeLadderModel" (162 : Nat) ({ cls := "OfficeLadderModel", name := "isOffice", desc := "(I)Z" } : Jvm.MethodName)) ∈ lw_good := g_tw 1126 (by decide +kernel) (by decide +kernel)
theorem tw1128 : (Jvm.Cond.instanceMethod ({ cls := "OfficeLadderModel", name := "isOffice", desc := "(I)Z" } : Jvm.MethodName)) ∈ lw_good := g_tw 1128 (by decide +kernel) (by decide +kernel)
theorem tw1129 : (Jvm.Cond.code ({ cls := "OfficeLadderModel", name := "isOffice", desc := "(I)Z" } : Jvm.MethodName) prog_11_method_4_code (2 : Nat) (Option.some Jvm.ClassFile.FieldType.boolean)) ∈ lw_good := g_tw 1129 (by decide +kernel) (by decide +kernel)
theorem tw1130 : (Jvm.Cond.methodLink "OfficeLadderLaw" (52 : Nat) ({ cls := "OfficeLadderModel", name := "repeal", desc := "(II)I" } : Jvm.MethodName)) ∈ lw_good := g_tw 1130 (by decide +kernel) (by decide +kernel)
theorem tw1131 : (Jvm.Cond.instanceMethod ({ cls := "OfficeLadderModel", name := "repeal", desc := "(II)I" } : Jvm.MethodName)) ∈ lw_good := g_tw 1131 (by decide +kernel) (by decide +kernel)
theorem tw1132 : (Jvm.Cond.selects "OfficeLadderModel" ({ cls := "OfficeLadderModel", name := "repeal", desc := "(II)I" } : Jvm.MethodName) ({ cls := "OfficeLadderModel", name := "repeal", desc := "(II)I" } : Jvm.MethodName)) ∈ lw_good := g_tw 1132 (by decide +kernel) (by decide +kernel)
theorem tw1133 : (Jvm.Cond.code ({ cls := "OfficeLadderModel", name := "repeal", desc := "(II)I" } : Jvm.MethodName) prog_11_method_15_code (4 : Nat) (Option.some Jvm.ClassFile.FieldType.int)) ∈ lw_good := g_tw 1133 (by decide +kernel) (by decide +kernel)
theorem tw1134 : (Jvm.Cond.methodLink "OfficeLadderLaw" (56 : Nat) ({ cls := "OfficeLadderModel", name := "stone", desc := "(III)I" } : Jvm.MethodName)) ∈ lw_good := g_tw 1134 (by decide +kernel) (by decide +kernel)
theorem tw1135 : (Jvm.Cond.instanceMethod ({ cls := "OfficeLadderModel", name := "stone", desc := "(III)I" } : Jvm.MethodName)) ∈ lw_good := g_tw 1135 (by decide +kernel) (by decide +kernel)
theorem tw1136 : (Jvm.Cond.selects "OfficeLadderModel" ({ cls := "OfficeLadderModel", name := "stone", desc := "(III)I" } : Jvm.MethodName) ({ cls := "OfficeLadderModel", name := "stone", desc := "(III)I" } : Jvm.MethodName)) ∈ lw_good := g_tw 1136 (by decide +kernel) (by decide +kernel)
theorem tw1137 : (Jvm.Cond.code ({ cls := "OfficeLadderModel", name := "stone", desc := "(III)I" } : Jvm.MethodName) prog_11_method_18_code (5 : Nat) (Option.some Jvm.ClassFile.FieldType.int)) ∈ lw_good := g_tw 1137 (by decide +kernel) (by decide +kernel)
theorem tw1138 : (Jvm.Cond.methodLink "OfficeLadderModel" (165 : Nat) ({ cls := "OfficeLadderModel", name := "at", desc := "(III)I" } : Jvm.MethodName)) ∈ lw_good := g_tw 1138 (by decide +kernel) (by decide +kernel)
theorem tw1140 : (Jvm.Cond.instanceMethod ({ cls := "OfficeLadderModel", name := "at", desc := "(III)I" } : Jvm.MethodName)) ∈ lw_good := g_tw 1140 (by decide +kernel) (by decide +kernel)
theorem tw1141 : (Jvm.Cond.code ({ cls := "OfficeLadderModel", name := "at", desc := "(III)I" } : Jvm.MethodName) prog_11_method_7_code (4 : Nat) (Option.some Jvm.ClassFile.FieldType.int)) ∈ lw_good := g_tw 1141 (by decide +kernel) (by decide +kernel)
theorem tw1142 : (Jvm.Cond.methodLink "OfficeLadderModel" (169 : Nat) ({ cls := "OfficeLadderModel", name := "put", desc := "(III)V" } : Jvm.MethodName)) ∈ lw_good := g_tw 1142 (by decide +kernel) (by decide +kernel)
theorem tw1144 : (Jvm.Cond.instanceMethod ({ cls := "OfficeLadderModel", name := "put", desc := "(III)V" } : Jvm.MethodName)) ∈ lw_good := g_tw 1144 (by decide +kernel) (by decide +kernel)
theorem tw1145 : (Jvm.Cond.code ({ cls := "OfficeLadderModel", name := "put", desc := "(III)V" } : Jvm.MethodName) prog_11_method_16_code (4 : Nat) (Option.none : Option Jvm.ClassFile.FieldType)) ∈ lw_good := g_tw 1145 (by decide +kernel) (by decide +kernel)
theorem tw1146 : (Jvm.Cond.methodLink "OfficeLadderLaw" (60 : Nat) ({ cls := "OfficeLadderModel", name := "empty", desc := "(III)I" } : Jvm.MethodName)) ∈ lw_good := g_tw 1146 (by decide +kernel) (by decide +kernel)
theorem tw1147 : (Jvm.Cond.instanceMethod ({ cls := "OfficeLadderModel", name := "empty", desc := "(III)I" } : Jvm.MethodName)) ∈ lw_good := g_tw 1147 (by decide +kernel) (by decide +kernel)
theorem tw1148 : (Jvm.Cond.selects "OfficeLadderModel" ({ cls := "OfficeLadderModel", name := "empty", desc := "(III)I" } : Jvm.MethodName) ({ cls := "OfficeLadderModel", name := "empty", desc := "(III)I" } : Jvm.MethodName)) ∈ lw_good := g_tw 1148 (by decide +kernel) (by decide +kernel)
theorem tw1149 : (Jvm.Cond.code ({ cls := "OfficeLadderModel", name := "empty", desc := "(III)I" } : Jvm.MethodName) prog_11_method_20_code (4 : Nat) (Option.some Jvm.ClassFile.FieldType.int)) ∈ lw_good := g_tw 1149 (by decide +kernel) (by decide +kernel)
theorem tw1150 : (Jvm.Cond.methodLink "OfficeLadderModel" (173 : Nat) ({ cls := "OfficeLadderModel", name := "isSeat", desc := "(III)Z" } : Jvm.MethodName)) ∈ lw_good := g_tw 1150 (by decide +kernel) (by decide +kernel)
theorem tw1152 : (Jvm.Cond.instanceMethod ({ cls := "OfficeLadderModel", name := "isSeat", desc := "(III)Z" } : Jvm.MethodName)) ∈ lw_good := g_tw 1152 (by decide +kernel) (by decide +kernel)
theorem tw1153 : (Jvm.Cond.code ({ cls := "OfficeLadderModel", name := "isSeat", desc := "(III)Z" } : Jvm.MethodName) prog_11_method_19_code (4 : Nat) (Option.some Jvm.ClassFile.FieldType.boolean)) ∈ lw_good := g_tw 1153 (by decide +kernel) (by decide +kernel)
theorem tw1154 : (Jvm.Cond.methodLink "OfficeLadderModel" (176 : Nat) ({ cls := "OfficeLadderModel", name := "clear", desc := "(II)I" } : Jvm.MethodName)) ∈ lw_good := g_tw 1154 (by decide +kernel) (by decide +kernel)
theorem tw1156 : (Jvm.Cond.instanceMethod ({ cls := "OfficeLadderModel", name := "clear", desc := "(II)I" } : Jvm.MethodName)) ∈ lw_good := g_tw 1156 (by decide +kernel) (by decide +kernel)
theorem tw1157 : (Jvm.Cond.code ({ cls := "OfficeLadderModel", name := "clear", desc := "(II)I" } : Jvm.MethodName) prog_11_method_17_code (4 : Nat) (Option.some Jvm.ClassFile.FieldType.int)) ∈ lw_good := g_tw 1157 (by decide +kernel) (by decide +kernel)
theorem tw1158 : (Jvm.Cond.methodLink "OfficeLadderLaw" (65 : Nat) ({ cls := "OfficeLadderModel", name := "annul", desc := "(IIIZ)I" } : Jvm.MethodName)) ∈ lw_good := g_tw 1158 (by decide +kernel) (by decide +kernel)
theorem tw1159 : (Jvm.Cond.instanceMethod ({ cls := "OfficeLadderModel", name := "annul", desc := "(IIIZ)I" } : Jvm.MethodName)) ∈ lw_good := g_tw 1159 (by decide +kernel) (by decide +kernel)
theorem tw1160 : (Jvm.Cond.selects "OfficeLadderModel" ({ cls := "OfficeLadderModel", name := "annul", desc := "(IIIZ)I" } : Jvm.MethodName) ({ cls := "OfficeLadderModel", name := "annul", desc := "(IIIZ)I" } : Jvm.MethodName)) ∈ lw_good := g_tw 1160 (by decide +kernel) (by decide +kernel)
theorem tw1161 : (Jvm.Cond.code ({ cls := "OfficeLadderModel", name := "annul", desc := "(IIIZ)I" } : Jvm.MethodName) prog_11_method_21_code (7 : Nat) (Option.some Jvm.ClassFile.FieldType.int)) ∈ lw_good := g_tw 1161 (by decide +kernel) (by decide +kernel)
theorem tw1162 : (Jvm.Cond.methodLink "OfficeLadderLaw" (69 : Nat) ({ cls := "OfficeLadderModel", name := "seat", desc := "(III)I" } : Jvm.MethodName)) ∈ lw_good := g_tw 1162 (by decide +kernel) (by decide +kernel)
theorem tw1163 : (Jvm.Cond.instanceMethod ({ cls := "OfficeLadderModel", name := "seat", desc := "(III)I" } : Jvm.MethodName)) ∈ lw_good := g_tw 1163 (by decide +kernel) (by decide +kernel)
theorem tw1164 : (Jvm.Cond.selects "OfficeLadderModel" ({ cls := "OfficeLadderModel", name := "seat", desc := "(III)I" } : Jvm.MethodName) ({ cls := "OfficeLadderModel", name := "seat", desc := "(III)I" } : Jvm.MethodName)) ∈ lw_good := g_tw 1164 (by decide +kernel) (by decide +kernel)
theorem tw1165 : (Jvm.Cond.code ({ cls := "OfficeLadderModel", name := "seat", desc := "(III)I" } : Jvm.MethodName) prog_11_method_22_code (5 : Nat) (Option.some Jvm.ClassFile.FieldType.int)) ∈ lw_good := g_tw 1165 (by decide +kernel) (by decide +kernel)
theorem tw1166 : (Jvm.Cond.methodLink "OfficeLadderLaw" (73 : Nat) ({ cls := "OfficeLadderModel", name := "holds", desc := "(II)I" } : Jvm.MethodName)) ∈ lw_good := g_tw 1166 (by decide +kernel) (by decide +kernel)
theorem tw1167 : (Jvm.Cond.instanceMethod ({ cls := "OfficeLadderModel", name := "holds", desc := "(II)I" } : Jvm.MethodName)) ∈ lw_good := g_tw 1167 (by decide +kernel) (by decide +kernel)
theorem tw1168 : (Jvm.Cond.selects "OfficeLadderModel" ({ cls := "OfficeLadderModel", name := "holds", desc := "(II)I" } : Jvm.MethodName) ({ cls := "OfficeLadderModel", name := "holds", desc := "(II)I" } : Jvm.MethodName)) ∈ lw_good := g_tw 1168 (by decide +kernel) (by decide +kernel)
theorem tw1169 : (Jvm.Cond.code ({ cls := "OfficeLadderModel", name := "holds", desc := "(II)I" } : Jvm.MethodName) prog_11_method_24_code (4 : Nat) (Option.some Jvm.ClassFile.FieldType.int)) ∈ lw_good := g_tw 1169 (by decide +kernel) (by decide +kernel)
theorem tw1170 : (Jvm.Cond.methodLink "OfficeLadderModel" (180 : Nat) ({ cls := "OfficeLadderModel", name := "officeAt", desc := "(I)I" } : Jvm.MethodName)) ∈ lw_good := g_tw 1170 (by decide +kernel) (by decide +kernel)
theorem tw1172 : (Jvm.Cond.instanceMethod ({ cls := "OfficeLadderModel", name := "officeAt", desc := "(I)I" } : Jvm.MethodName)) ∈ lw_good := g_tw 1172 (by decide +kernel) (by decide +kernel)
theorem tw1173 : (Jvm.Cond.code ({ cls := "OfficeLadderModel", name := "officeAt", desc := "(I)I" } : Jvm.MethodName) prog_11_method_23_code (2 : Nat) (Option.some Jvm.ClassFile.FieldType.int)) ∈ lw_good := g_tw 1173 (by decide +kernel) (by decide +kernel)
theorem tw1174 : (Jvm.Cond.methodLink "OfficeLadderLaw" (77 : Nat) ({ cls := "OfficeLadderModel", name := "held", desc := "(III)I" } : Jvm.MethodName)) ∈ lw_good := g_tw 1174 (by decide +kernel) (by decide +kernel)
theorem tw1175 : (Jvm.Cond.instanceMethod ({ cls := "OfficeLadderModel", name := "held", desc := "(III)I" } : Jvm.MethodName)) ∈ lw_good := g_tw 1175 (by decide +kernel) (by decide +kernel)
theorem tw1176 : (Jvm.Cond.selects "OfficeLadderModel" ({ cls := "OfficeLadderModel", name := "held", desc := "(III)I" } : Jvm.MethodName) ({ cls := "OfficeLadderModel", name := "held", desc := "(III)I" } : Jvm.MethodName)) ∈ lw_good := g_tw 1176 (by decide +kernel) (by decide +kernel)
theorem tw1177 : (Jvm.Cond.code ({ cls := "OfficeLadderModel", name := "held", desc := "(III)I" } : Jvm.MethodName) prog_11_method_26_code (6 : Nat) (Option.some Jvm.ClassFile.FieldType.int)) ∈ lw_good := g_tw 1177 (by decide +kernel) (by decide +kernel)
theorem tw1178 : (Jvm.Cond.methodLink "OfficeLadderModel" (184 : Nat) ({ cls := "OfficeLadderModel", name := "hasHeld", desc := "(III)Z" } : Jvm.MethodName)) ∈ lw_good := g_tw 1178 (by decide +kernel) (by decide +kernel)
theorem tw1180 : (Jvm.Cond.instanceMethod ({ cls := "OfficeLadderModel", name := "hasHeld", desc := "(III)Z" } : Jvm.MethodName)) ∈ lw_good := g_tw 1180 (by decide +kernel) (by decide +kernel)
theorem tw1181 : (Jvm.Cond.code ({ cls := "OfficeLadderModel", name := "hasHeld", desc := "(III)Z" } : Jvm.MethodName) prog_11_method_25_code (5 : Nat) (Option.some Jvm.ClassFile.FieldType.boolean)) ∈ lw_good := g_tw 1181 (by decide +kernel) (by decide +kernel)
theorem tw1182 : (Jvm.Cond.methodLink "OfficeLadderLaw" (81 : Nat) ({ cls := "OfficeLadderModel", name := "could", desc := "(IIII)I" } : Jvm.MethodName)) ∈ lw_good := g_tw 1182 (by decide +kernel) (by decide +kernel)
theorem tw1183 : (Jvm.Cond.instanceMethod ({ cls := "OfficeLadderModel", name := "could", desc := "(IIII)I" } : Jvm.MethodName)) ∈ lw_good := g_tw 1183 (by decide +kernel) (by decide +kernel)
theorem tw1184 : (Jvm.Cond.selects "OfficeLadderModel" ({ cls := "OfficeLadderModel", name := "could", desc := "(IIII)I" } : Jvm.MethodName) ({ cls := "OfficeLadderModel", name := "could", desc := "(IIII)I" } : Jvm.MethodName)) ∈ lw_good := g_tw 1184 (by decide +kernel) (by decide +kernel)
theorem tw1185 : (Jvm.Cond.code ({ cls := "OfficeLadderModel", name := "could", desc := "(IIII)I" } : Jvm.MethodName) prog_11_method_34_code (5 : Nat) (Option.some Jvm.ClassFile.FieldType.int)) ∈ lw_good := g_tw 1185 (by decide +kernel) (by decide +kernel)
theorem tw1186 : (Jvm.Cond.methodLink "OfficeLadderModel" (206 : Nat) ({ cls := "OfficeLadderModel", name := "couldBe", desc := "(III)I" } : Jvm.MethodName)) ∈ lw_good := g_tw 1186 (by decide +kernel) (by decide +kernel)
theorem tw1188 : (Jvm.Cond.instanceMethod ({ cls := "OfficeLadderModel", name := "couldBe", desc := "(III)I" } : Jvm.MethodName)) ∈ lw_good := g_tw 1188 (by decide +kernel) (by decide +kernel)
theorem tw1189 : (Jvm.Cond.code ({ cls := "OfficeLadderModel", name := "couldBe", desc := "(III)I" } : Jvm.MethodName) prog_11_method_33_code (6 : Nat) (Option.some Jvm.ClassFile.FieldType.int)) ∈ lw_good := g_tw 1189 (by decide +kernel) (by decide +kernel)
theorem tw1190 : (Jvm.Cond.methodLink "OfficeLadderModel" (203 : Nat) ({ cls := "OfficeLadderModel", name := "barOf", desc := "(III)I" } : Jvm.MethodName)) ∈ lw_good := g_tw 1190 (by decide +kernel) (by decide +kernel)
theorem tw1192 : (Jvm.Cond.instanceMethod ({ cls := "OfficeLadderModel", name := "barOf", desc := "(III)I" } : Jvm.MethodName)) ∈ lw_good := g_tw 1192 (by decide +kernel) (by decide +kernel)
theorem tw1193 : (Jvm.Cond.code ({ cls := "OfficeLadderModel", name := "barOf", desc := "(III)I" } : Jvm.MethodName) prog_11_method_32_code (5 : Nat) (Option.some Jvm.ClassFile.FieldType.int)) ∈ lw_good := g_tw 1193 (by decide +kernel) (by decide +kernel)
theorem tw1194 : (Jvm.Cond.methodLink "OfficeLadderModel" (197 : Nat) ({ cls := "OfficeLadderModel", name := "isInForce", desc := "(III)Z" } : Jvm.MethodName)) ∈ lw_good := g_tw 1194 (by decide +kernel) (by decide +kernel)
theorem tw1196 : (Jvm.Cond.instanceMethod ({ cls := "OfficeLadderModel", name := "isInForce", desc := "(III)Z" } : Jvm.MethodName)) ∈ lw_good := g_tw 1196 (by decide +kernel) (by decide +kernel)
theorem tw1197 : (Jvm.Cond.code ({ cls := "OfficeLadderModel", name := "isInForce", desc := "(III)Z" } : Jvm.MethodName) prog_11_method_29_code (4 : Nat) (Option.some Jvm.ClassFile.FieldType.boolean)) ∈ lw_good := g_tw 1197 (by decide +kernel) (by decide +kernel)
theorem tw1198 : (Jvm.Cond.methodLink "OfficeLadderModel" (200 : Nat) ({ cls := "OfficeLadderModel", name := "bars", desc := "(IIII)Z" } : Jvm.MethodName)) ∈ lw_good := g_tw 1198 (by decide +kernel) (by decide +kernel)
theorem tw1200 : (Jvm.Cond.instanceMethod ({ cls := "OfficeLadderModel", name := "bars", desc := "(IIII)Z" } : Jvm.MethodName)) ∈ lw_good := g_tw 1200 (by decide +kernel) (by decide +kernel)
theorem tw1201 : (Jvm.Cond.code ({ cls := "OfficeLadderModel", name := "bars", desc := "(IIII)Z" } : Jvm.MethodName) prog_11_method_31_code (5 : Nat) (Option.some Jvm.ClassFile.FieldType.boolean)) ∈ lw_good := g_tw 1201 (by decide +kernel) (by decide +kernel)
theorem tw1202 : (Jvm.Cond.methodLink "OfficeLadderModel" (190 : Nat) ({ cls := "OfficeLadderModel", name := "heldWithin", desc := "(IIII)Z" } : Jvm.MethodName)) ∈ lw_good := g_tw 1202 (by decide +kernel) (by decide +kernel)
theorem tw1204 : (Jvm.Cond.instanceMethod ({ cls := "OfficeLadderModel", name := "heldWithin", desc := "(IIII)Z" } : Jvm.MethodName)) ∈ lw_good := g_tw 1204 (by decide +kernel) (by decide +kernel)
theorem tw1205 : (Jvm.Cond.code ({ cls := "OfficeLadderModel", name := "heldWithin", desc := "(IIII)Z" } : Jvm.MethodName) prog_11_method_30_code (7 : Nat) (Option.some Jvm.ClassFile.FieldType.boolean)) ∈ lw_good := g_tw 1205 (by decide +kernel) (by decide +kernel)
theorem tw1206 : (Jvm.Cond.methodLink "OfficeLadderModel" (194 : Nat) ({ cls := "OfficeLadderModel", name := "hasKin", desc := "(III)Z" } : Jvm.MethodName)) ∈ lw_good := g_tw 1206 (by decide +kernel) (by decide +kernel)
theorem tw1208 : (Jvm.Cond.instanceMethod ({ cls := "OfficeLadderModel", name := "hasKin", desc := "(III)Z" } : Jvm.MethodName)) ∈ lw_good := g_tw 1208 (by decide +kernel) (by decide +kernel)
theorem tw1209 : (Jvm.Cond.code ({ cls := "OfficeLadderModel", name := "hasKin", desc := "(III)Z" } : Jvm.MethodName) prog_11_method_28_code (7 : Nat) (Option.some Jvm.ClassFile.FieldType.boolean)) ∈ lw_good := g_tw 1209 (by decide +kernel) (by decide +kernel)
theorem tw1210 : (Jvm.Cond.methodLink "OfficeLadderModel" (187 : Nat) ({ cls := "OfficeLadderModel", name := "isKin", desc := "(II)Z" } : Jvm.MethodName)) ∈ lw_good := g_tw 1210 (by decide +kernel) (by decide +kernel)
theorem tw1212 : (Jvm.Cond.instanceMethod ({ cls := "OfficeLadderModel", name := "isKin", desc := "(II)Z" } : Jvm.MethodName)) ∈ lw_good := g_tw 1212 (by decide +kernel) (by decide +kernel)
theorem tw1213 : (Jvm.Cond.code ({ cls := "OfficeLadderModel", name := "isKin", desc := "(II)Z" } : Jvm.MethodName) prog_11_method_27_code (3 : Nat) (Option.some Jvm.ClassFile.FieldType.boolean)) ∈ lw_good := g_tw 1213 (by decide +kernel) (by decide +kernel)
theorem tw1214 : (Jvm.Cond.methodLink "OfficeLadderLaw" (85 : Nat) ({ cls := "OfficeLadderModel", name := "first", desc := "(IIIZ)I" } : Jvm.MethodName)) ∈ lw_good := g_tw 1214 (by decide +kernel) (by decide +kernel)
theorem tw1215 : (Jvm.Cond.instanceMethod ({ cls := "OfficeLadderModel", name := "first", desc := "(IIIZ)I" } : Jvm.MethodName)) ∈ lw_good := g_tw 1215 (by decide +kernel) (by decide +kernel)
theorem tw1216 : (Jvm.Cond.selects "OfficeLadderModel" ({ cls := "OfficeLadderModel", name := "first", desc := "(IIIZ)I" } : Jvm.MethodName) ({ cls := "OfficeLadderModel", name := "first", desc := "(IIIZ)I" } : Jvm.MethodName)) ∈ lw_good := g_tw 1216 (by decide +kernel) (by decide +kernel)
theorem tw1217 : (Jvm.Cond.code ({ cls := "OfficeLadderModel", name := "first", desc := "(IIIZ)I" } : Jvm.MethodName) prog_11_method_35_code (6 : Nat) (Option.some Jvm.ClassFile.FieldType.int)) ∈ lw_good := g_tw 1217 (by decide +kernel) (by decide +kernel)
theorem tw1218 : (Jvm.Cond.methodLink "OfficeLadderLaw" (90 : Nat) ({ cls := "OfficeLadderModel", name := "who", desc := "(IIZ)I" } : Jvm.MethodName)) ∈ lw_good := g_tw 1218 (by decide +kernel) (by decide +kernel)
theorem tw1219 : (Jvm.Cond.instanceMethod ({ cls := "OfficeLadderModel", name := "who", desc := "(IIZ)I" } : Jvm.MethodName)) ∈ lw_good := g_tw 1219 (by decide +kernel) (by decide +kernel)
theorem tw1220 : (Jvm.Cond.selects "OfficeLadderModel" ({ cls := "OfficeLadderModel", name := "who", desc := "(IIZ)I" } : Jvm.MethodName) ({ cls := "OfficeLadderModel", name := "who", desc := "(IIZ)I" } : Jvm.MethodName)) ∈ lw_good := g_tw 1220 (by decide +kernel) (by decide +kernel)
theorem tw1221 : (Jvm.Cond.code ({ cls := "OfficeLadderModel", name := "who", desc := "(IIZ)I" } : Jvm.MethodName) prog_11_method_36_code (6 : Nat) (Option.some Jvm.ClassFile.FieldType.int)) ∈ lw_good := g_tw 1221 (by decide +kernel) (by decide +kernel)
theorem tw1222 : (Jvm.Cond.methodLink "OfficeLadderLaw" (95 : Nat) ({ cls := "OfficeLadderModel", name := "breaches", desc := "()I" } : Jvm.MethodName)) ∈ lw_good := g_tw 1222 (by decide +kernel) (by decide +kernel)
theorem tw1223 : (Jvm.Cond.instanceMethod ({ cls := "OfficeLadderModel", name := "breaches", desc := "()I" } : Jvm.MethodName)) ∈ lw_good := g_tw 1223 (by decide +kernel) (by decide +kernel)
theorem tw1224 : (Jvm.Cond.selects "OfficeLadderModel" ({ cls := "OfficeLadderModel", name := "breaches", desc := "()I" } : Jvm.MethodName) ({ cls := "OfficeLadderModel", name := "breaches", desc := "()I" } : Jvm.MethodName)) ∈ lw_good := g_tw 1224 (by decide +kernel) (by decide +kernel)
theorem tw1225 : (Jvm.Cond.code ({ cls := "OfficeLadderModel", name := "breaches", desc := "()I" } : Jvm.MethodName) prog_11_method_39_code (2 : Nat) (Option.some Jvm.ClassFile.FieldType.int)) ∈ lw_good := g_tw 1225 (by decide +kernel) (by decide +kernel)
theorem tw1226 : (Jvm.Cond.methodLink "OfficeLadderModel" (212 : Nat) ({ cls := "OfficeLadderModel", name := "goThrough", desc := "(I)I" } : Jvm.MethodName)) ∈ lw_good := g_tw 1226 (by decide +kernel) (by decide +kernel)
theorem tw1228 : (Jvm.Cond.instanceMethod ({ cls := "OfficeLadderModel", name := "goThrough", desc := "(I)I" } : Jvm.MethodName)) ∈ lw_good := g_tw 1228 (by decide +kernel) (by decide +kernel)
theorem tw1229 : (Jvm.Cond.code ({ cls := "OfficeLadderModel", name := "goThrough", desc := "(I)I" } : Jvm.MethodName) prog_11_method_38_code (6 : Nat) (Option.some Jvm.ClassFile.FieldType.int)) ∈ lw_good := g_tw 1229 (by decide +kernel) (by decide +kernel)
theorem tw1230 : (Jvm.Cond.methodLink "OfficeLadderModel" (209 : Nat) ({ cls := "OfficeLadderModel", name := "isRight", desc := "(III)Z" } : Jvm.MethodName)) ∈ lw_good := g_tw 1230 (by decide +kernel) (by decide +kernel)
theorem tw1232 : (Jvm.Cond.instanceMethod ({ cls := "OfficeLadderModel", name := "isRight", desc := "(III)Z" } : Jvm.MethodName)) ∈ lw_good := g_tw 1232 (by decide +kernel) (by decide +kernel)
theorem tw1233 : (Jvm.Cond.code ({ cls := "OfficeLadderModel", name := "isRight", desc := "(III)Z" } : Jvm.MethodName) prog_11_method_37_code (6 : Nat) (Option.some Jvm.ClassFile.FieldType.boolean)) ∈ lw_good := g_tw 1233 (by decide +kernel) (by decide +kernel)
theorem tw1234 : (Jvm.Cond.methodLink "OfficeLadderLaw" (100 : Nat) ({ cls := "OfficeLadderModel", name := "breach", desc := "(I)I" } : Jvm.MethodName)) ∈ lw_good := g_tw 1234 (by decide +kernel) (by decide +kernel)
theorem tw1235 : (Jvm.Cond.instanceMethod ({ cls := "OfficeLadderModel", name := "breach", desc := "(I)I" } : Jvm.MethodName)) ∈ lw_good := g_tw 1235 (by decide +kernel) (by decide +kernel)
theorem tw1236 : (Jvm.Cond.selects "OfficeLadderModel" ({ cls := "OfficeLadderModel", name := "breach", desc := "(I)I" } : Jvm.MethodName) ({ cls := "OfficeLadderModel", name := "breach", desc := "(I)I" } : Jvm.MethodName)) ∈ lw_good := g_tw 1236 (by decide +kernel) (by decide +kernel)
theorem tw1237 : (Jvm.Cond.code ({ cls := "OfficeLadderModel", name := "breach", desc := "(I)I" } : Jvm.MethodName) prog_11_method_40_code (2 : Nat) (Option.some Jvm.ClassFile.FieldType.int)) ∈ lw_good := g_tw 1237 (by decide +kernel) (by decide +kernel)
theorem tw1238 : (Jvm.Cond.methodLink "OfficeLadderLaw" (104 : Nat) ({ cls := "OfficeLadderModel", name := "fillings", desc := "(I)I" } : Jvm.MethodName)) ∈ lw_good := g_tw 1238 (by decide +kernel) (by decide +kernel)
theorem tw1239 : (Jvm.Cond.instanceMethod ({ cls := "OfficeLadderModel", name := "fillings", desc := "(I)I" } : Jvm.MethodName)) ∈ lw_good := g_tw 1239 (by decide +kernel) (by decide +kernel)
theorem tw1240 : (Jvm.Cond.selects "OfficeLadderModel" ({ cls := "OfficeLadderModel", name := "fillings", desc := "(I)I" } : Jvm.MethodName) ({ cls := "OfficeLadderModel", name := "fillings", desc := "(I)I" } : Jvm.MethodName)) ∈ lw_good := g_tw 1240 (by decide +kernel) (by decide +kernel)
theorem tw1241 : (Jvm.Cond.code ({ cls := "OfficeLadderModel", name := "fillings", desc := "(I)I" } : Jvm.MethodName) prog_11_method_45_code (2 : Nat) (Option.some Jvm.ClassFile.FieldType.int)) ∈ lw_good := g_tw 1241 (by decide +kernel) (by decide +kernel)
theorem tw1242 : (Jvm.Cond.methodLink "OfficeLadderModel" (226 : Nat) ({ cls := "OfficeLadderModel", name := "fillYear", desc := "(IZ)I" } : Jvm.MethodName)) ∈ lw_good := g_tw 1242 (by decide +kernel) (by decide +kernel)
theorem tw1244 : (Jvm.Cond.instanceMethod ({ cls := "OfficeLadderModel", name := "fillYear", desc := "(IZ)I" } : Jvm.MethodName)) ∈ lw_good := g_tw 1244 (by decide +kernel) (by decide +kernel)
theorem tw1245 : (Jvm.Cond.code ({ cls := "OfficeLadderModel", name := "fillYear", desc := "(IZ)I" } : Jvm.MethodName) prog_11_method_44_code (7 : Nat) (Option.some Jvm.ClassFile.FieldType.int)) ∈ lw_good := g_tw 1245 (by decide +kernel) (by decide +kernel)
theorem tw1246 : (Jvm.Cond.methodLink "OfficeLadderModel" (215 : Nat) ({ cls := "OfficeLadderModel", name := "areAllRight", desc := "(I)Z" } : Jvm.MethodName)) ∈ lw_good := g_tw 1246 (by decide +kernel) (by decide +kernel)
theorem tw1248 : (Jvm.Cond.instanceMethod ({ cls := "OfficeLadderModel", name := "areAllRight", desc := "(I)Z" } : Jvm.MethodName)) ∈ lw_good := g_tw 1248 (by decide +kernel) (by decide +kernel)
theorem tw1249 : (Jvm.Cond.code ({ cls := "OfficeLadderModel", name := "areAllRight", desc := "(I)Z" } : Jvm.MethodName) prog_11_method_41_code (4 : Nat) (Option.some Jvm.ClassFile.FieldType.boolean)) ∈ lw_good := g_tw 1249 (by decide +kernel) (by decide +kernel)
theorem tw1250 : (Jvm.Cond.methodLink "OfficeLadderModel" (218 : Nat) ({ cls := "OfficeLadderModel", name := "isAmong", desc := "()Z" } : Jvm.MethodName)) ∈ lw_good := g_tw 1250 (by decide +kernel) (by decide +kernel)
theorem tw1252 : (Jvm.Cond.instanceMethod ({ cls := "OfficeLadderModel", name := "isAmong", desc := "()Z" } : Jvm.MethodName)) ∈ lw_good := g_tw 1252 (by decide +kernel) (by decide +kernel)
theorem tw1253 : (Jvm.Cond.code ({ cls := "OfficeLadderModel", name := "isAmong", desc := "()Z" } : Jvm.MethodName) prog_11_method_43_code (2 : Nat) (Option.some Jvm.ClassFile.FieldType.boolean)) ∈ lw_good := g_tw 1253 (by decide +kernel) (by decide +kernel)
theorem tw1254 : (Jvm.Cond.methodLink "OfficeLadderModel" (222 : Nat) ({ cls := "OfficeLadderModel", name := "takeBack", desc := "(II)V" } : Jvm.MethodName)) ∈ lw_good := g_tw 1254 (by decide +kernel) (by decide +kernel)
theorem tw1256 : (Jvm.Cond.instanceMethod ({ cls := "OfficeLadderModel", name := "takeBack", desc := "(II)V" } : Jvm.MethodName)) ∈ lw_good := g_tw 1256 (by decide +kernel) (by decide +kernel)
theorem tw1257 : (Jvm.Cond.code ({ cls := "OfficeLadderModel", name := "takeBack", desc := "(II)V" } : Jvm.MethodName) prog_11_method_42_code (4 : Nat) (Option.none : Option Jvm.ClassFile.FieldType)) ∈ lw_good := g_tw 1257 (by decide +kernel) (by decide +kernel)
theorem tw1258 : (Jvm.Cond.methodLink "OfficeLadderLaw" (108 : Nat) ({ cls := "OfficeLadderModel", name := "fill", desc := "(I)I" } : Jvm.MethodName)) ∈ lw_good := g_tw 1258 (by decide +kernel) (by decide +kernel)
theorem tw1259 : (Jvm.Cond.instanceMethod ({ cls := "OfficeLadderModel", name := "fill", desc := "(I)I" } : Jvm.MethodName)) ∈ lw_good := g_tw 1259 (by decide +kernel) (by decide +kernel)
theorem tw1260 : (Jvm.Cond.selects "OfficeLadderModel" ({ cls := "OfficeLadderModel", name := "fill", desc := "(I)I" } : Jvm.MethodName) ({ cls := "OfficeLadderModel", name := "fill", desc := "(I)I" } : Jvm.MethodName)) ∈ lw_good := g_tw 1260 (by decide +kernel) (by decide +kernel)
theorem tw1261 : (Jvm.Cond.code ({ cls := "OfficeLadderModel", name := "fill", desc := "(I)I" } : Jvm.MethodName) prog_11_method_46_code (3 : Nat) (Option.some Jvm.ClassFile.FieldType.int)) ∈ lw_good := g_tw 1261 (by decide +kernel) (by decide +kernel)
theorem tw1262 : (Jvm.Cond.methodLink "OfficeLadderLaw" (112 : Nat) ({ cls := "OfficeLadderModel", name := "among", desc := "(III)I" } : Jvm.MethodName)) ∈ lw_good := g_tw 1262 (by decide +kernel) (by decide +kernel)
theorem tw1263 : (Jvm.Cond.instanceMethod ({ cls := "OfficeLadderModel", name := "among", desc := "(III)I" } : Jvm.MethodName)) ∈ lw_good := g_tw 1263 (by decide +kernel) (by decide +kernel)
theorem tw1264 : (Jvm.Cond.selects "OfficeLadderModel" ({ cls := "OfficeLadderModel", name := "among", desc := "(III)I" } : Jvm.MethodName) ({ cls := "OfficeLadderModel", name := "among", desc := "(III)I" } : Jvm.MethodName)) ∈ lw_good := g_tw 1264 (by decide +kernel) (by decide +kernel)
theorem tw1265 : (Jvm.Cond.code ({ cls := "OfficeLadderModel", name := "among", desc := "(III)I" } : Jvm.MethodName) prog_11_method_47_code (4 : Nat) (Option.some Jvm.ClassFile.FieldType.int)) ∈ lw_good := g_tw 1265 (by decide +kernel) (by decide +kernel)
theorem tw1266 : (Jvm.Cond.methodLink "OfficeLadderLaw" (116 : Nat) ({ cls := "OfficeLadderModel", name := "election", desc := "(II)I" } : Jvm.MethodName)) ∈ lw_good := g_tw 1266 (by decide +kernel) (by decide +kernel)
theorem tw1267 : (Jvm.Cond.instanceMethod ({ cls := "OfficeLadderModel", name := "election", desc := "(II)I" } : Jvm.MethodName)) ∈ lw_good := g_tw 1267 (by decide +kernel) (by decide +kernel)
theorem tw1268 : (Jvm.Cond.selects "OfficeLadderModel" ({ cls := "OfficeLadderModel", name := "election", desc := "(II)I" } : Jvm.MethodName) ({ cls := "OfficeLadderModel", name := "election", desc := "(II)I" } : Jvm.MethodName)) ∈ lw_good := g_tw 1268 (by decide +kernel) (by decide +kernel)
theorem tw1269 : (Jvm.Cond.code ({ cls := "OfficeLadderModel", name := "election", desc := "(II)I" } : Jvm.MethodName) prog_11_method_49_code (5 : Nat) (Option.some Jvm.ClassFile.FieldType.int)) ∈ lw_good := g_tw 1269 (by decide +kernel) (by decide +kernel)
theorem tw1270 : (Jvm.Cond.methodLink "OfficeLadderModel" (230 : Nat) ({ cls := "OfficeLadderModel", name := "voted", desc := "()I" } : Jvm.MethodName)) ∈ lw_good := g_tw 1270 (by decide +kernel) (by decide +kernel)
theorem tw1272 : (Jvm.Cond.instanceMethod ({ cls := "OfficeLadderModel", name := "voted", desc := "()I" } : Jvm.MethodName)) ∈ lw_good := g_tw 1272 (by decide +kernel) (by decide +kernel)
theorem tw1273 : (Jvm.Cond.code ({ cls := "OfficeLadderModel", name := "voted", desc := "()I" } : Jvm.MethodName) prog_11_method_50_code (3 : Nat) (Option.some Jvm.ClassFile.FieldType.int)) ∈ lw_good := g_tw 1273 (by decide +kernel) (by decide +kernel)
theorem tw1274 : (Jvm.Cond.methodLink "OfficeLadderLaw" (120 : Nat) ({ cls := "OfficeLadderModel", name := "vote", desc := "(II)I" } : Jvm.MethodName)) ∈ lw_good := g_tw 1274 (by decide +kernel) (by decide +kernel)
theorem tw1275 : (Jvm.Cond.instanceMethod ({ cls := "OfficeLadderModel", name := "vote", desc := "(II)I" } : Jvm.MethodName)) ∈ lw_good := g_tw 1275 (by decide +kernel) (by decide +kernel)
theorem tw1276 : (Jvm.Cond.selects "OfficeLadderModel" ({ cls := "OfficeLadderModel", name := "vote", desc := "(II)I" } : Jvm.MethodName) ({ cls := "OfficeLadderModel", name := "vote", desc := "(II)I" } : Jvm.MethodName)) ∈ lw_good := g_tw 1276 (by decide +kernel) (by decide +kernel)
theorem tw1277 : (Jvm.Cond.code ({ cls := "OfficeLadderModel", name := "vote", desc := "(II)I" } : Jvm.MethodName) prog_11_method_52_code (4 : Nat) (Option.some Jvm.ClassFile.FieldType.int)) ∈ lw_good := g_tw 1277 (by decide +kernel) (by decide +kernel)
theorem tw1278 : (Jvm.Cond.methodLink "OfficeLadderModel" (234 : Nat) ({ cls := "OfficeLadderModel", name := "ones", desc := "(I)I" } : Jvm.MethodName)) ∈ lw_good := g_tw 1278 (by decide +kernel) (by decide +kernel)
theorem tw1280 : (Jvm.Cond.instanceMethod ({ cls := "OfficeLadderModel", name := "ones", desc := "(I)I" } : Jvm.MethodName)) ∈ lw_good := g_tw 1280 (by decide +kernel) (by decide +kernel)
theorem tw1281 : (Jvm.Cond.code ({ cls := "OfficeLadderModel", name := "ones", desc := "(I)I" } : Jvm.MethodName) prog_11_method_51_code (2 : Nat) (Option.some Jvm.ClassFile.FieldType.int)) ∈ lw_good := g_tw 1281 (by decide +kernel) (by decide +kernel)
theorem tw1282 : (Jvm.Cond.methodLink "OfficeLadderLaw" (127 : Nat) ({ cls := "OfficeLadderModel", name := "elected", desc := "(JII)I" } : Jvm.MethodName)) ∈ lw_good := g_tw 1282 (by decide +kernel) (by decide +kernel)
theorem tw1283 : (Jvm.Cond.instanceMethod ({ cls := "OfficeLadderModel", name := "elected", desc := "(JII)I" } : Jvm.MethodName)) ∈ lw_good := g_tw 1283 (by decide +kernel) (by decide +kernel)
theorem tw1284 : (Jvm.Cond.selects "OfficeLadderModel" ({ cls := "OfficeLadderModel", name := "elected", desc := "(JII)I" } : Jvm.MethodName) ({ cls := "OfficeLadderModel", name := "elected", desc := "(JII)I" } : Jvm.MethodName)) ∈ lw_good := g_tw 1284 (by decide +kernel) (by decide +kernel)
theorem tw1285 : (Jvm.Cond.code ({ cls := "OfficeLadderModel", name := "elected", desc := "(JII)I" } : Jvm.MethodName) prog_11_method_57_code (5 : Nat) (Option.some Jvm.ClassFile.FieldType.int)) ∈ lw_good := g_tw 1285 (by decide +kernel) (by decide +kernel)
theorem tw1286 : (Jvm.Cond.methodLink "OfficeLadderModel" (251 : Nat) ({ cls := "OfficeLadderModel", name := "elect", desc := "(J)V" } : Jvm.MethodName)) ∈ lw_good := g_tw 1286 (by decide +kernel) (by decide +kernel)
theorem tw1288 : (Jvm.Cond.instanceMethod ({ cls := "OfficeLadderModel", name := "elect", desc := "(J)V" } : Jvm.MethodName)) ∈ lw_good := g_tw 1288 (by decide +kernel) (by decide +kernel)
theorem tw1289 : (Jvm.Cond.code ({ cls := "OfficeLadderModel", name := "elect", desc := "(J)V" } : Jvm.MethodName) prog_11_method_56_code (5 : Nat) (Option.none : Option Jvm.ClassFile.FieldType)) ∈ lw_good := g_tw 1289 (by decide +kernel) (by decide +kernel)
theorem tw1290 : (Jvm.Cond.methodLink "OfficeLadderModel" (240 : Nat) ({ cls := "OfficeLadderModel", name := "draw", desc := "(IJ)V" } : Jvm.MethodName)) ∈ lw_good := g_tw 1290 (by decide +kernel) (by decide +kernel)
theorem tw1292 : (Jvm.Cond.instanceMethod ({ cls := "OfficeLadderModel", name := "draw", desc := "(IJ)V" } : Jvm.MethodName)) ∈ lw_good := g_tw 1292 (by decide +kernel) (by decide +kernel)
theorem tw1293 : (Jvm.Cond.code ({ cls := "OfficeLadderModel", name := "draw", desc := "(IJ)V" } : Jvm.MethodName) prog_11_method_48_code (10 : Nat) (Option.none : Option Jvm.ClassFile.FieldType)) ∈ lw_good := g_tw 1293 (by decide +kernel) (by decide +kernel)
theorem tw1294 : (Jvm.Cond.methodLink "OfficeLadderModel" (244 : Nat) ({ cls := "OfficeLadderModel", name := "beginVotes", desc := "()V" } : Jvm.MethodName)) ∈ lw_good := g_tw 1294 (by decide +kernel) (by decide +kernel)
theorem tw1296 : (Jvm.Cond.instanceMethod ({ cls := "OfficeLadderModel", name := "beginVotes", desc := "()V" } : Jvm.MethodName)) ∈ lw_good := g_tw 1296 (by decide +kernel) (by decide +kernel)
theorem tw1297 : (Jvm.Cond.code ({ cls := "OfficeLadderModel", name := "beginVotes", desc := "()V" } : Jvm.MethodName) prog_11_method_54_code (2 : Nat) (Option.none : Option Jvm.ClassFile.FieldType)) ∈ lw_good := g_tw 1297 (by decide +kernel) (by decide +kernel)
theorem tw1298 : (Jvm.Cond.methodLink "OfficeLadderModel" (247 : Nat) ({ cls := "OfficeLadderModel", name := "unitVotes", desc := "(I)V" } : Jvm.MethodName)) ∈ lw_good := g_tw 1298 (by decide +kernel) (by decide +kernel)
theorem tw1300 : (Jvm.Cond.instanceMethod ({ cls := "OfficeLadderModel", name := "unitVotes", desc := "(I)V" } : Jvm.MethodName)) ∈ lw_good := g_tw 1300 (by decide +kernel) (by decide +kernel)
theorem tw1301 : (Jvm.Cond.code ({ cls := "OfficeLadderModel", name := "unitVotes", desc := "(I)V" } : Jvm.MethodName) prog_11_method_55_code (3 : Nat) (Option.none : Option Jvm.ClassFile.FieldType)) ∈ lw_good := g_tw 1301 (by decide +kernel) (by decide +kernel)
theorem tw1302 : (Jvm.Cond.methodLink "OfficeLadderModel" (237 : Nat) ({ cls := "OfficeLadderModel", name := "choose", desc := "(II)V" } : Jvm.MethodName)) ∈ lw_good := g_tw 1302 (by decide +kernel) (by decide +kernel)
theorem tw1304 : (Jvm.Cond.instanceMethod ({ cls := "OfficeLadderModel", name := "choose", desc := "(II)V" } : Jvm.MethodName)) ∈ lw_good := g_tw 1304 (by decide +kernel) (by decide +kernel)
theorem tw1305 : (Jvm.Cond.code ({ cls := "OfficeLadderModel", name := "choose", desc := "(II)V" } : Jvm.MethodName) prog_11_method_53_code (3 : Nat) (Option.none : Option Jvm.ClassFile.FieldType)) ∈ lw_good := g_tw 1305 (by decide +kernel) (by decide +kernel)
theorem tw1306 : (Jvm.Cond.methodLink "OfficeLadderLaw" (132 : Nat) ({ cls := "OfficeLadderModel", name := "sure", desc := "(J)I" } : Jvm.MethodName)) ∈ lw_good := g_tw 1306 (by decide +kernel) (by decide +kernel)
theorem tw1307 : (Jvm.Cond.instanceMethod ({ cls := "OfficeLadderModel", name := "sure", desc := "(J)I" } : Jvm.MethodName)) ∈ lw_good := g_tw 1307 (by decide +kernel) (by decide +kernel)
theorem tw1308 : (Jvm.Cond.selects "OfficeLadderModel" ({ cls := "OfficeLadderModel", name := "sure", desc := "(J)I" } : Jvm.MethodName) ({ cls := "OfficeLadderModel", name := "sure", desc := "(J)I" } : Jvm.MethodName)) ∈ lw_good := g_tw 1308 (by decide +kernel) (by decide +kernel)
theorem tw1309 : (Jvm.Cond.code ({ cls := "OfficeLadderModel", name := "sure", desc := "(J)I" } : Jvm.MethodName) prog_11_method_59_code (4 : Nat) (Option.some Jvm.ClassFile.FieldType.int)) ∈ lw_good := g_tw 1309 (by decide +kernel) (by decide +kernel)
theorem tw1310 : (Jvm.Cond.methodLink "OfficeLadderModel" (255 : Nat) ({ cls := "OfficeLadderModel", name := "ahead", desc := "()I" } : Jvm.MethodName)) ∈ lw_good := g_tw 1310 (by decide +kernel) (by decide +kernel)
theorem tw1312 : (Jvm.Cond.instanceMethod ({ cls := "OfficeLadderModel", name := "ahead", desc := "()I" } : Jvm.MethodName)) ∈ lw_good := g_tw 1312 (by decide +kernel) (by decide +kernel)
theorem tw1313 : (Jvm.Cond.code ({ cls := "OfficeLadderModel", name := "ahead", desc := "()I" } : Jvm.MethodName) prog_11_method_58_code (6 : Nat) (Option.some Jvm.ClassFile.FieldType.int)) ∈ lw_good := g_tw 1313 (by decide +kernel) (by decide +kernel)
theorem tw1314 : (Jvm.Cond.methodLink "OfficeLadderLaw" (137 : Nat) ({ cls := "OfficeLadderModel", name := "drawn", desc := "(IJI)I" } : Jvm.MethodName)) ∈ lw_good := g_tw 1314 (by decide +kernel) (by decide +kernel)
theorem tw1315 : (Jvm.Cond.instanceMethod ({ cls := "OfficeLadderModel", name := "drawn", desc := "(IJI)I" } : Jvm.MethodName)) ∈ lw_good := g_tw 1315 (by decide +kernel) (by decide +kernel)
theorem tw1316 : (Jvm.Cond.selects "OfficeLadderModel" ({ cls := "OfficeLadderModel", name := "drawn", desc := "(IJI)I" } : Jvm.MethodName) ({ cls := "OfficeLadderModel", name := "drawn", desc := "(IJI)I" } : Jvm.MethodName)) ∈ lw_good := g_tw 1316 (by decide +kernel) (by decide +kernel)
theorem tw1317 : (Jvm.Cond.code ({ cls := "OfficeLadderModel", name := "drawn", desc := "(IJI)I" } : Jvm.MethodName) prog_11_method_60_code (5 : Nat) (Option.some Jvm.ClassFile.FieldType.int)) ∈ lw_good := g_tw 1317 (by decide +kernel) (by decide +kernel)
theorem tw1318 : (Jvm.Cond.methodLink "OfficeLadderLaw" (142 : Nat) ({ cls := "OfficeLadderModel", name := "province", desc := "(IIIIJ)I" } : Jvm.MethodName)) ∈ lw_good := g_tw 1318 (by decide +kernel) (by decide +kernel)
theorem tw1319 : (Jvm.Cond.instanceMethod ({ cls := "OfficeLadderModel", name := "province", desc := "(IIIIJ)I" } : Jvm.MethodName)) ∈ lw_good := g_tw 1319 (by decide +kernel) (by decide +kernel)
theorem tw1320 : (Jvm.Cond.selects "OfficeLadderModel" ({ cls := "OfficeLadderModel", name := "province", desc := "(IIIIJ)I" } : Jvm.MethodName) ({ cls := "OfficeLadderModel", name := "province", desc := "(IIIIJ)I" } : Jvm.MethodName)) ∈ lw_good := g_tw 1320 (by decide +kernel) (by decide +kernel)
theorem tw1321 : (Jvm.Cond.code ({ cls := "OfficeLadderModel", name := "province", desc := "(IIIIJ)I" } : Jvm.MethodName) prog_11_method_61_code (9 : Nat) (Option.some Jvm.ClassFile.FieldType.int)) ∈ lw_good := g_tw 1321 (by decide +kernel) (by decide +kernel)
theorem tw1322 : (Jvm.Cond.methodLink "OfficeLadderLaw" (146 : Nat) ({ cls := "OfficeLadderModel", name := "count", desc := "(I)I" } : Jvm.MethodName)) ∈ lw_good := g_tw 1322 (by decide +kernel) (by decide +kernel)
theorem tw1323 : (Jvm.Cond.instanceMethod ({ cls := "OfficeLadderModel", name := "count", desc := "(I)I" } : Jvm.MethodName)) ∈ lw_good := g_tw 1323 (by decide +kernel) (by decide +kernel)
theorem tw1324 : (Jvm.Cond.selects "OfficeLadderModel" ({ cls := "OfficeLadderModel", name := "count", desc := "(I)I" } : Jvm.MethodName) ({ cls := "OfficeLadderModel", name := "count", desc := "(I)I" } : Jvm.MethodName)) ∈ lw_good := g_tw 1324 (by decide +kernel) (by decide +kernel)
theorem tw1325 : (Jvm.Cond.code ({ cls := "OfficeLadderModel", name := "count", desc := "(I)I" } : Jvm.MethodName) prog_11_method_62_code (4 : Nat) (Option.some Jvm.ClassFile.FieldType.int)) ∈ lw_good := g_tw 1325 (by decide +kernel) (by decide +kernel)
theorem tw1326 : (Jvm.Cond.methodLink "OfficeLadderLaw" (150 : Nat) ({ cls := "OfficeLadderModel", name := "keep", desc := "(III)I" } : Jvm.MethodName)) ∈ lw_good := g_tw 1326 (by decide +kernel) (by decide +kernel)
theorem tw1327 : (Jvm.Cond.instanceMethod ({ cls := "OfficeLadderModel", name := "keep", desc := "(III)I" } : Jvm.MethodName)) ∈ lw_good := g_tw 1327 (by decide +kernel) (by decide +kernel)
theorem tw1328 : (Jvm.Cond.selects "OfficeLadderModel" ({ cls := "OfficeLadderModel", name := "keep", desc := "(III)I" } : Jvm.MethodName) ({ cls := "OfficeLadderModel", name := "keep", desc := "(III)I" } : Jvm.MethodName)) ∈ lw_good := g_tw 1328 (by decide +kernel) (by decide +kernel)
theorem tw1329 : (Jvm.Cond.code ({ cls := "OfficeLadderModel", name := "keep", desc := "(III)I" } : Jvm.MethodName) prog_11_method_65_code (6 : Nat) (Option.some Jvm.ClassFile.FieldType.int)) ∈ lw_good := g_tw 1329 (by decide +kernel) (by decide +kernel)
theorem tw1330 : (Jvm.Cond.methodLink "OfficeLadderModel" (258 : Nat) ({ cls := "OfficeLadderModel", name := "isShelf", desc := "(I)Z" } : Jvm.MethodName)) ∈ lw_good := g_tw 1330 (by decide +kernel) (by decide +kernel)
theorem tw1332 : (Jvm.Cond.instanceMethod ({ cls := "OfficeLadderModel", name := "isShelf", desc := "(I)Z" } : Jvm.MethodName)) ∈ lw_good := g_tw 1332 (by decide +kernel) (by decide +kernel)
theorem tw1333 : (Jvm.Cond.code ({ cls := "OfficeLadderModel", name := "isShelf", desc := "(I)Z" } : Jvm.MethodName) prog_11_method_63_code (2 : Nat) (Option.some Jvm.ClassFile.FieldType.boolean)) ∈ lw_good := g_tw 1333 (by decide +kernel) (by decide +kernel)
theorem tw1334 : (Jvm.Cond.methodLink "OfficeLadderModel" (261 : Nat) ({ cls := "OfficeLadderModel", name := "wipe", desc := "(I)V" } : Jvm.MethodName)) ∈ lw_good := g_tw 1334 (by decide +kernel) (by decide +kernel)
theorem tw1336 : (Jvm.Cond.instanceMethod ({ cls := "OfficeLadderModel", name := "wipe", desc := "(I)V" } : Jvm.MethodName)) ∈ lw_good := g_tw 1336 (by decide +kernel) (by decide +kernel)
theorem tw1337 : (Jvm.Cond.code ({ cls := "OfficeLadderModel", name := "wipe", desc := "(I)V" } : Jvm.MethodName) prog_11_method_64_code (3 : Nat) (Option.none : Option Jvm.ClassFile.FieldType)) ∈ lw_good := g_tw 1337 (by decide +kernel) (by decide +kernel)
theorem tw1338 : (Jvm.Cond.methodLink "OfficeLadderLaw" (154 : Nat) ({ cls := "OfficeLadderModel", name := "make", desc := "(III)I" } : Jvm.MethodName)) ∈ lw_good := g_tw 1338 (by decide +kernel) (by decide +kernel)
theorem tw1339 : (Jvm.Cond.instanceMethod ({ cls := "OfficeLadderModel", name := "make", desc := "(III)I" } : Jvm.MethodName)) ∈ lw_good := g_tw 1339 (by decide +kernel) (by decide +kernel)
theorem tw1340 : (Jvm.Cond.selects "OfficeLadderModel" ({ cls := "OfficeLadderModel", name := "make", desc := "(III)I" } : Jvm.MethodName) ({ cls := "OfficeLadderModel", name := "make", desc := "(III)I" } : Jvm.MethodName)) ∈ lw_good := g_tw 1340 (by decide +kernel) (by decide +kernel)
theorem tw1341 : (Jvm.Cond.code ({ cls := "OfficeLadderModel", name := "make", desc := "(III)I" } : Jvm.MethodName) prog_11_method_66_code (4 : Nat) (Option.some Jvm.ClassFile.FieldType.int)) ∈ lw_good := g_tw 1341 (by decide +kernel) (by decide +kernel)
theorem tw1342 : (Jvm.Cond.methodLink "OfficeLadderLaw" (160 : Nat) ({ cls := "OfficeLadderModel", name := "element", desc := "(II)J" } : Jvm.MethodName)) ∈ lw_good := g_tw 1342 (by decide +kernel) (by decide +kernel)
theorem tw1343 : (Jvm.Cond.instanceMethod ({ cls := "OfficeLadderModel", name := "element", desc := "(II)J" } : Jvm.MethodName)) ∈ lw_good := g_tw 1343 (by decide +kernel) (by decide +kernel)
theorem tw1344 : (Jvm.Cond.selects "OfficeLadderModel" ({ cls := "OfficeLadderModel", name := "element", desc := "(II)J" } : Jvm.MethodName) ({ cls := "OfficeLadderModel", name := "element", desc := "(II)J" } : Jvm.MethodName)) ∈ lw_good := g_tw 1344 (by decide +kernel) (by decide +kernel)
theorem tw1345 : (Jvm.Cond.code ({ cls := "OfficeLadderModel", name := "element", desc := "(II)J" } : Jvm.MethodName) prog_11_method_67_code (3 : Nat) (Option.some Jvm.ClassFile.FieldType.long)) ∈ lw_good := g_tw 1345 (by decide +kernel) (by decide +kernel)
theorem tw1346 : (Jvm.Cond.methodLink "OfficeLadderLaw" (168 : Nat) ({ cls := "OfficeLadderModel", name := "copy", desc := "(IIIII)I" } : Jvm.MethodName)) ∈ lw_good := g_tw 1346 (by decide +kernel) (by decide +kernel)
theorem tw1347 : (Jvm.Cond.instanceMethod ({ cls := "OfficeLadderModel", name := "copy", desc := "(IIIII)I" } : Jvm.MethodName)) ∈ lw_good := g_tw 1347 (by decide +kernel) (by decide +kernel)
theorem tw1348 : (Jvm.Cond.selects "OfficeLadderModel" ({ cls := "OfficeLadderModel", name := "copy", desc := "(IIIII)I" } : Jvm.MethodName) ({ cls := "OfficeLadderModel", name := "copy", desc := "(IIIII)I" } : Jvm.MethodName)) ∈ lw_good := g_tw 1348 (by decide +kernel) (by decide +kernel)
theorem tw1349 : (Jvm.Cond.code ({ cls := "OfficeLadderModel", name := "copy", desc := "(IIIII)I" } : Jvm.MethodName) prog_11_method_68_code (7 : Nat) (Option.some Jvm.ClassFile.FieldType.int)) ∈ lw_good := g_tw 1349 (by decide +kernel) (by decide +kernel)
theorem tw1350 : (Jvm.Cond.methodLink "OfficeLadderLaw" (172 : Nat) ({ cls := "OfficeLadderModel", name := "weight", desc := "(I)I" } : Jvm.MethodName)) ∈ lw_good := g_tw 1350 (by decide +kernel) (by decide +kernel)
theorem tw1351 : (Jvm.Cond.instanceMethod ({ cls := "OfficeLadderModel", name := "weight", desc := "(I)I" } : Jvm.MethodName)) ∈ lw_good := g_tw 1351 (by decide +kernel) (by decide +kernel)
theorem tw1352 : (Jvm.Cond.selects "OfficeLadderModel" ({ cls := "OfficeLadderModel", name := "weight", desc := "(I)I" } : Jvm.MethodName) ({ cls := "OfficeLadderModel", name := "weight", desc := "(I)I" } : Jvm.MethodName)) ∈ lw_good := g_tw 1352 (by decide +kernel) (by decide +kernel)
theorem tw1353 : (Jvm.Cond.code ({ cls := "OfficeLadderModel", name := "weight", desc := "(I)I" } : Jvm.MethodName) prog_11_method_70_code (5 : Nat) (Option.some Jvm.ClassFile.FieldType.int)) ∈ lw_good := g_tw 1353 (by decide +kernel) (by decide +kernel)
theorem tw1354 : (Jvm.Cond.methodLink "OfficeLadderModel" (264 : Nat) ({ cls := "OfficeLadderModel", name := "lacksLaw", desc := "(I)I" } : Jvm.MethodName)) ∈ lw_good := g_tw 1354 (by decide +kernel) (by decide +kernel)
theorem tw1356 : (Jvm.Cond.instanceMethod ({ cls := "OfficeLadderModel", name := "lacksLaw", desc := "(I)I" } : Jvm.MethodName)) ∈ lw_good := g_tw 1356 (by decide +kernel) (by decide +kernel)
theorem tw1357 : (Jvm.Cond.code ({ cls := "OfficeLadderModel", name := "lacksLaw", desc := "(I)I" } : Jvm.MethodName) prog_11_method_69_code (2 : Nat) (Option.some Jvm.ClassFile.FieldType.int)) ∈ lw_good := g_tw 1357 (by decide +kernel) (by decide +kernel)
theorem tw1358 : (Jvm.Cond.methodLink "OfficeLadderLaw" (176 : Nat) ({ cls := "OfficeLadderModel", name := "toss", desc := "(I)I" } : Jvm.MethodName)) ∈ lw_good := g_tw 1358 (by decide +kernel) (by decide +kernel)
theorem tw1359 : (Jvm.Cond.instanceMethod ({ cls := "OfficeLadderModel", name := "toss", desc := "(I)I" } : Jvm.MethodName)) ∈ lw_good := g_tw 1359 (by decide +kernel) (by decide +kernel)
theorem tw1360 : (Jvm.Cond.selects "OfficeLadderModel" ({ cls := "OfficeLadderModel", name := "toss", desc := "(I)I" } : Jvm.MethodName) ({ cls := "OfficeLadderModel", name := "toss", desc := "(I)I" } : Jvm.MethodName)) ∈ lw_good := g_tw 1360 (by decide +kernel) (by decide +kernel)
theorem tw1361 : (Jvm.Cond.code ({ cls := "OfficeLadderModel", name := "toss", desc := "(I)I" } : Jvm.MethodName) prog_11_method_71_code (3 : Nat) (Option.some Jvm.ClassFile.FieldType.int)) ∈ lw_good := g_tw 1361 (by decide +kernel) (by decide +kernel)
theorem tw1362 : (Jvm.Cond.constantLong "OfficeLadderLaw" (121 : Nat) (4294967295 : Int64)) ∈ lw_good := g_tw 1362 (by decide +kernel) (by decide +kernel)
theorem tw1363 : (Jvm.Cond.arrayClass Jvm.ClassFile.FieldType.long) ∈ lw_good := g_tw 1363 (by decide +kernel) (by decide +kernel)
set_option maxRecDepth 20000 in
theorem ginX0 : ∀ w ∈ u_ws RX0 TX0 11, w ∈ lw_good := g_in [234, 236, 238, 240, 242, 244, 246, 248, 250, 252, 254] (by decide +kernel) (by decide +kernel)
set_option maxRecDepth 20000 in
theorem ginX1 : ∀ w ∈ u_ws RX1 TX1 15, w ∈ lw_good := g_in [180, 182, 184, 186, 188, 190, 192, 194, 196, 198, 200, 202, 204, 206, 208] (by decide +kernel) (by decide +kernel)
set_option maxRecDepth 20000 in
theorem ginX2 : ∀ w ∈ u_ws RX2 TX2 6, w ∈ lw_good := g_in [462, 464, 466, 468, 470, 472] (by decide +kernel) (by decide +kernel)
set_option maxRecDepth 20000 in
theorem ginX3 : ∀ w ∈ u_ws RX3 TX3 3, w ∈ lw_good := g_in [319, 321, 323] (by decide +kernel) (by decide +kernel)
set_option maxRecDepth 20000 in
theorem ginX4 : ∀ w ∈ u_ws RX4 TX4 4, w ∈ lw_good := g_in [106, 108, 110, 112] (by decide +kernel) (by decide +kernel)
set_option maxRecDepth 20000 in
theorem ginX5 : ∀ w ∈ u_ws RX5 TX5 9, w ∈ lw_good := g_in [382, 384, 386, 388, 390, 392, 394, 396, 398] (by decide +kernel) (by decide +kernel)
set_option maxRecDepth 20000 in
theorem ginX6 : ∀ w ∈ u_ws RX6 TX6 9, w ∈ lw_good := g_in [136, 138, 140, 142, 144, 146, 148, 150, 152] (by decide +kernel) (by decide +kernel)
set_option maxRecDepth 20000 in
theorem ginX7 : ∀ w ∈ u_ws RX7 TX7 5, w ∈ lw_good := g_in [272, 274, 276, 278, 280] (by decide +kernel) (by decide +kernel)
set_option maxRecDepth 20000 in
theorem ginX8 : ∀ w ∈ u_ws RX8 TX8 5, w ∈ lw_good := g_in [289, 291, 293, 295, 297] (by decide +kernel) (by decide +kernel)
set_option maxRecDepth 20000 in
theorem ginX9 : ∀ w ∈ u_ws RX9 TX9 45, w ∈ lw_good := g_in [995, 997, 999, 1001, 1003, 1005, 1007, 1009, 1011, 1013, 1015, 1017, 1019, 1021, 1023, 1025, 1027, 1029, 1031, 1033, 1035, 1037, 1039, 1041, 1043, 1045, 1047, 1049, 1051, 1053, 1055, 1057, 1059, 1061, 1063, 1065, 1067, 1069, 1071, 1073, 1075, 1077, 1079, 1081, 1083] (by decide +kernel) (by decide +kernel)
end
section
/-! THE MEMORY AS ONE FUNCTION: σ K i j is slot j of thing i of kind K (ints; of a reference: see g_tg). Kinds 0 .. 9 are the classes of vwCl, 10 .. the arrays. -/
abbrev gS : Type := Nat → Nat → Nat → Int32
abbrev gA : Type := Nat → Nat → Nat
abbrev gL : Type := List (Nat × Nat)
abbrev g_ix (x : Int32) (n : Nat) : Prop := ¬ (x < 0 ∨ n ≤ x.toNatClampNeg)
abbrev g_bo (x : Int32) : Prop := x = 0 ∨ x = 1
def g_up (σ : gS) (K i j : Nat) (v : Int32) : gS := fun K' i' j' => if K' = K ∧ i' = i ∧ j' = j then v else σ K' i' j'
theorem g_up_row (σ : gS) (K i j : Nat) (v : Int32) : g_up σ K i j v K i = upd (σ K i) j v := by
  funext q
  simp [g_up, upd]
theorem g_up_else {σ : gS} {K i j : Nat} {v : Int32} {K' i' : Nat} (h : ¬ (K' = K ∧ i' = i)) : g_up σ K i j v K' i' = σ K' i' := by
  funext q
  simp only [g_up]
  exact if_neg fun hh => h ⟨hh.1, hh.2.1⟩
theorem g_up_kind {σ : gS} {K i j : Nat} {v : Int32} {K' i' : Nat} (h : K' ≠ K) : g_up σ K i j v K' i' = σ K' i' := g_up_else fun hh => h hh.1
/-- the slots of an object: 0 an int, 1 Shelf's law, K + 2 the thing of kind K with the same number -/
def g_tgs (K : Nat) : List Nat := match K with
  | 0 => [0, 0, 0, 12, 13, 0, 14, 15, 16, 17, 18]
  | 1 => [0, 0, 0, 0, 0, 0, 0, 0, 0, 19, 20, 21, 22, 23, 24]
  | 2 => [0, 0, 0, 0, 0, 0]
  | 3 => [0, 0, 25]
  | 4 => [0, 0, 0, 0]
  | 5 => [0, 0, 26, 0, 0, 0, 0, 0, 0]
  | 6 => [27, 28, 29, 0, 0, 0, 0, 0, 6]
  | 7 => [0, 1, 0, 30, 31]
  | 8 => [8, 3, 2, 32, 33]
  | 9 => [0, 0, 0, 0, 46, 47, 48, 49, 50, 51, 52, 53, 54, 55, 56, 57, 58, 59, 60, 61, 62, 0, 0, 0, 0, 0, 0, 69, 70, 0, 0, 73, 74, 75, 76, 77, 78, 79, 0, 81, 82, 83, 84, 85, 86]
  | _ => []
def g_tg (K j : Nat) : Nat := (g_tgs K).getD j 0
def g_n (K : Nat) : Nat := (g_tgs K).length
/-- an array's type: 0 byte, 1 int, 2 boolean, 3 .. 6 of Law, Office, Person, Shelf; 9: no array -/
def g_tyl : List Nat := [9, 9, 9, 9, 9, 9, 9, 9, 9, 9, 1, 1, 1, 1, 1, 1, 1, 1, 1, 1, 1, 2, 1, 0, 0, 4, 5, 3, 0, 1, 6, 1, 9, 9, 9, 9, 9, 9, 9, 9, 9, 9, 9, 9, 1, 2, 1, 1, 1, 1, 1, 1, 1, 1, 1, 1, 1, 1, 1, 2, 1, 9, 9, 9, 9, 9, 9, 1, 1, 9, 9, 1, 1, 1, 1, 1, 1, 1, 9, 2, 1, 1, 1, 1, 1]
def g_ty (K : Nat) : Nat := g_tyl.getD K 9
def g_lnl : List Nat := [0, 0, 0, 0, 0, 0, 0, 0, 0, 0, 2, 2, 35, 35, 4, 4, 4, 24, 24, 24, 8, 8, 8, 0, 200, 8, 24, 20, 200, 60, 8, 35, 0, 0, 0, 0, 0, 0, 0, 0, 0, 0, 0, 0, 8, 8, 24, 24, 24, 24, 24, 24, 24, 20, 20, 20, 20, 20, 4800, 4800, 4800, 0, 0, 0, 0, 0, 0, 24, 24, 0, 0, 35, 35, 35, 4, 4, 2, 2, 0, 4, 8, 8, 8, 1600, 200]
def g_len (ad : gA) (K i : Nat) : Nat := if K = 23 then ad 33 i else g_lnl.getD K 0
/-- what an array of references holds -/
def g_et (K : Nat) : Nat := match K with
  | 25 => 3
  | 26 => 5
  | 27 => 2
  | _ => 7
def g_v (ad : gA) (K i : Nat) (τ : Nat → Int32) (j : Nat) : Value := if g_tg K j = 0 then .int (τ j) else if g_tg K j = 1 then va_rf (if τ j < 0 then none else some (ad 2 (τ j).toNatClampNeg)) else .ref (ad (g_tg K j - 2) i)
def g_ct (cy : Nat → ClassId) (ad : gA) (K i : Nat) (τ : Nat → Int32) : va_E :=
  if K < 10 then .inr (K, (List.range (g_n K)).map (g_v ad K i τ))
  else if g_ty K < 3 then .inl (cy (g_ty K), g_len ad K i, .inl τ)
  else .inl (cy (g_ty K), g_len ad K i, .inr (.inr (.inr (.inr (fun j => if τ j < 0 then none else some (ad (g_et K) j))))))
def g_tys (cy : Nat → ClassId) : List (ClassId × FieldType) := [(cy 0, .byte), (cy 1, .int), (cy 2, .boolean), (cy 3, .object "OfficeLadder$Law"), (cy 4, .object "OfficeLadder$Office"), (cy 5, .object "OfficeLadder$Person"), (cy 6, .object "OfficeLadder$Shelf")]
def g_ws (cy : Nat → ClassId) (ad : gA) (L : gL) (σ : gS) : va_W := L.map fun q => (ad q.1 q.2, g_ct cy ad q.1 q.2 (σ q.1 q.2))
theorem g_ws_at {cy : Nat → ClassId} {ad : gA} {L : gL} {σ : gS} {K i : Nat} (h : (K, i) ∈ L) : ∃ k : Nat, L[k]? = some (K, i) ∧ (g_ws cy ad L σ)[k]? = some (ad K i, g_ct cy ad K i (σ K i)) := by
  obtain ⟨k, hk⟩ := List.getElem?_of_mem h
  exact ⟨k, hk, by simp [g_ws, hk]⟩
theorem g_ws_set {cy : Nat → ClassId} {ad : gA} {L : gL} {σ σ' : gS} {A : Nat → Prop} {K i k : Nat} {e : va_E} (hD : va_D A (g_ws cy ad L σ)) (hk : L[k]? = some (K, i)) (he : g_ct cy ad K i (σ' K i) = e) (ho : ∀ K' i', ¬ (K' = K ∧ i' = i) → σ' K' i' = σ K' i') : (g_ws cy ad L σ).set k (ad K i, e) = g_ws cy ad L σ' := by
  have hlt : k < L.length := (List.getElem?_eq_some_iff.mp hk).1
  apply List.ext_getElem?
  intro n
  by_cases hn : n = k
  · subst hn
    rw [List.getElem?_set_self (by simpa [g_ws] using hlt)]
    simp [g_ws, hk, he]
  · rw [List.getElem?_set_ne (Ne.symm hn)]
    cases hq : L[n]? with
    | none => simp [g_ws, hq]
    | some q =>
      obtain ⟨K', i'⟩ := q
      have hne : ¬ (K' = K ∧ i' = i) := by
        rintro ⟨rfl, rfl⟩
        refine hn (hD.1 n k (ad K' i', g_ct cy ad K' i' (σ K' i')) (ad K' i', g_ct cy ad K' i' (σ K' i')) ?_ ?_ rfl)
        · simp [g_ws, hq]
        · simp [g_ws, hk]
      simp [g_ws, hq, ho K' i' hne]
/-- what a live thing refers to is live -/
def g_Cl (L : gL) (σ : gS) : Prop := (∀ K i j, (K, i) ∈ L → K < 10 → 2 ≤ g_tg K j → (g_tg K j - 2, i) ∈ L) ∧ (∀ K i j, (K, i) ∈ L → 10 ≤ K → 3 ≤ g_ty K → ¬ σ K i j < 0 → (g_et K, j) ∈ L) ∧ ∀ i, (7, i) ∈ L → ¬ σ 7 i 1 < 0 → (2, (σ 7 i 1).toNatClampNeg) ∈ L
def g_nest : List Cond := [.methodLinkNest "OfficeLadder" 11 ⟨"OfficeLadder$Republic", "<init>", "()V"⟩ "OfficeLadder", .methodLinkNest "OfficeLadder$Republic" 47 ⟨"OfficeLadder$Past", "<init>", "()V"⟩ "OfficeLadder", .methodLinkNest "OfficeLadder" 18 ⟨"OfficeLadder$Filler", "<init>", "()V"⟩ "OfficeLadder", .methodLinkNest "OfficeLadder" 25 ⟨"OfficeLadder$Election", "<init>", "()V"⟩ "OfficeLadder", .methodLinkNest "OfficeLadder" 40 ⟨"OfficeLadder$Shelf", "<init>", "()V"⟩ "OfficeLadder", .methodLinkNest "OfficeLadder$Republic" 62 ⟨"OfficeLadder", "isOrder", "(I)Z"⟩ "OfficeLadder", .methodLinkNest "OfficeLadder$Republic" 56 ⟨"OfficeLadder", "isYear", "(I)Z"⟩ "OfficeLadder", .methodLinkNest "OfficeLadder$Election" 73 ⟨"OfficeLadder", "draw", "([IIJ)V"⟩ "OfficeLadder"]
def g_N (U : State) : Prop := ∀ w ∈ g_nest, va_Nw w U
theorem g_N.warm {s U : State} (hW : s.WarmedH U.vm) (h : g_N s) : g_N U := by
  unfold g_N g_nest at *
  simp only [List.forall_mem_cons] at h ⊢
  obtain ⟨h1, h2, h3, h4, h5, h6, h7, h8, -⟩ := h
  exact ⟨h1.warmM hW, h2.warmM hW, h3.warmM hW, h4.warmM hW, h5.warmM hW, h6.warmM hW, h7.warmM hW, h8.warmM hW, fun _ h => absurd h List.not_mem_nil⟩
theorem g_N.same {s U : State} (hv : s.vm = U.vm) (h : g_N s) : g_N U := by
  unfold g_N g_nest at *
  simp only [List.forall_mem_cons] at h ⊢
  obtain ⟨h1, h2, h3, h4, h5, h6, h7, h8, -⟩ := h
  exact ⟨h1.same rfl hv, h2.same rfl hv, h3.same rfl hv, h4.same rfl hv, h5.same rfl hv, h6.same rfl hv, h7.same rfl hv, h8.same rfl hv, fun _ h => absurd h List.not_mem_nil⟩
/-- the world at a call's start and end -/
def g_Pre (D : va_G) (cy : Nat → ClassId) (A : Nat → Prop) (ad : gA) (L : gL) (σ : gS) (U : State) : Prop := (va_P D vwCl (g_ws cy ad L σ) U.heap ∧ va_D A (g_ws cy ad L σ) ∧ g_Cl L σ) ∧ (va_K D vwCl (g_tys cy) U ∧ g_N U) ∧ ∀ q, U.heap.size ≤ q → A q
def g_C (own : String) (cc : ByteArray) (nL : Nat) (D : va_G) (cy : Nat → ClassId) (A : Nat → Prop) (p : Program) (m : MethodId) (c : Code) (s : State) (args : Array Value) : Prop := CallFix p m c cc nL s args lw_good own ∧ (va_K D vwCl (g_tys cy) s ∧ g_N s) ∧ ∀ q, s.heap.size ≤ q → A q
def g_H (D : va_G) (cy : Nat → ClassId) (A : Nat → Prop) (ad : gA) (L : gL) (σ : gS) (H0 H : Heap) (locs : List Loc) : Prop := va_P D vwCl (g_ws cy ad L σ) H ∧ va_D A (g_ws cy ad L σ) ∧ va_S A H0 H locs ∧ g_Cl L σ
theorem g_Pre.blind {D : va_G} {cy : Nat → ClassId} {A : Nat → Prop} {ad : gA} {L : gL} {σ : gS} {As : List Value} : FrameBlind (va_Pc As (g_Pre D cy A ad L σ)) := fun a U g mk h => ⟨h.1, h.2.1, ⟨va_K.moved (u := U) (U := U.calling g mk a) (Vm.Alike.refl U.vm) h.2.2.1.1, g_N.same (s := U) (U := U.calling g mk a) rfl h.2.2.1.2⟩, h.2.2.2⟩
/-- from a method's contract to the walk of its body -/
theorem g_met {l : Launch} {y : MethodName} {cc : ByteArray} {maxL : Nat} {ret : Option FieldType} {rm : Room} {D : va_G} {cy : Nat → ClassId} {A : Nat → Prop} {ad : gA} {L : gL} {σ : gS} {As : List Value} {Qc : Array Value → State → Outcome → State → Prop} {mc ms : Nat} (hy : plainName y.cls = true) (hle : (lg_sl As).length ≤ maxL)
    (body : ∀ (p : Program) (e : Env) (s : State) (m : MethodId) (below : List Frame) (meth : Method) (c : Code), g_C y.cls cc maxL D cy A p m c s As.toArray → meth.sig.returnType = ret → meth.locks = false → meth.name = y.name → g_H D cy A ad L σ s.heap s.heap [] → ∀ ls : Array Slot, lv_has ls maxL (lv_args 0 As) →
      W p l e rm s m As.toArray below meth c s.heap [] 0 0 (MQ below Qc As.toArray s mc ms A) (F0 m 0 ls [])) :
    Met l y (Cond.code y cc maxL ret :: lw_good) rm (va_Pc As (g_Pre D cy A ad L σ)) Qc mc ms A := by
  refine Met.ofW (cc := cc) (maxL := maxL) (ret := ret) hy rfl ?_
  intro p e s m args below meth c s₁ B hml hv
  obtain ⟨rfl, ⟨hP, hD, hCl⟩, hKN, hA⟩ := hv
  have hts0 := atoms_spec (ws := Cond.code y cc maxL ret :: lw_good) B.pre
  have hown : s.vm.findClass y.cls = some m.cls := findClass_of_methodNamed B.named
  have hl := lv_entry As (n := maxL) hle
  rw [lg_entry_eq]
  exact body p e s m below meth c ⟨⟨B.exec, B.bytes, hml, hown, fun w hw => hts0 w (List.mem_cons_of_mem _ hw)⟩, hKN, hA⟩ B.returns B.notSynchronized (name_of_methodNamed B.named B.method).1 ⟨hP, hD, va_S.rf, hCl⟩ _ hl
section GR
variable {p : Program} {l : Launch} {e : Env} {R : Room} {s : State} {m : MethodId} {args : Array Value} {below : List Frame} {meth : Method} {c : Code} {H : Heap} {locs : List Loc} {cells slots : Nat} {Q : State → Prop}
variable {own : String} {cc : ByteArray} {nL : Nat} {D : va_G} {cy : Nat → ClassId} {A : Nat → Prop} {ad : gA} {L : gL} {σ : gS} {pc : Nat} {ls : Array Slot} {rest : List Value}
theorem g_C.x (C : g_C own cc nL D cy A p m c s args) : p.tables.exec = Jvm.exec := C.1.1
theorem g_C.b (C : g_C own cc nL D cy A p m c s args) : c.code = cc := C.1.2.1
theorem g_fs {K i j : Nat} {τ : Nat → Int32} (hj : j < g_n K) : ((List.range (g_n K)).map (g_v ad K i τ))[j]? = some (g_v ad K i τ j) := by
  simp [hj]
theorem g_geti (C : g_C own cc nL D cy A p m c s args) (G : g_H D cy A ad L σ s.heap H locs) (K i j : Nat) (hL : (K, i) ∈ L) {Cn : String} {T : u_T} {N index : Nat} (hc : vwCl[K]? = some (Cn, T, N)) (hin : ∀ w ∈ u_ws Cn T N, w ∈ lw_good) (hj : g_n K = N ∧ j < N ∧ K < 10 ∧ g_tg K j = 0) (hlink : Cond.fieldLink own index (T j).1 (T j).2.1 (T j).2.2.1 ∈ lw_good) (hdg : decode cc pc = .ok (.getfield index, 3))
    (kk : W p l e R s m args below meth c H locs cells slots Q (F0 m (pc + 3) ls (.int (σ K i j) :: rest))) : W p l e R s m args below meth c H locs cells slots Q (F0 m pc ls (.ref (ad K i) :: rest)) := by
  obtain ⟨⟨hx, hb, hml, hown, hts⟩, ⟨hK, hN⟩, hA⟩ := C
  obtain ⟨hP, hD, hS, hCl⟩ := G
  obtain ⟨k, hk, hw⟩ := g_ws_at (cy := cy) (ad := ad) (σ := σ) hL
  obtain ⟨h1, h2, h3, h4⟩ := hj
  rw [g_ct, if_pos h3] at hw
  exact va_get hx hb hts hin hown hK hP k hw hc j h2 (hts _ hlink) (fun _ h => h) (v := .int (σ K i j)) (by rw [g_fs (h1 ▸ h2)]; simp [g_v, h4]) hdg kk
theorem g_getr (C : g_C own cc nL D cy A p m c s args) (G : g_H D cy A ad L σ s.heap H locs) (K i j K' : Nat) (hL : (K, i) ∈ L) {Cn : String} {T : u_T} {N index : Nat} (hc : vwCl[K]? = some (Cn, T, N)) (hin : ∀ w ∈ u_ws Cn T N, w ∈ lw_good) (hj : g_n K = N ∧ j < N ∧ K < 10 ∧ g_tg K j = K' + 2) (hlink : Cond.fieldLink own index (T j).1 (T j).2.1 (T j).2.2.1 ∈ lw_good) (hdg : decode cc pc = .ok (.getfield index, 3))
    (kk : (K', i) ∈ L → W p l e R s m args below meth c H locs cells slots Q (F0 m (pc + 3) ls (.ref (ad K' i) :: rest))) : W p l e R s m args below meth c H locs cells slots Q (F0 m pc ls (.ref (ad K i) :: rest)) := by
  obtain ⟨⟨hx, hb, hml, hown, hts⟩, ⟨hK, hN⟩, hA⟩ := C
  obtain ⟨hP, hD, hS, hCl⟩ := G
  obtain ⟨k, hk, hw⟩ := g_ws_at (cy := cy) (ad := ad) (σ := σ) hL
  obtain ⟨h1, h2, h3, h4⟩ := hj
  rw [g_ct, if_pos h3] at hw
  have h5 := hCl.1 K i j hL h3 (by omega)
  rw [h4, Nat.add_sub_cancel] at h5
  exact va_get hx hb hts hin hown hK hP k hw hc j h2 (hts _ hlink) (fun _ h => h) (v := .ref (ad K' i)) (by rw [g_fs (h1 ▸ h2)]; simp [g_v, h4]) hdg (kk h5)
/-- Shelf's law: none, or a live one -/
theorem g_getq (C : g_C own cc nL D cy A p m c s args) (G : g_H D cy A ad L σ s.heap H locs) (i : Nat) (hL : (7, i) ∈ L) {index : Nat} (hin : ∀ w ∈ u_ws RX7 TX7 5, w ∈ lw_good) (hlink : Cond.fieldLink own index (TX7 1).1 (TX7 1).2.1 (TX7 1).2.2.1 ∈ lw_good) (hdg : decode cc pc = .ok (.getfield index, 3))
    (kn : σ 7 i 1 < 0 → W p l e R s m args below meth c H locs cells slots Q (F0 m (pc + 3) ls (.null :: rest)))
    (kk : ¬ σ 7 i 1 < 0 → (2, (σ 7 i 1).toNatClampNeg) ∈ L → W p l e R s m args below meth c H locs cells slots Q (F0 m (pc + 3) ls (.ref (ad 2 (σ 7 i 1).toNatClampNeg) :: rest))) : W p l e R s m args below meth c H locs cells slots Q (F0 m pc ls (.ref (ad 7 i) :: rest)) := by
  obtain ⟨⟨hx, hb, hml, hown, hts⟩, ⟨hK, hN⟩, hA⟩ := C
  obtain ⟨hP, hD, hS, hCl⟩ := G
  obtain ⟨k, hk, hw⟩ := g_ws_at (cy := cy) (ad := ad) (σ := σ) hL
  rw [g_ct, if_pos (by decide)] at hw
  by_cases hn : σ 7 i 1 < 0
  · exact va_get hx hb hts hin hown hK hP k hw rfl 1 (by decide) (hts _ hlink) (fun _ h => h) (v := .null) (by rw [g_fs (by decide)]; simp [g_v, g_tg, g_tgs, hn, va_rf]) hdg (kn hn)
  · exact va_get hx hb hts hin hown hK hP k hw rfl 1 (by decide) (hts _ hlink) (fun _ h => h) (v := .ref (ad 2 (σ 7 i 1).toNatClampNeg)) (by rw [g_fs (by decide)]; simp [g_v, g_tg, g_tgs, hn, va_rf]) hdg (kk hn (hCl.2.2 i hL hn))
end GR
end
section
section GR2
variable {p : Program} {l : Launch} {e : Env} {R : Room} {s : State} {m : MethodId} {args : Array Value} {below : List Frame} {meth : Method} {c : Code} {H : Heap} {locs : List Loc} {cells slots : Nat} {Q : State → Prop}
variable {own : String} {cc : ByteArray} {nL : Nat} {D : va_G} {cy : Nat → ClassId} {A : Nat → Prop} {ad : gA} {L : gL} {σ : gS} {pc : Nat} {ls : Array Slot} {rest : List Value}
theorem g_v_upd {K i j n : Nat} {τ : Nat → Int32} {v : Int32} (hn : n ≠ j) : g_v ad K i (upd τ j v) n = g_v ad K i τ n := by
  unfold g_v
  rw [show upd τ j v n = τ n from pk_un hn]
theorem g_fset {K i j : Nat} {τ : Nat → Int32} {v : Int32} (ht : g_tg K j = 0) : ((List.range (g_n K)).map (g_v ad K i τ)).set j (.int v) = (List.range (g_n K)).map (g_v ad K i (upd τ j v)) := by
  refine List.ext_getElem (by simp) fun n h1 h2 => ?_
  rw [List.getElem_set, List.getElem_map, List.getElem_map, List.getElem_range]
  by_cases hn : j = n
  · subst hn
    rw [if_pos rfl]
    unfold g_v
    rw [if_pos ht, show upd τ j v j = v from pk_us]
  · rw [if_neg hn, g_v_upd (Ne.symm hn)]
theorem g_fsetq {i : Nat} {τ : Nat → Int32} {v : Int32} {x : Value} (hx : x = va_rf (if v < 0 then none else some (ad 2 v.toNatClampNeg))) : ((List.range (g_n 7)).map (g_v ad 7 i τ)).set 1 x = (List.range (g_n 7)).map (g_v ad 7 i (upd τ 1 v)) := by
  refine List.ext_getElem (by simp) fun n h1 h2 => ?_
  rw [List.getElem_set, List.getElem_map, List.getElem_map, List.getElem_range]
  by_cases hn : 1 = n
  · subst hn
    rw [if_pos rfl]
    unfold g_v
    rw [if_neg (by decide), if_pos (by decide), show upd τ 1 v 1 = v from pk_us]
    exact hx
  · rw [if_neg hn, g_v_upd (Ne.symm hn)]
theorem g_up_oth {σ : gS} {K i j : Nat} {v : Int32} : ∀ K' i', ¬ (K' = K ∧ i' = i) → g_up σ K i j v K' i' = σ K' i' := fun _ _ h => g_up_else h
theorem g_Cl.upo {K i j : Nat} {v : Int32} (h : g_Cl L σ) (hK : K < 10) (ht : g_tg K j = 0) : g_Cl L (g_up σ K i j v) := by
  refine ⟨h.1, fun K' i' j' h1 h2 h3 h4 => ?_, fun i' h1 h2 => ?_⟩
  · rw [g_up_kind (by omega)] at h4
    exact h.2.1 K' i' j' h1 h2 h3 h4
  · have e : g_up σ K i j v 7 i' 1 = σ 7 i' 1 := by
      simp only [g_up]
      rw [if_neg]
      rintro ⟨rfl, rfl, rfl⟩
      revert ht; decide
    rw [e] at h2 ⊢
    exact h.2.2 i' h1 h2
theorem g_Cl.upa {K i j : Nat} {v : Int32} (h : g_Cl L σ) (hK : 10 ≤ K) (ht : g_ty K < 3) : g_Cl L (g_up σ K i j v) := by
  refine ⟨h.1, fun K' i' j' h1 h2 h3 h4 => ?_, fun i' h1 h2 => ?_⟩
  · rw [g_up_kind (by rintro rfl; omega)] at h4
    exact h.2.1 K' i' j' h1 h2 h3 h4
  · rw [g_up_kind (by omega)] at h2 ⊢
    exact h.2.2 i' h1 h2
theorem g_puti (C : g_C own cc nL D cy A p m c s args) (G : g_H D cy A ad L σ s.heap H locs) (K i j : Nat) (hL : (K, i) ∈ L) {Cn : String} {T : u_T} {N index : Nat} {v : Int32} {ty : Nat → FieldType} (hc : vwCl[K]? = some (Cn, T, N)) (hin : ∀ w ∈ u_ws Cn T N, w ∈ lw_good) (hty : ∀ k, k < N → parseFieldDescriptor (T k).2.2.1 = some (ty k)) (hnm : ∀ a, a < N → ∀ b, b < N → a ≠ b → (T a).2.1 ≠ (T b).2.1) (hj : g_n K = N ∧ j < N ∧ K < 10 ∧ g_tg K j = 0 ∧ (T j).2.2.2 = false) (hfit : narrow (ty j) (.int v) = .int v ∧ fits (ty j) (.int v) = true) (hlink : Cond.fieldLink own index (T j).1 (T j).2.1 (T j).2.2.1 ∈ lw_good) (hdg : decode cc pc = .ok (.putfield index, 3))
    (kk : ∀ (H : Heap) (locs : List Loc), g_H D cy A ad L (g_up σ K i j v) s.heap H locs → W p l e R s m args below meth c H locs cells slots Q (F0 m (pc + 3) ls rest)) : W p l e R s m args below meth c H locs cells slots Q (F0 m pc ls (.int v :: .ref (ad K i) :: rest)) := by
  obtain ⟨⟨hx, hb, hml, hown, hts⟩, ⟨hK, hN⟩, hA⟩ := C
  obtain ⟨hP, hD, hS, hCl⟩ := G
  obtain ⟨k, hk, hw⟩ := g_ws_at (cy := cy) (ad := ad) (σ := σ) hL
  obtain ⟨h1, h2, h3, h4, h5⟩ := hj
  rw [g_ct, if_pos h3] at hw
  refine va_put hx hb hts hin ty hty hnm hown hK hP hD hS k hw hc j h2 (hts _ hlink) (fun _ h => h) h5 (v := .int v) (hty j h2) hfit.1 hfit.2 (by simp; omega) hdg fun H1 locs1 hP1 hD1 hS1 => ?_
  have e : (g_ws cy ad L σ).set k (ad K i, .inr (K, ((List.range (g_n K)).map (g_v ad K i (σ K i))).set j (.int v))) = g_ws cy ad L (g_up σ K i j v) := g_ws_set hD hk (by rw [g_ct, if_pos h3, g_up_row, g_fset h4]) g_up_oth
  rw [e] at hP1 hD1
  exact kk H1 locs1 ⟨hP1, hD1, hS1, hCl.upo h3 h4⟩
/-- Shelf's law is set: to none, or to law n -/
theorem g_putq (C : g_C own cc nL D cy A p m c s args) (G : g_H D cy A ad L σ s.heap H locs) (i : Nat) (hL : (7, i) ∈ L) {index : Nat} {v : Int32} {x : Value} (hv : x = va_rf (if v < 0 then none else some (ad 2 v.toNatClampNeg))) (hvl : ¬ v < 0 → (2, v.toNatClampNeg) ∈ L) (hlink : Cond.fieldLink own index (TX7 1).1 (TX7 1).2.1 (TX7 1).2.2.1 ∈ lw_good) (hdg : decode cc pc = .ok (.putfield index, 3))
    (kk : ∀ (H : Heap) (locs : List Loc), g_H D cy A ad L (g_up σ 7 i 1 v) s.heap H locs → W p l e R s m args below meth c H locs cells slots Q (F0 m (pc + 3) ls rest)) : W p l e R s m args below meth c H locs cells slots Q (F0 m pc ls (x :: .ref (ad 7 i) :: rest)) := by
  obtain ⟨⟨hx, hb, hml, hown, hts⟩, ⟨hK, hN⟩, hA⟩ := C
  obtain ⟨hP, hD, hS, hCl⟩ := G
  obtain ⟨k, hk, hw⟩ := g_ws_at (cy := cy) (ad := ad) (σ := σ) hL
  rw [g_ct, if_pos (by decide)] at hw
  have hx9 : narrow (tyX7 1) x = x ∧ fits (tyX7 1) x = true := by
    subst hv
    by_cases hn : v < 0
    · simp only [if_pos hn, va_rf]; exact ⟨rfl, rfl⟩
    · simp only [if_neg hn, va_rf]; exact ⟨rfl, rfl⟩
  refine va_put hx hb hts ginX7 tyX7 tyX7_ok nmX7 hown hK hP hD hS k hw (by rfl) 1 (by decide) (hts _ hlink) (fun _ h => h) (by rfl) (v := x) (tyX7_ok 1 (by decide)) hx9.1 hx9.2 (by simp [g_n, g_tgs]) hdg fun H1 locs1 hP1 hD1 hS1 => ?_
  have e : (g_ws cy ad L σ).set k (ad 7 i, .inr (7, ((List.range (g_n 7)).map (g_v ad 7 i (σ 7 i))).set 1 x)) = g_ws cy ad L (g_up σ 7 i 1 v) := g_ws_set hD hk (by rw [g_ct, if_pos (by decide), g_up_row, g_fsetq hv]) g_up_oth
  rw [e] at hP1 hD1
  refine kk H1 locs1 ⟨hP1, hD1, hS1, hCl.1, fun K' i' j' q1 q2 q3 q4 => ?_, fun i' q1 q2 => ?_⟩
  · rw [g_up_kind (by omega)] at q4
    exact hCl.2.1 K' i' j' q1 q2 q3 q4
  · by_cases hi : i' = i
    · subst hi
      have e : g_up σ 7 i' 1 v 7 i' 1 = v := by simp [g_up]
      rw [e] at q2 ⊢
      exact hvl q2
    · rw [g_up_else (by omega)] at q2 ⊢
      exact hCl.2.2 i' q1 q2
theorem g_iald (C : g_C own cc nL D cy A p m c s args) (G : g_H D cy A ad L σ s.heap H locs) (K i : Nat) (hL : (K, i) ∈ L) {n : Nat} {x : Int32} (hK9 : 10 ≤ K ∧ g_ty K = 1) (hn : g_len ad K i = n) (hix : g_ix x n) (hdg : decode cc pc = .ok (.iaload, 1))
    (kk : W p l e R s m args below meth c H locs cells slots Q (F0 m (pc + 1) ls (.int (σ K i x.toNatClampNeg) :: rest))) : W p l e R s m args below meth c H locs cells slots Q (F0 m pc ls (.int x :: .ref (ad K i) :: rest)) := by
  obtain ⟨⟨hx, hb, hml, hown, hts⟩, ⟨hK, hN⟩, hA⟩ := C
  obtain ⟨hP, hD, hS, hCl⟩ := G
  obtain ⟨k, hk, hw⟩ := g_ws_at (cy := cy) (ad := ad) (σ := σ) hL
  rw [g_ct, if_neg (by omega), hK9.2, if_pos (by decide), hn] at hw
  exact va_iald hx hb hK hP k 1 hw rfl hix hdg kk
theorem g_bald (C : g_C own cc nL D cy A p m c s args) (G : g_H D cy A ad L σ s.heap H locs) (K i : Nat) (hL : (K, i) ∈ L) {n : Nat} {x : Int32} (hK9 : 10 ≤ K ∧ g_ty K = 0) (hn : g_len ad K i = n) (hix : g_ix x n) (hdg : decode cc pc = .ok (.baload, 1))
    (kk : W p l e R s m args below meth c H locs cells slots Q (F0 m (pc + 1) ls (.int (σ K i x.toNatClampNeg) :: rest))) : W p l e R s m args below meth c H locs cells slots Q (F0 m pc ls (.int x :: .ref (ad K i) :: rest)) := by
  obtain ⟨⟨hx, hb, hml, hown, hts⟩, ⟨hK, hN⟩, hA⟩ := C
  obtain ⟨hP, hD, hS, hCl⟩ := G
  obtain ⟨k, hk, hw⟩ := g_ws_at (cy := cy) (ad := ad) (σ := σ) hL
  rw [g_ct, if_neg (by omega), hK9.2, if_pos (by decide), hn] at hw
  exact va_bald hx hb hK hP k 0 hw rfl hix hdg kk
theorem g_zald (C : g_C own cc nL D cy A p m c s args) (G : g_H D cy A ad L σ s.heap H locs) (K i : Nat) (hL : (K, i) ∈ L) {n : Nat} {x : Int32} (hK9 : 10 ≤ K ∧ g_ty K = 2) (hn : g_len ad K i = n) (hix : g_ix x n) (hdg : decode cc pc = .ok (.baload, 1))
    (kk : W p l e R s m args below meth c H locs cells slots Q (F0 m (pc + 1) ls (.int (σ K i x.toNatClampNeg) :: rest))) : W p l e R s m args below meth c H locs cells slots Q (F0 m pc ls (.int x :: .ref (ad K i) :: rest)) := by
  obtain ⟨⟨hx, hb, hml, hown, hts⟩, ⟨hK, hN⟩, hA⟩ := C
  obtain ⟨hP, hD, hS, hCl⟩ := G
  obtain ⟨k, hk, hw⟩ := g_ws_at (cy := cy) (ad := ad) (σ := σ) hL
  rw [g_ct, if_neg (by omega), hK9.2, if_pos (by decide), hn] at hw
  exact va_zald hx hb hK hP k 2 hw rfl hix hdg kk
theorem g_aset {K i k t : Nat} {τ' : Nat → Int32} {n j : Nat} {v : Int32} (hD : va_D A (g_ws cy ad L σ)) (hk : L[k]? = some (K, i)) (hK9 : 10 ≤ K ∧ g_ty K = t) (ht : t < 3) (hn : g_len ad K i = n) (he : τ' = upd (σ K i) j v) : (g_ws cy ad L σ).set k (ad K i, .inl (cy t, n, .inl τ')) = g_ws cy ad L (g_up σ K i j v) := by
  refine g_ws_set hD hk ?_ g_up_oth
  rw [g_ct, if_neg (by omega), hK9.2, if_pos ht, hn, g_up_row, he]
theorem g_iast (C : g_C own cc nL D cy A p m c s args) (G : g_H D cy A ad L σ s.heap H locs) (K i : Nat) (hL : (K, i) ∈ L) {n : Nat} {x v : Int32} (hK9 : 10 ≤ K ∧ g_ty K = 1) (hn : g_len ad K i = n) (hix : g_ix x n) (hdg : decode cc pc = .ok (.iastore, 1))
    (kk : ∀ (H : Heap) (locs : List Loc), g_H D cy A ad L (g_up σ K i x.toNatClampNeg v) s.heap H locs → W p l e R s m args below meth c H locs cells slots Q (F0 m (pc + 1) ls rest)) : W p l e R s m args below meth c H locs cells slots Q (F0 m pc ls (.int v :: .int x :: .ref (ad K i) :: rest)) := by
  obtain ⟨⟨hx, hb, hml, hown, hts⟩, ⟨hK, hN⟩, hA⟩ := C
  obtain ⟨hP, hD, hS, hCl⟩ := G
  obtain ⟨k, hk, hw⟩ := g_ws_at (cy := cy) (ad := ad) (σ := σ) hL
  rw [g_ct, if_neg (by omega), hK9.2, if_pos (by decide), hn] at hw
  refine va_iast hx hb hK hP hD hS k 1 hw rfl hix hdg fun H1 locs1 hP1 hD1 hS1 => ?_
  rw [g_aset hD hk hK9 (by decide) hn rfl] at hP1 hD1
  exact kk H1 locs1 ⟨hP1, hD1, hS1, hCl.upa hK9.1 (by omega)⟩
theorem g_bast (C : g_C own cc nL D cy A p m c s args) (G : g_H D cy A ad L σ s.heap H locs) (K i : Nat) (hL : (K, i) ∈ L) {n : Nat} {x v : Int32} (hK9 : 10 ≤ K ∧ g_ty K = 0) (hn : g_len ad K i = n) (hix : g_ix x n) (hdg : decode cc pc = .ok (.bastore, 1))
    (kk : ∀ (H : Heap) (locs : List Loc), g_H D cy A ad L (g_up σ K i x.toNatClampNeg (vp_nar .byte v)) s.heap H locs → W p l e R s m args below meth c H locs cells slots Q (F0 m (pc + 1) ls rest)) : W p l e R s m args below meth c H locs cells slots Q (F0 m pc ls (.int v :: .int x :: .ref (ad K i) :: rest)) := by
  obtain ⟨⟨hx, hb, hml, hown, hts⟩, ⟨hK, hN⟩, hA⟩ := C
  obtain ⟨hP, hD, hS, hCl⟩ := G
  obtain ⟨k, hk, hw⟩ := g_ws_at (cy := cy) (ad := ad) (σ := σ) hL
  rw [g_ct, if_neg (by omega), hK9.2, if_pos (by decide), hn] at hw
  refine va_bast hx hb hK hP hD hS k 0 hw rfl hix hdg fun H1 locs1 hP1 hD1 hS1 => ?_
  rw [g_aset hD hk hK9 (by decide) hn rfl] at hP1 hD1
  exact kk H1 locs1 ⟨hP1, hD1, hS1, hCl.upa hK9.1 (by omega)⟩
theorem g_zast (C : g_C own cc nL D cy A p m c s args) (G : g_H D cy A ad L σ s.heap H locs) (K i : Nat) (hL : (K, i) ∈ L) {n : Nat} {x v : Int32} (hK9 : 10 ≤ K ∧ g_ty K = 2) (hn : g_len ad K i = n) (hix : g_ix x n) (hdg : decode cc pc = .ok (.bastore, 1))
    (kk : ∀ (H : Heap) (locs : List Loc), g_H D cy A ad L (g_up σ K i x.toNatClampNeg (vp_nar .boolean v)) s.heap H locs → W p l e R s m args below meth c H locs cells slots Q (F0 m (pc + 1) ls rest)) : W p l e R s m args below meth c H locs cells slots Q (F0 m pc ls (.int v :: .int x :: .ref (ad K i) :: rest)) := by
  obtain ⟨⟨hx, hb, hml, hown, hts⟩, ⟨hK, hN⟩, hA⟩ := C
  obtain ⟨hP, hD, hS, hCl⟩ := G
  obtain ⟨k, hk, hw⟩ := g_ws_at (cy := cy) (ad := ad) (σ := σ) hL
  rw [g_ct, if_neg (by omega), hK9.2, if_pos (by decide), hn] at hw
  refine va_zast hx hb hK hP hD hS k 2 hw rfl hix hdg fun H1 locs1 hP1 hD1 hS1 => ?_
  rw [g_aset hD hk hK9 (by decide) hn rfl] at hP1 hD1
  exact kk H1 locs1 ⟨hP1, hD1, hS1, hCl.upa hK9.1 (by omega)⟩
theorem g_alen (C : g_C own cc nL D cy A p m c s args) (G : g_H D cy A ad L σ s.heap H locs) (K i : Nat) (hL : (K, i) ∈ L) {n : Nat} (hK9 : 10 ≤ K ∧ g_ty K < 3) (hn : g_len ad K i = n) (hdg : decode cc pc = .ok (.arraylength, 1))
    (kk : W p l e R s m args below meth c H locs cells slots Q (F0 m (pc + 1) ls (.int (Int32.ofNat n) :: rest))) : W p l e R s m args below meth c H locs cells slots Q (F0 m pc ls (.ref (ad K i) :: rest)) := by
  obtain ⟨⟨hx, hb, hml, hown, hts⟩, ⟨hK, hN⟩, hA⟩ := C
  obtain ⟨hP, hD, hS, hCl⟩ := G
  obtain ⟨k, hk, hw⟩ := g_ws_at (cy := cy) (ad := ad) (σ := σ) hL
  rw [g_ct, if_neg (by omega), if_pos hK9.2, hn] at hw
  rcases (show g_ty K = 0 ∨ g_ty K = 1 ∨ g_ty K = 2 by omega) with h | h | h <;> rw [h] at hw
  · exact va_alen hx hb hK hP k 0 hw rfl rfl hdg kk
  · exact va_alen hx hb hK hP k 1 hw rfl rfl hdg kk
  · exact va_alen hx hb hK hP k 2 hw rfl rfl hdg kk
/-- an element of an array of references that is there -/
theorem g_aldq (C : g_C own cc nL D cy A p m c s args) (G : g_H D cy A ad L σ s.heap H locs) (K i K' : Nat) (hL : (K, i) ∈ L) {n : Nat} {x : Int32} (hK9 : K = 25 ∨ K = 26 ∨ K = 27 ∨ K = 30) (he : g_et K = K') (hn : g_len ad K i = n) (hix : g_ix x n) (hnn : ¬ σ K i x.toNatClampNeg < 0) (hdg : decode cc pc = .ok (.aaload, 1))
    (kk : (K', x.toNatClampNeg) ∈ L → W p l e R s m args below meth c H locs cells slots Q (F0 m (pc + 1) ls (.ref (ad K' x.toNatClampNeg) :: rest))) : W p l e R s m args below meth c H locs cells slots Q (F0 m pc ls (.int x :: .ref (ad K i) :: rest)) := by
  obtain ⟨⟨hx, hb, hml, hown, hts⟩, ⟨hK, hN⟩, hA⟩ := C
  obtain ⟨hP, hD, hS, hCl⟩ := G
  obtain ⟨k, hk, hw⟩ := g_ws_at (cy := cy) (ad := ad) (σ := σ) hL
  subst he
  have hm : (g_et K, x.toNatClampNeg) ∈ L := hCl.2.1 K i _ hL (by omega) (by rcases hK9 with rfl | rfl | rfl | rfl <;> decide) hnn
  have go : ∀ (C : String), (g_tys cy)[g_ty K]? = some (cy (g_ty K), .object C) → 10 ≤ K → 3 ≤ g_ty K → W p l e R s m args below meth c H locs cells slots Q (F0 m pc ls (.int x :: .ref (ad K i) :: rest)) := by
    intro C h1 h2 h3
    rw [g_ct, if_neg (by omega), if_neg (by omega), hn] at hw
    refine va_aldq hx hb hK hP k (g_ty K) hw h1 hix hdg ?_
    rw [if_neg hnn]
    exact kk hm
  rcases hK9 with rfl | rfl | rfl | rfl
  · exact go "OfficeLadder$Office" rfl (by decide) (by decide)
  · exact go "OfficeLadder$Person" rfl (by decide) (by decide)
  · exact go "OfficeLadder$Law" rfl (by decide) (by decide)
  · exact go "OfficeLadder$Shelf" rfl (by decide) (by decide)
/-- thing n of its kind is put to place n of an array of references -/
theorem g_astq (C : g_C own cc nL D cy A p m c s args) (G : g_H D cy A ad L σ s.heap H locs) (K i K' v : Nat) (hL : (K, i) ∈ L) {n : Nat} {x : Int32} (hK9 : K = 25 ∨ K = 26 ∨ K = 27 ∨ K = 30) (he : g_et K = K') (hv : x.toNatClampNeg = v) (hLv : (K', v) ∈ L) (hn : g_len ad K i = n) (hix : g_ix x n) (hdg : decode cc pc = .ok (.aastore, 1))
    (kk : ∀ (H : Heap) (locs : List Loc), g_H D cy A ad L (g_up σ K i v 0) s.heap H locs → W p l e R s m args below meth c H locs cells slots Q (F0 m (pc + 1) ls rest)) : W p l e R s m args below meth c H locs cells slots Q (F0 m pc ls (.ref (ad K' v) :: .int x :: .ref (ad K i) :: rest)) := by
  obtain ⟨⟨hx, hb, hml, hown, hts⟩, ⟨hK, hN⟩, hA⟩ := C
  obtain ⟨hP, hD, hS, hCl⟩ := G
  obtain ⟨k, hk, hw⟩ := g_ws_at (cy := cy) (ad := ad) (σ := σ) hL
  obtain ⟨kv, hkv, hwv⟩ := g_ws_at (cy := cy) (ad := ad) (σ := σ) hLv
  subst he
  have go : ∀ (r : vw_C), vwCl[g_et K]? = some r → (g_tys cy)[g_ty K]? = some (cy (g_ty K), .object r.1) → 10 ≤ K → 3 ≤ g_ty K → g_et K < 10 → W p l e R s m args below meth c H locs cells slots Q (F0 m pc ls (.ref (ad (g_et K) v) :: .int x :: .ref (ad K i) :: rest)) := by
    intro r h0 h1 h2 h3 h4
    rw [g_ct, if_neg (by omega), if_neg (by omega), hn] at hw
    rw [g_ct, if_pos h4] at hwv
    refine va_astq hx hb hK hP hD hS k (g_ty K) kv (g_et K) hw h1 hwv h0 hix hdg fun H1 locs1 hP1 hD1 hS1 => ?_
    have e : (g_ws cy ad L σ).set k (ad K i, .inl (cy (g_ty K), n, .inr (.inr (.inr (.inr (va_up (fun j => if σ K i j < 0 then none else some (ad (g_et K) j)) x.toNatClampNeg (some (ad (g_et K) v)))))))) = g_ws cy ad L (g_up σ K i v 0) := by
      refine g_ws_set hD hk ?_ g_up_oth
      rw [g_ct, if_neg (by omega), if_neg (by omega), hn, g_up_row]
      congr 7
      funext j
      by_cases hj : j = v
      · subst hj
        simp [va_up, upd, hv]
      · simp [va_up, upd, hv, hj]
    rw [e] at hP1 hD1
    refine kk H1 locs1 ⟨hP1, hD1, hS1, hCl.1, fun K2 i2 j2 q1 q2 q3 q4 => ?_, fun i2 q1 q2 => ?_⟩
    · by_cases hq : K2 = K ∧ i2 = i ∧ j2 = v
      · obtain ⟨rfl, rfl, rfl⟩ := hq
        exact hLv
      · have e2 : g_up σ K i v 0 K2 i2 j2 = σ K2 i2 j2 := by simp only [g_up]; exact if_neg hq
        rw [e2] at q4
        exact hCl.2.1 K2 i2 j2 q1 q2 q3 q4
    · rw [g_up_kind (by omega)] at q2 ⊢
      exact hCl.2.2 i2 q1 q2
  rcases hK9 with rfl | rfl | rfl | rfl
  · exact go _ rfl rfl (by decide) (by decide) (by decide)
  · exact go _ rfl rfl (by decide) (by decide) (by decide)
  · exact go _ rfl rfl (by decide) (by decide) (by decide)
  · exact go _ rfl rfl (by decide) (by decide) (by decide)
end GR2
end
section
theorem g_ok {c : Prop} [Decidable c] {α : Type} {a : Option α} {r : α} (h : (if c then a else none) = some r) : c ∧ a = some r := by
  by_cases hc : c
  · rw [if_pos hc] at h; exact ⟨hc, h⟩
  · rw [if_neg hc] at h; cases h
theorem g_okn {c : Prop} [Decidable c] {α : Type} {a : Option α} {r : α} (h : (if c then none else a) = some r) : ¬ c ∧ a = some r := by
  by_cases hc : c
  · rw [if_pos hc] at h; cases h
  · rw [if_neg hc] at h; exact ⟨hc, h⟩
theorem g_t {c : Prop} [Decidable c] {α : Type} {a b : Option α} {r : α} (hc : c) (h : (if c then a else b) = some r) : a = some r := by
  rw [if_pos hc] at h; exact h
theorem g_f {c : Prop} [Decidable c] {α : Type} {a b : Option α} {r : α} (hc : ¬ c) (h : (if c then a else b) = some r) : b = some r := by
  rw [if_neg hc] at h; exact h
theorem g_b {α β : Type} {o : Option β} {k : β → Option α} {r : α} (h : o.bind k = some r) : ∃ x, o = some x ∧ k x = some r := by
  cases o with
  | none => cases h
  | some x => exact ⟨x, rfl, h⟩
theorem g_bo_fit {v : Int32} (h : g_bo v) : narrow .boolean (.int v) = .int v ∧ fits .boolean (.int v) = true := by
  rcases h with rfl | rfl <;> exact ⟨rfl, rfl⟩
/-- the words of a call -/
def g_wV (own : String) (index : Nat) (y : MethodName) (bytes : ByteArray) (maxL : Nat) (ret : Option FieldType) (n : Nat) : Prop := Cond.code y bytes maxL ret ∈ lw_good ∧ Cond.initialized y.cls ∈ lw_good ∧ Cond.methodLink own index y ∈ lw_good ∧ (Cond.instanceMethod y ∈ lw_good ∧ Cond.selects y.cls y y ∈ lw_good) ∧ (y.cls ≠ "java/lang/invoke/MethodHandle" ∧ y.cls ≠ "java/lang/invoke/VarHandle" ∧ (parseMethodDescriptor y.desc).map (fun d => d.parameters.length) = some n)
def g_wS (own : String) (index : Nat) (y : MethodName) (bytes : ByteArray) (maxL : Nat) (ret : Option FieldType) (n : Nat) : Prop := Cond.code y bytes maxL ret ∈ lw_good ∧ Cond.initialized y.cls ∈ lw_good ∧ Cond.methodLink own index y ∈ lw_good ∧ Cond.static y ∈ lw_good ∧ (y.cls ≠ "java/lang/invoke/MethodHandle" ∧ y.cls ≠ "java/lang/invoke/VarHandle" ∧ (parseMethodDescriptor y.desc).map (fun d => d.parameters.length) = some n)
def g_wN (own : String) (index : Nat) (y : MethodName) (bytes : ByteArray) (maxL : Nat) (ret : Option FieldType) (n : Nat) : Prop := Cond.code y bytes maxL ret ∈ lw_good ∧ Cond.initialized y.cls ∈ lw_good ∧ Cond.methodLinkNest own index y "OfficeLadder" ∈ g_nest ∧ Cond.static y ∈ lw_good ∧ (y.cls ≠ "java/lang/invoke/MethodHandle" ∧ y.cls ≠ "java/lang/invoke/VarHandle" ∧ (parseMethodDescriptor y.desc).map (fun d => d.parameters.length) = some n)
abbrev g_rm (rm R : Room) (maxL mc ms : Nat) : Prop := rm.cells = mc ∧ rm.slots = ms ∧ rm.frames + 1 ≤ R.frames ∧ 8 + (maxL + 11) + rm.locals ≤ R.locals
section GC
variable {p : Program} {l : Launch} {e : Env} {R : Room} {s : State} {m : MethodId} {args : Array Value} {below : List Frame} {meth : Method} {c : Code} {H : Heap} {locs : List Loc} {cells slots : Nat} {Q : State → Prop}
variable {own : String} {cc : ByteArray} {nL : Nat} {D : va_G} {cy : Nat → ClassId} {A : Nat → Prop} {ad : gA} {L : gL} {σ σ0 : gS} {pc : Nat} {ls : Array Slot} {rest st : List Value}
variable {y : MethodName} {bytes : ByteArray} {maxL mc ms index : Nat} {ret : Option FieldType} {rm : Room} {Qc : Array Value → State → Outcome → State → Prop} {As : List Value} {a : Array Value}
theorem g_pre (C : g_C own cc nL D cy A p m c s args) (G : g_H D cy A ad L σ s.heap H locs) : ∀ U : State, U.heap = H → s.WarmedH U.vm → g_Pre D cy A ad L σ U := fun U hU hW => ⟨⟨by rw [hU]; exact G.1, G.2.1, G.2.2.2⟩, ⟨va_K.moved hW.alike C.2.1.1, C.2.1.2.warm hW⟩, fun q hq => C.2.2 q (by rw [hU] at hq; exact Nat.le_trans G.2.2.1.1 hq)⟩
theorem g_runV (C : g_C own cc nL D cy A p m c s args) (G : g_H D cy A ad L σ s.heap H locs) (K i : Nat) (hM : Met l y (Cond.code y bytes maxL ret :: lw_good) rm (va_Pc (.ref (ad K i) :: As) (g_Pre D cy A ad L σ)) Qc mc ms A) (w : g_wV own index y bytes maxL ret As.length) (hrm : g_rm rm R maxL mc ms) (hL : (K, i) ∈ L) {q : vw_C} (hc : vwCl[K]? = some q) (hq : q.1 = y.cls ∧ K < 10) (hls : ls.size = nL) (hst : st = As.reverse ++ .ref (ad K i) :: rest) (hW : (rest.map fun v => v.category).sum ≤ 8) (hdg : decode cc pc = .ok (.invokevirtual index, 3)) (hf : cells + mc ≤ R.cells ∧ slots + ms ≤ R.slots) :
    va_Run p l e R s m args below meth c H locs cells slots mc ms (F0 m pc ls st) rest (Qc (Value.ref (ad K i) :: As).toArray) A := by
  obtain ⟨w1, w2, w3, w4, w5⟩ := w
  obtain ⟨r1, r2, r3, r4⟩ := hrm
  have hts := C.1.2.2.2.2
  obtain ⟨k, hk, hw⟩ := g_ws_at (cy := cy) (ad := ad) (σ := σ) hL
  rw [g_ct, if_pos hq.2] at hw
  have hrecv := va_recv C.2.1.1 G.1 hc hw
  rw [hq.1] at hrecv
  exact va_runV (C := y.cls) C.1 hM ⟨callB_of As.length hts (g_good (y := y) (cc := bytes) (n := 0) (r := ret) w1) rfl r1 r2 (hts _ w2) (hts _ w3) w5 ⟨r3, r4⟩, hts _ w4.1, hts _ w4.2⟩ ⟨g_Pre.blind, hrecv, fun U hU hW => ⟨rfl, g_pre C G U hU hW⟩⟩ rfl rfl hls hst (by show 2 * 0 + _ ≤ 8; omega) hdg hf
theorem g_runS (C : g_C own cc nL D cy A p m c s args) (G : g_H D cy A ad L σ s.heap H locs) (hM : Met l y (Cond.code y bytes maxL ret :: lw_good) rm (va_Pc As (g_Pre D cy A ad L σ)) Qc mc ms A) (w : g_wS own index y bytes maxL ret As.length) (hrm : g_rm rm R maxL mc ms) (hls : ls.size = nL) (hst : st = As.reverse ++ rest) (hW : (rest.map fun v => v.category).sum ≤ 8) (hdg : decode cc pc = .ok (.invokestatic index, 3)) (hf : cells + mc ≤ R.cells ∧ slots + ms ≤ R.slots) :
    va_Run p l e R s m args below meth c H locs cells slots mc ms (F0 m pc ls st) rest (Qc As.toArray) A := by
  obtain ⟨w1, w2, w3, w4, w5⟩ := w
  obtain ⟨r1, r2, r3, r4⟩ := hrm
  have hts := C.1.2.2.2.2
  exact va_runS C.1 hM ⟨callB_of As.length hts (g_good (y := y) (cc := bytes) (n := 0) (r := ret) w1) rfl r1 r2 (hts _ w2) (hts _ w3) w5 ⟨r3, r4⟩, hts _ w4⟩ ⟨g_Pre.blind, fun U hU hW => ⟨rfl, g_pre C G U hU hW⟩⟩ rfl rfl hls hst (by show 2 * 0 + _ ≤ 8; omega) hdg hf
theorem g_runN (C : g_C own cc nL D cy A p m c s args) (G : g_H D cy A ad L σ s.heap H locs) (hM : Met l y (Cond.code y bytes maxL ret :: lw_good) rm (va_Pc As (g_Pre D cy A ad L σ)) Qc mc ms A) (w : g_wN own index y bytes maxL ret As.length) (hrm : g_rm rm R maxL mc ms) (hls : ls.size = nL) (hst : st = As.reverse ++ rest) (hW : (rest.map fun v => v.category).sum ≤ 8) (hdg : decode cc pc = .ok (.invokestatic index, 3)) (hf : cells + mc ≤ R.cells ∧ slots + ms ≤ R.slots) :
    va_Run p l e R s m args below meth c H locs cells slots mc ms (F0 m pc ls st) rest (Qc As.toArray) A := by
  obtain ⟨w1, w2, w3, w4, w5⟩ := w
  obtain ⟨r1, r2, r3, r4⟩ := hrm
  have hts := C.1.2.2.2.2
  exact va_runSN C.1 hM ⟨va_cnB As.length hts (g_good (y := y) (cc := bytes) (n := 0) (r := ret) w1) rfl r1 r2 (C.2.1.2 _ w3) (hts _ w2) w5 ⟨r3, r4⟩, hts _ w4, trivial⟩ ⟨g_Pre.blind, fun U hU hW => ⟨rfl, g_pre C G U hU hW⟩⟩ rfl rfl hls hst (by show 2 * 0 + _ ≤ 8; omega) hdg hf
theorem g_calli {r0 : Int32} (G : g_H D cy A ad L σ s.heap H locs) (hr : va_Run p l e R s m args below meth c H locs cells slots mc ms (F0 m pc ls st) rest (va_Qi (fun r (u : gS) => r = r0 ∧ u = σ0) (g_Pre D cy A ad L) A a) A)
    (kk : ∀ (H : Heap) (locs : List Loc), g_H D cy A ad L σ0 s.heap H locs → W p l e R s m args below meth c H locs (cells + mc) (slots + ms) Q (F0 m (pc + 3) ls (.int r0 :: rest))) : W p l e R s m args below meth c H locs cells slots Q (F0 m pc ls st) := by
  refine va_calli hr G.2.2.1 (fun _ _ h => h) (fun _ h => h) fun r u t H1 locs1 ht hvm hp hB hz hk hS => ?_
  obtain ⟨rfl, rfl⟩ := hp
  subst ht
  exact kk _ _ ⟨hB.1.1, hB.1.2.1, hS, hB.1.2.2⟩
theorem g_calll {r0 : Int64} (G : g_H D cy A ad L σ s.heap H locs) (hr : va_Run p l e R s m args below meth c H locs cells slots mc ms (F0 m pc ls st) rest (va_Ql (fun r (u : gS) => r = r0 ∧ u = σ0) (g_Pre D cy A ad L) A a) A)
    (kk : ∀ (H : Heap) (locs : List Loc), g_H D cy A ad L σ0 s.heap H locs → W p l e R s m args below meth c H locs (cells + mc) (slots + ms) Q (F0 m (pc + 3) ls (.long r0 :: rest))) : W p l e R s m args below meth c H locs cells slots Q (F0 m pc ls st) := by
  refine va_calll hr G.2.2.1 (fun _ _ h => h) (fun _ h => h) fun r u t H1 locs1 ht hvm hp hB hz hk hS => ?_
  obtain ⟨rfl, rfl⟩ := hp
  subst ht
  exact kk _ _ ⟨hB.1.1, hB.1.2.1, hS, hB.1.2.2⟩
theorem g_callv (G : g_H D cy A ad L σ s.heap H locs) (hr : va_Run p l e R s m args below meth c H locs cells slots mc ms (F0 m pc ls st) rest (va_Qv (fun (u : gS) => u = σ0) (g_Pre D cy A ad L) A a) A)
    (kk : ∀ (H : Heap) (locs : List Loc), g_H D cy A ad L σ0 s.heap H locs → W p l e R s m args below meth c H locs (cells + mc) (slots + ms) Q (F0 m (pc + 3) ls rest)) : W p l e R s m args below meth c H locs cells slots Q (F0 m pc ls st) := by
  refine va_callv hr G.2.2.1 (fun _ _ h => h) (fun _ h => h) fun u t H1 locs1 ht hvm hp hB hz hk hS => ?_
  subst hp
  subst ht
  exact kk _ _ ⟨hB.1.1, hB.1.2.1, hS, hB.1.2.2⟩
theorem g_reti {r0 : Int32} (C : g_C own cc nL D cy A p m c s args) (G : g_H D cy A ad L σ0 s.heap H locs) (hr : meth.sig.returnType = some .int) (hlocks : meth.locks = false) (hdg : decode cc pc = .ok (.ireturn, 1)) : W p l e R s m args below meth c H locs cells slots (MQ below (va_Qi (fun r (u : gS) => r = r0 ∧ u = σ0) (g_Pre D cy A ad L) A) args s cells slots A) (F0 m pc ls [.int r0]) :=
  W.iret C.x C.b hr (fun t ht hW => ⟨⟨r0, σ0, rfl, ⟨rfl, rfl⟩, g_pre C G t ht hW⟩, G.2.2.1.F ht⟩) G.2.2.1.2.2 hdg hlocks
theorem g_retz {r0 : Int32} (C : g_C own cc nL D cy A p m c s args) (G : g_H D cy A ad L σ0 s.heap H locs) (hr : meth.sig.returnType = some .boolean) (hlocks : meth.locks = false) (hz : narrow .boolean (.int r0) = .int r0) (hdg : decode cc pc = .ok (.ireturn, 1)) : W p l e R s m args below meth c H locs cells slots (MQ below (va_Qi (fun r (u : gS) => r = r0 ∧ u = σ0) (g_Pre D cy A ad L) A) args s cells slots A) (F0 m pc ls [.int r0]) :=
  W.zret C.x C.b hr hz (fun t ht hW => ⟨⟨r0, σ0, rfl, ⟨rfl, rfl⟩, g_pre C G t ht hW⟩, G.2.2.1.F ht⟩) G.2.2.1.2.2 hdg hlocks
theorem g_retl {r0 : Int64} (C : g_C own cc nL D cy A p m c s args) (G : g_H D cy A ad L σ0 s.heap H locs) (hr : meth.sig.returnType = some .long) (hlocks : meth.locks = false) (hdg : decode cc pc = .ok (.lreturn, 1)) : W p l e R s m args below meth c H locs cells slots (MQ below (va_Ql (fun r (u : gS) => r = r0 ∧ u = σ0) (g_Pre D cy A ad L) A) args s cells slots A) (F0 m pc ls [.long r0]) :=
  W.lret C.x C.b hr (fun t ht hW => ⟨⟨r0, σ0, rfl, ⟨rfl, rfl⟩, g_pre C G t ht hW⟩, G.2.2.1.F ht⟩) G.2.2.1.2.2 hdg hlocks
theorem g_retv (C : g_C own cc nL D cy A p m c s args) (G : g_H D cy A ad L σ0 s.heap H locs) (hr : meth.sig.returnType = none) (hlocks : meth.locks = false) (hdg : decode cc pc = .ok (.return_, 1)) : W p l e R s m args below meth c H locs cells slots (MQ below (va_Qv (fun (u : gS) => u = σ0) (g_Pre D cy A ad L) A) args s cells slots A) (F0 m pc ls []) :=
  W.vret C.x C.b hr (fun t ht hW => ⟨⟨σ0, rfl, rfl, g_pre C G t ht hW⟩, G.2.2.1.F ht⟩) G.2.2.1.2.2 hdg hlocks
end GC
/-- the three shapes of contracts: an int (a boolean), a long, nothing; where all is as it was but σ -/
abbrev g_Mi (l : Launch) (y : MethodName) (cc : ByteArray) (maxL : Nat) (ret : Option FieldType) (rm : Room) (D : va_G) (cy : Nat → ClassId) (A : Nat → Prop) (ad : gA) (L : gL) (σ : gS) (As : List Value) (r0 : Int32) (σ0 : gS) : Prop := Met l y (Cond.code y cc maxL ret :: lw_good) rm (va_Pc As (g_Pre D cy A ad L σ)) (va_Qi (fun r (u : gS) => r = r0 ∧ u = σ0) (g_Pre D cy A ad L) A) 0 0 A
abbrev g_Ml (l : Launch) (y : MethodName) (cc : ByteArray) (maxL : Nat) (ret : Option FieldType) (rm : Room) (D : va_G) (cy : Nat → ClassId) (A : Nat → Prop) (ad : gA) (L : gL) (σ : gS) (As : List Value) (r0 : Int64) (σ0 : gS) : Prop := Met l y (Cond.code y cc maxL ret :: lw_good) rm (va_Pc As (g_Pre D cy A ad L σ)) (va_Ql (fun r (u : gS) => r = r0 ∧ u = σ0) (g_Pre D cy A ad L) A) 0 0 A
abbrev g_Mv (l : Launch) (y : MethodName) (cc : ByteArray) (maxL : Nat) (ret : Option FieldType) (rm : Room) (D : va_G) (cy : Nat → ClassId) (A : Nat → Prop) (ad : gA) (L : gL) (σ : gS) (As : List Value) (σ0 : gS) : Prop := Met l y (Cond.code y cc maxL ret :: lw_good) rm (va_Pc As (g_Pre D cy A ad L σ)) (va_Qv (fun (u : gS) => u = σ0) (g_Pre D cy A ad L) A) 0 0 A
end
