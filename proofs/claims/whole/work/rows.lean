section
-- ===== PART A: goes FIRST, ahead of the names: the tables' words, and 'selects' of the private methods out of them =====
/-- a private method of a class that the tables say can be made, by its rows of tables_1 -/
def lw_okq (q : MethodName × Nat) : Prop := (q.1.cls ≠ "java/lang/invoke/MethodHandle" ∧ q.1.cls ≠ "java/lang/invoke/VarHandle") ∧ Cond.instantiable q.1.cls q.2 ∈ tables_1 ∧ Cond.privateMethod q.1 ∈ tables_1 ∧ Cond.instanceMethod q.1 ∈ tables_1
theorem lw_p0 : lw_okq (⟨"PhaseLights$History", "dropOldest", "()V"⟩, 2) := ⟨⟨by decide +kernel, by decide +kernel⟩, List.mem_of_getElem? (i := 180) (by decide +kernel), List.mem_of_getElem? (i := 363) (by decide +kernel), List.mem_of_getElem? (i := 364) (by decide +kernel)⟩
theorem lw_p1 : lw_okq (⟨"PhaseLights$Loads", "add", "(LPhaseLights$Premiere;II)V"⟩, 2) := ⟨⟨by decide +kernel, by decide +kernel⟩, List.mem_of_getElem? (i := 255) (by decide +kernel), List.mem_of_getElem? (i := 513) (by decide +kernel), List.mem_of_getElem? (i := 514) (by decide +kernel)⟩
theorem lw_p2 : lw_okq (⟨"PhaseLights$Premiere", "isFed", "(I)Z"⟩, 13) := ⟨⟨by decide +kernel, by decide +kernel⟩, List.mem_of_getElem? (i := 63) (by decide +kernel), List.mem_of_getElem? (i := 615) (by decide +kernel), List.mem_of_getElem? (i := 616) (by decide +kernel)⟩
theorem lw_p3 : lw_okq (⟨"PhaseLights$Orders", "stepTo", "(I)V"⟩, 11) := ⟨⟨by decide +kernel, by decide +kernel⟩, List.mem_of_getElem? (i := 197) (by decide +kernel), List.mem_of_getElem? (i := 638) (by decide +kernel), List.mem_of_getElem? (i := 639) (by decide +kernel)⟩
theorem lw_p4 : lw_okq (⟨"PhaseLights$Orders", "readOrder", "()Z"⟩, 11) := ⟨⟨by decide +kernel, by decide +kernel⟩, List.mem_of_getElem? (i := 197) (by decide +kernel), List.mem_of_getElem? (i := 642) (by decide +kernel), List.mem_of_getElem? (i := 643) (by decide +kernel)⟩
theorem lw_p5 : lw_okq (⟨"PhaseLights$Orders", "take", "(C)Z"⟩, 11) := ⟨⟨by decide +kernel, by decide +kernel⟩, List.mem_of_getElem? (i := 197) (by decide +kernel), List.mem_of_getElem? (i := 646) (by decide +kernel), List.mem_of_getElem? (i := 647) (by decide +kernel)⟩
theorem lw_p6 : lw_okq (⟨"PhaseLights$Orders", "readRecord", "()Z"⟩, 11) := ⟨⟨by decide +kernel, by decide +kernel⟩, List.mem_of_getElem? (i := 197) (by decide +kernel), List.mem_of_getElem? (i := 650) (by decide +kernel), List.mem_of_getElem? (i := 651) (by decide +kernel)⟩
theorem lw_p7 : lw_okq (⟨"PhaseLights$Orders", "readNumber", "(II)I"⟩, 11) := ⟨⟨by decide +kernel, by decide +kernel⟩, List.mem_of_getElem? (i := 197) (by decide +kernel), List.mem_of_getElem? (i := 654) (by decide +kernel), List.mem_of_getElem? (i := 655) (by decide +kernel)⟩
theorem lw_p8 : lw_okq (⟨"PhaseLights$Orders", "digitHere", "()I"⟩, 11) := ⟨⟨by decide +kernel, by decide +kernel⟩, List.mem_of_getElem? (i := 197) (by decide +kernel), List.mem_of_getElem? (i := 658) (by decide +kernel), List.mem_of_getElem? (i := 659) (by decide +kernel)⟩
theorem lw_p9 : lw_okq (⟨"PhaseLights$Orders", "note", "(III)Z"⟩, 11) := ⟨⟨by decide +kernel, by decide +kernel⟩, List.mem_of_getElem? (i := 197) (by decide +kernel), List.mem_of_getElem? (i := 662) (by decide +kernel), List.mem_of_getElem? (i := 663) (by decide +kernel)⟩
theorem lw_p10 : lw_okq (⟨"PhaseLights$Orders", "readGo", "()Z"⟩, 11) := ⟨⟨by decide +kernel, by decide +kernel⟩, List.mem_of_getElem? (i := 197) (by decide +kernel), List.mem_of_getElem? (i := 666) (by decide +kernel), List.mem_of_getElem? (i := 667) (by decide +kernel)⟩
theorem lw_p11 : lw_okq (⟨"PhaseLights$Orders", "readLevels", "()Z"⟩, 11) := ⟨⟨by decide +kernel, by decide +kernel⟩, List.mem_of_getElem? (i := 197) (by decide +kernel), List.mem_of_getElem? (i := 670) (by decide +kernel), List.mem_of_getElem? (i := 671) (by decide +kernel)⟩
theorem lw_p12 : lw_okq (⟨"PhaseLights$Orders", "readSpan", "()Z"⟩, 11) := ⟨⟨by decide +kernel, by decide +kernel⟩, List.mem_of_getElem? (i := 197) (by decide +kernel), List.mem_of_getElem? (i := 674) (by decide +kernel), List.mem_of_getElem? (i := 675) (by decide +kernel)⟩
theorem lw_p13 : lw_okq (⟨"PhaseLights$Orders", "carryOneOut", "(ILPhaseLights$Premiere;)Z"⟩, 11) := ⟨⟨by decide +kernel, by decide +kernel⟩, List.mem_of_getElem? (i := 197) (by decide +kernel), List.mem_of_getElem? (i := 682) (by decide +kernel), List.mem_of_getElem? (i := 683) (by decide +kernel)⟩
theorem lw_p14 : lw_okq (⟨"PhaseLights$Orders", "changeLevels", "(ILPhaseLights$Premiere;)Z"⟩, 11) := ⟨⟨by decide +kernel, by decide +kernel⟩, List.mem_of_getElem? (i := 197) (by decide +kernel), List.mem_of_getElem? (i := 686) (by decide +kernel), List.mem_of_getElem? (i := 687) (by decide +kernel)⟩
theorem lw_p15 : lw_okq (⟨"PhaseLights$Orders", "changeSpan", "(LPhaseLights$Premiere;III)Z"⟩, 11) := ⟨⟨by decide +kernel, by decide +kernel⟩, List.mem_of_getElem? (i := 197) (by decide +kernel), List.mem_of_getElem? (i := 690) (by decide +kernel), List.mem_of_getElem? (i := 691) (by decide +kernel)⟩
def lw_privs_1 : List (MethodName × Nat) := [(⟨"PhaseLights$History", "dropOldest", "()V"⟩, 2), (⟨"PhaseLights$Loads", "add", "(LPhaseLights$Premiere;II)V"⟩, 2), (⟨"PhaseLights$Premiere", "isFed", "(I)Z"⟩, 13), (⟨"PhaseLights$Orders", "stepTo", "(I)V"⟩, 11), (⟨"PhaseLights$Orders", "readOrder", "()Z"⟩, 11), (⟨"PhaseLights$Orders", "take", "(C)Z"⟩, 11), (⟨"PhaseLights$Orders", "readRecord", "()Z"⟩, 11), (⟨"PhaseLights$Orders", "readNumber", "(II)I"⟩, 11), (⟨"PhaseLights$Orders", "digitHere", "()I"⟩, 11), (⟨"PhaseLights$Orders", "note", "(III)Z"⟩, 11), (⟨"PhaseLights$Orders", "readGo", "()Z"⟩, 11), (⟨"PhaseLights$Orders", "readLevels", "()Z"⟩, 11), (⟨"PhaseLights$Orders", "readSpan", "()Z"⟩, 11), (⟨"PhaseLights$Orders", "carryOneOut", "(ILPhaseLights$Premiere;)Z"⟩, 11), (⟨"PhaseLights$Orders", "changeLevels", "(ILPhaseLights$Premiere;)Z"⟩, 11), (⟨"PhaseLights$Orders", "changeSpan", "(LPhaseLights$Premiere;III)Z"⟩, 11)]
theorem lw_r1 : ∀ q ∈ lw_privs_1, lw_okq q := List.forall_mem_cons.mpr ⟨lw_p0, List.forall_mem_cons.mpr ⟨lw_p1, List.forall_mem_cons.mpr ⟨lw_p2, List.forall_mem_cons.mpr ⟨lw_p3, List.forall_mem_cons.mpr ⟨lw_p4, List.forall_mem_cons.mpr ⟨lw_p5, List.forall_mem_cons.mpr ⟨lw_p6, List.forall_mem_cons.mpr ⟨lw_p7, List.forall_mem_cons.mpr ⟨lw_p8, List.forall_mem_cons.mpr ⟨lw_p9, List.forall_mem_cons.mpr ⟨lw_p10, List.forall_mem_cons.mpr ⟨lw_p11, List.forall_mem_cons.mpr ⟨lw_p12, List.forall_mem_cons.mpr ⟨lw_p13, List.forall_mem_cons.mpr ⟨lw_p14, List.forall_mem_cons.mpr ⟨lw_p15, fun _ h => absurd h List.not_mem_nil⟩⟩⟩⟩⟩⟩⟩⟩⟩⟩⟩⟩⟩⟩⟩⟩
theorem lw_p16 : lw_okq (⟨"PhaseLights$Orders", "startRecorded", "(ILPhaseLights$Premiere;)Z"⟩, 11) := ⟨⟨by decide +kernel, by decide +kernel⟩, List.mem_of_getElem? (i := 197) (by decide +kernel), List.mem_of_getElem? (i := 699) (by decide +kernel), List.mem_of_getElem? (i := 700) (by decide +kernel)⟩
theorem lw_p17 : lw_okq (⟨"PhaseLights", "loadByCue", "(LPhaseLights$Premiere;I)I"⟩, 9) := ⟨⟨by decide +kernel, by decide +kernel⟩, List.mem_of_getElem? (i := 17) (by decide +kernel), List.mem_of_getElem? (i := 733) (by decide +kernel), List.mem_of_getElem? (i := 734) (by decide +kernel)⟩
theorem lw_p18 : lw_okq (⟨"PhaseLights$State", "neededOn", "(I)I"⟩, 3) := ⟨⟨by decide +kernel, by decide +kernel⟩, List.mem_of_getElem? (i := 25) (by decide +kernel), List.mem_of_getElem? (i := 819) (by decide +kernel), List.mem_of_getElem? (i := 820) (by decide +kernel)⟩
theorem lw_p19 : lw_okq (⟨"PhaseLights$Trial", "begin", "(LPhaseLights$Premiere;II)V"⟩, 5) := ⟨⟨by decide +kernel, by decide +kernel⟩, List.mem_of_getElem? (i := 292) (by decide +kernel), List.mem_of_getElem? (i := 832) (by decide +kernel), List.mem_of_getElem? (i := 833) (by decide +kernel)⟩
theorem lw_p20 : lw_okq (⟨"PhaseLightsModel", "know", "()V"⟩, 21) := ⟨⟨by decide +kernel, by decide +kernel⟩, List.mem_of_getElem? (i := 901) (by decide +kernel), List.mem_of_getElem? (i := 982) (by decide +kernel), List.mem_of_getElem? (i := 983) (by decide +kernel)⟩
theorem lw_p21 : lw_okq (⟨"PhaseLightsModel", "isLamp", "(II)Z"⟩, 21) := ⟨⟨by decide +kernel, by decide +kernel⟩, List.mem_of_getElem? (i := 901) (by decide +kernel), List.mem_of_getElem? (i := 1014) (by decide +kernel), List.mem_of_getElem? (i := 1015) (by decide +kernel)⟩
theorem lw_p22 : lw_okq (⟨"PhaseLightsModel", "worst", "(II)I"⟩, 21) := ⟨⟨by decide +kernel, by decide +kernel⟩, List.mem_of_getElem? (i := 901) (by decide +kernel), List.mem_of_getElem? (i := 1030) (by decide +kernel), List.mem_of_getElem? (i := 1031) (by decide +kernel)⟩
theorem lw_p23 : lw_okq (⟨"PhaseLightsModel", "loadBy", "(III)I"⟩, 21) := ⟨⟨by decide +kernel, by decide +kernel⟩, List.mem_of_getElem? (i := 901) (by decide +kernel), List.mem_of_getElem? (i := 1034) (by decide +kernel), List.mem_of_getElem? (i := 1035) (by decide +kernel)⟩
theorem lw_p24 : lw_okq (⟨"PhaseLightsModel", "watts", "(III)I"⟩, 21) := ⟨⟨by decide +kernel, by decide +kernel⟩, List.mem_of_getElem? (i := 901) (by decide +kernel), List.mem_of_getElem? (i := 1038) (by decide +kernel), List.mem_of_getElem? (i := 1039) (by decide +kernel)⟩
theorem lw_p25 : lw_okq (⟨"PhaseLightsModel", "atFault", "(III)I"⟩, 21) := ⟨⟨by decide +kernel, by decide +kernel⟩, List.mem_of_getElem? (i := 901) (by decide +kernel), List.mem_of_getElem? (i := 1046) (by decide +kernel), List.mem_of_getElem? (i := 1047) (by decide +kernel)⟩
theorem lw_p26 : lw_okq (⟨"PhaseLightsModel", "recordFault", "(III)I"⟩, 21) := ⟨⟨by decide +kernel, by decide +kernel⟩, List.mem_of_getElem? (i := 901) (by decide +kernel), List.mem_of_getElem? (i := 1054) (by decide +kernel), List.mem_of_getElem? (i := 1055) (by decide +kernel)⟩
theorem lw_p27 : lw_okq (⟨"PhaseLightsModel", "records", "(III)I"⟩, 21) := ⟨⟨by decide +kernel, by decide +kernel⟩, List.mem_of_getElem? (i := 901) (by decide +kernel), List.mem_of_getElem? (i := 1061) (by decide +kernel), List.mem_of_getElem? (i := 1062) (by decide +kernel)⟩
theorem lw_p28 : lw_okq (⟨"PhaseLightsModel", "goFault", "(II)I"⟩, 21) := ⟨⟨by decide +kernel, by decide +kernel⟩, List.mem_of_getElem? (i := 901) (by decide +kernel), List.mem_of_getElem? (i := 1069) (by decide +kernel), List.mem_of_getElem? (i := 1070) (by decide +kernel)⟩
theorem lw_p29 : lw_okq (⟨"PhaseLightsModel", "start", "(III)V"⟩, 21) := ⟨⟨by decide +kernel, by decide +kernel⟩, List.mem_of_getElem? (i := 901) (by decide +kernel), List.mem_of_getElem? (i := 1073) (by decide +kernel), List.mem_of_getElem? (i := 1074) (by decide +kernel)⟩
theorem lw_p30 : lw_okq (⟨"PhaseLightsModel", "resets", "(I)I"⟩, 21) := ⟨⟨by decide +kernel, by decide +kernel⟩, List.mem_of_getElem? (i := 901) (by decide +kernel), List.mem_of_getElem? (i := 1081) (by decide +kernel), List.mem_of_getElem? (i := 1082) (by decide +kernel)⟩
theorem lw_p31 : lw_okq (⟨"PhaseLightsModel", "turn", "(I)I"⟩, 21) := ⟨⟨by decide +kernel, by decide +kernel⟩, List.mem_of_getElem? (i := 901) (by decide +kernel), List.mem_of_getElem? (i := 1089) (by decide +kernel), List.mem_of_getElem? (i := 1090) (by decide +kernel)⟩
def lw_privs_2 : List (MethodName × Nat) := [(⟨"PhaseLights$Orders", "startRecorded", "(ILPhaseLights$Premiere;)Z"⟩, 11), (⟨"PhaseLights", "loadByCue", "(LPhaseLights$Premiere;I)I"⟩, 9), (⟨"PhaseLights$State", "neededOn", "(I)I"⟩, 3), (⟨"PhaseLights$Trial", "begin", "(LPhaseLights$Premiere;II)V"⟩, 5), (⟨"PhaseLightsModel", "know", "()V"⟩, 21), (⟨"PhaseLightsModel", "isLamp", "(II)Z"⟩, 21), (⟨"PhaseLightsModel", "worst", "(II)I"⟩, 21), (⟨"PhaseLightsModel", "loadBy", "(III)I"⟩, 21), (⟨"PhaseLightsModel", "watts", "(III)I"⟩, 21), (⟨"PhaseLightsModel", "atFault", "(III)I"⟩, 21), (⟨"PhaseLightsModel", "recordFault", "(III)I"⟩, 21), (⟨"PhaseLightsModel", "records", "(III)I"⟩, 21), (⟨"PhaseLightsModel", "goFault", "(II)I"⟩, 21), (⟨"PhaseLightsModel", "start", "(III)V"⟩, 21), (⟨"PhaseLightsModel", "resets", "(I)I"⟩, 21), (⟨"PhaseLightsModel", "turn", "(I)I"⟩, 21)]
theorem lw_r2 : ∀ q ∈ lw_privs_2, lw_okq q := List.forall_mem_cons.mpr ⟨lw_p16, List.forall_mem_cons.mpr ⟨lw_p17, List.forall_mem_cons.mpr ⟨lw_p18, List.forall_mem_cons.mpr ⟨lw_p19, List.forall_mem_cons.mpr ⟨lw_p20, List.forall_mem_cons.mpr ⟨lw_p21, List.forall_mem_cons.mpr ⟨lw_p22, List.forall_mem_cons.mpr ⟨lw_p23, List.forall_mem_cons.mpr ⟨lw_p24, List.forall_mem_cons.mpr ⟨lw_p25, List.forall_mem_cons.mpr ⟨lw_p26, List.forall_mem_cons.mpr ⟨lw_p27, List.forall_mem_cons.mpr ⟨lw_p28, List.forall_mem_cons.mpr ⟨lw_p29, List.forall_mem_cons.mpr ⟨lw_p30, List.forall_mem_cons.mpr ⟨lw_p31, fun _ h => absurd h List.not_mem_nil⟩⟩⟩⟩⟩⟩⟩⟩⟩⟩⟩⟩⟩⟩⟩⟩
theorem lw_p32 : lw_okq (⟨"PhaseLightsModel", "trip", "(IIII)I"⟩, 21) := ⟨⟨by decide +kernel, by decide +kernel⟩, List.mem_of_getElem? (i := 901) (by decide +kernel), List.mem_of_getElem? (i := 1093) (by decide +kernel), List.mem_of_getElem? (i := 1094) (by decide +kernel)⟩
theorem lw_p33 : lw_okq (⟨"PhaseLightsModel", "load", "(II)I"⟩, 21) := ⟨⟨by decide +kernel, by decide +kernel⟩, List.mem_of_getElem? (i := 901) (by decide +kernel), List.mem_of_getElem? (i := 1097) (by decide +kernel), List.mem_of_getElem? (i := 1098) (by decide +kernel)⟩
theorem lw_p34 : lw_okq (⟨"PhaseLightsModel", "loadOfLamp", "(II)I"⟩, 21) := ⟨⟨by decide +kernel, by decide +kernel⟩, List.mem_of_getElem? (i := 901) (by decide +kernel), List.mem_of_getElem? (i := 1101) (by decide +kernel), List.mem_of_getElem? (i := 1102) (by decide +kernel)⟩
theorem lw_p35 : lw_okq (⟨"PhaseLightsModel", "goThrough", "(ZI)I"⟩, 21) := ⟨⟨by decide +kernel, by decide +kernel⟩, List.mem_of_getElem? (i := 901) (by decide +kernel), List.mem_of_getElem? (i := 1118) (by decide +kernel), List.mem_of_getElem? (i := 1119) (by decide +kernel)⟩
theorem lw_p36 : lw_okq (⟨"PhaseLightsModel", "order", "()V"⟩, 21) := ⟨⟨by decide +kernel, by decide +kernel⟩, List.mem_of_getElem? (i := 901) (by decide +kernel), List.mem_of_getElem? (i := 1122) (by decide +kernel), List.mem_of_getElem? (i := 1123) (by decide +kernel)⟩
theorem lw_p37 : lw_okq (⟨"PhaseLightsModel", "readLamps", "()V"⟩, 21) := ⟨⟨by decide +kernel, by decide +kernel⟩, List.mem_of_getElem? (i := 901) (by decide +kernel), List.mem_of_getElem? (i := 1126) (by decide +kernel), List.mem_of_getElem? (i := 1127) (by decide +kernel)⟩
theorem lw_p38 : lw_okq (⟨"PhaseLightsModel", "number", "(II)I"⟩, 21) := ⟨⟨by decide +kernel, by decide +kernel⟩, List.mem_of_getElem? (i := 901) (by decide +kernel), List.mem_of_getElem? (i := 1130) (by decide +kernel), List.mem_of_getElem? (i := 1131) (by decide +kernel)⟩
theorem lw_p39 : lw_okq (⟨"PhaseLightsModel", "sign", "(II)I"⟩, 21) := ⟨⟨by decide +kernel, by decide +kernel⟩, List.mem_of_getElem? (i := 901) (by decide +kernel), List.mem_of_getElem? (i := 1134) (by decide +kernel), List.mem_of_getElem? (i := 1135) (by decide +kernel)⟩
theorem lw_p40 : lw_okq (⟨"PhaseLightsModel", "isNext", "(II)Z"⟩, 21) := ⟨⟨by decide +kernel, by decide +kernel⟩, List.mem_of_getElem? (i := 901) (by decide +kernel), List.mem_of_getElem? (i := 1138) (by decide +kernel), List.mem_of_getElem? (i := 1139) (by decide +kernel)⟩
theorem lw_p41 : lw_okq (⟨"PhaseLightsModel", "does", "(I)Z"⟩, 21) := ⟨⟨by decide +kernel, by decide +kernel⟩, List.mem_of_getElem? (i := 901) (by decide +kernel), List.mem_of_getElem? (i := 1142) (by decide +kernel), List.mem_of_getElem? (i := 1143) (by decide +kernel)⟩
theorem lw_p42 : lw_okq (⟨"PhaseLightsModel", "wants", "(I)Z"⟩, 21) := ⟨⟨by decide +kernel, by decide +kernel⟩, List.mem_of_getElem? (i := 901) (by decide +kernel), List.mem_of_getElem? (i := 1146) (by decide +kernel), List.mem_of_getElem? (i := 1147) (by decide +kernel)⟩
theorem lw_p43 : lw_okq (⟨"PhaseLightsModel", "lampsOn", "(II)I"⟩, 21) := ⟨⟨by decide +kernel, by decide +kernel⟩, List.mem_of_getElem? (i := 901) (by decide +kernel), List.mem_of_getElem? (i := 1162) (by decide +kernel), List.mem_of_getElem? (i := 1163) (by decide +kernel)⟩
theorem lw_p44 : lw_okq (⟨"PhaseLightsModel", "dimmersOf", "(II)I"⟩, 21) := ⟨⟨by decide +kernel, by decide +kernel⟩, List.mem_of_getElem? (i := 901) (by decide +kernel), List.mem_of_getElem? (i := 1170) (by decide +kernel), List.mem_of_getElem? (i := 1171) (by decide +kernel)⟩
theorem lw_p45 : lw_okq (⟨"PhaseLightsModel", "recorded", "(I)I"⟩, 21) := ⟨⟨by decide +kernel, by decide +kernel⟩, List.mem_of_getElem? (i := 901) (by decide +kernel), List.mem_of_getElem? (i := 1186) (by decide +kernel), List.mem_of_getElem? (i := 1187) (by decide +kernel)⟩
theorem lw_p46 : lw_okq (⟨"PhaseLightsModel", "loadOf", "(I)I"⟩, 21) := ⟨⟨by decide +kernel, by decide +kernel⟩, List.mem_of_getElem? (i := 901) (by decide +kernel), List.mem_of_getElem? (i := 1190) (by decide +kernel), List.mem_of_getElem? (i := 1191) (by decide +kernel)⟩
theorem lw_p47 : lw_okq (⟨"PhaseLightsModel", "tripped", "(III)I"⟩, 21) := ⟨⟨by decide +kernel, by decide +kernel⟩, List.mem_of_getElem? (i := 901) (by decide +kernel), List.mem_of_getElem? (i := 1194) (by decide +kernel), List.mem_of_getElem? (i := 1195) (by decide +kernel)⟩
def lw_privs_3 : List (MethodName × Nat) := [(⟨"PhaseLightsModel", "trip", "(IIII)I"⟩, 21), (⟨"PhaseLightsModel", "load", "(II)I"⟩, 21), (⟨"PhaseLightsModel", "loadOfLamp", "(II)I"⟩, 21), (⟨"PhaseLightsModel", "goThrough", "(ZI)I"⟩, 21), (⟨"PhaseLightsModel", "order", "()V"⟩, 21), (⟨"PhaseLightsModel", "readLamps", "()V"⟩, 21), (⟨"PhaseLightsModel", "number", "(II)I"⟩, 21), (⟨"PhaseLightsModel", "sign", "(II)I"⟩, 21), (⟨"PhaseLightsModel", "isNext", "(II)Z"⟩, 21), (⟨"PhaseLightsModel", "does", "(I)Z"⟩, 21), (⟨"PhaseLightsModel", "wants", "(I)Z"⟩, 21), (⟨"PhaseLightsModel", "lampsOn", "(II)I"⟩, 21), (⟨"PhaseLightsModel", "dimmersOf", "(II)I"⟩, 21), (⟨"PhaseLightsModel", "recorded", "(I)I"⟩, 21), (⟨"PhaseLightsModel", "loadOf", "(I)I"⟩, 21), (⟨"PhaseLightsModel", "tripped", "(III)I"⟩, 21)]
theorem lw_r3 : ∀ q ∈ lw_privs_3, lw_okq q := List.forall_mem_cons.mpr ⟨lw_p32, List.forall_mem_cons.mpr ⟨lw_p33, List.forall_mem_cons.mpr ⟨lw_p34, List.forall_mem_cons.mpr ⟨lw_p35, List.forall_mem_cons.mpr ⟨lw_p36, List.forall_mem_cons.mpr ⟨lw_p37, List.forall_mem_cons.mpr ⟨lw_p38, List.forall_mem_cons.mpr ⟨lw_p39, List.forall_mem_cons.mpr ⟨lw_p40, List.forall_mem_cons.mpr ⟨lw_p41, List.forall_mem_cons.mpr ⟨lw_p42, List.forall_mem_cons.mpr ⟨lw_p43, List.forall_mem_cons.mpr ⟨lw_p44, List.forall_mem_cons.mpr ⟨lw_p45, List.forall_mem_cons.mpr ⟨lw_p46, List.forall_mem_cons.mpr ⟨lw_p47, fun _ h => absurd h List.not_mem_nil⟩⟩⟩⟩⟩⟩⟩⟩⟩⟩⟩⟩⟩⟩⟩⟩
theorem lw_p48 : lw_okq (⟨"PhaseLightsModel", "apart", "(I)I"⟩, 21) := ⟨⟨by decide +kernel, by decide +kernel⟩, List.mem_of_getElem? (i := 901) (by decide +kernel), List.mem_of_getElem? (i := 1198) (by decide +kernel), List.mem_of_getElem? (i := 1199) (by decide +kernel)⟩
theorem lw_p49 : lw_okq (⟨"PhaseLightsModel", "hired", "(III)I"⟩, 21) := ⟨⟨by decide +kernel, by decide +kernel⟩, List.mem_of_getElem? (i := 901) (by decide +kernel), List.mem_of_getElem? (i := 1206) (by decide +kernel), List.mem_of_getElem? (i := 1207) (by decide +kernel)⟩
theorem lw_p50 : lw_okq (⟨"PhaseLightsModel", "needed", "(II)I"⟩, 21) := ⟨⟨by decide +kernel, by decide +kernel⟩, List.mem_of_getElem? (i := 901) (by decide +kernel), List.mem_of_getElem? (i := 1210) (by decide +kernel), List.mem_of_getElem? (i := 1211) (by decide +kernel)⟩
theorem lw_p51 : lw_okq (⟨"PhaseLightsModel", "sum", "(I)I"⟩, 21) := ⟨⟨by decide +kernel, by decide +kernel⟩, List.mem_of_getElem? (i := 901) (by decide +kernel), List.mem_of_getElem? (i := 1218) (by decide +kernel), List.mem_of_getElem? (i := 1219) (by decide +kernel)⟩
theorem lw_p52 : lw_okq (⟨"PhaseLightsModel", "fullest", "()I"⟩, 21) := ⟨⟨by decide +kernel, by decide +kernel⟩, List.mem_of_getElem? (i := 901) (by decide +kernel), List.mem_of_getElem? (i := 1222) (by decide +kernel), List.mem_of_getElem? (i := 1223) (by decide +kernel)⟩
theorem lw_p53 : lw_okq (⟨"PhaseLightsModel", "tryOut", "(III)V"⟩, 21) := ⟨⟨by decide +kernel, by decide +kernel⟩, List.mem_of_getElem? (i := 901) (by decide +kernel), List.mem_of_getElem? (i := 1230) (by decide +kernel), List.mem_of_getElem? (i := 1231) (by decide +kernel)⟩
theorem lw_p54 : lw_okq (⟨"PhaseLightsModel", "putAside", "()V"⟩, 21) := ⟨⟨by decide +kernel, by decide +kernel⟩, List.mem_of_getElem? (i := 901) (by decide +kernel), List.mem_of_getElem? (i := 1234) (by decide +kernel), List.mem_of_getElem? (i := 1235) (by decide +kernel)⟩
theorem lw_p55 : lw_okq (⟨"PhaseLightsModel", "putBack", "()V"⟩, 21) := ⟨⟨by decide +kernel, by decide +kernel⟩, List.mem_of_getElem? (i := 901) (by decide +kernel), List.mem_of_getElem? (i := 1238) (by decide +kernel), List.mem_of_getElem? (i := 1239) (by decide +kernel)⟩
theorem lw_p56 : lw_okq (⟨"PhaseLightsModel", "lamps", "()I"⟩, 21) := ⟨⟨by decide +kernel, by decide +kernel⟩, List.mem_of_getElem? (i := 901) (by decide +kernel), List.mem_of_getElem? (i := 1262) (by decide +kernel), List.mem_of_getElem? (i := 1263) (by decide +kernel)⟩
def lw_privs_4 : List (MethodName × Nat) := [(⟨"PhaseLightsModel", "apart", "(I)I"⟩, 21), (⟨"PhaseLightsModel", "hired", "(III)I"⟩, 21), (⟨"PhaseLightsModel", "needed", "(II)I"⟩, 21), (⟨"PhaseLightsModel", "sum", "(I)I"⟩, 21), (⟨"PhaseLightsModel", "fullest", "()I"⟩, 21), (⟨"PhaseLightsModel", "tryOut", "(III)V"⟩, 21), (⟨"PhaseLightsModel", "putAside", "()V"⟩, 21), (⟨"PhaseLightsModel", "putBack", "()V"⟩, 21), (⟨"PhaseLightsModel", "lamps", "()I"⟩, 21)]
theorem lw_r4 : ∀ q ∈ lw_privs_4, lw_okq q := List.forall_mem_cons.mpr ⟨lw_p48, List.forall_mem_cons.mpr ⟨lw_p49, List.forall_mem_cons.mpr ⟨lw_p50, List.forall_mem_cons.mpr ⟨lw_p51, List.forall_mem_cons.mpr ⟨lw_p52, List.forall_mem_cons.mpr ⟨lw_p53, List.forall_mem_cons.mpr ⟨lw_p54, List.forall_mem_cons.mpr ⟨lw_p55, List.forall_mem_cons.mpr ⟨lw_p56, fun _ h => absurd h List.not_mem_nil⟩⟩⟩⟩⟩⟩⟩⟩⟩
def lw_privs : List (MethodName × Nat) := lw_privs_1 ++ (lw_privs_2 ++ (lw_privs_3 ++ (lw_privs_4)))
def lw_tbl : List Cond := k2_sels lw_privs ++ tables_1
theorem lw_privs_ok : ∀ q ∈ lw_privs, lw_okq q := by
  show ∀ q ∈ lw_privs_1 ++ (lw_privs_2 ++ (lw_privs_3 ++ (lw_privs_4))), lw_okq q
  exact List.forall_mem_append.mpr ⟨lw_r1, List.forall_mem_append.mpr ⟨lw_r2, List.forall_mem_append.mpr ⟨lw_r3, lw_r4⟩⟩⟩
def RX0 : String := "PhaseLights$Breakers"
def TX0 : u_T := fun k => match k with
  | 0 => ("PhaseLights$Breakers", "counts", "[I", true)
  | _ => ("PhaseLights$Breakers", "tripped", "I", false)
def tyX0 : Nat → FieldType := fun k => match k with
  | 0 => .array .int
  | _ => .int
abbrev wsX00 : List Cond := u_ws RX0 TX0 2
theorem nmX0 : ∀ a, a < 2 → ∀ b, b < 2 → a ≠ b → (TX0 a).2.1 ≠ (TX0 b).2.1 := by decide +kernel
theorem tyX0_ok : ∀ k, k < 2 → parseFieldDescriptor (TX0 k).2.2.1 = some (tyX0 k) := by decide +kernel
abbrev cX0_init : ByteArray := prog_2_method_1_code
def yX0_init : MethodName := ⟨RX0, "<init>", "([I)V"⟩
abbrev cX0_hasTripped : ByteArray := prog_2_method_2_code
def yX0_hasTripped : MethodName := ⟨RX0, "hasTripped", "(I)Z"⟩
abbrev cX0_check : ByteArray := prog_2_method_3_code
def yX0_check : MethodName := ⟨RX0, "check", "([III)I"⟩
abbrev cX0_clearTrips : ByteArray := prog_2_method_4_code
def yX0_clearTrips : MethodName := ⟨RX0, "clearTrips", "()I"⟩
abbrev cX0_copyFrom : ByteArray := prog_2_method_5_code
def yX0_copyFrom : MethodName := ⟨RX0, "copyFrom", "(LPhaseLights$Breakers;)V"⟩
def RX1 : String := "PhaseLights$Fade"
def TX1 : u_T := fun k => match k with
  | 0 => ("PhaseLights$Fade", "ticks", "I", false)
  | 1 => ("PhaseLights$Fade", "gone", "I", false)
  | 2 => ("PhaseLights$Fade", "from", "[I", true)
  | _ => ("PhaseLights$Fade", "to", "[I", true)
def tyX1 : Nat → FieldType := fun k => match k with
  | 0 => .int
  | 1 => .int
  | 2 => .array .int
  | _ => .array .int
abbrev wsX10 : List Cond := u_ws RX1 TX1 4
theorem nmX1 : ∀ a, a < 4 → ∀ b, b < 4 → a ≠ b → (TX1 a).2.1 ≠ (TX1 b).2.1 := by decide +kernel
theorem tyX1_ok : ∀ k, k < 4 → parseFieldDescriptor (TX1 k).2.2.1 = some (tyX1 k) := by decide +kernel
abbrev cX1_init : ByteArray := prog_3_method_1_code
def yX1_init : MethodName := ⟨RX1, "<init>", "()V"⟩
abbrev cX1_start : ByteArray := prog_3_method_2_code
def yX1_start : MethodName := ⟨RX1, "start", "([I[II)V"⟩
abbrev cX1_ticksLeft : ByteArray := prog_3_method_3_code
def yX1_ticksLeft : MethodName := ⟨RX1, "ticksLeft", "()I"⟩
abbrev cX1_step : ByteArray := prog_3_method_4_code
def yX1_step : MethodName := ⟨RX1, "step", "([I)V"⟩
abbrev cX1_removeLamp : ByteArray := prog_3_method_5_code
def yX1_removeLamp : MethodName := ⟨RX1, "removeLamp", "(I)V"⟩
abbrev cX1_copyFrom : ByteArray := prog_3_method_6_code
def yX1_copyFrom : MethodName := ⟨RX1, "copyFrom", "(LPhaseLights$Fade;)V"⟩
def RX2 : String := "PhaseLights$History"
def TX2 : u_T := fun k => match k with
  | 0 => ("PhaseLights$History", "states", "[LPhaseLights$State;", true)
  | _ => ("PhaseLights$History", "size", "I", false)
def tyX2 : Nat → FieldType := fun k => match k with
  | 0 => .array (.object "PhaseLights$State")
  | _ => .int
abbrev wsX20 : List Cond := u_ws RX2 TX2 2
theorem nmX2 : ∀ a, a < 2 → ∀ b, b < 2 → a ≠ b → (TX2 a).2.1 ≠ (TX2 b).2.1 := by decide +kernel
theorem tyX2_ok : ∀ k, k < 2 → parseFieldDescriptor (TX2 k).2.2.1 = some (tyX2 k) := by decide +kernel
abbrev cX2_init : ByteArray := prog_4_method_1_code
def yX2_init : MethodName := ⟨RX2, "<init>", "()V"⟩
abbrev cX2_push : ByteArray := prog_4_method_2_code
def yX2_push : MethodName := ⟨RX2, "push", "(LPhaseLights$State;)V"⟩
abbrev cX2_pop : ByteArray := prog_4_method_3_code
def yX2_pop : MethodName := ⟨RX2, "pop", "(LPhaseLights$State;)Z"⟩
abbrev cX2_dropOldest : ByteArray := prog_4_method_4_code
def yX2_dropOldest : MethodName := ⟨RX2, "dropOldest", "()V"⟩
def RX3 : String := "PhaseLights$Loads"
def TX3 : u_T := fun k => match k with
  | 0 => ("PhaseLights$Loads", "ofDimmer", "[I", true)
  | _ => ("PhaseLights$Loads", "ofPhase", "[I", true)
def tyX3 : Nat → FieldType := fun k => match k with
  | 0 => .array .int
  | _ => .array .int
abbrev wsX30 : List Cond := u_ws RX3 TX3 2
theorem nmX3 : ∀ a, a < 2 → ∀ b, b < 2 → a ≠ b → (TX3 a).2.1 ≠ (TX3 b).2.1 := by decide +kernel
theorem tyX3_ok : ∀ k, k < 2 → parseFieldDescriptor (TX3 k).2.2.1 = some (tyX3 k) := by decide +kernel
abbrev cX3_init : ByteArray := prog_5_method_1_code
def yX3_init : MethodName := ⟨RX3, "<init>", "()V"⟩
abbrev cX3_measureNow : ByteArray := prog_5_method_2_code
def yX3_measureNow : MethodName := ⟨RX3, "measureNow", "(LPhaseLights$Premiere;LPhaseLights$Types;)V"⟩
abbrev cX3_measureCue : ByteArray := prog_5_method_3_code
def yX3_measureCue : MethodName := ⟨RX3, "measureCue", "(LPhaseLights$Premiere;ILPhaseLights$Types;)V"⟩
abbrev cX3_empty : ByteArray := prog_5_method_4_code
def yX3_empty : MethodName := ⟨RX3, "empty", "()V"⟩
abbrev cX3_sumOfPhases : ByteArray := prog_5_method_5_code
def yX3_sumOfPhases : MethodName := ⟨RX3, "sumOfPhases", "()I"⟩
abbrev cX3_add : ByteArray := prog_5_method_6_code
def yX3_add : MethodName := ⟨RX3, "add", "(LPhaseLights$Premiere;II)V"⟩
def RX4 : String := "PhaseLights$Orders"
def TX4 : u_T := fun k => match k with
  | 0 => ("PhaseLights$Orders", "pad", "LPhaseLights$Pad;", true)
  | 1 => ("PhaseLights$Orders", "place", "I", false)
  | 2 => ("PhaseLights$Orders", "sign", "I", false)
  | 3 => ("PhaseLights$Orders", "orders", "I", false)
  | 4 => ("PhaseLights$Orders", "kind", "[I", true)
  | 5 => ("PhaseLights$Orders", "levelOrCue", "[I", true)
  | 6 => ("PhaseLights$Orders", "cueTicks", "[I", true)
  | 7 => ("PhaseLights$Orders", "spansEnd", "[I", true)
  | 8 => ("PhaseLights$Orders", "spans", "I", false)
  | 9 => ("PhaseLights$Orders", "spanFirst", "[I", true)
  | _ => ("PhaseLights$Orders", "spanLast", "[I", true)
def tyX4 : Nat → FieldType := fun k => match k with
  | 0 => .object "PhaseLights$Pad"
  | 1 => .int
  | 2 => .int
  | 3 => .int
  | 4 => .array .int
  | 5 => .array .int
  | 6 => .array .int
  | 7 => .array .int
  | 8 => .int
  | 9 => .array .int
  | _ => .array .int
abbrev wsX40 : List Cond := u_ws RX4 TX4 11
theorem nmX4 : ∀ a, a < 11 → ∀ b, b < 11 → a ≠ b → (TX4 a).2.1 ≠ (TX4 b).2.1 := by decide +kernel
theorem tyX4_ok : ∀ k, k < 11 → parseFieldDescriptor (TX4 k).2.2.1 = some (tyX4 k) := by decide +kernel
abbrev cX4_init : ByteArray := prog_6_method_1_code
def yX4_init : MethodName := ⟨RX4, "<init>", "()V"⟩
abbrev cX4_read : ByteArray := prog_6_method_2_code
def yX4_read : MethodName := ⟨RX4, "read", "()Z"⟩
abbrev cX4_readOrder : ByteArray := prog_6_method_3_code
def yX4_readOrder : MethodName := ⟨RX4, "readOrder", "()Z"⟩
abbrev cX4_readRecord : ByteArray := prog_6_method_4_code
def yX4_readRecord : MethodName := ⟨RX4, "readRecord", "()Z"⟩
abbrev cX4_readGo : ByteArray := prog_6_method_5_code
def yX4_readGo : MethodName := ⟨RX4, "readGo", "()Z"⟩
abbrev cX4_readLevels : ByteArray := prog_6_method_6_code
def yX4_readLevels : MethodName := ⟨RX4, "readLevels", "()Z"⟩
abbrev cX4_readSpan : ByteArray := prog_6_method_7_code
def yX4_readSpan : MethodName := ⟨RX4, "readSpan", "()Z"⟩
abbrev cX4_readNumber : ByteArray := prog_6_method_8_code
def yX4_readNumber : MethodName := ⟨RX4, "readNumber", "(II)I"⟩
abbrev cX4_digitHere : ByteArray := prog_6_method_9_code
def yX4_digitHere : MethodName := ⟨RX4, "digitHere", "()I"⟩
abbrev cX4_take : ByteArray := prog_6_method_10_code
def yX4_take : MethodName := ⟨RX4, "take", "(C)Z"⟩
abbrev cX4_stepTo : ByteArray := prog_6_method_11_code
def yX4_stepTo : MethodName := ⟨RX4, "stepTo", "(I)V"⟩
abbrev cX4_note : ByteArray := prog_6_method_12_code
def yX4_note : MethodName := ⟨RX4, "note", "(III)Z"⟩
abbrev cX4_carryAllOut : ByteArray := prog_6_method_13_code
def yX4_carryAllOut : MethodName := ⟨RX4, "carryAllOut", "(LPhaseLights$Premiere;)I"⟩
abbrev cX4_carryOneOut : ByteArray := prog_6_method_14_code
def yX4_carryOneOut : MethodName := ⟨RX4, "carryOneOut", "(ILPhaseLights$Premiere;)Z"⟩
abbrev cX4_startRecorded : ByteArray := prog_6_method_15_code
def yX4_startRecorded : MethodName := ⟨RX4, "startRecorded", "(ILPhaseLights$Premiere;)Z"⟩
abbrev cX4_changeLevels : ByteArray := prog_6_method_16_code
def yX4_changeLevels : MethodName := ⟨RX4, "changeLevels", "(ILPhaseLights$Premiere;)Z"⟩
abbrev cX4_changeSpan : ByteArray := prog_6_method_17_code
def yX4_changeSpan : MethodName := ⟨RX4, "changeSpan", "(LPhaseLights$Premiere;III)Z"⟩
def RX5 : String := "PhaseLights$Pad"
def TX5 : u_T := fun k => match k with
  | 0 => ("PhaseLights$Pad", "signs", "[I", true)
  | _ => ("PhaseLights$Pad", "length", "I", false)
def tyX5 : Nat → FieldType := fun k => match k with
  | 0 => .array .int
  | _ => .int
abbrev wsX50 : List Cond := u_ws RX5 TX5 2
theorem nmX5 : ∀ a, a < 2 → ∀ b, b < 2 → a ≠ b → (TX5 a).2.1 ≠ (TX5 b).2.1 := by decide +kernel
theorem tyX5_ok : ∀ k, k < 2 → parseFieldDescriptor (TX5 k).2.2.1 = some (tyX5 k) := by decide +kernel
abbrev cX5_init : ByteArray := prog_7_method_1_code
def yX5_init : MethodName := ⟨RX5, "<init>", "()V"⟩
abbrev cX5_signsIn : ByteArray := prog_7_method_2_code
def yX5_signsIn : MethodName := ⟨RX5, "signsIn", "(J)I"⟩
abbrev cX5_append : ByteArray := prog_7_method_3_code
def yX5_append : MethodName := ⟨RX5, "append", "(JI)V"⟩
def RX6 : String := "PhaseLights$Premiere"
def TX6 : u_T := fun k => match k with
  | 0 => ("PhaseLights$Premiere", "first", "I", false)
  | 1 => ("PhaseLights$Premiere", "last", "I", false)
  | 2 => ("PhaseLights$Premiere", "lamps", "I", false)
  | 3 => ("PhaseLights$Premiere", "lampType", "[I", true)
  | 4 => ("PhaseLights$Premiere", "lampDimmer", "[I", true)
  | 5 => ("PhaseLights$Premiere", "wanted", "[I", true)
  | 6 => ("PhaseLights$Premiere", "level", "[I", true)
  | 7 => ("PhaseLights$Premiere", "dimmerPhase", "[I", true)
  | 8 => ("PhaseLights$Premiere", "cueTicks", "[I", true)
  | 9 => ("PhaseLights$Premiere", "cueLevel", "[[I", true)
  | 10 => ("PhaseLights$Premiere", "fade", "LPhaseLights$Fade;", true)
  | 11 => ("PhaseLights$Premiere", "dimmers", "LPhaseLights$Breakers;", true)
  | _ => ("PhaseLights$Premiere", "phases", "LPhaseLights$Breakers;", true)
def tyX6 : Nat → FieldType := fun k => match k with
  | 0 => .int
  | 1 => .int
  | 2 => .int
  | 3 => .array .int
  | 4 => .array .int
  | 5 => .array .int
  | 6 => .array .int
  | 7 => .array .int
  | 8 => .array .int
  | 9 => .array (.array .int)
  | 10 => .object "PhaseLights$Fade"
  | 11 => .object "PhaseLights$Breakers"
  | _ => .object "PhaseLights$Breakers"
abbrev wsX60 : List Cond := u_ws RX6 TX6 13
theorem nmX6 : ∀ a, a < 13 → ∀ b, b < 13 → a ≠ b → (TX6 a).2.1 ≠ (TX6 b).2.1 := by decide +kernel
theorem tyX6_ok : ∀ k, k < 13 → parseFieldDescriptor (TX6 k).2.2.1 = some (tyX6 k) := by decide +kernel
abbrev cX6_init : ByteArray := prog_8_method_1_code
def yX6_init : MethodName := ⟨RX6, "<init>", "()V"⟩
abbrev cX6_copyFrom : ByteArray := prog_8_method_2_code
def yX6_copyFrom : MethodName := ⟨RX6, "copyFrom", "(LPhaseLights$Premiere;)V"⟩
abbrev cX6_isOn : ByteArray := prog_8_method_3_code
def yX6_isOn : MethodName := ⟨RX6, "isOn", "(I)Z"⟩
abbrev cX6_isFull : ByteArray := prog_8_method_4_code
def yX6_isFull : MethodName := ⟨RX6, "isFull", "()Z"⟩
abbrev cX6_hasLamp : ByteArray := prog_8_method_5_code
def yX6_hasLamp : MethodName := ⟨RX6, "hasLamp", "(I)Z"⟩
abbrev cX6_addLamp : ByteArray := prog_8_method_6_code
def yX6_addLamp : MethodName := ⟨RX6, "addLamp", "(II)I"⟩
abbrev cX6_removeLamp : ByteArray := prog_8_method_7_code
def yX6_removeLamp : MethodName := ⟨RX6, "removeLamp", "(I)I"⟩
abbrev cX6_lampsOfType : ByteArray := prog_8_method_8_code
def yX6_lampsOfType : MethodName := ⟨RX6, "lampsOfType", "(I)I"⟩
abbrev cX6_lampsOn : ByteArray := prog_8_method_9_code
def yX6_lampsOn : MethodName := ⟨RX6, "lampsOn", "(I)I"⟩
abbrev cX6_dimmersOn : ByteArray := prog_8_method_10_code
def yX6_dimmersOn : MethodName := ⟨RX6, "dimmersOn", "(I)I"⟩
abbrev cX6_isRecorded : ByteArray := prog_8_method_11_code
def yX6_isRecorded : MethodName := ⟨RX6, "isRecorded", "(I)Z"⟩
abbrev cX6_recordedCues : ByteArray := prog_8_method_12_code
def yX6_recordedCues : MethodName := ⟨RX6, "recordedCues", "()I"⟩
abbrev cX6_recordCue : ByteArray := prog_8_method_13_code
def yX6_recordCue : MethodName := ⟨RX6, "recordCue", "(II)V"⟩
abbrev cX6_startCue : ByteArray := prog_8_method_14_code
def yX6_startCue : MethodName := ⟨RX6, "startCue", "(II)V"⟩
abbrev cX6_clearTrips : ByteArray := prog_8_method_15_code
def yX6_clearTrips : MethodName := ⟨RX6, "clearTrips", "()I"⟩
abbrev cX6_passTick : ByteArray := prog_8_method_16_code
def yX6_passTick : MethodName := ⟨RX6, "passTick", "(LPhaseLights$State;LPhaseLights$Loads;)I"⟩
abbrev cX6_loadOfLamp : ByteArray := prog_8_method_17_code
def yX6_loadOfLamp : MethodName := ⟨RX6, "loadOfLamp", "(ILPhaseLights$Types;)I"⟩
abbrev cX6_draw : ByteArray := prog_8_method_18_code
def yX6_draw : MethodName := ⟨RX6, "draw", "(I[ILPhaseLights$Types;)I"⟩
abbrev cX6_dimmerOf : ByteArray := prog_8_method_19_code
def yX6_dimmerOf : MethodName := ⟨RX6, "dimmerOf", "(I)I"⟩
abbrev cX6_phaseOf : ByteArray := prog_8_method_20_code
def yX6_phaseOf : MethodName := ⟨RX6, "phaseOf", "(I)I"⟩
abbrev cX6_isFed : ByteArray := prog_8_method_21_code
def yX6_isFed : MethodName := ⟨RX6, "isFed", "(I)Z"⟩
abbrev cX6_spreadDimmers : ByteArray := prog_8_method_22_code
def yX6_spreadDimmers : MethodName := ⟨RX6, "spreadDimmers", "([I[I)I"⟩
abbrev cX6_heaviestLeft : ByteArray := prog_8_method_23_code
def yX6_heaviestLeft : MethodName := ⟨RX6, "heaviestLeft", "([II)I"⟩
abbrev cX6_lightest : ByteArray := prog_8_method_24_code
def yX6_lightest : MethodName := ⟨RX6, "lightest", "([I)I"⟩
def RX7 : String := "PhaseLights$State"
def TX7 : u_T := fun k => match k with
  | 0 => ("PhaseLights$State", "settings", "[I", true)
  | 1 => ("PhaseLights$State", "types", "LPhaseLights$Types;", true)
  | _ => ("PhaseLights$State", "premieres", "[LPhaseLights$Premiere;", true)
def tyX7 : Nat → FieldType := fun k => match k with
  | 0 => .array .int
  | 1 => .object "PhaseLights$Types"
  | _ => .array (.object "PhaseLights$Premiere")
abbrev wsX70 : List Cond := u_ws RX7 TX7 3
theorem nmX7 : ∀ a, a < 3 → ∀ b, b < 3 → a ≠ b → (TX7 a).2.1 ≠ (TX7 b).2.1 := by decide +kernel
theorem tyX7_ok : ∀ k, k < 3 → parseFieldDescriptor (TX7 k).2.2.1 = some (tyX7 k) := by decide +kernel
abbrev cX7_init : ByteArray := prog_9_method_1_code
def yX7_init : MethodName := ⟨RX7, "<init>", "()V"⟩
abbrev cX7_find : ByteArray := prog_9_method_2_code
def yX7_find : MethodName := ⟨RX7, "find", "(I)LPhaseLights$Premiere;"⟩
abbrev cX7_copyFrom : ByteArray := prog_9_method_3_code
def yX7_copyFrom : MethodName := ⟨RX7, "copyFrom", "(LPhaseLights$State;)V"⟩
abbrev cX7_allLamps : ByteArray := prog_9_method_4_code
def yX7_allLamps : MethodName := ⟨RX7, "allLamps", "()I"⟩
abbrev cX7_needed : ByteArray := prog_9_method_5_code
def yX7_needed : MethodName := ⟨RX7, "needed", "(II)I"⟩
abbrev cX7_missing : ByteArray := prog_9_method_6_code
def yX7_missing : MethodName := ⟨RX7, "missing", "(II)I"⟩
abbrev cX7_cost : ByteArray := prog_9_method_7_code
def yX7_cost : MethodName := ⟨RX7, "cost", "(II)I"⟩
abbrev cX7_wholeCost : ByteArray := prog_9_method_8_code
def yX7_wholeCost : MethodName := ⟨RX7, "wholeCost", "()I"⟩
abbrev cX7_allMissing : ByteArray := prog_9_method_9_code
def yX7_allMissing : MethodName := ⟨RX7, "allMissing", "()I"⟩
abbrev cX7_busiestDay : ByteArray := prog_9_method_10_code
def yX7_busiestDay : MethodName := ⟨RX7, "busiestDay", "()I"⟩
abbrev cX7_neededOn : ByteArray := prog_9_method_11_code
def yX7_neededOn : MethodName := ⟨RX7, "neededOn", "(I)I"⟩
def RX8 : String := "PhaseLights$Trial"
def TX8 : u_T := fun k => match k with
  | 0 => ("PhaseLights$Trial", "aside", "LPhaseLights$Premiere;", true)
  | 1 => ("PhaseLights$Trial", "trips", "I", false)
  | 2 => ("PhaseLights$Trial", "firstTrip", "I", false)
  | 3 => ("PhaseLights$Trial", "greatestOfDimmers", "I", false)
  | _ => ("PhaseLights$Trial", "greatestOfPhases", "I", false)
def tyX8 : Nat → FieldType := fun k => match k with
  | 0 => .object "PhaseLights$Premiere"
  | 1 => .int
  | 2 => .int
  | 3 => .int
  | _ => .int
abbrev wsX80 : List Cond := u_ws RX8 TX8 5
theorem nmX8 : ∀ a, a < 5 → ∀ b, b < 5 → a ≠ b → (TX8 a).2.1 ≠ (TX8 b).2.1 := by decide +kernel
theorem tyX8_ok : ∀ k, k < 5 → parseFieldDescriptor (TX8 k).2.2.1 = some (tyX8 k) := by decide +kernel
abbrev cX8_init : ByteArray := prog_10_method_1_code
def yX8_init : MethodName := ⟨RX8, "<init>", "()V"⟩
abbrev cX8_playToTheEnd : ByteArray := prog_10_method_2_code
def yX8_playToTheEnd : MethodName := ⟨RX8, "playToTheEnd", "(LPhaseLights$State;LPhaseLights$Premiere;ILPhaseLights$Loads;)V"⟩
abbrev cX8_isSafe : ByteArray := prog_10_method_3_code
def yX8_isSafe : MethodName := ⟨RX8, "isSafe", "(LPhaseLights$State;LPhaseLights$Premiere;IILPhaseLights$Loads;)Z"⟩
abbrev cX8_begin : ByteArray := prog_10_method_4_code
def yX8_begin : MethodName := ⟨RX8, "begin", "(LPhaseLights$Premiere;II)V"⟩
def RX9 : String := "PhaseLights$Types"
def TX9 : u_T := fun k => match k with
  | 0 => ("PhaseLights$Types", "told", "I", false)
  | 1 => ("PhaseLights$Types", "watts", "[I", true)
  | 2 => ("PhaseLights$Types", "stock", "[I", true)
  | _ => ("PhaseLights$Types", "price", "[I", true)
def tyX9 : Nat → FieldType := fun k => match k with
  | 0 => .int
  | 1 => .array .int
  | 2 => .array .int
  | _ => .array .int
abbrev wsX90 : List Cond := u_ws RX9 TX9 4
theorem nmX9 : ∀ a, a < 4 → ∀ b, b < 4 → a ≠ b → (TX9 a).2.1 ≠ (TX9 b).2.1 := by decide +kernel
theorem tyX9_ok : ∀ k, k < 4 → parseFieldDescriptor (TX9 k).2.2.1 = some (tyX9 k) := by decide +kernel
abbrev cX9_init : ByteArray := prog_11_method_1_code
def yX9_init : MethodName := ⟨RX9, "<init>", "()V"⟩
abbrev cX9_isFull : ByteArray := prog_11_method_2_code
def yX9_isFull : MethodName := ⟨RX9, "isFull", "()Z"⟩
abbrev cX9_has : ByteArray := prog_11_method_3_code
def yX9_has : MethodName := ⟨RX9, "has", "(I)Z"⟩
abbrev cX9_add : ByteArray := prog_11_method_4_code
def yX9_add : MethodName := ⟨RX9, "add", "(III)I"⟩
abbrev cX9_wattsOf : ByteArray := prog_11_method_5_code
def yX9_wattsOf : MethodName := ⟨RX9, "wattsOf", "(I)I"⟩
abbrev cX9_stockOf : ByteArray := prog_11_method_6_code
def yX9_stockOf : MethodName := ⟨RX9, "stockOf", "(I)I"⟩
abbrev cX9_priceOf : ByteArray := prog_11_method_7_code
def yX9_priceOf : MethodName := ⟨RX9, "priceOf", "(I)I"⟩
abbrev cX9_copyFrom : ByteArray := prog_11_method_8_code
def yX9_copyFrom : MethodName := ⟨RX9, "copyFrom", "(LPhaseLights$Types;)V"⟩
def RX10 : String := "PhaseLights$Worst"
def TX10 : u_T := fun k => match k with
  | 0 => ("PhaseLights$Worst", "loads", "LPhaseLights$Loads;", true)
  | _ => ("PhaseLights$Worst", "byCue", "LPhaseLights$Loads;", true)
def tyX10 : Nat → FieldType := fun k => match k with
  | 0 => .object "PhaseLights$Loads"
  | _ => .object "PhaseLights$Loads"
abbrev wsX100 : List Cond := u_ws RX10 TX10 2
theorem nmX10 : ∀ a, a < 2 → ∀ b, b < 2 → a ≠ b → (TX10 a).2.1 ≠ (TX10 b).2.1 := by decide +kernel
theorem tyX10_ok : ∀ k, k < 2 → parseFieldDescriptor (TX10 k).2.2.1 = some (tyX10 k) := by decide +kernel
abbrev cX10_init : ByteArray := prog_12_method_1_code
def yX10_init : MethodName := ⟨RX10, "<init>", "()V"⟩
abbrev cX10_measure : ByteArray := prog_12_method_2_code
def yX10_measure : MethodName := ⟨RX10, "measure", "(LPhaseLights$Premiere;LPhaseLights$Types;)V"⟩
def RX11 : String := "PhaseLights"
def TX11 : u_T := fun k => match k with
  | 0 => ("PhaseLights", "state", "LPhaseLights$State;", true)
  | 1 => ("PhaseLights", "history", "LPhaseLights$History;", true)
  | 2 => ("PhaseLights", "slots", "[LPhaseLights$State;", true)
  | 3 => ("PhaseLights", "savedSlots", "I", false)
  | 4 => ("PhaseLights", "orders", "LPhaseLights$Orders;", true)
  | 5 => ("PhaseLights", "pad", "LPhaseLights$Pad;", true)
  | 6 => ("PhaseLights", "loads", "LPhaseLights$Loads;", true)
  | 7 => ("PhaseLights", "worst", "LPhaseLights$Worst;", true)
  | _ => ("PhaseLights", "trial", "LPhaseLights$Trial;", true)
def tyX11 : Nat → FieldType := fun k => match k with
  | 0 => .object "PhaseLights$State"
  | 1 => .object "PhaseLights$History"
  | 2 => .array (.object "PhaseLights$State")
  | 3 => .int
  | 4 => .object "PhaseLights$Orders"
  | 5 => .object "PhaseLights$Pad"
  | 6 => .object "PhaseLights$Loads"
  | 7 => .object "PhaseLights$Worst"
  | _ => .object "PhaseLights$Trial"
abbrev wsX110 : List Cond := u_ws RX11 TX11 9
theorem nmX11 : ∀ a, a < 9 → ∀ b, b < 9 → a ≠ b → (TX11 a).2.1 ≠ (TX11 b).2.1 := by decide +kernel
theorem tyX11_ok : ∀ k, k < 9 → parseFieldDescriptor (TX11 k).2.2.1 = some (tyX11 k) := by decide +kernel
abbrev cX11_init : ByteArray := prog_1_method_1_code
def yX11_init : MethodName := ⟨RX11, "<init>", "()V"⟩
abbrev cX11_set : ByteArray := prog_1_method_2_code
def yX11_set : MethodName := ⟨RX11, "set", "(II)I"⟩
abbrev cX11_type : ByteArray := prog_1_method_3_code
def yX11_type : MethodName := ⟨RX11, "type", "(III)I"⟩
abbrev cX11_days : ByteArray := prog_1_method_4_code
def yX11_days : MethodName := ⟨RX11, "days", "(III)I"⟩
abbrev cX11_hang : ByteArray := prog_1_method_5_code
def yX11_hang : MethodName := ⟨RX11, "hang", "(III)I"⟩
abbrev cX11_takeDown : ByteArray := prog_1_method_6_code
def yX11_takeDown : MethodName := ⟨RX11, "takeDown", "(II)I"⟩
abbrev cX11_patch : ByteArray := prog_1_method_7_code
def yX11_patch : MethodName := ⟨RX11, "patch", "(III)I"⟩
abbrev cX11_feed : ByteArray := prog_1_method_8_code
def yX11_feed : MethodName := ⟨RX11, "feed", "(III)I"⟩
abbrev cX11_spread : ByteArray := prog_1_method_9_code
def yX11_spread : MethodName := ⟨RX11, "spread", "(I)I"⟩
abbrev cX11_at : ByteArray := prog_1_method_10_code
def yX11_at : MethodName := ⟨RX11, "at", "(III)I"⟩
abbrev cX11_record : ByteArray := prog_1_method_11_code
def yX11_record : MethodName := ⟨RX11, "record", "(III)I"⟩
abbrev cX11_go : ByteArray := prog_1_method_12_code
def yX11_go : MethodName := ⟨RX11, "go", "(II)I"⟩
abbrev cX11_reset : ByteArray := prog_1_method_13_code
def yX11_reset : MethodName := ⟨RX11, "reset", "(I)I"⟩
abbrev cX11_tick : ByteArray := prog_1_method_14_code
def yX11_tick : MethodName := ⟨RX11, "tick", "(I)I"⟩
abbrev cX11_carryOut : ByteArray := prog_1_method_15_code
def yX11_carryOut : MethodName := ⟨RX11, "carryOut", "(I)I"⟩
abbrev cX11_lamp : ByteArray := prog_1_method_16_code
def yX11_lamp : MethodName := ⟨RX11, "lamp", "(III)I"⟩
abbrev cX11_dimmer : ByteArray := prog_1_method_17_code
def yX11_dimmer : MethodName := ⟨RX11, "dimmer", "(III)I"⟩
abbrev cX11_phase : ByteArray := prog_1_method_18_code
def yX11_phase : MethodName := ⟨RX11, "phase", "(III)I"⟩
abbrev cX11_cue : ByteArray := prog_1_method_19_code
def yX11_cue : MethodName := ⟨RX11, "cue", "(III)I"⟩
abbrev cX11_inCue : ByteArray := prog_1_method_20_code
def yX11_inCue : MethodName := ⟨RX11, "inCue", "(III)I"⟩
abbrev cX11_of : ByteArray := prog_1_method_21_code
def yX11_of : MethodName := ⟨RX11, "of", "(II)I"⟩
abbrev cX11_hire : ByteArray := prog_1_method_22_code
def yX11_hire : MethodName := ⟨RX11, "hire", "(III)I"⟩
abbrev cX11_count : ByteArray := prog_1_method_23_code
def yX11_count : MethodName := ⟨RX11, "count", "(I)I"⟩
abbrev cX11_ifGo : ByteArray := prog_1_method_24_code
def yX11_ifGo : MethodName := ⟨RX11, "ifGo", "(III)I"⟩
abbrev cX11_safeTicks : ByteArray := prog_1_method_25_code
def yX11_safeTicks : MethodName := ⟨RX11, "safeTicks", "(II)I"⟩
abbrev cX11_bestFeed : ByteArray := prog_1_method_26_code
def yX11_bestFeed : MethodName := ⟨RX11, "bestFeed", "(II)I"⟩
abbrev cX11_ifDays : ByteArray := prog_1_method_27_code
def yX11_ifDays : MethodName := ⟨RX11, "ifDays", "(III)I"⟩
abbrev cX11_put : ByteArray := prog_1_method_28_code
def yX11_put : MethodName := ⟨RX11, "put", "(J)I"⟩
abbrev cX11_wipe : ByteArray := prog_1_method_29_code
def yX11_wipe : MethodName := ⟨RX11, "wipe", "()I"⟩
abbrev cX11_fault : ByteArray := prog_1_method_30_code
def yX11_fault : MethodName := ⟨RX11, "fault", "()I"⟩
abbrev cX11_undo : ByteArray := prog_1_method_31_code
def yX11_undo : MethodName := ⟨RX11, "undo", "()I"⟩
abbrev cX11_save : ByteArray := prog_1_method_32_code
def yX11_save : MethodName := ⟨RX11, "save", "(I)I"⟩
abbrev cX11_restore : ByteArray := prog_1_method_33_code
def yX11_restore : MethodName := ⟨RX11, "restore", "(I)I"⟩
abbrev cX11_loadByCue : ByteArray := prog_1_method_34_code
def yX11_loadByCue : MethodName := ⟨RX11, "loadByCue", "(LPhaseLights$Premiere;I)I"⟩
abbrev cX11_isIn : ByteArray := prog_1_method_35_code
def yX11_isIn : MethodName := ⟨RX11, "isIn", "(III)Z"⟩
abbrev cX11_isDimmer : ByteArray := prog_1_method_36_code
def yX11_isDimmer : MethodName := ⟨RX11, "isDimmer", "(I)Z"⟩
abbrev cX11_isDimmerOrNone : ByteArray := prog_1_method_37_code
def yX11_isDimmerOrNone : MethodName := ⟨RX11, "isDimmerOrNone", "(I)Z"⟩
abbrev cX11_isPhase : ByteArray := prog_1_method_38_code
def yX11_isPhase : MethodName := ⟨RX11, "isPhase", "(I)Z"⟩
abbrev cX11_isCue : ByteArray := prog_1_method_39_code
def yX11_isCue : MethodName := ⟨RX11, "isCue", "(I)Z"⟩
abbrev cX11_areDays : ByteArray := prog_1_method_40_code
def yX11_areDays : MethodName := ⟨RX11, "areDays", "(II)Z"⟩
abbrev cX11_hasBit : ByteArray := prog_1_method_41_code
def yX11_hasBit : MethodName := ⟨RX11, "hasBit", "(II)Z"⟩
abbrev cX11_greatest : ByteArray := prog_1_method_42_code
def yX11_greatest : MethodName := ⟨RX11, "greatest", "([I)I"⟩
abbrev cX11_least : ByteArray := prog_1_method_43_code
def yX11_least : MethodName := ⟨RX11, "least", "([I)I"⟩
abbrev cX11_clear : ByteArray := prog_1_method_44_code
def yX11_clear : MethodName := ⟨RX11, "clear", "([I)V"⟩
abbrev cX11_copy : ByteArray := prog_1_method_45_code
def yX11_copy : MethodName := ⟨RX11, "copy", "([I[I)V"⟩
abbrev cX11_closeGap : ByteArray := prog_1_method_46_code
def yX11_closeGap : MethodName := ⟨RX11, "closeGap", "([II)V"⟩
abbrev cX11_raise : ByteArray := prog_1_method_47_code
def yX11_raise : MethodName := ⟨RX11, "raise", "([I[I)V"⟩
def RX12 : String := "PhaseLightsModel"
def TX12 : u_T := fun k => match k with
  | 0 => ("PhaseLightsModel", "s", "[I", true)
  | 1 => ("PhaseLightsModel", "aside", "[I", true)
  | 2 => ("PhaseLightsModel", "before", "[I", true)
  | 3 => ("PhaseLightsModel", "known", "I", false)
  | 4 => ("PhaseLightsModel", "slots", "[I", true)
  | 5 => ("PhaseLightsModel", "isSaved", "[Z", true)
  | 6 => ("PhaseLightsModel", "pad", "[I", true)
  | 7 => ("PhaseLightsModel", "length", "I", false)
  | 8 => ("PhaseLightsModel", "worsts", "[I", true)
  | 9 => ("PhaseLightsModel", "sums", "[I", true)
  | 10 => ("PhaseLightsModel", "place", "I", false)
  | 11 => ("PhaseLightsModel", "isWrong", "Z", false)
  | 12 => ("PhaseLightsModel", "spans", "[I", true)
  | 13 => ("PhaseLightsModel", "spansMany", "I", false)
  | 14 => ("PhaseLightsModel", "letter", "I", false)
  | 15 => ("PhaseLightsModel", "one", "I", false)
  | 16 => ("PhaseLightsModel", "two", "I", false)
  | 17 => ("PhaseLightsModel", "trips", "I", false)
  | 18 => ("PhaseLightsModel", "firstTrip", "I", false)
  | 19 => ("PhaseLightsModel", "worstDimmer", "I", false)
  | _ => ("PhaseLightsModel", "worstPhase", "I", false)
def tyX12 : Nat → FieldType := fun k => match k with
  | 0 => .array .int
  | 1 => .array .int
  | 2 => .array .int
  | 3 => .int
  | 4 => .array .int
  | 5 => .array .boolean
  | 6 => .array .int
  | 7 => .int
  | 8 => .array .int
  | 9 => .array .int
  | 10 => .int
  | 11 => .boolean
  | 12 => .array .int
  | 13 => .int
  | 14 => .int
  | 15 => .int
  | 16 => .int
  | 17 => .int
  | 18 => .int
  | 19 => .int
  | _ => .int
abbrev wsX120 : List Cond := u_ws RX12 TX12 21
theorem nmX12 : ∀ a, a < 21 → ∀ b, b < 21 → a ≠ b → (TX12 a).2.1 ≠ (TX12 b).2.1 := by decide +kernel
theorem tyX12_ok : ∀ k, k < 21 → parseFieldDescriptor (TX12 k).2.2.1 = some (tyX12 k) := by decide +kernel
abbrev cX12_init : ByteArray := prog_14_method_1_code
def yX12_init : MethodName := ⟨RX12, "<init>", "()V"⟩
abbrev cX12_in : ByteArray := prog_14_method_3_code
def yX12_in : MethodName := ⟨RX12, "in", "(III)Z"⟩
abbrev cX12_at1 : ByteArray := prog_14_method_4_code
def yX12_at1 : MethodName := ⟨RX12, "at1", "(II)I"⟩
abbrev cX12_ofLamp : ByteArray := prog_14_method_5_code
def yX12_ofLamp : MethodName := ⟨RX12, "ofLamp", "(III)I"⟩
abbrev cX12_ofCue : ByteArray := prog_14_method_6_code
def yX12_ofCue : MethodName := ⟨RX12, "ofCue", "(II)I"⟩
abbrev cX12_isPremiere : ByteArray := prog_14_method_7_code
def yX12_isPremiere : MethodName := ⟨RX12, "isPremiere", "(I)Z"⟩
abbrev cX12_isLamp : ByteArray := prog_14_method_8_code
def yX12_isLamp : MethodName := ⟨RX12, "isLamp", "(II)Z"⟩
abbrev cX12_isDimmer : ByteArray := prog_14_method_9_code
def yX12_isDimmer : MethodName := ⟨RX12, "isDimmer", "(I)Z"⟩
abbrev cX12_know : ByteArray := prog_14_method_10_code
def yX12_know : MethodName := ⟨RX12, "know", "()V"⟩
abbrev cX12_putAside : ByteArray := prog_14_method_11_code
def yX12_putAside : MethodName := ⟨RX12, "putAside", "()V"⟩
abbrev cX12_putBack : ByteArray := prog_14_method_12_code
def yX12_putBack : MethodName := ⟨RX12, "putBack", "()V"⟩
abbrev cX12_watts : ByteArray := prog_14_method_13_code
def yX12_watts : MethodName := ⟨RX12, "watts", "(III)I"⟩
abbrev cX12_loadOfLamp : ByteArray := prog_14_method_14_code
def yX12_loadOfLamp : MethodName := ⟨RX12, "loadOfLamp", "(II)I"⟩
abbrev cX12_load : ByteArray := prog_14_method_15_code
def yX12_load : MethodName := ⟨RX12, "load", "(II)I"⟩
abbrev cX12_loadBy : ByteArray := prog_14_method_16_code
def yX12_loadBy : MethodName := ⟨RX12, "loadBy", "(III)I"⟩
abbrev cX12_worst : ByteArray := prog_14_method_17_code
def yX12_worst : MethodName := ⟨RX12, "worst", "(II)I"⟩
abbrev cX12_trip : ByteArray := prog_14_method_18_code
def yX12_trip : MethodName := ⟨RX12, "trip", "(IIII)I"⟩
abbrev cX12_turn : ByteArray := prog_14_method_19_code
def yX12_turn : MethodName := ⟨RX12, "turn", "(I)I"⟩
abbrev cX12_start : ByteArray := prog_14_method_20_code
def yX12_start : MethodName := ⟨RX12, "start", "(III)V"⟩
abbrev cX12_set : ByteArray := prog_14_method_21_code
def yX12_set : MethodName := ⟨RX12, "set", "(II)I"⟩
abbrev cX12_type : ByteArray := prog_14_method_22_code
def yX12_type : MethodName := ⟨RX12, "type", "(III)I"⟩
abbrev cX12_days : ByteArray := prog_14_method_23_code
def yX12_days : MethodName := ⟨RX12, "days", "(III)I"⟩
abbrev cX12_hang : ByteArray := prog_14_method_24_code
def yX12_hang : MethodName := ⟨RX12, "hang", "(III)I"⟩
abbrev cX12_takeDown : ByteArray := prog_14_method_25_code
def yX12_takeDown : MethodName := ⟨RX12, "takeDown", "(II)I"⟩
abbrev cX12_patch : ByteArray := prog_14_method_26_code
def yX12_patch : MethodName := ⟨RX12, "patch", "(III)I"⟩
abbrev cX12_feed : ByteArray := prog_14_method_27_code
def yX12_feed : MethodName := ⟨RX12, "feed", "(III)I"⟩
abbrev cX12_spread : ByteArray := prog_14_method_28_code
def yX12_spread : MethodName := ⟨RX12, "spread", "(I)I"⟩
abbrev cX12_atFault : ByteArray := prog_14_method_29_code
def yX12_atFault : MethodName := ⟨RX12, "atFault", "(III)I"⟩
abbrev cX12_at : ByteArray := prog_14_method_30_code
def yX12_at : MethodName := ⟨RX12, "at", "(III)I"⟩
abbrev cX12_isCue : ByteArray := prog_14_method_31_code
def yX12_isCue : MethodName := ⟨RX12, "isCue", "(II)Z"⟩
abbrev cX12_recordFault : ByteArray := prog_14_method_32_code
def yX12_recordFault : MethodName := ⟨RX12, "recordFault", "(III)I"⟩
abbrev cX12_records : ByteArray := prog_14_method_33_code
def yX12_records : MethodName := ⟨RX12, "records", "(III)I"⟩
abbrev cX12_record : ByteArray := prog_14_method_34_code
def yX12_record : MethodName := ⟨RX12, "record", "(III)I"⟩
abbrev cX12_goFault : ByteArray := prog_14_method_35_code
def yX12_goFault : MethodName := ⟨RX12, "goFault", "(II)I"⟩
abbrev cX12_go : ByteArray := prog_14_method_36_code
def yX12_go : MethodName := ⟨RX12, "go", "(II)I"⟩
abbrev cX12_resets : ByteArray := prog_14_method_37_code
def yX12_resets : MethodName := ⟨RX12, "resets", "(I)I"⟩
abbrev cX12_reset : ByteArray := prog_14_method_38_code
def yX12_reset : MethodName := ⟨RX12, "reset", "(I)I"⟩
abbrev cX12_tick : ByteArray := prog_14_method_39_code
def yX12_tick : MethodName := ⟨RX12, "tick", "(I)I"⟩
abbrev cX12_put : ByteArray := prog_14_method_40_code
def yX12_put : MethodName := ⟨RX12, "put", "(J)I"⟩
abbrev cX12_wipe : ByteArray := prog_14_method_41_code
def yX12_wipe : MethodName := ⟨RX12, "wipe", "()I"⟩
abbrev cX12_sign : ByteArray := prog_14_method_42_code
def yX12_sign : MethodName := ⟨RX12, "sign", "(II)I"⟩
abbrev cX12_isNext : ByteArray := prog_14_method_43_code
def yX12_isNext : MethodName := ⟨RX12, "isNext", "(II)Z"⟩
abbrev cX12_number : ByteArray := prog_14_method_44_code
def yX12_number : MethodName := ⟨RX12, "number", "(II)I"⟩
abbrev cX12_readLamps : ByteArray := prog_14_method_45_code
def yX12_readLamps : MethodName := ⟨RX12, "readLamps", "()V"⟩
abbrev cX12_order : ByteArray := prog_14_method_46_code
def yX12_order : MethodName := ⟨RX12, "order", "()V"⟩
abbrev cX12_wants : ByteArray := prog_14_method_47_code
def yX12_wants : MethodName := ⟨RX12, "wants", "(I)Z"⟩
abbrev cX12_does : ByteArray := prog_14_method_48_code
def yX12_does : MethodName := ⟨RX12, "does", "(I)Z"⟩
abbrev cX12_goThrough : ByteArray := prog_14_method_49_code
def yX12_goThrough : MethodName := ⟨RX12, "goThrough", "(ZI)I"⟩
abbrev cX12_fault : ByteArray := prog_14_method_50_code
def yX12_fault : MethodName := ⟨RX12, "fault", "()I"⟩
abbrev cX12_carryOut : ByteArray := prog_14_method_51_code
def yX12_carryOut : MethodName := ⟨RX12, "carryOut", "(I)I"⟩
abbrev cX12_lamp : ByteArray := prog_14_method_52_code
def yX12_lamp : MethodName := ⟨RX12, "lamp", "(III)I"⟩
abbrev cX12_lampsOn : ByteArray := prog_14_method_53_code
def yX12_lampsOn : MethodName := ⟨RX12, "lampsOn", "(II)I"⟩
abbrev cX12_dimmer : ByteArray := prog_14_method_54_code
def yX12_dimmer : MethodName := ⟨RX12, "dimmer", "(III)I"⟩
abbrev cX12_dimmersOf : ByteArray := prog_14_method_55_code
def yX12_dimmersOf : MethodName := ⟨RX12, "dimmersOf", "(II)I"⟩
abbrev cX12_phase : ByteArray := prog_14_method_56_code
def yX12_phase : MethodName := ⟨RX12, "phase", "(III)I"⟩
abbrev cX12_cue : ByteArray := prog_14_method_57_code
def yX12_cue : MethodName := ⟨RX12, "cue", "(III)I"⟩
abbrev cX12_inCue : ByteArray := prog_14_method_58_code
def yX12_inCue : MethodName := ⟨RX12, "inCue", "(III)I"⟩
abbrev cX12_loadOf : ByteArray := prog_14_method_59_code
def yX12_loadOf : MethodName := ⟨RX12, "loadOf", "(I)I"⟩
abbrev cX12_apart : ByteArray := prog_14_method_60_code
def yX12_apart : MethodName := ⟨RX12, "apart", "(I)I"⟩
abbrev cX12_tripped : ByteArray := prog_14_method_61_code
def yX12_tripped : MethodName := ⟨RX12, "tripped", "(III)I"⟩
abbrev cX12_recorded : ByteArray := prog_14_method_62_code
def yX12_recorded : MethodName := ⟨RX12, "recorded", "(I)I"⟩
abbrev cX12_of : ByteArray := prog_14_method_63_code
def yX12_of : MethodName := ⟨RX12, "of", "(II)I"⟩
abbrev cX12_needed : ByteArray := prog_14_method_64_code
def yX12_needed : MethodName := ⟨RX12, "needed", "(II)I"⟩
abbrev cX12_hired : ByteArray := prog_14_method_65_code
def yX12_hired : MethodName := ⟨RX12, "hired", "(III)I"⟩
abbrev cX12_hire : ByteArray := prog_14_method_66_code
def yX12_hire : MethodName := ⟨RX12, "hire", "(III)I"⟩
abbrev cX12_sum : ByteArray := prog_14_method_67_code
def yX12_sum : MethodName := ⟨RX12, "sum", "(I)I"⟩
abbrev cX12_fullest : ByteArray := prog_14_method_68_code
def yX12_fullest : MethodName := ⟨RX12, "fullest", "()I"⟩
abbrev cX12_count : ByteArray := prog_14_method_69_code
def yX12_count : MethodName := ⟨RX12, "count", "(I)I"⟩
abbrev cX12_tryOut : ByteArray := prog_14_method_70_code
def yX12_tryOut : MethodName := ⟨RX12, "tryOut", "(III)V"⟩
abbrev cX12_ifGo : ByteArray := prog_14_method_71_code
def yX12_ifGo : MethodName := ⟨RX12, "ifGo", "(III)I"⟩
abbrev cX12_safeTicks : ByteArray := prog_14_method_72_code
def yX12_safeTicks : MethodName := ⟨RX12, "safeTicks", "(II)I"⟩
abbrev cX12_bestFeed : ByteArray := prog_14_method_73_code
def yX12_bestFeed : MethodName := ⟨RX12, "bestFeed", "(II)I"⟩
abbrev cX12_ifDays : ByteArray := prog_14_method_74_code
def yX12_ifDays : MethodName := ⟨RX12, "ifDays", "(III)I"⟩
abbrev cX12_lamps : ByteArray := prog_14_method_75_code
def yX12_lamps : MethodName := ⟨RX12, "lamps", "()I"⟩
abbrev cX12_undo : ByteArray := prog_14_method_76_code
def yX12_undo : MethodName := ⟨RX12, "undo", "()I"⟩
abbrev cX12_save : ByteArray := prog_14_method_77_code
def yX12_save : MethodName := ⟨RX12, "save", "(I)I"⟩
abbrev cX12_restore : ByteArray := prog_14_method_78_code
def yX12_restore : MethodName := ⟨RX12, "restore", "(I)I"⟩
def RJx8e188 : String := "java/lang/Cloneable"
def TJx8e188 : u_T := fun k => match k with
  | _ => ("", "", "", false)
def tyJx8e188 : Nat → FieldType := fun k => match k with
  | _ => .int
abbrev wsJx8e1880 : List Cond := u_ws RJx8e188 TJx8e188 0
theorem nmJx8e188 : ∀ a, a < 0 → ∀ b, b < 0 → a ≠ b → (TJx8e188 a).2.1 ≠ (TJx8e188 b).2.1 := by decide +kernel
theorem tyJx8e188_ok : ∀ k, k < 0 → parseFieldDescriptor (TJx8e188 k).2.2.1 = some (tyJx8e188 k) := by decide +kernel
def RJ6 : String := "java/lang/Integer"
def TJ6 : u_T := fun k => match k with
  | _ => ("", "", "", false)
def tyJ6 : Nat → FieldType := fun k => match k with
  | _ => .int
abbrev wsJ60 : List Cond := u_ws RJ6 TJ6 0
theorem nmJ6 : ∀ a, a < 0 → ∀ b, b < 0 → a ≠ b → (TJ6 a).2.1 ≠ (TJ6 b).2.1 := by decide +kernel
theorem tyJ6_ok : ∀ k, k < 0 → parseFieldDescriptor (TJ6 k).2.2.1 = some (tyJ6 k) := by decide +kernel
abbrev cJ6_bitCount_0f7a4 : ByteArray := prog_16_method_49_code
def yJ6_bitCount_0f7a4 : MethodName := ⟨RJ6, "bitCount", "(I)I"⟩
def RJ9 : String := "java/lang/Math"
def TJ9 : u_T := fun k => match k with
  | _ => ("", "", "", false)
def tyJ9 : Nat → FieldType := fun k => match k with
  | _ => .int
abbrev wsJ90 : List Cond := u_ws RJ9 TJ9 0
theorem nmJ9 : ∀ a, a < 0 → ∀ b, b < 0 → a ≠ b → (TJ9 a).2.1 ≠ (TJ9 b).2.1 := by decide +kernel
theorem tyJ9_ok : ∀ k, k < 0 → parseFieldDescriptor (TJ9 k).2.2.1 = some (tyJ9 k) := by decide +kernel
abbrev cJ9_abs_0f7a4 : ByteArray := prog_17_method_59_code
def yJ9_abs_0f7a4 : MethodName := ⟨RJ9, "abs", "(I)I"⟩
abbrev cJ9_max_7cf53 : ByteArray := prog_17_method_65_code
def yJ9_max_7cf53 : MethodName := ⟨RJ9, "max", "(II)I"⟩
abbrev cJ9_min_7cf53 : ByteArray := prog_17_method_69_code
def yJ9_min_7cf53 : MethodName := ⟨RJ9, "min", "(II)I"⟩
def RL : String := "PhaseLightsLaw"
abbrev cL_law : ByteArray := code
def yL_law : MethodName := ⟨RL, "law", "([I)Z"⟩
abbrev vwCl : List vw_C := [(RX0, TX0, 2), (RX1, TX1, 4), (RX2, TX2, 2), (RX3, TX3, 2), (RX4, TX4, 11), (RX5, TX5, 2), (RX6, TX6, 13), (RX7, TX7, 3), (RX8, TX8, 5), (RX9, TX9, 4), (RX10, TX10, 2), (RX11, TX11, 9), (RX12, TX12, 21)]
end
section
theorem dX0_init_0 : decode cX0_init 0 = .ok (.aload_n 0, 1) := by decide +kernel
theorem dX0_init_1 : decode cX0_init 1 = .ok (.invokespecial 1, 3) := by decide +kernel
theorem dX0_init_4 : decode cX0_init 4 = .ok (.aload_n 0, 1) := by decide +kernel
theorem dX0_init_5 : decode cX0_init 5 = .ok (.aload_n 1, 1) := by decide +kernel
theorem dX0_init_6 : decode cX0_init 6 = .ok (.putfield 7, 3) := by decide +kernel
theorem dX0_init_9 : decode cX0_init 9 = .ok (.return_, 1) := by decide +kernel
theorem dX0_hasTripped_0 : decode cX0_hasTripped 0 = .ok (.aload_n 0, 1) := by decide +kernel
theorem dX0_hasTripped_1 : decode cX0_hasTripped 1 = .ok (.getfield 13, 3) := by decide +kernel
theorem dX0_hasTripped_4 : decode cX0_hasTripped 4 = .ok (.iload_n 1, 1) := by decide +kernel
theorem dX0_hasTripped_5 : decode cX0_hasTripped 5 = .ok (.ishr, 1) := by decide +kernel
theorem dX0_hasTripped_6 : decode cX0_hasTripped 6 = .ok (.iconst 1, 1) := by decide +kernel
theorem dX0_hasTripped_7 : decode cX0_hasTripped 7 = .ok (.iand, 1) := by decide +kernel
theorem dX0_hasTripped_8 : decode cX0_hasTripped 8 = .ok (.ifCond .eq 7, 3) := by decide +kernel
theorem dX0_hasTripped_11 : decode cX0_hasTripped 11 = .ok (.iconst 1, 1) := by decide +kernel
theorem dX0_hasTripped_12 : decode cX0_hasTripped 12 = .ok (.goto 4, 3) := by decide +kernel
theorem dX0_hasTripped_15 : decode cX0_hasTripped 15 = .ok (.iconst 0, 1) := by decide +kernel
theorem dX0_hasTripped_16 : decode cX0_hasTripped 16 = .ok (.ireturn, 1) := by decide +kernel
theorem dX0_check_0 : decode cX0_check 0 = .ok (.iconst 0, 1) := by decide +kernel
theorem dX0_check_1 : decode cX0_check 1 = .ok (.istore 4, 2) := by decide +kernel
theorem dX0_check_3 : decode cX0_check 3 = .ok (.iconst 0, 1) := by decide +kernel
theorem dX0_check_4 : decode cX0_check 4 = .ok (.istore 5, 2) := by decide +kernel
theorem dX0_check_6 : decode cX0_check 6 = .ok (.iload 5, 2) := by decide +kernel
theorem dX0_check_8 : decode cX0_check 8 = .ok (.aload_n 0, 1) := by decide +kernel
theorem dX0_check_9 : decode cX0_check 9 = .ok (.getfield 7, 3) := by decide +kernel
theorem dX0_check_12 : decode cX0_check 12 = .ok (.arraylength, 1) := by decide +kernel
theorem dX0_check_13 : decode cX0_check 13 = .ok (.if_icmp .ge 79, 3) := by decide +kernel
theorem dX0_check_16 : decode cX0_check 16 = .ok (.iload 5, 2) := by decide +kernel
theorem dX0_check_18 : decode cX0_check 18 = .ok (.aload_n 1, 1) := by decide +kernel
theorem dX0_check_19 : decode cX0_check 19 = .ok (.arraylength, 1) := by decide +kernel
theorem dX0_check_20 : decode cX0_check 20 = .ok (.if_icmp .ge 72, 3) := by decide +kernel
theorem dX0_check_23 : decode cX0_check 23 = .ok (.aload_n 0, 1) := by decide +kernel
theorem dX0_check_24 : decode cX0_check 24 = .ok (.getfield 7, 3) := by decide +kernel
theorem dX0_check_27 : decode cX0_check 27 = .ok (.iload 5, 2) := by decide +kernel
theorem dX0_check_29 : decode cX0_check 29 = .ok (.aload_n 1, 1) := by decide +kernel
theorem dX0_check_30 : decode cX0_check 30 = .ok (.iload 5, 2) := by decide +kernel
theorem dX0_check_32 : decode cX0_check 32 = .ok (.iaload, 1) := by decide +kernel
theorem dX0_check_33 : decode cX0_check 33 = .ok (.iload_n 2, 1) := by decide +kernel
theorem dX0_check_34 : decode cX0_check 34 = .ok (.if_icmp .le 15, 3) := by decide +kernel
theorem dX0_check_37 : decode cX0_check 37 = .ok (.aload_n 0, 1) := by decide +kernel
theorem dX0_check_38 : decode cX0_check 38 = .ok (.getfield 7, 3) := by decide +kernel
theorem dX0_check_41 : decode cX0_check 41 = .ok (.iload 5, 2) := by decide +kernel
theorem dX0_check_43 : decode cX0_check 43 = .ok (.iaload, 1) := by decide +kernel
theorem dX0_check_44 : decode cX0_check 44 = .ok (.iconst 1, 1) := by decide +kernel
theorem dX0_check_45 : decode cX0_check 45 = .ok (.iadd, 1) := by decide +kernel
theorem dX0_check_46 : decode cX0_check 46 = .ok (.goto 4, 3) := by decide +kernel
theorem dX0_check_49 : decode cX0_check 49 = .ok (.iconst 0, 1) := by decide +kernel
theorem dX0_check_50 : decode cX0_check 50 = .ok (.iastore, 1) := by decide +kernel
theorem dX0_check_51 : decode cX0_check 51 = .ok (.aload_n 0, 1) := by decide +kernel
theorem dX0_check_52 : decode cX0_check 52 = .ok (.getfield 7, 3) := by decide +kernel
theorem dX0_check_55 : decode cX0_check 55 = .ok (.iload 5, 2) := by decide +kernel
theorem dX0_check_57 : decode cX0_check 57 = .ok (.iaload, 1) := by decide +kernel
theorem dX0_check_58 : decode cX0_check 58 = .ok (.iload_n 3, 1) := by decide +kernel
theorem dX0_check_59 : decode cX0_check 59 = .ok (.if_icmp .lt 27, 3) := by decide +kernel
theorem dX0_check_62 : decode cX0_check 62 = .ok (.aload_n 0, 1) := by decide +kernel
theorem dX0_check_63 : decode cX0_check 63 = .ok (.getfield 7, 3) := by decide +kernel
theorem dX0_check_66 : decode cX0_check 66 = .ok (.iload 5, 2) := by decide +kernel
theorem dX0_check_68 : decode cX0_check 68 = .ok (.iconst 0, 1) := by decide +kernel
theorem dX0_check_69 : decode cX0_check 69 = .ok (.iastore, 1) := by decide +kernel
theorem dX0_check_70 : decode cX0_check 70 = .ok (.aload_n 0, 1) := by decide +kernel
theorem dX0_check_71 : decode cX0_check 71 = .ok (.dup, 1) := by decide +kernel
theorem dX0_check_72 : decode cX0_check 72 = .ok (.getfield 13, 3) := by decide +kernel
theorem dX0_check_75 : decode cX0_check 75 = .ok (.iconst 1, 1) := by decide +kernel
theorem dX0_check_76 : decode cX0_check 76 = .ok (.iload 5, 2) := by decide +kernel
theorem dX0_check_78 : decode cX0_check 78 = .ok (.ishl, 1) := by decide +kernel
theorem dX0_check_79 : decode cX0_check 79 = .ok (.ior, 1) := by decide +kernel
theorem dX0_check_80 : decode cX0_check 80 = .ok (.putfield 13, 3) := by decide +kernel
theorem dX0_check_83 : decode cX0_check 83 = .ok (.iinc 4 1, 3) := by decide +kernel
theorem dX0_check_86 : decode cX0_check 86 = .ok (.iinc 5 1, 3) := by decide +kernel
theorem dX0_check_89 : decode cX0_check 89 = .ok (.goto (-83), 3) := by decide +kernel
theorem dX0_check_92 : decode cX0_check 92 = .ok (.iload 4, 2) := by decide +kernel
theorem dX0_check_94 : decode cX0_check 94 = .ok (.ireturn, 1) := by decide +kernel
theorem dX0_clearTrips_0 : decode cX0_clearTrips 0 = .ok (.aload_n 0, 1) := by decide +kernel
theorem dX0_clearTrips_1 : decode cX0_clearTrips 1 = .ok (.getfield 13, 3) := by decide +kernel
theorem dX0_clearTrips_4 : decode cX0_clearTrips 4 = .ok (.invokestatic 17, 3) := by decide +kernel
theorem dX0_clearTrips_7 : decode cX0_clearTrips 7 = .ok (.istore_n 1, 1) := by decide +kernel
theorem dX0_clearTrips_8 : decode cX0_clearTrips 8 = .ok (.aload_n 0, 1) := by decide +kernel
theorem dX0_clearTrips_9 : decode cX0_clearTrips 9 = .ok (.iconst 0, 1) := by decide +kernel
theorem dX0_clearTrips_10 : decode cX0_clearTrips 10 = .ok (.putfield 13, 3) := by decide +kernel
theorem dX0_clearTrips_13 : decode cX0_clearTrips 13 = .ok (.aload_n 0, 1) := by decide +kernel
theorem dX0_clearTrips_14 : decode cX0_clearTrips 14 = .ok (.getfield 7, 3) := by decide +kernel
theorem dX0_clearTrips_17 : decode cX0_clearTrips 17 = .ok (.invokestatic 23, 3) := by decide +kernel
theorem dX0_clearTrips_20 : decode cX0_clearTrips 20 = .ok (.iload_n 1, 1) := by decide +kernel
theorem dX0_clearTrips_21 : decode cX0_clearTrips 21 = .ok (.ireturn, 1) := by decide +kernel
theorem dX0_copyFrom_0 : decode cX0_copyFrom 0 = .ok (.aload_n 0, 1) := by decide +kernel
theorem dX0_copyFrom_1 : decode cX0_copyFrom 1 = .ok (.aload_n 1, 1) := by decide +kernel
theorem dX0_copyFrom_2 : decode cX0_copyFrom 2 = .ok (.getfield 13, 3) := by decide +kernel
theorem dX0_copyFrom_5 : decode cX0_copyFrom 5 = .ok (.putfield 13, 3) := by decide +kernel
theorem dX0_copyFrom_8 : decode cX0_copyFrom 8 = .ok (.aload_n 1, 1) := by decide +kernel
theorem dX0_copyFrom_9 : decode cX0_copyFrom 9 = .ok (.getfield 7, 3) := by decide +kernel
theorem dX0_copyFrom_12 : decode cX0_copyFrom 12 = .ok (.aload_n 0, 1) := by decide +kernel
theorem dX0_copyFrom_13 : decode cX0_copyFrom 13 = .ok (.getfield 7, 3) := by decide +kernel
theorem dX0_copyFrom_16 : decode cX0_copyFrom 16 = .ok (.invokestatic 29, 3) := by decide +kernel
theorem dX0_copyFrom_19 : decode cX0_copyFrom 19 = .ok (.return_, 1) := by decide +kernel
theorem dX1_init_0 : decode cX1_init 0 = .ok (.aload_n 0, 1) := by decide +kernel
theorem dX1_init_1 : decode cX1_init 1 = .ok (.invokespecial 3, 3) := by decide +kernel
theorem dX1_init_4 : decode cX1_init 4 = .ok (.aload_n 0, 1) := by decide +kernel
theorem dX1_init_5 : decode cX1_init 5 = .ok (.bipush 12, 2) := by decide +kernel
theorem dX1_init_7 : decode cX1_init 7 = .ok (.newarray .int, 2) := by decide +kernel
theorem dX1_init_9 : decode cX1_init 9 = .ok (.putfield 9, 3) := by decide +kernel
theorem dX1_init_12 : decode cX1_init 12 = .ok (.aload_n 0, 1) := by decide +kernel
theorem dX1_init_13 : decode cX1_init 13 = .ok (.bipush 12, 2) := by decide +kernel
theorem dX1_init_15 : decode cX1_init 15 = .ok (.newarray .int, 2) := by decide +kernel
theorem dX1_init_17 : decode cX1_init 17 = .ok (.putfield 15, 3) := by decide +kernel
theorem dX1_init_20 : decode cX1_init 20 = .ok (.return_, 1) := by decide +kernel
theorem dX1_start_0 : decode cX1_start 0 = .ok (.aload_n 0, 1) := by decide +kernel
theorem dX1_start_1 : decode cX1_start 1 = .ok (.iload_n 3, 1) := by decide +kernel
theorem dX1_start_2 : decode cX1_start 2 = .ok (.putfield 18, 3) := by decide +kernel
theorem dX1_start_5 : decode cX1_start 5 = .ok (.aload_n 0, 1) := by decide +kernel
theorem dX1_start_6 : decode cX1_start 6 = .ok (.iconst 0, 1) := by decide +kernel
theorem dX1_start_7 : decode cX1_start 7 = .ok (.putfield 22, 3) := by decide +kernel
theorem dX1_start_10 : decode cX1_start 10 = .ok (.aload_n 1, 1) := by decide +kernel
theorem dX1_start_11 : decode cX1_start 11 = .ok (.aload_n 0, 1) := by decide +kernel
theorem dX1_start_12 : decode cX1_start 12 = .ok (.getfield 9, 3) := by decide +kernel
theorem dX1_start_15 : decode cX1_start 15 = .ok (.invokestatic 25, 3) := by decide +kernel
theorem dX1_start_18 : decode cX1_start 18 = .ok (.aload_n 2, 1) := by decide +kernel
theorem dX1_start_19 : decode cX1_start 19 = .ok (.aload_n 0, 1) := by decide +kernel
theorem dX1_start_20 : decode cX1_start 20 = .ok (.getfield 15, 3) := by decide +kernel
theorem dX1_start_23 : decode cX1_start 23 = .ok (.invokestatic 25, 3) := by decide +kernel
theorem dX1_start_26 : decode cX1_start 26 = .ok (.return_, 1) := by decide +kernel
theorem dX1_ticksLeft_0 : decode cX1_ticksLeft 0 = .ok (.aload_n 0, 1) := by decide +kernel
theorem dX1_ticksLeft_1 : decode cX1_ticksLeft 1 = .ok (.getfield 18, 3) := by decide +kernel
theorem dX1_ticksLeft_4 : decode cX1_ticksLeft 4 = .ok (.aload_n 0, 1) := by decide +kernel
theorem dX1_ticksLeft_5 : decode cX1_ticksLeft 5 = .ok (.getfield 22, 3) := by decide +kernel
theorem dX1_ticksLeft_8 : decode cX1_ticksLeft 8 = .ok (.isub, 1) := by decide +kernel
theorem dX1_ticksLeft_9 : decode cX1_ticksLeft 9 = .ok (.ireturn, 1) := by decide +kernel
theorem dX1_step_0 : decode cX1_step 0 = .ok (.aload_n 0, 1) := by decide +kernel
theorem dX1_step_1 : decode cX1_step 1 = .ok (.getfield 18, 3) := by decide +kernel
theorem dX1_step_4 : decode cX1_step 4 = .ok (.ifCond .gt 4, 3) := by decide +kernel
theorem dX1_step_7 : decode cX1_step 7 = .ok (.return_, 1) := by decide +kernel
theorem dX1_step_8 : decode cX1_step 8 = .ok (.aload_n 0, 1) := by decide +kernel
theorem dX1_step_9 : decode cX1_step 9 = .ok (.dup, 1) := by decide +kernel
theorem dX1_step_10 : decode cX1_step 10 = .ok (.getfield 22, 3) := by decide +kernel
theorem dX1_step_13 : decode cX1_step 13 = .ok (.iconst 1, 1) := by decide +kernel
theorem dX1_step_14 : decode cX1_step 14 = .ok (.iadd, 1) := by decide +kernel
theorem dX1_step_15 : decode cX1_step 15 = .ok (.putfield 22, 3) := by decide +kernel
theorem dX1_step_18 : decode cX1_step 18 = .ok (.iconst 0, 1) := by decide +kernel
theorem dX1_step_19 : decode cX1_step 19 = .ok (.istore_n 2, 1) := by decide +kernel
theorem dX1_step_20 : decode cX1_step 20 = .ok (.iload_n 2, 1) := by decide +kernel
theorem dX1_step_21 : decode cX1_step 21 = .ok (.bipush 12, 2) := by decide +kernel
theorem dX1_step_23 : decode cX1_step 23 = .ok (.if_icmp .ge 48, 3) := by decide +kernel
theorem dX1_step_26 : decode cX1_step 26 = .ok (.iload_n 2, 1) := by decide +kernel
theorem dX1_step_27 : decode cX1_step 27 = .ok (.aload_n 1, 1) := by decide +kernel
theorem dX1_step_28 : decode cX1_step 28 = .ok (.arraylength, 1) := by decide +kernel
theorem dX1_step_29 : decode cX1_step 29 = .ok (.if_icmp .ge 42, 3) := by decide +kernel
theorem dX1_step_32 : decode cX1_step 32 = .ok (.aload_n 1, 1) := by decide +kernel
theorem dX1_step_33 : decode cX1_step 33 = .ok (.iload_n 2, 1) := by decide +kernel
theorem dX1_step_34 : decode cX1_step 34 = .ok (.aload_n 0, 1) := by decide +kernel
theorem dX1_step_35 : decode cX1_step 35 = .ok (.getfield 9, 3) := by decide +kernel
theorem dX1_step_38 : decode cX1_step 38 = .ok (.iload_n 2, 1) := by decide +kernel
theorem dX1_step_39 : decode cX1_step 39 = .ok (.iaload, 1) := by decide +kernel
theorem dX1_step_40 : decode cX1_step 40 = .ok (.aload_n 0, 1) := by decide +kernel
theorem dX1_step_41 : decode cX1_step 41 = .ok (.getfield 15, 3) := by decide +kernel
theorem dX1_step_44 : decode cX1_step 44 = .ok (.iload_n 2, 1) := by decide +kernel
theorem dX1_step_45 : decode cX1_step 45 = .ok (.iaload, 1) := by decide +kernel
theorem dX1_step_46 : decode cX1_step 46 = .ok (.aload_n 0, 1) := by decide +kernel
theorem dX1_step_47 : decode cX1_step 47 = .ok (.getfield 9, 3) := by decide +kernel
theorem dX1_step_50 : decode cX1_step 50 = .ok (.iload_n 2, 1) := by decide +kernel
theorem dX1_step_51 : decode cX1_step 51 = .ok (.iaload, 1) := by decide +kernel
theorem dX1_step_52 : decode cX1_step 52 = .ok (.isub, 1) := by decide +kernel
theorem dX1_step_53 : decode cX1_step 53 = .ok (.aload_n 0, 1) := by decide +kernel
theorem dX1_step_54 : decode cX1_step 54 = .ok (.getfield 22, 3) := by decide +kernel
theorem dX1_step_57 : decode cX1_step 57 = .ok (.imul, 1) := by decide +kernel
theorem dX1_step_58 : decode cX1_step 58 = .ok (.aload_n 0, 1) := by decide +kernel
theorem dX1_step_59 : decode cX1_step 59 = .ok (.getfield 18, 3) := by decide +kernel
theorem dX1_step_62 : decode cX1_step 62 = .ok (.idiv, 1) := by decide +kernel
theorem dX1_step_63 : decode cX1_step 63 = .ok (.iadd, 1) := by decide +kernel
theorem dX1_step_64 : decode cX1_step 64 = .ok (.iastore, 1) := by decide +kernel
theorem dX1_step_65 : decode cX1_step 65 = .ok (.iinc 2 1, 3) := by decide +kernel
theorem dX1_step_68 : decode cX1_step 68 = .ok (.goto (-48), 3) := by decide +kernel
theorem dX1_step_71 : decode cX1_step 71 = .ok (.aload_n 0, 1) := by decide +kernel
theorem dX1_step_72 : decode cX1_step 72 = .ok (.getfield 22, 3) := by decide +kernel
theorem dX1_step_75 : decode cX1_step 75 = .ok (.aload_n 0, 1) := by decide +kernel
theorem dX1_step_76 : decode cX1_step 76 = .ok (.getfield 18, 3) := by decide +kernel
theorem dX1_step_79 : decode cX1_step 79 = .ok (.if_icmp .lt 13, 3) := by decide +kernel
theorem dX1_step_82 : decode cX1_step 82 = .ok (.aload_n 0, 1) := by decide +kernel
theorem dX1_step_83 : decode cX1_step 83 = .ok (.iconst 0, 1) := by decide +kernel
theorem dX1_step_84 : decode cX1_step 84 = .ok (.putfield 18, 3) := by decide +kernel
theorem dX1_step_87 : decode cX1_step 87 = .ok (.aload_n 0, 1) := by decide +kernel
theorem dX1_step_88 : decode cX1_step 88 = .ok (.iconst 0, 1) := by decide +kernel
theorem dX1_step_89 : decode cX1_step 89 = .ok (.putfield 22, 3) := by decide +kernel
theorem dX1_step_92 : decode cX1_step 92 = .ok (.return_, 1) := by decide +kernel
theorem dX1_removeLamp_0 : decode cX1_removeLamp 0 = .ok (.aload_n 0, 1) := by decide +kernel
theorem dX1_removeLamp_1 : decode cX1_removeLamp 1 = .ok (.getfield 9, 3) := by decide +kernel
theorem dX1_removeLamp_4 : decode cX1_removeLamp 4 = .ok (.iload_n 1, 1) := by decide +kernel
theorem dX1_removeLamp_5 : decode cX1_removeLamp 5 = .ok (.invokestatic 29, 3) := by decide +kernel
theorem dX1_removeLamp_8 : decode cX1_removeLamp 8 = .ok (.aload_n 0, 1) := by decide +kernel
theorem dX1_removeLamp_9 : decode cX1_removeLamp 9 = .ok (.getfield 15, 3) := by decide +kernel
theorem dX1_removeLamp_12 : decode cX1_removeLamp 12 = .ok (.iload_n 1, 1) := by decide +kernel
theorem dX1_removeLamp_13 : decode cX1_removeLamp 13 = .ok (.invokestatic 29, 3) := by decide +kernel
theorem dX1_removeLamp_16 : decode cX1_removeLamp 16 = .ok (.return_, 1) := by decide +kernel
theorem dX1_copyFrom_0 : decode cX1_copyFrom 0 = .ok (.aload_n 0, 1) := by decide +kernel
theorem dX1_copyFrom_1 : decode cX1_copyFrom 1 = .ok (.aload_n 1, 1) := by decide +kernel
theorem dX1_copyFrom_2 : decode cX1_copyFrom 2 = .ok (.getfield 18, 3) := by decide +kernel
theorem dX1_copyFrom_5 : decode cX1_copyFrom 5 = .ok (.putfield 18, 3) := by decide +kernel
theorem dX1_copyFrom_8 : decode cX1_copyFrom 8 = .ok (.aload_n 0, 1) := by decide +kernel
theorem dX1_copyFrom_9 : decode cX1_copyFrom 9 = .ok (.aload_n 1, 1) := by decide +kernel
theorem dX1_copyFrom_10 : decode cX1_copyFrom 10 = .ok (.getfield 22, 3) := by decide +kernel
theorem dX1_copyFrom_13 : decode cX1_copyFrom 13 = .ok (.putfield 22, 3) := by decide +kernel
theorem dX1_copyFrom_16 : decode cX1_copyFrom 16 = .ok (.aload_n 1, 1) := by decide +kernel
theorem dX1_copyFrom_17 : decode cX1_copyFrom 17 = .ok (.getfield 9, 3) := by decide +kernel
theorem dX1_copyFrom_20 : decode cX1_copyFrom 20 = .ok (.aload_n 0, 1) := by decide +kernel
theorem dX1_copyFrom_21 : decode cX1_copyFrom 21 = .ok (.getfield 9, 3) := by decide +kernel
theorem dX1_copyFrom_24 : decode cX1_copyFrom 24 = .ok (.invokestatic 25, 3) := by decide +kernel
theorem dX1_copyFrom_27 : decode cX1_copyFrom 27 = .ok (.aload_n 1, 1) := by decide +kernel
theorem dX1_copyFrom_28 : decode cX1_copyFrom 28 = .ok (.getfield 15, 3) := by decide +kernel
theorem dX1_copyFrom_31 : decode cX1_copyFrom 31 = .ok (.aload_n 0, 1) := by decide +kernel
theorem dX1_copyFrom_32 : decode cX1_copyFrom 32 = .ok (.getfield 15, 3) := by decide +kernel
theorem dX1_copyFrom_35 : decode cX1_copyFrom 35 = .ok (.invokestatic 25, 3) := by decide +kernel
theorem dX1_copyFrom_38 : decode cX1_copyFrom 38 = .ok (.return_, 1) := by decide +kernel
theorem dX2_init_0 : decode cX2_init 0 = .ok (.aload_n 0, 1) := by decide +kernel
theorem dX2_init_1 : decode cX2_init 1 = .ok (.invokespecial 3, 3) := by decide +kernel
theorem dX2_init_4 : decode cX2_init 4 = .ok (.aload_n 0, 1) := by decide +kernel
theorem dX2_init_5 : decode cX2_init 5 = .ok (.bipush 6, 2) := by decide +kernel
theorem dX2_init_7 : decode cX2_init 7 = .ok (.anewarray 9, 3) := by decide +kernel
theorem dX2_init_10 : decode cX2_init 10 = .ok (.putfield 11, 3) := by decide +kernel
theorem dX2_init_13 : decode cX2_init 13 = .ok (.iconst 0, 1) := by decide +kernel
theorem dX2_init_14 : decode cX2_init 14 = .ok (.istore_n 1, 1) := by decide +kernel
theorem dX2_init_15 : decode cX2_init 15 = .ok (.iload_n 1, 1) := by decide +kernel
theorem dX2_init_16 : decode cX2_init 16 = .ok (.aload_n 0, 1) := by decide +kernel
theorem dX2_init_17 : decode cX2_init 17 = .ok (.getfield 11, 3) := by decide +kernel
theorem dX2_init_20 : decode cX2_init 20 = .ok (.arraylength, 1) := by decide +kernel
theorem dX2_init_21 : decode cX2_init 21 = .ok (.if_icmp .ge 22, 3) := by decide +kernel
theorem dX2_init_24 : decode cX2_init 24 = .ok (.aload_n 0, 1) := by decide +kernel
theorem dX2_init_25 : decode cX2_init 25 = .ok (.getfield 11, 3) := by decide +kernel
theorem dX2_init_28 : decode cX2_init 28 = .ok (.iload_n 1, 1) := by decide +kernel
theorem dX2_init_29 : decode cX2_init 29 = .ok (.new 9, 3) := by decide +kernel
theorem dX2_init_32 : decode cX2_init 32 = .ok (.dup, 1) := by decide +kernel
theorem dX2_init_33 : decode cX2_init 33 = .ok (.invokespecial 17, 3) := by decide +kernel
theorem dX2_init_36 : decode cX2_init 36 = .ok (.aastore, 1) := by decide +kernel
theorem dX2_init_37 : decode cX2_init 37 = .ok (.iinc 1 1, 3) := by decide +kernel
theorem dX2_init_40 : decode cX2_init 40 = .ok (.goto (-25), 3) := by decide +kernel
theorem dX2_init_43 : decode cX2_init 43 = .ok (.return_, 1) := by decide +kernel
theorem dX2_push_0 : decode cX2_push 0 = .ok (.aload_n 0, 1) := by decide +kernel
theorem dX2_push_1 : decode cX2_push 1 = .ok (.getfield 18, 3) := by decide +kernel
theorem dX2_push_4 : decode cX2_push 4 = .ok (.aload_n 0, 1) := by decide +kernel
theorem dX2_push_5 : decode cX2_push 5 = .ok (.getfield 11, 3) := by decide +kernel
theorem dX2_push_8 : decode cX2_push 8 = .ok (.arraylength, 1) := by decide +kernel
theorem dX2_push_9 : decode cX2_push 9 = .ok (.if_icmp .lt 7, 3) := by decide +kernel
theorem dX2_push_12 : decode cX2_push 12 = .ok (.aload_n 0, 1) := by decide +kernel
theorem dX2_push_13 : decode cX2_push 13 = .ok (.invokevirtual 22, 3) := by decide +kernel
theorem dX2_push_16 : decode cX2_push 16 = .ok (.aload_n 0, 1) := by decide +kernel
theorem dX2_push_17 : decode cX2_push 17 = .ok (.getfield 11, 3) := by decide +kernel
theorem dX2_push_20 : decode cX2_push 20 = .ok (.aload_n 0, 1) := by decide +kernel
theorem dX2_push_21 : decode cX2_push 21 = .ok (.getfield 18, 3) := by decide +kernel
theorem dX2_push_24 : decode cX2_push 24 = .ok (.aaload, 1) := by decide +kernel
theorem dX2_push_25 : decode cX2_push 25 = .ok (.aload_n 1, 1) := by decide +kernel
theorem dX2_push_26 : decode cX2_push 26 = .ok (.invokevirtual 25, 3) := by decide +kernel
theorem dX2_push_29 : decode cX2_push 29 = .ok (.aload_n 0, 1) := by decide +kernel
theorem dX2_push_30 : decode cX2_push 30 = .ok (.dup, 1) := by decide +kernel
theorem dX2_push_31 : decode cX2_push 31 = .ok (.getfield 18, 3) := by decide +kernel
theorem dX2_push_34 : decode cX2_push 34 = .ok (.iconst 1, 1) := by decide +kernel
theorem dX2_push_35 : decode cX2_push 35 = .ok (.iadd, 1) := by decide +kernel
theorem dX2_push_36 : decode cX2_push 36 = .ok (.putfield 18, 3) := by decide +kernel
theorem dX2_push_39 : decode cX2_push 39 = .ok (.return_, 1) := by decide +kernel
theorem dX2_pop_0 : decode cX2_pop 0 = .ok (.aload_n 0, 1) := by decide +kernel
theorem dX2_pop_1 : decode cX2_pop 1 = .ok (.getfield 18, 3) := by decide +kernel
theorem dX2_pop_4 : decode cX2_pop 4 = .ok (.ifCond .gt 5, 3) := by decide +kernel
theorem dX2_pop_7 : decode cX2_pop 7 = .ok (.iconst 0, 1) := by decide +kernel
theorem dX2_pop_8 : decode cX2_pop 8 = .ok (.ireturn, 1) := by decide +kernel
theorem dX2_pop_9 : decode cX2_pop 9 = .ok (.aload_n 0, 1) := by decide +kernel
theorem dX2_pop_10 : decode cX2_pop 10 = .ok (.dup, 1) := by decide +kernel
theorem dX2_pop_11 : decode cX2_pop 11 = .ok (.getfield 18, 3) := by decide +kernel
theorem dX2_pop_14 : decode cX2_pop 14 = .ok (.iconst 1, 1) := by decide +kernel
theorem dX2_pop_15 : decode cX2_pop 15 = .ok (.isub, 1) := by decide +kernel
theorem dX2_pop_16 : decode cX2_pop 16 = .ok (.putfield 18, 3) := by decide +kernel
theorem dX2_pop_19 : decode cX2_pop 19 = .ok (.aload_n 1, 1) := by decide +kernel
theorem dX2_pop_20 : decode cX2_pop 20 = .ok (.aload_n 0, 1) := by decide +kernel
theorem dX2_pop_21 : decode cX2_pop 21 = .ok (.getfield 11, 3) := by decide +kernel
theorem dX2_pop_24 : decode cX2_pop 24 = .ok (.aload_n 0, 1) := by decide +kernel
theorem dX2_pop_25 : decode cX2_pop 25 = .ok (.getfield 18, 3) := by decide +kernel
theorem dX2_pop_28 : decode cX2_pop 28 = .ok (.aaload, 1) := by decide +kernel
theorem dX2_pop_29 : decode cX2_pop 29 = .ok (.invokevirtual 25, 3) := by decide +kernel
theorem dX2_pop_32 : decode cX2_pop 32 = .ok (.iconst 1, 1) := by decide +kernel
theorem dX2_pop_33 : decode cX2_pop 33 = .ok (.ireturn, 1) := by decide +kernel
theorem dX2_dropOldest_0 : decode cX2_dropOldest 0 = .ok (.aload_n 0, 1) := by decide +kernel
theorem dX2_dropOldest_1 : decode cX2_dropOldest 1 = .ok (.getfield 11, 3) := by decide +kernel
theorem dX2_dropOldest_4 : decode cX2_dropOldest 4 = .ok (.iconst 0, 1) := by decide +kernel
theorem dX2_dropOldest_5 : decode cX2_dropOldest 5 = .ok (.aaload, 1) := by decide +kernel
theorem dX2_dropOldest_6 : decode cX2_dropOldest 6 = .ok (.astore_n 1, 1) := by decide +kernel
theorem dX2_dropOldest_7 : decode cX2_dropOldest 7 = .ok (.iconst 0, 1) := by decide +kernel
theorem dX2_dropOldest_8 : decode cX2_dropOldest 8 = .ok (.istore_n 2, 1) := by decide +kernel
theorem dX2_dropOldest_9 : decode cX2_dropOldest 9 = .ok (.iload_n 2, 1) := by decide +kernel
theorem dX2_dropOldest_10 : decode cX2_dropOldest 10 = .ok (.iconst 1, 1) := by decide +kernel
theorem dX2_dropOldest_11 : decode cX2_dropOldest 11 = .ok (.iadd, 1) := by decide +kernel
theorem dX2_dropOldest_12 : decode cX2_dropOldest 12 = .ok (.aload_n 0, 1) := by decide +kernel
theorem dX2_dropOldest_13 : decode cX2_dropOldest 13 = .ok (.getfield 11, 3) := by decide +kernel
theorem dX2_dropOldest_16 : decode cX2_dropOldest 16 = .ok (.arraylength, 1) := by decide +kernel
theorem dX2_dropOldest_17 : decode cX2_dropOldest 17 = .ok (.if_icmp .ge 23, 3) := by decide +kernel
theorem dX2_dropOldest_20 : decode cX2_dropOldest 20 = .ok (.aload_n 0, 1) := by decide +kernel
theorem dX2_dropOldest_21 : decode cX2_dropOldest 21 = .ok (.getfield 11, 3) := by decide +kernel
theorem dX2_dropOldest_24 : decode cX2_dropOldest 24 = .ok (.iload_n 2, 1) := by decide +kernel
theorem dX2_dropOldest_25 : decode cX2_dropOldest 25 = .ok (.aload_n 0, 1) := by decide +kernel
theorem dX2_dropOldest_26 : decode cX2_dropOldest 26 = .ok (.getfield 11, 3) := by decide +kernel
theorem dX2_dropOldest_29 : decode cX2_dropOldest 29 = .ok (.iload_n 2, 1) := by decide +kernel
theorem dX2_dropOldest_30 : decode cX2_dropOldest 30 = .ok (.iconst 1, 1) := by decide +kernel
theorem dX2_dropOldest_31 : decode cX2_dropOldest 31 = .ok (.iadd, 1) := by decide +kernel
theorem dX2_dropOldest_32 : decode cX2_dropOldest 32 = .ok (.aaload, 1) := by decide +kernel
theorem dX2_dropOldest_33 : decode cX2_dropOldest 33 = .ok (.aastore, 1) := by decide +kernel
theorem dX2_dropOldest_34 : decode cX2_dropOldest 34 = .ok (.iinc 2 1, 3) := by decide +kernel
theorem dX2_dropOldest_37 : decode cX2_dropOldest 37 = .ok (.goto (-28), 3) := by decide +kernel
theorem dX2_dropOldest_40 : decode cX2_dropOldest 40 = .ok (.aload_n 0, 1) := by decide +kernel
theorem dX2_dropOldest_41 : decode cX2_dropOldest 41 = .ok (.getfield 11, 3) := by decide +kernel
theorem dX2_dropOldest_44 : decode cX2_dropOldest 44 = .ok (.aload_n 0, 1) := by decide +kernel
theorem dX2_dropOldest_45 : decode cX2_dropOldest 45 = .ok (.getfield 11, 3) := by decide +kernel
theorem dX2_dropOldest_48 : decode cX2_dropOldest 48 = .ok (.arraylength, 1) := by decide +kernel
theorem dX2_dropOldest_49 : decode cX2_dropOldest 49 = .ok (.iconst 1, 1) := by decide +kernel
theorem dX2_dropOldest_50 : decode cX2_dropOldest 50 = .ok (.isub, 1) := by decide +kernel
theorem dX2_dropOldest_51 : decode cX2_dropOldest 51 = .ok (.aload_n 1, 1) := by decide +kernel
theorem dX2_dropOldest_52 : decode cX2_dropOldest 52 = .ok (.aastore, 1) := by decide +kernel
theorem dX2_dropOldest_53 : decode cX2_dropOldest 53 = .ok (.aload_n 0, 1) := by decide +kernel
theorem dX2_dropOldest_54 : decode cX2_dropOldest 54 = .ok (.aload_n 0, 1) := by decide +kernel
theorem dX2_dropOldest_55 : decode cX2_dropOldest 55 = .ok (.getfield 11, 3) := by decide +kernel
theorem dX2_dropOldest_58 : decode cX2_dropOldest 58 = .ok (.arraylength, 1) := by decide +kernel
theorem dX2_dropOldest_59 : decode cX2_dropOldest 59 = .ok (.iconst 1, 1) := by decide +kernel
theorem dX2_dropOldest_60 : decode cX2_dropOldest 60 = .ok (.isub, 1) := by decide +kernel
theorem dX2_dropOldest_61 : decode cX2_dropOldest 61 = .ok (.putfield 18, 3) := by decide +kernel
theorem dX2_dropOldest_64 : decode cX2_dropOldest 64 = .ok (.return_, 1) := by decide +kernel
theorem dX3_init_0 : decode cX3_init 0 = .ok (.aload_n 0, 1) := by decide +kernel
theorem dX3_init_1 : decode cX3_init 1 = .ok (.invokespecial 3, 3) := by decide +kernel
theorem dX3_init_4 : decode cX3_init 4 = .ok (.aload_n 0, 1) := by decide +kernel
theorem dX3_init_5 : decode cX3_init 5 = .ok (.bipush 12, 2) := by decide +kernel
theorem dX3_init_7 : decode cX3_init 7 = .ok (.newarray .int, 2) := by decide +kernel
theorem dX3_init_9 : decode cX3_init 9 = .ok (.putfield 9, 3) := by decide +kernel
theorem dX3_init_12 : decode cX3_init 12 = .ok (.aload_n 0, 1) := by decide +kernel
theorem dX3_init_13 : decode cX3_init 13 = .ok (.iconst 3, 1) := by decide +kernel
theorem dX3_init_14 : decode cX3_init 14 = .ok (.newarray .int, 2) := by decide +kernel
theorem dX3_init_16 : decode cX3_init 16 = .ok (.putfield 15, 3) := by decide +kernel
theorem dX3_init_19 : decode cX3_init 19 = .ok (.return_, 1) := by decide +kernel
theorem dX3_measureNow_0 : decode cX3_measureNow 0 = .ok (.aload_n 0, 1) := by decide +kernel
theorem dX3_measureNow_1 : decode cX3_measureNow 1 = .ok (.invokevirtual 18, 3) := by decide +kernel
theorem dX3_measureNow_4 : decode cX3_measureNow 4 = .ok (.iconst 0, 1) := by decide +kernel
theorem dX3_measureNow_5 : decode cX3_measureNow 5 = .ok (.istore_n 3, 1) := by decide +kernel
theorem dX3_measureNow_6 : decode cX3_measureNow 6 = .ok (.iload_n 3, 1) := by decide +kernel
theorem dX3_measureNow_7 : decode cX3_measureNow 7 = .ok (.aload_n 1, 1) := by decide +kernel
theorem dX3_measureNow_8 : decode cX3_measureNow 8 = .ok (.getfield 21, 3) := by decide +kernel
theorem dX3_measureNow_11 : decode cX3_measureNow 11 = .ok (.if_icmp .ge 21, 3) := by decide +kernel
theorem dX3_measureNow_14 : decode cX3_measureNow 14 = .ok (.aload_n 0, 1) := by decide +kernel
theorem dX3_measureNow_15 : decode cX3_measureNow 15 = .ok (.aload_n 1, 1) := by decide +kernel
theorem dX3_measureNow_16 : decode cX3_measureNow 16 = .ok (.iload_n 3, 1) := by decide +kernel
theorem dX3_measureNow_17 : decode cX3_measureNow 17 = .ok (.aload_n 1, 1) := by decide +kernel
theorem dX3_measureNow_18 : decode cX3_measureNow 18 = .ok (.iload_n 3, 1) := by decide +kernel
theorem dX3_measureNow_19 : decode cX3_measureNow 19 = .ok (.aload_n 2, 1) := by decide +kernel
theorem dX3_measureNow_20 : decode cX3_measureNow 20 = .ok (.invokevirtual 27, 3) := by decide +kernel
theorem dX3_measureNow_23 : decode cX3_measureNow 23 = .ok (.invokevirtual 31, 3) := by decide +kernel
theorem dX3_measureNow_26 : decode cX3_measureNow 26 = .ok (.iinc 3 1, 3) := by decide +kernel
theorem dX3_measureNow_29 : decode cX3_measureNow 29 = .ok (.goto (-23), 3) := by decide +kernel
theorem dX3_measureNow_32 : decode cX3_measureNow 32 = .ok (.return_, 1) := by decide +kernel
theorem dX3_measureCue_0 : decode cX3_measureCue 0 = .ok (.aload_n 0, 1) := by decide +kernel
theorem dX3_measureCue_1 : decode cX3_measureCue 1 = .ok (.invokevirtual 18, 3) := by decide +kernel
theorem dX3_measureCue_4 : decode cX3_measureCue 4 = .ok (.aload_n 1, 1) := by decide +kernel
theorem dX3_measureCue_5 : decode cX3_measureCue 5 = .ok (.iload_n 2, 1) := by decide +kernel
theorem dX3_measureCue_6 : decode cX3_measureCue 6 = .ok (.invokevirtual 35, 3) := by decide +kernel
theorem dX3_measureCue_9 : decode cX3_measureCue 9 = .ok (.ifCond .ne 4, 3) := by decide +kernel
theorem dX3_measureCue_12 : decode cX3_measureCue 12 = .ok (.return_, 1) := by decide +kernel
theorem dX3_measureCue_13 : decode cX3_measureCue 13 = .ok (.iconst 0, 1) := by decide +kernel
theorem dX3_measureCue_14 : decode cX3_measureCue 14 = .ok (.istore 4, 2) := by decide +kernel
theorem dX3_measureCue_16 : decode cX3_measureCue 16 = .ok (.iload 4, 2) := by decide +kernel
theorem dX3_measureCue_18 : decode cX3_measureCue 18 = .ok (.aload_n 1, 1) := by decide +kernel
theorem dX3_measureCue_19 : decode cX3_measureCue 19 = .ok (.getfield 21, 3) := by decide +kernel
theorem dX3_measureCue_22 : decode cX3_measureCue 22 = .ok (.if_icmp .ge 29, 3) := by decide +kernel
theorem dX3_measureCue_25 : decode cX3_measureCue 25 = .ok (.aload_n 0, 1) := by decide +kernel
theorem dX3_measureCue_26 : decode cX3_measureCue 26 = .ok (.aload_n 1, 1) := by decide +kernel
theorem dX3_measureCue_27 : decode cX3_measureCue 27 = .ok (.iload 4, 2) := by decide +kernel
theorem dX3_measureCue_29 : decode cX3_measureCue 29 = .ok (.aload_n 1, 1) := by decide +kernel
theorem dX3_measureCue_30 : decode cX3_measureCue 30 = .ok (.iload 4, 2) := by decide +kernel
theorem dX3_measureCue_32 : decode cX3_measureCue 32 = .ok (.aload_n 1, 1) := by decide +kernel
theorem dX3_measureCue_33 : decode cX3_measureCue 33 = .ok (.getfield 39, 3) := by decide +kernel
theorem dX3_measureCue_36 : decode cX3_measureCue 36 = .ok (.iload_n 2, 1) := by decide +kernel
theorem dX3_measureCue_37 : decode cX3_measureCue 37 = .ok (.aaload, 1) := by decide +kernel
theorem dX3_measureCue_38 : decode cX3_measureCue 38 = .ok (.aload_n 3, 1) := by decide +kernel
theorem dX3_measureCue_39 : decode cX3_measureCue 39 = .ok (.invokevirtual 43, 3) := by decide +kernel
theorem dX3_measureCue_42 : decode cX3_measureCue 42 = .ok (.invokevirtual 31, 3) := by decide +kernel
theorem dX3_measureCue_45 : decode cX3_measureCue 45 = .ok (.iinc 4 1, 3) := by decide +kernel
theorem dX3_measureCue_48 : decode cX3_measureCue 48 = .ok (.goto (-32), 3) := by decide +kernel
theorem dX3_measureCue_51 : decode cX3_measureCue 51 = .ok (.return_, 1) := by decide +kernel
theorem dX3_empty_0 : decode cX3_empty 0 = .ok (.aload_n 0, 1) := by decide +kernel
theorem dX3_empty_1 : decode cX3_empty 1 = .ok (.getfield 9, 3) := by decide +kernel
theorem dX3_empty_4 : decode cX3_empty 4 = .ok (.invokestatic 47, 3) := by decide +kernel
theorem dX3_empty_7 : decode cX3_empty 7 = .ok (.aload_n 0, 1) := by decide +kernel
theorem dX3_empty_8 : decode cX3_empty 8 = .ok (.getfield 15, 3) := by decide +kernel
theorem dX3_empty_11 : decode cX3_empty 11 = .ok (.invokestatic 47, 3) := by decide +kernel
theorem dX3_empty_14 : decode cX3_empty 14 = .ok (.return_, 1) := by decide +kernel
theorem dX3_sumOfPhases_0 : decode cX3_sumOfPhases 0 = .ok (.iconst 0, 1) := by decide +kernel
theorem dX3_sumOfPhases_1 : decode cX3_sumOfPhases 1 = .ok (.istore_n 1, 1) := by decide +kernel
theorem dX3_sumOfPhases_2 : decode cX3_sumOfPhases 2 = .ok (.aload_n 0, 1) := by decide +kernel
theorem dX3_sumOfPhases_3 : decode cX3_sumOfPhases 3 = .ok (.getfield 15, 3) := by decide +kernel
theorem dX3_sumOfPhases_6 : decode cX3_sumOfPhases 6 = .ok (.astore_n 2, 1) := by decide +kernel
theorem dX3_sumOfPhases_7 : decode cX3_sumOfPhases 7 = .ok (.aload_n 2, 1) := by decide +kernel
theorem dX3_sumOfPhases_8 : decode cX3_sumOfPhases 8 = .ok (.arraylength, 1) := by decide +kernel
theorem dX3_sumOfPhases_9 : decode cX3_sumOfPhases 9 = .ok (.istore_n 3, 1) := by decide +kernel
theorem dX3_sumOfPhases_10 : decode cX3_sumOfPhases 10 = .ok (.iconst 0, 1) := by decide +kernel
theorem dX3_sumOfPhases_11 : decode cX3_sumOfPhases 11 = .ok (.istore 4, 2) := by decide +kernel
theorem dX3_sumOfPhases_13 : decode cX3_sumOfPhases 13 = .ok (.iload 4, 2) := by decide +kernel
theorem dX3_sumOfPhases_15 : decode cX3_sumOfPhases 15 = .ok (.iload_n 3, 1) := by decide +kernel
theorem dX3_sumOfPhases_16 : decode cX3_sumOfPhases 16 = .ok (.if_icmp .ge 20, 3) := by decide +kernel
theorem dX3_sumOfPhases_19 : decode cX3_sumOfPhases 19 = .ok (.aload_n 2, 1) := by decide +kernel
theorem dX3_sumOfPhases_20 : decode cX3_sumOfPhases 20 = .ok (.iload 4, 2) := by decide +kernel
theorem dX3_sumOfPhases_22 : decode cX3_sumOfPhases 22 = .ok (.iaload, 1) := by decide +kernel
theorem dX3_sumOfPhases_23 : decode cX3_sumOfPhases 23 = .ok (.istore 5, 2) := by decide +kernel
theorem dX3_sumOfPhases_25 : decode cX3_sumOfPhases 25 = .ok (.iload_n 1, 1) := by decide +kernel
theorem dX3_sumOfPhases_26 : decode cX3_sumOfPhases 26 = .ok (.iload 5, 2) := by decide +kernel
theorem dX3_sumOfPhases_28 : decode cX3_sumOfPhases 28 = .ok (.iadd, 1) := by decide +kernel
theorem dX3_sumOfPhases_29 : decode cX3_sumOfPhases 29 = .ok (.istore_n 1, 1) := by decide +kernel
theorem dX3_sumOfPhases_30 : decode cX3_sumOfPhases 30 = .ok (.iinc 4 1, 3) := by decide +kernel
theorem dX3_sumOfPhases_33 : decode cX3_sumOfPhases 33 = .ok (.goto (-20), 3) := by decide +kernel
theorem dX3_sumOfPhases_36 : decode cX3_sumOfPhases 36 = .ok (.iload_n 1, 1) := by decide +kernel
theorem dX3_sumOfPhases_37 : decode cX3_sumOfPhases 37 = .ok (.ireturn, 1) := by decide +kernel
theorem dX3_add_0 : decode cX3_add 0 = .ok (.aload_n 1, 1) := by decide +kernel
theorem dX3_add_1 : decode cX3_add 1 = .ok (.iload_n 2, 1) := by decide +kernel
theorem dX3_add_2 : decode cX3_add 2 = .ok (.invokevirtual 51, 3) := by decide +kernel
theorem dX3_add_5 : decode cX3_add 5 = .ok (.istore 4, 2) := by decide +kernel
theorem dX3_add_7 : decode cX3_add 7 = .ok (.aload_n 1, 1) := by decide +kernel
theorem dX3_add_8 : decode cX3_add 8 = .ok (.iload 4, 2) := by decide +kernel
theorem dX3_add_10 : decode cX3_add 10 = .ok (.invokevirtual 55, 3) := by decide +kernel
theorem dX3_add_13 : decode cX3_add 13 = .ok (.istore 5, 2) := by decide +kernel
theorem dX3_add_15 : decode cX3_add 15 = .ok (.iload 4, 2) := by decide +kernel
theorem dX3_add_17 : decode cX3_add 17 = .ok (.invokestatic 58, 3) := by decide +kernel
theorem dX3_add_20 : decode cX3_add 20 = .ok (.ifCond .eq 33, 3) := by decide +kernel
theorem dX3_add_23 : decode cX3_add 23 = .ok (.iload 5, 2) := by decide +kernel
theorem dX3_add_25 : decode cX3_add 25 = .ok (.invokestatic 61, 3) := by decide +kernel
theorem dX3_add_28 : decode cX3_add 28 = .ok (.ifCond .eq 25, 3) := by decide +kernel
theorem dX3_add_31 : decode cX3_add 31 = .ok (.aload_n 0, 1) := by decide +kernel
theorem dX3_add_32 : decode cX3_add 32 = .ok (.getfield 9, 3) := by decide +kernel
theorem dX3_add_35 : decode cX3_add 35 = .ok (.iload 4, 2) := by decide +kernel
theorem dX3_add_37 : decode cX3_add 37 = .ok (.dup2, 1) := by decide +kernel
theorem dX3_add_38 : decode cX3_add 38 = .ok (.iaload, 1) := by decide +kernel
theorem dX3_add_39 : decode cX3_add 39 = .ok (.iload_n 3, 1) := by decide +kernel
theorem dX3_add_40 : decode cX3_add 40 = .ok (.iadd, 1) := by decide +kernel
theorem dX3_add_41 : decode cX3_add 41 = .ok (.iastore, 1) := by decide +kernel
theorem dX3_add_42 : decode cX3_add 42 = .ok (.aload_n 0, 1) := by decide +kernel
theorem dX3_add_43 : decode cX3_add 43 = .ok (.getfield 15, 3) := by decide +kernel
theorem dX3_add_46 : decode cX3_add 46 = .ok (.iload 5, 2) := by decide +kernel
theorem dX3_add_48 : decode cX3_add 48 = .ok (.dup2, 1) := by decide +kernel
theorem dX3_add_49 : decode cX3_add 49 = .ok (.iaload, 1) := by decide +kernel
theorem dX3_add_50 : decode cX3_add 50 = .ok (.iload_n 3, 1) := by decide +kernel
theorem dX3_add_51 : decode cX3_add 51 = .ok (.iadd, 1) := by decide +kernel
theorem dX3_add_52 : decode cX3_add 52 = .ok (.iastore, 1) := by decide +kernel
theorem dX3_add_53 : decode cX3_add 53 = .ok (.return_, 1) := by decide +kernel
theorem dX4_init_0 : decode cX4_init 0 = .ok (.aload_n 0, 1) := by decide +kernel
theorem dX4_init_1 : decode cX4_init 1 = .ok (.invokespecial 3, 3) := by decide +kernel
theorem dX4_init_4 : decode cX4_init 4 = .ok (.aload_n 0, 1) := by decide +kernel
theorem dX4_init_5 : decode cX4_init 5 = .ok (.new 9, 3) := by decide +kernel
theorem dX4_init_8 : decode cX4_init 8 = .ok (.dup, 1) := by decide +kernel
theorem dX4_init_9 : decode cX4_init 9 = .ok (.invokespecial 11, 3) := by decide +kernel
theorem dX4_init_12 : decode cX4_init 12 = .ok (.putfield 12, 3) := by decide +kernel
theorem dX4_init_15 : decode cX4_init 15 = .ok (.aload_n 0, 1) := by decide +kernel
theorem dX4_init_16 : decode cX4_init 16 = .ok (.bipush 60, 2) := by decide +kernel
theorem dX4_init_18 : decode cX4_init 18 = .ok (.newarray .int, 2) := by decide +kernel
theorem dX4_init_20 : decode cX4_init 20 = .ok (.putfield 18, 3) := by decide +kernel
theorem dX4_init_23 : decode cX4_init 23 = .ok (.aload_n 0, 1) := by decide +kernel
theorem dX4_init_24 : decode cX4_init 24 = .ok (.bipush 60, 2) := by decide +kernel
theorem dX4_init_26 : decode cX4_init 26 = .ok (.newarray .int, 2) := by decide +kernel
theorem dX4_init_28 : decode cX4_init 28 = .ok (.putfield 22, 3) := by decide +kernel
theorem dX4_init_31 : decode cX4_init 31 = .ok (.aload_n 0, 1) := by decide +kernel
theorem dX4_init_32 : decode cX4_init 32 = .ok (.bipush 60, 2) := by decide +kernel
theorem dX4_init_34 : decode cX4_init 34 = .ok (.newarray .int, 2) := by decide +kernel
theorem dX4_init_36 : decode cX4_init 36 = .ok (.putfield 25, 3) := by decide +kernel
theorem dX4_init_39 : decode cX4_init 39 = .ok (.aload_n 0, 1) := by decide +kernel
theorem dX4_init_40 : decode cX4_init 40 = .ok (.bipush 60, 2) := by decide +kernel
theorem dX4_init_42 : decode cX4_init 42 = .ok (.newarray .int, 2) := by decide +kernel
theorem dX4_init_44 : decode cX4_init 44 = .ok (.putfield 28, 3) := by decide +kernel
theorem dX4_init_47 : decode cX4_init 47 = .ok (.aload_n 0, 1) := by decide +kernel
theorem dX4_init_48 : decode cX4_init 48 = .ok (.bipush 60, 2) := by decide +kernel
theorem dX4_init_50 : decode cX4_init 50 = .ok (.newarray .int, 2) := by decide +kernel
theorem dX4_init_52 : decode cX4_init 52 = .ok (.putfield 31, 3) := by decide +kernel
theorem dX4_init_55 : decode cX4_init 55 = .ok (.aload_n 0, 1) := by decide +kernel
theorem dX4_init_56 : decode cX4_init 56 = .ok (.bipush 60, 2) := by decide +kernel
theorem dX4_init_58 : decode cX4_init 58 = .ok (.newarray .int, 2) := by decide +kernel
theorem dX4_init_60 : decode cX4_init 60 = .ok (.putfield 34, 3) := by decide +kernel
theorem dX4_init_63 : decode cX4_init 63 = .ok (.return_, 1) := by decide +kernel
theorem dX4_read_0 : decode cX4_read 0 = .ok (.aload_n 0, 1) := by decide +kernel
theorem dX4_read_1 : decode cX4_read 1 = .ok (.iconst 0, 1) := by decide +kernel
theorem dX4_read_2 : decode cX4_read 2 = .ok (.putfield 37, 3) := by decide +kernel
theorem dX4_read_5 : decode cX4_read 5 = .ok (.aload_n 0, 1) := by decide +kernel
theorem dX4_read_6 : decode cX4_read 6 = .ok (.iconst 0, 1) := by decide +kernel
theorem dX4_read_7 : decode cX4_read 7 = .ok (.putfield 41, 3) := by decide +kernel
theorem dX4_read_10 : decode cX4_read 10 = .ok (.aload_n 0, 1) := by decide +kernel
theorem dX4_read_11 : decode cX4_read 11 = .ok (.iconst 0, 1) := by decide +kernel
theorem dX4_read_12 : decode cX4_read 12 = .ok (.invokevirtual 44, 3) := by decide +kernel
theorem dX4_read_15 : decode cX4_read 15 = .ok (.iconst 0, 1) := by decide +kernel
theorem dX4_read_16 : decode cX4_read 16 = .ok (.istore_n 1, 1) := by decide +kernel
theorem dX4_read_17 : decode cX4_read 17 = .ok (.iload_n 1, 1) := by decide +kernel
theorem dX4_read_18 : decode cX4_read 18 = .ok (.bipush 60, 2) := by decide +kernel
theorem dX4_read_20 : decode cX4_read 20 = .ok (.if_icmp .ge 45, 3) := by decide +kernel
theorem dX4_read_23 : decode cX4_read 23 = .ok (.aload_n 0, 1) := by decide +kernel
theorem dX4_read_24 : decode cX4_read 24 = .ok (.invokevirtual 48, 3) := by decide +kernel
theorem dX4_read_27 : decode cX4_read 27 = .ok (.ifCond .ne 5, 3) := by decide +kernel
theorem dX4_read_30 : decode cX4_read 30 = .ok (.iconst 0, 1) := by decide +kernel
theorem dX4_read_31 : decode cX4_read 31 = .ok (.ireturn, 1) := by decide +kernel
theorem dX4_read_32 : decode cX4_read 32 = .ok (.aload_n 0, 1) := by decide +kernel
theorem dX4_read_33 : decode cX4_read 33 = .ok (.getfield 52, 3) := by decide +kernel
theorem dX4_read_36 : decode cX4_read 36 = .ok (.aload_n 0, 1) := by decide +kernel
theorem dX4_read_37 : decode cX4_read 37 = .ok (.getfield 12, 3) := by decide +kernel
theorem dX4_read_40 : decode cX4_read 40 = .ok (.getfield 55, 3) := by decide +kernel
theorem dX4_read_43 : decode cX4_read 43 = .ok (.if_icmp .lt 5, 3) := by decide +kernel
theorem dX4_read_46 : decode cX4_read 46 = .ok (.iconst 1, 1) := by decide +kernel
theorem dX4_read_47 : decode cX4_read 47 = .ok (.ireturn, 1) := by decide +kernel
theorem dX4_read_48 : decode cX4_read 48 = .ok (.aload_n 0, 1) := by decide +kernel
theorem dX4_read_49 : decode cX4_read 49 = .ok (.bipush 59, 2) := by decide +kernel
theorem dX4_read_51 : decode cX4_read 51 = .ok (.invokevirtual 58, 3) := by decide +kernel
theorem dX4_read_54 : decode cX4_read 54 = .ok (.ifCond .ne 5, 3) := by decide +kernel
theorem dX4_read_57 : decode cX4_read 57 = .ok (.iconst 0, 1) := by decide +kernel
theorem dX4_read_58 : decode cX4_read 58 = .ok (.ireturn, 1) := by decide +kernel
theorem dX4_read_59 : decode cX4_read 59 = .ok (.iinc 1 1, 3) := by decide +kernel
theorem dX4_read_62 : decode cX4_read 62 = .ok (.goto (-45), 3) := by decide +kernel
theorem dX4_read_65 : decode cX4_read 65 = .ok (.iconst 0, 1) := by decide +kernel
theorem dX4_read_66 : decode cX4_read 66 = .ok (.ireturn, 1) := by decide +kernel
theorem dX4_readOrder_0 : decode cX4_readOrder 0 = .ok (.aload_n 0, 1) := by decide +kernel
theorem dX4_readOrder_1 : decode cX4_readOrder 1 = .ok (.bipush 114, 2) := by decide +kernel
theorem dX4_readOrder_3 : decode cX4_readOrder 3 = .ok (.invokevirtual 58, 3) := by decide +kernel
theorem dX4_readOrder_6 : decode cX4_readOrder 6 = .ok (.ifCond .eq 8, 3) := by decide +kernel
theorem dX4_readOrder_9 : decode cX4_readOrder 9 = .ok (.aload_n 0, 1) := by decide +kernel
theorem dX4_readOrder_10 : decode cX4_readOrder 10 = .ok (.invokevirtual 62, 3) := by decide +kernel
theorem dX4_readOrder_13 : decode cX4_readOrder 13 = .ok (.ireturn, 1) := by decide +kernel
theorem dX4_readOrder_14 : decode cX4_readOrder 14 = .ok (.aload_n 0, 1) := by decide +kernel
theorem dX4_readOrder_15 : decode cX4_readOrder 15 = .ok (.bipush 103, 2) := by decide +kernel
theorem dX4_readOrder_17 : decode cX4_readOrder 17 = .ok (.invokevirtual 58, 3) := by decide +kernel
theorem dX4_readOrder_20 : decode cX4_readOrder 20 = .ok (.ifCond .eq 8, 3) := by decide +kernel
theorem dX4_readOrder_23 : decode cX4_readOrder 23 = .ok (.aload_n 0, 1) := by decide +kernel
theorem dX4_readOrder_24 : decode cX4_readOrder 24 = .ok (.invokevirtual 65, 3) := by decide +kernel
theorem dX4_readOrder_27 : decode cX4_readOrder 27 = .ok (.ireturn, 1) := by decide +kernel
theorem dX4_readOrder_28 : decode cX4_readOrder 28 = .ok (.aload_n 0, 1) := by decide +kernel
theorem dX4_readOrder_29 : decode cX4_readOrder 29 = .ok (.bipush 120, 2) := by decide +kernel
theorem dX4_readOrder_31 : decode cX4_readOrder 31 = .ok (.invokevirtual 58, 3) := by decide +kernel
theorem dX4_readOrder_34 : decode cX4_readOrder 34 = .ok (.ifCond .eq 11, 3) := by decide +kernel
theorem dX4_readOrder_37 : decode cX4_readOrder 37 = .ok (.aload_n 0, 1) := by decide +kernel
theorem dX4_readOrder_38 : decode cX4_readOrder 38 = .ok (.iconst 3, 1) := by decide +kernel
theorem dX4_readOrder_39 : decode cX4_readOrder 39 = .ok (.iconst 0, 1) := by decide +kernel
theorem dX4_readOrder_40 : decode cX4_readOrder 40 = .ok (.iconst 0, 1) := by decide +kernel
theorem dX4_readOrder_41 : decode cX4_readOrder 41 = .ok (.invokevirtual 68, 3) := by decide +kernel
theorem dX4_readOrder_44 : decode cX4_readOrder 44 = .ok (.ireturn, 1) := by decide +kernel
theorem dX4_readOrder_45 : decode cX4_readOrder 45 = .ok (.aload_n 0, 1) := by decide +kernel
theorem dX4_readOrder_46 : decode cX4_readOrder 46 = .ok (.invokevirtual 72, 3) := by decide +kernel
theorem dX4_readOrder_49 : decode cX4_readOrder 49 = .ok (.ireturn, 1) := by decide +kernel
theorem dX4_readRecord_0 : decode cX4_readRecord 0 = .ok (.aload_n 0, 1) := by decide +kernel
theorem dX4_readRecord_1 : decode cX4_readRecord 1 = .ok (.iconst 0, 1) := by decide +kernel
theorem dX4_readRecord_2 : decode cX4_readRecord 2 = .ok (.bipush 7, 2) := by decide +kernel
theorem dX4_readRecord_4 : decode cX4_readRecord 4 = .ok (.invokevirtual 75, 3) := by decide +kernel
theorem dX4_readRecord_7 : decode cX4_readRecord 7 = .ok (.istore_n 1, 1) := by decide +kernel
theorem dX4_readRecord_8 : decode cX4_readRecord 8 = .ok (.iload_n 1, 1) := by decide +kernel
theorem dX4_readRecord_9 : decode cX4_readRecord 9 = .ok (.bipush (-6), 2) := by decide +kernel
theorem dX4_readRecord_11 : decode cX4_readRecord 11 = .ok (.if_icmp .eq 12, 3) := by decide +kernel
theorem dX4_readRecord_14 : decode cX4_readRecord 14 = .ok (.aload_n 0, 1) := by decide +kernel
theorem dX4_readRecord_15 : decode cX4_readRecord 15 = .ok (.bipush 47, 2) := by decide +kernel
theorem dX4_readRecord_17 : decode cX4_readRecord 17 = .ok (.invokevirtual 58, 3) := by decide +kernel
theorem dX4_readRecord_20 : decode cX4_readRecord 20 = .ok (.ifCond .ne 5, 3) := by decide +kernel
theorem dX4_readRecord_23 : decode cX4_readRecord 23 = .ok (.iconst 0, 1) := by decide +kernel
theorem dX4_readRecord_24 : decode cX4_readRecord 24 = .ok (.ireturn, 1) := by decide +kernel
theorem dX4_readRecord_25 : decode cX4_readRecord 25 = .ok (.aload_n 0, 1) := by decide +kernel
theorem dX4_readRecord_26 : decode cX4_readRecord 26 = .ok (.iconst 1, 1) := by decide +kernel
theorem dX4_readRecord_27 : decode cX4_readRecord 27 = .ok (.bipush 50, 2) := by decide +kernel
theorem dX4_readRecord_29 : decode cX4_readRecord 29 = .ok (.invokevirtual 75, 3) := by decide +kernel
theorem dX4_readRecord_32 : decode cX4_readRecord 32 = .ok (.istore_n 2, 1) := by decide +kernel
theorem dX4_readRecord_33 : decode cX4_readRecord 33 = .ok (.iload_n 2, 1) := by decide +kernel
theorem dX4_readRecord_34 : decode cX4_readRecord 34 = .ok (.bipush (-6), 2) := by decide +kernel
theorem dX4_readRecord_36 : decode cX4_readRecord 36 = .ok (.if_icmp .eq 17, 3) := by decide +kernel
theorem dX4_readRecord_39 : decode cX4_readRecord 39 = .ok (.aload_n 0, 1) := by decide +kernel
theorem dX4_readRecord_40 : decode cX4_readRecord 40 = .ok (.iconst 1, 1) := by decide +kernel
theorem dX4_readRecord_41 : decode cX4_readRecord 41 = .ok (.iload_n 1, 1) := by decide +kernel
theorem dX4_readRecord_42 : decode cX4_readRecord 42 = .ok (.iload_n 2, 1) := by decide +kernel
theorem dX4_readRecord_43 : decode cX4_readRecord 43 = .ok (.invokevirtual 68, 3) := by decide +kernel
theorem dX4_readRecord_46 : decode cX4_readRecord 46 = .ok (.ifCond .eq 7, 3) := by decide +kernel
theorem dX4_readRecord_49 : decode cX4_readRecord 49 = .ok (.iconst 1, 1) := by decide +kernel
theorem dX4_readRecord_50 : decode cX4_readRecord 50 = .ok (.goto 4, 3) := by decide +kernel
theorem dX4_readRecord_53 : decode cX4_readRecord 53 = .ok (.iconst 0, 1) := by decide +kernel
theorem dX4_readRecord_54 : decode cX4_readRecord 54 = .ok (.ireturn, 1) := by decide +kernel
theorem dX4_readGo_0 : decode cX4_readGo 0 = .ok (.aload_n 0, 1) := by decide +kernel
theorem dX4_readGo_1 : decode cX4_readGo 1 = .ok (.iconst 0, 1) := by decide +kernel
theorem dX4_readGo_2 : decode cX4_readGo 2 = .ok (.bipush 7, 2) := by decide +kernel
theorem dX4_readGo_4 : decode cX4_readGo 4 = .ok (.invokevirtual 75, 3) := by decide +kernel
theorem dX4_readGo_7 : decode cX4_readGo 7 = .ok (.istore_n 1, 1) := by decide +kernel
theorem dX4_readGo_8 : decode cX4_readGo 8 = .ok (.iload_n 1, 1) := by decide +kernel
theorem dX4_readGo_9 : decode cX4_readGo 9 = .ok (.bipush (-6), 2) := by decide +kernel
theorem dX4_readGo_11 : decode cX4_readGo 11 = .ok (.if_icmp .eq 17, 3) := by decide +kernel
theorem dX4_readGo_14 : decode cX4_readGo 14 = .ok (.aload_n 0, 1) := by decide +kernel
theorem dX4_readGo_15 : decode cX4_readGo 15 = .ok (.iconst 2, 1) := by decide +kernel
theorem dX4_readGo_16 : decode cX4_readGo 16 = .ok (.iload_n 1, 1) := by decide +kernel
theorem dX4_readGo_17 : decode cX4_readGo 17 = .ok (.iconst 0, 1) := by decide +kernel
theorem dX4_readGo_18 : decode cX4_readGo 18 = .ok (.invokevirtual 68, 3) := by decide +kernel
theorem dX4_readGo_21 : decode cX4_readGo 21 = .ok (.ifCond .eq 7, 3) := by decide +kernel
theorem dX4_readGo_24 : decode cX4_readGo 24 = .ok (.iconst 1, 1) := by decide +kernel
theorem dX4_readGo_25 : decode cX4_readGo 25 = .ok (.goto 4, 3) := by decide +kernel
theorem dX4_readGo_28 : decode cX4_readGo 28 = .ok (.iconst 0, 1) := by decide +kernel
theorem dX4_readGo_29 : decode cX4_readGo 29 = .ok (.ireturn, 1) := by decide +kernel
theorem dX4_readLevels_0 : decode cX4_readLevels 0 = .ok (.iconst 1, 1) := by decide +kernel
theorem dX4_readLevels_1 : decode cX4_readLevels 1 = .ok (.istore_n 1, 1) := by decide +kernel
theorem dX4_readLevels_2 : decode cX4_readLevels 2 = .ok (.iconst 0, 1) := by decide +kernel
theorem dX4_readLevels_3 : decode cX4_readLevels 3 = .ok (.istore_n 2, 1) := by decide +kernel
theorem dX4_readLevels_4 : decode cX4_readLevels 4 = .ok (.iload_n 2, 1) := by decide +kernel
theorem dX4_readLevels_5 : decode cX4_readLevels 5 = .ok (.bipush 60, 2) := by decide +kernel
theorem dX4_readLevels_7 : decode cX4_readLevels 7 = .ok (.if_icmp .ge 29, 3) := by decide +kernel
theorem dX4_readLevels_10 : decode cX4_readLevels 10 = .ok (.iload_n 1, 1) := by decide +kernel
theorem dX4_readLevels_11 : decode cX4_readLevels 11 = .ok (.ifCond .eq 25, 3) := by decide +kernel
theorem dX4_readLevels_14 : decode cX4_readLevels 14 = .ok (.aload_n 0, 1) := by decide +kernel
theorem dX4_readLevels_15 : decode cX4_readLevels 15 = .ok (.invokevirtual 79, 3) := by decide +kernel
theorem dX4_readLevels_18 : decode cX4_readLevels 18 = .ok (.ifCond .ne 5, 3) := by decide +kernel
theorem dX4_readLevels_21 : decode cX4_readLevels 21 = .ok (.iconst 0, 1) := by decide +kernel
theorem dX4_readLevels_22 : decode cX4_readLevels 22 = .ok (.ireturn, 1) := by decide +kernel
theorem dX4_readLevels_23 : decode cX4_readLevels 23 = .ok (.aload_n 0, 1) := by decide +kernel
theorem dX4_readLevels_24 : decode cX4_readLevels 24 = .ok (.bipush 43, 2) := by decide +kernel
theorem dX4_readLevels_26 : decode cX4_readLevels 26 = .ok (.invokevirtual 58, 3) := by decide +kernel
theorem dX4_readLevels_29 : decode cX4_readLevels 29 = .ok (.istore_n 1, 1) := by decide +kernel
theorem dX4_readLevels_30 : decode cX4_readLevels 30 = .ok (.iinc 2 1, 3) := by decide +kernel
theorem dX4_readLevels_33 : decode cX4_readLevels 33 = .ok (.goto (-29), 3) := by decide +kernel
theorem dX4_readLevels_36 : decode cX4_readLevels 36 = .ok (.aload_n 0, 1) := by decide +kernel
theorem dX4_readLevels_37 : decode cX4_readLevels 37 = .ok (.bipush 64, 2) := by decide +kernel
theorem dX4_readLevels_39 : decode cX4_readLevels 39 = .ok (.invokevirtual 58, 3) := by decide +kernel
theorem dX4_readLevels_42 : decode cX4_readLevels 42 = .ok (.ifCond .ne 5, 3) := by decide +kernel
theorem dX4_readLevels_45 : decode cX4_readLevels 45 = .ok (.iconst 0, 1) := by decide +kernel
theorem dX4_readLevels_46 : decode cX4_readLevels 46 = .ok (.ireturn, 1) := by decide +kernel
theorem dX4_readLevels_47 : decode cX4_readLevels 47 = .ok (.aload_n 0, 1) := by decide +kernel
theorem dX4_readLevels_48 : decode cX4_readLevels 48 = .ok (.iconst 0, 1) := by decide +kernel
theorem dX4_readLevels_49 : decode cX4_readLevels 49 = .ok (.bipush 100, 2) := by decide +kernel
theorem dX4_readLevels_51 : decode cX4_readLevels 51 = .ok (.invokevirtual 75, 3) := by decide +kernel
theorem dX4_readLevels_54 : decode cX4_readLevels 54 = .ok (.istore_n 2, 1) := by decide +kernel
theorem dX4_readLevels_55 : decode cX4_readLevels 55 = .ok (.iload_n 2, 1) := by decide +kernel
theorem dX4_readLevels_56 : decode cX4_readLevels 56 = .ok (.bipush (-6), 2) := by decide +kernel
theorem dX4_readLevels_58 : decode cX4_readLevels 58 = .ok (.if_icmp .eq 17, 3) := by decide +kernel
theorem dX4_readLevels_61 : decode cX4_readLevels 61 = .ok (.aload_n 0, 1) := by decide +kernel
theorem dX4_readLevels_62 : decode cX4_readLevels 62 = .ok (.iconst 0, 1) := by decide +kernel
theorem dX4_readLevels_63 : decode cX4_readLevels 63 = .ok (.iload_n 2, 1) := by decide +kernel
theorem dX4_readLevels_64 : decode cX4_readLevels 64 = .ok (.iconst 0, 1) := by decide +kernel
theorem dX4_readLevels_65 : decode cX4_readLevels 65 = .ok (.invokevirtual 68, 3) := by decide +kernel
theorem dX4_readLevels_68 : decode cX4_readLevels 68 = .ok (.ifCond .eq 7, 3) := by decide +kernel
theorem dX4_readLevels_71 : decode cX4_readLevels 71 = .ok (.iconst 1, 1) := by decide +kernel
theorem dX4_readLevels_72 : decode cX4_readLevels 72 = .ok (.goto 4, 3) := by decide +kernel
theorem dX4_readLevels_75 : decode cX4_readLevels 75 = .ok (.iconst 0, 1) := by decide +kernel
theorem dX4_readLevels_76 : decode cX4_readLevels 76 = .ok (.ireturn, 1) := by decide +kernel
theorem dX4_readSpan_0 : decode cX4_readSpan 0 = .ok (.aload_n 0, 1) := by decide +kernel
theorem dX4_readSpan_1 : decode cX4_readSpan 1 = .ok (.iconst 0, 1) := by decide +kernel
theorem dX4_readSpan_2 : decode cX4_readSpan 2 = .ok (.bipush 11, 2) := by decide +kernel
theorem dX4_readSpan_4 : decode cX4_readSpan 4 = .ok (.invokevirtual 75, 3) := by decide +kernel
theorem dX4_readSpan_7 : decode cX4_readSpan 7 = .ok (.istore_n 1, 1) := by decide +kernel
theorem dX4_readSpan_8 : decode cX4_readSpan 8 = .ok (.iload_n 1, 1) := by decide +kernel
theorem dX4_readSpan_9 : decode cX4_readSpan 9 = .ok (.bipush (-6), 2) := by decide +kernel
theorem dX4_readSpan_11 : decode cX4_readSpan 11 = .ok (.if_icmp .ne 5, 3) := by decide +kernel
theorem dX4_readSpan_14 : decode cX4_readSpan 14 = .ok (.iconst 0, 1) := by decide +kernel
theorem dX4_readSpan_15 : decode cX4_readSpan 15 = .ok (.ireturn, 1) := by decide +kernel
theorem dX4_readSpan_16 : decode cX4_readSpan 16 = .ok (.aload_n 0, 1) := by decide +kernel
theorem dX4_readSpan_17 : decode cX4_readSpan 17 = .ok (.bipush 62, 2) := by decide +kernel
theorem dX4_readSpan_19 : decode cX4_readSpan 19 = .ok (.invokevirtual 58, 3) := by decide +kernel
theorem dX4_readSpan_22 : decode cX4_readSpan 22 = .ok (.ifCond .eq 13, 3) := by decide +kernel
theorem dX4_readSpan_25 : decode cX4_readSpan 25 = .ok (.aload_n 0, 1) := by decide +kernel
theorem dX4_readSpan_26 : decode cX4_readSpan 26 = .ok (.iconst 0, 1) := by decide +kernel
theorem dX4_readSpan_27 : decode cX4_readSpan 27 = .ok (.bipush 11, 2) := by decide +kernel
theorem dX4_readSpan_29 : decode cX4_readSpan 29 = .ok (.invokevirtual 75, 3) := by decide +kernel
theorem dX4_readSpan_32 : decode cX4_readSpan 32 = .ok (.goto 4, 3) := by decide +kernel
theorem dX4_readSpan_35 : decode cX4_readSpan 35 = .ok (.iload_n 1, 1) := by decide +kernel
theorem dX4_readSpan_36 : decode cX4_readSpan 36 = .ok (.istore_n 2, 1) := by decide +kernel
theorem dX4_readSpan_37 : decode cX4_readSpan 37 = .ok (.iload_n 2, 1) := by decide +kernel
theorem dX4_readSpan_38 : decode cX4_readSpan 38 = .ok (.bipush (-6), 2) := by decide +kernel
theorem dX4_readSpan_40 : decode cX4_readSpan 40 = .ok (.if_icmp .eq 12, 3) := by decide +kernel
theorem dX4_readSpan_43 : decode cX4_readSpan 43 = .ok (.aload_n 0, 1) := by decide +kernel
theorem dX4_readSpan_44 : decode cX4_readSpan 44 = .ok (.getfield 41, 3) := by decide +kernel
theorem dX4_readSpan_47 : decode cX4_readSpan 47 = .ok (.bipush 60, 2) := by decide +kernel
theorem dX4_readSpan_49 : decode cX4_readSpan 49 = .ok (.if_icmp .lt 5, 3) := by decide +kernel
theorem dX4_readSpan_52 : decode cX4_readSpan 52 = .ok (.iconst 0, 1) := by decide +kernel
theorem dX4_readSpan_53 : decode cX4_readSpan 53 = .ok (.ireturn, 1) := by decide +kernel
theorem dX4_readSpan_54 : decode cX4_readSpan 54 = .ok (.aload_n 0, 1) := by decide +kernel
theorem dX4_readSpan_55 : decode cX4_readSpan 55 = .ok (.getfield 31, 3) := by decide +kernel
theorem dX4_readSpan_58 : decode cX4_readSpan 58 = .ok (.aload_n 0, 1) := by decide +kernel
theorem dX4_readSpan_59 : decode cX4_readSpan 59 = .ok (.getfield 41, 3) := by decide +kernel
theorem dX4_readSpan_62 : decode cX4_readSpan 62 = .ok (.iload_n 1, 1) := by decide +kernel
theorem dX4_readSpan_63 : decode cX4_readSpan 63 = .ok (.iastore, 1) := by decide +kernel
theorem dX4_readSpan_64 : decode cX4_readSpan 64 = .ok (.aload_n 0, 1) := by decide +kernel
theorem dX4_readSpan_65 : decode cX4_readSpan 65 = .ok (.getfield 34, 3) := by decide +kernel
theorem dX4_readSpan_68 : decode cX4_readSpan 68 = .ok (.aload_n 0, 1) := by decide +kernel
theorem dX4_readSpan_69 : decode cX4_readSpan 69 = .ok (.getfield 41, 3) := by decide +kernel
theorem dX4_readSpan_72 : decode cX4_readSpan 72 = .ok (.iload_n 2, 1) := by decide +kernel
theorem dX4_readSpan_73 : decode cX4_readSpan 73 = .ok (.iastore, 1) := by decide +kernel
theorem dX4_readSpan_74 : decode cX4_readSpan 74 = .ok (.aload_n 0, 1) := by decide +kernel
theorem dX4_readSpan_75 : decode cX4_readSpan 75 = .ok (.dup, 1) := by decide +kernel
theorem dX4_readSpan_76 : decode cX4_readSpan 76 = .ok (.getfield 41, 3) := by decide +kernel
theorem dX4_readSpan_79 : decode cX4_readSpan 79 = .ok (.iconst 1, 1) := by decide +kernel
theorem dX4_readSpan_80 : decode cX4_readSpan 80 = .ok (.iadd, 1) := by decide +kernel
theorem dX4_readSpan_81 : decode cX4_readSpan 81 = .ok (.putfield 41, 3) := by decide +kernel
theorem dX4_readSpan_84 : decode cX4_readSpan 84 = .ok (.iconst 1, 1) := by decide +kernel
theorem dX4_readSpan_85 : decode cX4_readSpan 85 = .ok (.ireturn, 1) := by decide +kernel
theorem dX4_readNumber_0 : decode cX4_readNumber 0 = .ok (.aload_n 0, 1) := by decide +kernel
theorem dX4_readNumber_1 : decode cX4_readNumber 1 = .ok (.invokevirtual 82, 3) := by decide +kernel
theorem dX4_readNumber_4 : decode cX4_readNumber 4 = .ok (.istore_n 3, 1) := by decide +kernel
theorem dX4_readNumber_5 : decode cX4_readNumber 5 = .ok (.iload_n 3, 1) := by decide +kernel
theorem dX4_readNumber_6 : decode cX4_readNumber 6 = .ok (.iload_n 1, 1) := by decide +kernel
theorem dX4_readNumber_7 : decode cX4_readNumber 7 = .ok (.if_icmp .lt 8, 3) := by decide +kernel
theorem dX4_readNumber_10 : decode cX4_readNumber 10 = .ok (.iload_n 3, 1) := by decide +kernel
theorem dX4_readNumber_11 : decode cX4_readNumber 11 = .ok (.iload_n 2, 1) := by decide +kernel
theorem dX4_readNumber_12 : decode cX4_readNumber 12 = .ok (.if_icmp .le 6, 3) := by decide +kernel
theorem dX4_readNumber_15 : decode cX4_readNumber 15 = .ok (.bipush (-6), 2) := by decide +kernel
theorem dX4_readNumber_17 : decode cX4_readNumber 17 = .ok (.ireturn, 1) := by decide +kernel
theorem dX4_readNumber_18 : decode cX4_readNumber 18 = .ok (.aload_n 0, 1) := by decide +kernel
theorem dX4_readNumber_19 : decode cX4_readNumber 19 = .ok (.aload_n 0, 1) := by decide +kernel
theorem dX4_readNumber_20 : decode cX4_readNumber 20 = .ok (.getfield 52, 3) := by decide +kernel
theorem dX4_readNumber_23 : decode cX4_readNumber 23 = .ok (.iconst 1, 1) := by decide +kernel
theorem dX4_readNumber_24 : decode cX4_readNumber 24 = .ok (.iadd, 1) := by decide +kernel
theorem dX4_readNumber_25 : decode cX4_readNumber 25 = .ok (.invokevirtual 44, 3) := by decide +kernel
theorem dX4_readNumber_28 : decode cX4_readNumber 28 = .ok (.iconst 1, 1) := by decide +kernel
theorem dX4_readNumber_29 : decode cX4_readNumber 29 = .ok (.istore 4, 2) := by decide +kernel
theorem dX4_readNumber_31 : decode cX4_readNumber 31 = .ok (.iload 4, 2) := by decide +kernel
theorem dX4_readNumber_33 : decode cX4_readNumber 33 = .ok (.iconst 3, 1) := by decide +kernel
theorem dX4_readNumber_34 : decode cX4_readNumber 34 = .ok (.if_icmp .ge 57, 3) := by decide +kernel
theorem dX4_readNumber_37 : decode cX4_readNumber 37 = .ok (.iload_n 3, 1) := by decide +kernel
theorem dX4_readNumber_38 : decode cX4_readNumber 38 = .ok (.ifCond .le 53, 3) := by decide +kernel
theorem dX4_readNumber_41 : decode cX4_readNumber 41 = .ok (.aload_n 0, 1) := by decide +kernel
theorem dX4_readNumber_42 : decode cX4_readNumber 42 = .ok (.invokevirtual 82, 3) := by decide +kernel
theorem dX4_readNumber_45 : decode cX4_readNumber 45 = .ok (.istore 5, 2) := by decide +kernel
theorem dX4_readNumber_47 : decode cX4_readNumber 47 = .ok (.iload 5, 2) := by decide +kernel
theorem dX4_readNumber_49 : decode cX4_readNumber 49 = .ok (.bipush (-6), 2) := by decide +kernel
theorem dX4_readNumber_51 : decode cX4_readNumber 51 = .ok (.if_icmp .eq 14, 3) := by decide +kernel
theorem dX4_readNumber_54 : decode cX4_readNumber 54 = .ok (.iload_n 3, 1) := by decide +kernel
theorem dX4_readNumber_55 : decode cX4_readNumber 55 = .ok (.bipush 10, 2) := by decide +kernel
theorem dX4_readNumber_57 : decode cX4_readNumber 57 = .ok (.imul, 1) := by decide +kernel
theorem dX4_readNumber_58 : decode cX4_readNumber 58 = .ok (.iload 5, 2) := by decide +kernel
theorem dX4_readNumber_60 : decode cX4_readNumber 60 = .ok (.iadd, 1) := by decide +kernel
theorem dX4_readNumber_61 : decode cX4_readNumber 61 = .ok (.iload_n 2, 1) := by decide +kernel
theorem dX4_readNumber_62 : decode cX4_readNumber 62 = .ok (.if_icmp .le 5, 3) := by decide +kernel
theorem dX4_readNumber_65 : decode cX4_readNumber 65 = .ok (.iload_n 3, 1) := by decide +kernel
theorem dX4_readNumber_66 : decode cX4_readNumber 66 = .ok (.ireturn, 1) := by decide +kernel
theorem dX4_readNumber_67 : decode cX4_readNumber 67 = .ok (.iload_n 3, 1) := by decide +kernel
theorem dX4_readNumber_68 : decode cX4_readNumber 68 = .ok (.bipush 10, 2) := by decide +kernel
theorem dX4_readNumber_70 : decode cX4_readNumber 70 = .ok (.imul, 1) := by decide +kernel
theorem dX4_readNumber_71 : decode cX4_readNumber 71 = .ok (.iload 5, 2) := by decide +kernel
theorem dX4_readNumber_73 : decode cX4_readNumber 73 = .ok (.iadd, 1) := by decide +kernel
theorem dX4_readNumber_74 : decode cX4_readNumber 74 = .ok (.istore_n 3, 1) := by decide +kernel
theorem dX4_readNumber_75 : decode cX4_readNumber 75 = .ok (.aload_n 0, 1) := by decide +kernel
theorem dX4_readNumber_76 : decode cX4_readNumber 76 = .ok (.aload_n 0, 1) := by decide +kernel
theorem dX4_readNumber_77 : decode cX4_readNumber 77 = .ok (.getfield 52, 3) := by decide +kernel
theorem dX4_readNumber_80 : decode cX4_readNumber 80 = .ok (.iconst 1, 1) := by decide +kernel
theorem dX4_readNumber_81 : decode cX4_readNumber 81 = .ok (.iadd, 1) := by decide +kernel
theorem dX4_readNumber_82 : decode cX4_readNumber 82 = .ok (.invokevirtual 44, 3) := by decide +kernel
theorem dX4_readNumber_85 : decode cX4_readNumber 85 = .ok (.iinc 4 1, 3) := by decide +kernel
theorem dX4_readNumber_88 : decode cX4_readNumber 88 = .ok (.goto (-57), 3) := by decide +kernel
theorem dX4_readNumber_91 : decode cX4_readNumber 91 = .ok (.iload_n 3, 1) := by decide +kernel
theorem dX4_readNumber_92 : decode cX4_readNumber 92 = .ok (.ireturn, 1) := by decide +kernel
theorem dX4_digitHere_0 : decode cX4_digitHere 0 = .ok (.aload_n 0, 1) := by decide +kernel
theorem dX4_digitHere_1 : decode cX4_digitHere 1 = .ok (.getfield 86, 3) := by decide +kernel
theorem dX4_digitHere_4 : decode cX4_digitHere 4 = .ok (.bipush 48, 2) := by decide +kernel
theorem dX4_digitHere_6 : decode cX4_digitHere 6 = .ok (.if_icmp .lt 22, 3) := by decide +kernel
theorem dX4_digitHere_9 : decode cX4_digitHere 9 = .ok (.aload_n 0, 1) := by decide +kernel
theorem dX4_digitHere_10 : decode cX4_digitHere 10 = .ok (.getfield 86, 3) := by decide +kernel
theorem dX4_digitHere_13 : decode cX4_digitHere 13 = .ok (.bipush 57, 2) := by decide +kernel
theorem dX4_digitHere_15 : decode cX4_digitHere 15 = .ok (.if_icmp .gt 13, 3) := by decide +kernel
theorem dX4_digitHere_18 : decode cX4_digitHere 18 = .ok (.aload_n 0, 1) := by decide +kernel
theorem dX4_digitHere_19 : decode cX4_digitHere 19 = .ok (.getfield 86, 3) := by decide +kernel
theorem dX4_digitHere_22 : decode cX4_digitHere 22 = .ok (.bipush 48, 2) := by decide +kernel
theorem dX4_digitHere_24 : decode cX4_digitHere 24 = .ok (.isub, 1) := by decide +kernel
theorem dX4_digitHere_25 : decode cX4_digitHere 25 = .ok (.goto 5, 3) := by decide +kernel
theorem dX4_digitHere_28 : decode cX4_digitHere 28 = .ok (.bipush (-6), 2) := by decide +kernel
theorem dX4_digitHere_30 : decode cX4_digitHere 30 = .ok (.ireturn, 1) := by decide +kernel
theorem dX4_take_0 : decode cX4_take 0 = .ok (.aload_n 0, 1) := by decide +kernel
theorem dX4_take_1 : decode cX4_take 1 = .ok (.getfield 86, 3) := by decide +kernel
theorem dX4_take_4 : decode cX4_take 4 = .ok (.iload_n 1, 1) := by decide +kernel
theorem dX4_take_5 : decode cX4_take 5 = .ok (.if_icmp .eq 5, 3) := by decide +kernel
theorem dX4_take_8 : decode cX4_take 8 = .ok (.iconst 0, 1) := by decide +kernel
theorem dX4_take_9 : decode cX4_take 9 = .ok (.ireturn, 1) := by decide +kernel
theorem dX4_take_10 : decode cX4_take 10 = .ok (.aload_n 0, 1) := by decide +kernel
theorem dX4_take_11 : decode cX4_take 11 = .ok (.aload_n 0, 1) := by decide +kernel
theorem dX4_take_12 : decode cX4_take 12 = .ok (.getfield 52, 3) := by decide +kernel
theorem dX4_take_15 : decode cX4_take 15 = .ok (.iconst 1, 1) := by decide +kernel
theorem dX4_take_16 : decode cX4_take 16 = .ok (.iadd, 1) := by decide +kernel
theorem dX4_take_17 : decode cX4_take 17 = .ok (.invokevirtual 44, 3) := by decide +kernel
theorem dX4_take_20 : decode cX4_take 20 = .ok (.iconst 1, 1) := by decide +kernel
theorem dX4_take_21 : decode cX4_take 21 = .ok (.ireturn, 1) := by decide +kernel
theorem dX4_stepTo_0 : decode cX4_stepTo 0 = .ok (.aload_n 0, 1) := by decide +kernel
theorem dX4_stepTo_1 : decode cX4_stepTo 1 = .ok (.iload_n 1, 1) := by decide +kernel
theorem dX4_stepTo_2 : decode cX4_stepTo 2 = .ok (.putfield 52, 3) := by decide +kernel
theorem dX4_stepTo_5 : decode cX4_stepTo 5 = .ok (.aload_n 0, 1) := by decide +kernel
theorem dX4_stepTo_6 : decode cX4_stepTo 6 = .ok (.iload_n 1, 1) := by decide +kernel
theorem dX4_stepTo_7 : decode cX4_stepTo 7 = .ok (.ifCond .lt 32, 3) := by decide +kernel
theorem dX4_stepTo_10 : decode cX4_stepTo 10 = .ok (.iload_n 1, 1) := by decide +kernel
theorem dX4_stepTo_11 : decode cX4_stepTo 11 = .ok (.aload_n 0, 1) := by decide +kernel
theorem dX4_stepTo_12 : decode cX4_stepTo 12 = .ok (.getfield 12, 3) := by decide +kernel
theorem dX4_stepTo_15 : decode cX4_stepTo 15 = .ok (.getfield 55, 3) := by decide +kernel
theorem dX4_stepTo_18 : decode cX4_stepTo 18 = .ok (.if_icmp .ge 21, 3) := by decide +kernel
theorem dX4_stepTo_21 : decode cX4_stepTo 21 = .ok (.iload_n 1, 1) := by decide +kernel
theorem dX4_stepTo_22 : decode cX4_stepTo 22 = .ok (.bipush 60, 2) := by decide +kernel
theorem dX4_stepTo_24 : decode cX4_stepTo 24 = .ok (.if_icmp .ge 15, 3) := by decide +kernel
theorem dX4_stepTo_27 : decode cX4_stepTo 27 = .ok (.aload_n 0, 1) := by decide +kernel
theorem dX4_stepTo_28 : decode cX4_stepTo 28 = .ok (.getfield 12, 3) := by decide +kernel
theorem dX4_stepTo_31 : decode cX4_stepTo 31 = .ok (.getfield 89, 3) := by decide +kernel
theorem dX4_stepTo_34 : decode cX4_stepTo 34 = .ok (.iload_n 1, 1) := by decide +kernel
theorem dX4_stepTo_35 : decode cX4_stepTo 35 = .ok (.iaload, 1) := by decide +kernel
theorem dX4_stepTo_36 : decode cX4_stepTo 36 = .ok (.goto 5, 3) := by decide +kernel
theorem dX4_stepTo_39 : decode cX4_stepTo 39 = .ok (.bipush (-6), 2) := by decide +kernel
theorem dX4_stepTo_41 : decode cX4_stepTo 41 = .ok (.putfield 86, 3) := by decide +kernel
theorem dX4_stepTo_44 : decode cX4_stepTo 44 = .ok (.return_, 1) := by decide +kernel
theorem dX4_note_0 : decode cX4_note 0 = .ok (.aload_n 0, 1) := by decide +kernel
theorem dX4_note_1 : decode cX4_note 1 = .ok (.getfield 37, 3) := by decide +kernel
theorem dX4_note_4 : decode cX4_note 4 = .ok (.bipush 60, 2) := by decide +kernel
theorem dX4_note_6 : decode cX4_note 6 = .ok (.if_icmp .lt 5, 3) := by decide +kernel
theorem dX4_note_9 : decode cX4_note 9 = .ok (.iconst 0, 1) := by decide +kernel
theorem dX4_note_10 : decode cX4_note 10 = .ok (.ireturn, 1) := by decide +kernel
theorem dX4_note_11 : decode cX4_note 11 = .ok (.aload_n 0, 1) := by decide +kernel
theorem dX4_note_12 : decode cX4_note 12 = .ok (.getfield 18, 3) := by decide +kernel
theorem dX4_note_15 : decode cX4_note 15 = .ok (.aload_n 0, 1) := by decide +kernel
theorem dX4_note_16 : decode cX4_note 16 = .ok (.getfield 37, 3) := by decide +kernel
theorem dX4_note_19 : decode cX4_note 19 = .ok (.iload_n 1, 1) := by decide +kernel
theorem dX4_note_20 : decode cX4_note 20 = .ok (.iastore, 1) := by decide +kernel
theorem dX4_note_21 : decode cX4_note 21 = .ok (.aload_n 0, 1) := by decide +kernel
theorem dX4_note_22 : decode cX4_note 22 = .ok (.getfield 22, 3) := by decide +kernel
theorem dX4_note_25 : decode cX4_note 25 = .ok (.aload_n 0, 1) := by decide +kernel
theorem dX4_note_26 : decode cX4_note 26 = .ok (.getfield 37, 3) := by decide +kernel
theorem dX4_note_29 : decode cX4_note 29 = .ok (.iload_n 2, 1) := by decide +kernel
theorem dX4_note_30 : decode cX4_note 30 = .ok (.iastore, 1) := by decide +kernel
theorem dX4_note_31 : decode cX4_note 31 = .ok (.aload_n 0, 1) := by decide +kernel
theorem dX4_note_32 : decode cX4_note 32 = .ok (.getfield 25, 3) := by decide +kernel
theorem dX4_note_35 : decode cX4_note 35 = .ok (.aload_n 0, 1) := by decide +kernel
theorem dX4_note_36 : decode cX4_note 36 = .ok (.getfield 37, 3) := by decide +kernel
theorem dX4_note_39 : decode cX4_note 39 = .ok (.iload_n 3, 1) := by decide +kernel
theorem dX4_note_40 : decode cX4_note 40 = .ok (.iastore, 1) := by decide +kernel
theorem dX4_note_41 : decode cX4_note 41 = .ok (.aload_n 0, 1) := by decide +kernel
theorem dX4_note_42 : decode cX4_note 42 = .ok (.getfield 28, 3) := by decide +kernel
theorem dX4_note_45 : decode cX4_note 45 = .ok (.aload_n 0, 1) := by decide +kernel
theorem dX4_note_46 : decode cX4_note 46 = .ok (.getfield 37, 3) := by decide +kernel
theorem dX4_note_49 : decode cX4_note 49 = .ok (.aload_n 0, 1) := by decide +kernel
theorem dX4_note_50 : decode cX4_note 50 = .ok (.getfield 41, 3) := by decide +kernel
theorem dX4_note_53 : decode cX4_note 53 = .ok (.iastore, 1) := by decide +kernel
theorem dX4_note_54 : decode cX4_note 54 = .ok (.aload_n 0, 1) := by decide +kernel
theorem dX4_note_55 : decode cX4_note 55 = .ok (.dup, 1) := by decide +kernel
theorem dX4_note_56 : decode cX4_note 56 = .ok (.getfield 37, 3) := by decide +kernel
theorem dX4_note_59 : decode cX4_note 59 = .ok (.iconst 1, 1) := by decide +kernel
theorem dX4_note_60 : decode cX4_note 60 = .ok (.iadd, 1) := by decide +kernel
theorem dX4_note_61 : decode cX4_note 61 = .ok (.putfield 37, 3) := by decide +kernel
theorem dX4_note_64 : decode cX4_note 64 = .ok (.iconst 1, 1) := by decide +kernel
theorem dX4_note_65 : decode cX4_note 65 = .ok (.ireturn, 1) := by decide +kernel
theorem dX4_carryAllOut_0 : decode cX4_carryAllOut 0 = .ok (.iconst 0, 1) := by decide +kernel
theorem dX4_carryAllOut_1 : decode cX4_carryAllOut 1 = .ok (.istore_n 2, 1) := by decide +kernel
theorem dX4_carryAllOut_2 : decode cX4_carryAllOut 2 = .ok (.iload_n 2, 1) := by decide +kernel
theorem dX4_carryAllOut_3 : decode cX4_carryAllOut 3 = .ok (.aload_n 0, 1) := by decide +kernel
theorem dX4_carryAllOut_4 : decode cX4_carryAllOut 4 = .ok (.getfield 37, 3) := by decide +kernel
theorem dX4_carryAllOut_7 : decode cX4_carryAllOut 7 = .ok (.if_icmp .ge 26, 3) := by decide +kernel
theorem dX4_carryAllOut_10 : decode cX4_carryAllOut 10 = .ok (.iload_n 2, 1) := by decide +kernel
theorem dX4_carryAllOut_11 : decode cX4_carryAllOut 11 = .ok (.bipush 60, 2) := by decide +kernel
theorem dX4_carryAllOut_13 : decode cX4_carryAllOut 13 = .ok (.if_icmp .ge 20, 3) := by decide +kernel
theorem dX4_carryAllOut_16 : decode cX4_carryAllOut 16 = .ok (.aload_n 0, 1) := by decide +kernel
theorem dX4_carryAllOut_17 : decode cX4_carryAllOut 17 = .ok (.iload_n 2, 1) := by decide +kernel
theorem dX4_carryAllOut_18 : decode cX4_carryAllOut 18 = .ok (.aload_n 1, 1) := by decide +kernel
theorem dX4_carryAllOut_19 : decode cX4_carryAllOut 19 = .ok (.invokevirtual 92, 3) := by decide +kernel
theorem dX4_carryAllOut_22 : decode cX4_carryAllOut 22 = .ok (.ifCond .ne 5, 3) := by decide +kernel
theorem dX4_carryAllOut_25 : decode cX4_carryAllOut 25 = .ok (.iload_n 2, 1) := by decide +kernel
theorem dX4_carryAllOut_26 : decode cX4_carryAllOut 26 = .ok (.ireturn, 1) := by decide +kernel
theorem dX4_carryAllOut_27 : decode cX4_carryAllOut 27 = .ok (.iinc 2 1, 3) := by decide +kernel
theorem dX4_carryAllOut_30 : decode cX4_carryAllOut 30 = .ok (.goto (-28), 3) := by decide +kernel
theorem dX4_carryAllOut_33 : decode cX4_carryAllOut 33 = .ok (.aload_n 0, 1) := by decide +kernel
theorem dX4_carryAllOut_34 : decode cX4_carryAllOut 34 = .ok (.getfield 37, 3) := by decide +kernel
theorem dX4_carryAllOut_37 : decode cX4_carryAllOut 37 = .ok (.ireturn, 1) := by decide +kernel
theorem dX4_carryOneOut_0 : decode cX4_carryOneOut 0 = .ok (.aload_n 0, 1) := by decide +kernel
theorem dX4_carryOneOut_1 : decode cX4_carryOneOut 1 = .ok (.getfield 18, 3) := by decide +kernel
theorem dX4_carryOneOut_4 : decode cX4_carryOneOut 4 = .ok (.iload_n 1, 1) := by decide +kernel
theorem dX4_carryOneOut_5 : decode cX4_carryOneOut 5 = .ok (.iaload, 1) := by decide +kernel
theorem dX4_carryOneOut_6 : decode cX4_carryOneOut 6 = .ok (.tableswitch 63 0 2 #[26, 33, 51], 26) := by decide +kernel
theorem dX4_carryOneOut_32 : decode cX4_carryOneOut 32 = .ok (.aload_n 0, 1) := by decide +kernel
theorem dX4_carryOneOut_33 : decode cX4_carryOneOut 33 = .ok (.iload_n 1, 1) := by decide +kernel
theorem dX4_carryOneOut_34 : decode cX4_carryOneOut 34 = .ok (.aload_n 2, 1) := by decide +kernel
theorem dX4_carryOneOut_35 : decode cX4_carryOneOut 35 = .ok (.invokevirtual 96, 3) := by decide +kernel
theorem dX4_carryOneOut_38 : decode cX4_carryOneOut 38 = .ok (.ireturn, 1) := by decide +kernel
theorem dX4_carryOneOut_39 : decode cX4_carryOneOut 39 = .ok (.aload_n 2, 1) := by decide +kernel
theorem dX4_carryOneOut_40 : decode cX4_carryOneOut 40 = .ok (.aload_n 0, 1) := by decide +kernel
theorem dX4_carryOneOut_41 : decode cX4_carryOneOut 41 = .ok (.getfield 22, 3) := by decide +kernel
theorem dX4_carryOneOut_44 : decode cX4_carryOneOut 44 = .ok (.iload_n 1, 1) := by decide +kernel
theorem dX4_carryOneOut_45 : decode cX4_carryOneOut 45 = .ok (.iaload, 1) := by decide +kernel
theorem dX4_carryOneOut_46 : decode cX4_carryOneOut 46 = .ok (.aload_n 0, 1) := by decide +kernel
theorem dX4_carryOneOut_47 : decode cX4_carryOneOut 47 = .ok (.getfield 25, 3) := by decide +kernel
theorem dX4_carryOneOut_50 : decode cX4_carryOneOut 50 = .ok (.iload_n 1, 1) := by decide +kernel
theorem dX4_carryOneOut_51 : decode cX4_carryOneOut 51 = .ok (.iaload, 1) := by decide +kernel
theorem dX4_carryOneOut_52 : decode cX4_carryOneOut 52 = .ok (.invokevirtual 99, 3) := by decide +kernel
theorem dX4_carryOneOut_55 : decode cX4_carryOneOut 55 = .ok (.iconst 1, 1) := by decide +kernel
theorem dX4_carryOneOut_56 : decode cX4_carryOneOut 56 = .ok (.ireturn, 1) := by decide +kernel
theorem dX4_carryOneOut_57 : decode cX4_carryOneOut 57 = .ok (.aload_n 0, 1) := by decide +kernel
theorem dX4_carryOneOut_58 : decode cX4_carryOneOut 58 = .ok (.aload_n 0, 1) := by decide +kernel
theorem dX4_carryOneOut_59 : decode cX4_carryOneOut 59 = .ok (.getfield 22, 3) := by decide +kernel
theorem dX4_carryOneOut_62 : decode cX4_carryOneOut 62 = .ok (.iload_n 1, 1) := by decide +kernel
theorem dX4_carryOneOut_63 : decode cX4_carryOneOut 63 = .ok (.iaload, 1) := by decide +kernel
theorem dX4_carryOneOut_64 : decode cX4_carryOneOut 64 = .ok (.aload_n 2, 1) := by decide +kernel
theorem dX4_carryOneOut_65 : decode cX4_carryOneOut 65 = .ok (.invokevirtual 105, 3) := by decide +kernel
theorem dX4_carryOneOut_68 : decode cX4_carryOneOut 68 = .ok (.ireturn, 1) := by decide +kernel
theorem dX4_carryOneOut_69 : decode cX4_carryOneOut 69 = .ok (.aload_n 2, 1) := by decide +kernel
theorem dX4_carryOneOut_70 : decode cX4_carryOneOut 70 = .ok (.invokevirtual 108, 3) := by decide +kernel
theorem dX4_carryOneOut_73 : decode cX4_carryOneOut 73 = .ok (.pop, 1) := by decide +kernel
theorem dX4_carryOneOut_74 : decode cX4_carryOneOut 74 = .ok (.iconst 1, 1) := by decide +kernel
theorem dX4_carryOneOut_75 : decode cX4_carryOneOut 75 = .ok (.ireturn, 1) := by decide +kernel
theorem dX4_startRecorded_0 : decode cX4_startRecorded 0 = .ok (.aload_n 2, 1) := by decide +kernel
theorem dX4_startRecorded_1 : decode cX4_startRecorded 1 = .ok (.iload_n 1, 1) := by decide +kernel
theorem dX4_startRecorded_2 : decode cX4_startRecorded 2 = .ok (.invokevirtual 111, 3) := by decide +kernel
theorem dX4_startRecorded_5 : decode cX4_startRecorded 5 = .ok (.ifCond .ne 5, 3) := by decide +kernel
theorem dX4_startRecorded_8 : decode cX4_startRecorded 8 = .ok (.iconst 0, 1) := by decide +kernel
theorem dX4_startRecorded_9 : decode cX4_startRecorded 9 = .ok (.ireturn, 1) := by decide +kernel
theorem dX4_startRecorded_10 : decode cX4_startRecorded 10 = .ok (.aload_n 2, 1) := by decide +kernel
theorem dX4_startRecorded_11 : decode cX4_startRecorded 11 = .ok (.iload_n 1, 1) := by decide +kernel
theorem dX4_startRecorded_12 : decode cX4_startRecorded 12 = .ok (.aload_n 2, 1) := by decide +kernel
theorem dX4_startRecorded_13 : decode cX4_startRecorded 13 = .ok (.getfield 115, 3) := by decide +kernel
theorem dX4_startRecorded_16 : decode cX4_startRecorded 16 = .ok (.iload_n 1, 1) := by decide +kernel
theorem dX4_startRecorded_17 : decode cX4_startRecorded 17 = .ok (.iaload, 1) := by decide +kernel
theorem dX4_startRecorded_18 : decode cX4_startRecorded 18 = .ok (.invokevirtual 116, 3) := by decide +kernel
theorem dX4_startRecorded_21 : decode cX4_startRecorded 21 = .ok (.iconst 1, 1) := by decide +kernel
theorem dX4_startRecorded_22 : decode cX4_startRecorded 22 = .ok (.ireturn, 1) := by decide +kernel
theorem dX4_changeLevels_0 : decode cX4_changeLevels 0 = .ok (.iload_n 1, 1) := by decide +kernel
theorem dX4_changeLevels_1 : decode cX4_changeLevels 1 = .ok (.ifCond .le 14, 3) := by decide +kernel
theorem dX4_changeLevels_4 : decode cX4_changeLevels 4 = .ok (.aload_n 0, 1) := by decide +kernel
theorem dX4_changeLevels_5 : decode cX4_changeLevels 5 = .ok (.getfield 28, 3) := by decide +kernel
theorem dX4_changeLevels_8 : decode cX4_changeLevels 8 = .ok (.iload_n 1, 1) := by decide +kernel
theorem dX4_changeLevels_9 : decode cX4_changeLevels 9 = .ok (.iconst 1, 1) := by decide +kernel
theorem dX4_changeLevels_10 : decode cX4_changeLevels 10 = .ok (.isub, 1) := by decide +kernel
theorem dX4_changeLevels_11 : decode cX4_changeLevels 11 = .ok (.iaload, 1) := by decide +kernel
theorem dX4_changeLevels_12 : decode cX4_changeLevels 12 = .ok (.goto 4, 3) := by decide +kernel
theorem dX4_changeLevels_15 : decode cX4_changeLevels 15 = .ok (.iconst 0, 1) := by decide +kernel
theorem dX4_changeLevels_16 : decode cX4_changeLevels 16 = .ok (.istore_n 3, 1) := by decide +kernel
theorem dX4_changeLevels_17 : decode cX4_changeLevels 17 = .ok (.iload_n 3, 1) := by decide +kernel
theorem dX4_changeLevels_18 : decode cX4_changeLevels 18 = .ok (.istore 4, 2) := by decide +kernel
theorem dX4_changeLevels_20 : decode cX4_changeLevels 20 = .ok (.iload 4, 2) := by decide +kernel
theorem dX4_changeLevels_22 : decode cX4_changeLevels 22 = .ok (.aload_n 0, 1) := by decide +kernel
theorem dX4_changeLevels_23 : decode cX4_changeLevels 23 = .ok (.getfield 28, 3) := by decide +kernel
theorem dX4_changeLevels_26 : decode cX4_changeLevels 26 = .ok (.iload_n 1, 1) := by decide +kernel
theorem dX4_changeLevels_27 : decode cX4_changeLevels 27 = .ok (.iaload, 1) := by decide +kernel
theorem dX4_changeLevels_28 : decode cX4_changeLevels 28 = .ok (.if_icmp .ge 46, 3) := by decide +kernel
theorem dX4_changeLevels_31 : decode cX4_changeLevels 31 = .ok (.iload 4, 2) := by decide +kernel
theorem dX4_changeLevels_33 : decode cX4_changeLevels 33 = .ok (.bipush 60, 2) := by decide +kernel
theorem dX4_changeLevels_35 : decode cX4_changeLevels 35 = .ok (.if_icmp .ge 39, 3) := by decide +kernel
theorem dX4_changeLevels_38 : decode cX4_changeLevels 38 = .ok (.aload_n 0, 1) := by decide +kernel
theorem dX4_changeLevels_39 : decode cX4_changeLevels 39 = .ok (.aload_n 2, 1) := by decide +kernel
theorem dX4_changeLevels_40 : decode cX4_changeLevels 40 = .ok (.aload_n 0, 1) := by decide +kernel
theorem dX4_changeLevels_41 : decode cX4_changeLevels 41 = .ok (.getfield 31, 3) := by decide +kernel
theorem dX4_changeLevels_44 : decode cX4_changeLevels 44 = .ok (.iload 4, 2) := by decide +kernel
theorem dX4_changeLevels_46 : decode cX4_changeLevels 46 = .ok (.iaload, 1) := by decide +kernel
theorem dX4_changeLevels_47 : decode cX4_changeLevels 47 = .ok (.aload_n 0, 1) := by decide +kernel
theorem dX4_changeLevels_48 : decode cX4_changeLevels 48 = .ok (.getfield 34, 3) := by decide +kernel
theorem dX4_changeLevels_51 : decode cX4_changeLevels 51 = .ok (.iload 4, 2) := by decide +kernel
theorem dX4_changeLevels_53 : decode cX4_changeLevels 53 = .ok (.iaload, 1) := by decide +kernel
theorem dX4_changeLevels_54 : decode cX4_changeLevels 54 = .ok (.aload_n 0, 1) := by decide +kernel
theorem dX4_changeLevels_55 : decode cX4_changeLevels 55 = .ok (.getfield 22, 3) := by decide +kernel
theorem dX4_changeLevels_58 : decode cX4_changeLevels 58 = .ok (.iload_n 1, 1) := by decide +kernel
theorem dX4_changeLevels_59 : decode cX4_changeLevels 59 = .ok (.iaload, 1) := by decide +kernel
theorem dX4_changeLevels_60 : decode cX4_changeLevels 60 = .ok (.invokevirtual 119, 3) := by decide +kernel
theorem dX4_changeLevels_63 : decode cX4_changeLevels 63 = .ok (.ifCond .ne 5, 3) := by decide +kernel
theorem dX4_changeLevels_66 : decode cX4_changeLevels 66 = .ok (.iconst 0, 1) := by decide +kernel
theorem dX4_changeLevels_67 : decode cX4_changeLevels 67 = .ok (.ireturn, 1) := by decide +kernel
theorem dX4_changeLevels_68 : decode cX4_changeLevels 68 = .ok (.iinc 4 1, 3) := by decide +kernel
theorem dX4_changeLevels_71 : decode cX4_changeLevels 71 = .ok (.goto (-51), 3) := by decide +kernel
theorem dX4_changeLevels_74 : decode cX4_changeLevels 74 = .ok (.iconst 1, 1) := by decide +kernel
theorem dX4_changeLevels_75 : decode cX4_changeLevels 75 = .ok (.ireturn, 1) := by decide +kernel
theorem dX4_changeSpan_0 : decode cX4_changeSpan 0 = .ok (.iload_n 3, 1) := by decide +kernel
theorem dX4_changeSpan_1 : decode cX4_changeSpan 1 = .ok (.iload_n 2, 1) := by decide +kernel
theorem dX4_changeSpan_2 : decode cX4_changeSpan 2 = .ok (.if_icmp .ge 7, 3) := by decide +kernel
theorem dX4_changeSpan_5 : decode cX4_changeSpan 5 = .ok (.iconst (-1), 1) := by decide +kernel
theorem dX4_changeSpan_6 : decode cX4_changeSpan 6 = .ok (.goto 4, 3) := by decide +kernel
theorem dX4_changeSpan_9 : decode cX4_changeSpan 9 = .ok (.iconst 1, 1) := by decide +kernel
theorem dX4_changeSpan_10 : decode cX4_changeSpan 10 = .ok (.istore 5, 2) := by decide +kernel
theorem dX4_changeSpan_12 : decode cX4_changeSpan 12 = .ok (.iload_n 3, 1) := by decide +kernel
theorem dX4_changeSpan_13 : decode cX4_changeSpan 13 = .ok (.iload_n 2, 1) := by decide +kernel
theorem dX4_changeSpan_14 : decode cX4_changeSpan 14 = .ok (.isub, 1) := by decide +kernel
theorem dX4_changeSpan_15 : decode cX4_changeSpan 15 = .ok (.invokestatic 123, 3) := by decide +kernel
theorem dX4_changeSpan_18 : decode cX4_changeSpan 18 = .ok (.istore 6, 2) := by decide +kernel
theorem dX4_changeSpan_20 : decode cX4_changeSpan 20 = .ok (.iconst 0, 1) := by decide +kernel
theorem dX4_changeSpan_21 : decode cX4_changeSpan 21 = .ok (.istore 7, 2) := by decide +kernel
theorem dX4_changeSpan_23 : decode cX4_changeSpan 23 = .ok (.iload 7, 2) := by decide +kernel
theorem dX4_changeSpan_25 : decode cX4_changeSpan 25 = .ok (.iload 6, 2) := by decide +kernel
theorem dX4_changeSpan_27 : decode cX4_changeSpan 27 = .ok (.if_icmp .gt 45, 3) := by decide +kernel
theorem dX4_changeSpan_30 : decode cX4_changeSpan 30 = .ok (.iload 7, 2) := by decide +kernel
theorem dX4_changeSpan_32 : decode cX4_changeSpan 32 = .ok (.bipush 12, 2) := by decide +kernel
theorem dX4_changeSpan_34 : decode cX4_changeSpan 34 = .ok (.if_icmp .ge 38, 3) := by decide +kernel
theorem dX4_changeSpan_37 : decode cX4_changeSpan 37 = .ok (.iload_n 2, 1) := by decide +kernel
theorem dX4_changeSpan_38 : decode cX4_changeSpan 38 = .ok (.iload 7, 2) := by decide +kernel
theorem dX4_changeSpan_40 : decode cX4_changeSpan 40 = .ok (.iload 5, 2) := by decide +kernel
theorem dX4_changeSpan_42 : decode cX4_changeSpan 42 = .ok (.imul, 1) := by decide +kernel
theorem dX4_changeSpan_43 : decode cX4_changeSpan 43 = .ok (.iadd, 1) := by decide +kernel
theorem dX4_changeSpan_44 : decode cX4_changeSpan 44 = .ok (.istore 8, 2) := by decide +kernel
theorem dX4_changeSpan_46 : decode cX4_changeSpan 46 = .ok (.aload_n 1, 1) := by decide +kernel
theorem dX4_changeSpan_47 : decode cX4_changeSpan 47 = .ok (.iload 8, 2) := by decide +kernel
theorem dX4_changeSpan_49 : decode cX4_changeSpan 49 = .ok (.invokevirtual 129, 3) := by decide +kernel
theorem dX4_changeSpan_52 : decode cX4_changeSpan 52 = .ok (.ifCond .ne 5, 3) := by decide +kernel
theorem dX4_changeSpan_55 : decode cX4_changeSpan 55 = .ok (.iconst 0, 1) := by decide +kernel
theorem dX4_changeSpan_56 : decode cX4_changeSpan 56 = .ok (.ireturn, 1) := by decide +kernel
theorem dX4_changeSpan_57 : decode cX4_changeSpan 57 = .ok (.aload_n 1, 1) := by decide +kernel
theorem dX4_changeSpan_58 : decode cX4_changeSpan 58 = .ok (.getfield 132, 3) := by decide +kernel
theorem dX4_changeSpan_61 : decode cX4_changeSpan 61 = .ok (.iload 8, 2) := by decide +kernel
theorem dX4_changeSpan_63 : decode cX4_changeSpan 63 = .ok (.iload 4, 2) := by decide +kernel
theorem dX4_changeSpan_65 : decode cX4_changeSpan 65 = .ok (.iastore, 1) := by decide +kernel
theorem dX4_changeSpan_66 : decode cX4_changeSpan 66 = .ok (.iinc 7 1, 3) := by decide +kernel
theorem dX4_changeSpan_69 : decode cX4_changeSpan 69 = .ok (.goto (-46), 3) := by decide +kernel
theorem dX4_changeSpan_72 : decode cX4_changeSpan 72 = .ok (.iconst 1, 1) := by decide +kernel
theorem dX4_changeSpan_73 : decode cX4_changeSpan 73 = .ok (.ireturn, 1) := by decide +kernel
theorem dX5_init_0 : decode cX5_init 0 = .ok (.aload_n 0, 1) := by decide +kernel
theorem dX5_init_1 : decode cX5_init 1 = .ok (.invokespecial 3, 3) := by decide +kernel
theorem dX5_init_4 : decode cX5_init 4 = .ok (.aload_n 0, 1) := by decide +kernel
theorem dX5_init_5 : decode cX5_init 5 = .ok (.bipush 60, 2) := by decide +kernel
theorem dX5_init_7 : decode cX5_init 7 = .ok (.newarray .int, 2) := by decide +kernel
theorem dX5_init_9 : decode cX5_init 9 = .ok (.putfield 9, 3) := by decide +kernel
theorem dX5_init_12 : decode cX5_init 12 = .ok (.return_, 1) := by decide +kernel
theorem dX5_signsIn_0 : decode cX5_signsIn 0 = .ok (.iconst 0, 1) := by decide +kernel
theorem dX5_signsIn_1 : decode cX5_signsIn 1 = .ok (.istore_n 2, 1) := by decide +kernel
theorem dX5_signsIn_2 : decode cX5_signsIn 2 = .ok (.iload_n 2, 1) := by decide +kernel
theorem dX5_signsIn_3 : decode cX5_signsIn 3 = .ok (.bipush 8, 2) := by decide +kernel
theorem dX5_signsIn_5 : decode cX5_signsIn 5 = .ok (.if_icmp .ge 62, 3) := by decide +kernel
theorem dX5_signsIn_8 : decode cX5_signsIn 8 = .ok (.lload_n 0, 1) := by decide +kernel
theorem dX5_signsIn_9 : decode cX5_signsIn 9 = .ok (.bipush 8, 2) := by decide +kernel
theorem dX5_signsIn_11 : decode cX5_signsIn 11 = .ok (.iload_n 2, 1) := by decide +kernel
theorem dX5_signsIn_12 : decode cX5_signsIn 12 = .ok (.imul, 1) := by decide +kernel
theorem dX5_signsIn_13 : decode cX5_signsIn 13 = .ok (.lushr, 1) := by decide +kernel
theorem dX5_signsIn_14 : decode cX5_signsIn 14 = .ok (.lstore_n 3, 1) := by decide +kernel
theorem dX5_signsIn_15 : decode cX5_signsIn 15 = .ok (.lload_n 3, 1) := by decide +kernel
theorem dX5_signsIn_16 : decode cX5_signsIn 16 = .ok (.ldc2_w 15, 3) := by decide +kernel
theorem dX5_signsIn_19 : decode cX5_signsIn 19 = .ok (.land, 1) := by decide +kernel
theorem dX5_signsIn_20 : decode cX5_signsIn 20 = .ok (.lstore 5, 2) := by decide +kernel
theorem dX5_signsIn_22 : decode cX5_signsIn 22 = .ok (.lload 5, 2) := by decide +kernel
theorem dX5_signsIn_24 : decode cX5_signsIn 24 = .ok (.lconst 0, 1) := by decide +kernel
theorem dX5_signsIn_25 : decode cX5_signsIn 25 = .ok (.lcmp, 1) := by decide +kernel
theorem dX5_signsIn_26 : decode cX5_signsIn 26 = .ok (.ifCond .ne 15, 3) := by decide +kernel
theorem dX5_signsIn_29 : decode cX5_signsIn 29 = .ok (.lload_n 3, 1) := by decide +kernel
theorem dX5_signsIn_30 : decode cX5_signsIn 30 = .ok (.lconst 0, 1) := by decide +kernel
theorem dX5_signsIn_31 : decode cX5_signsIn 31 = .ok (.lcmp, 1) := by decide +kernel
theorem dX5_signsIn_32 : decode cX5_signsIn 32 = .ok (.ifCond .ne 7, 3) := by decide +kernel
theorem dX5_signsIn_35 : decode cX5_signsIn 35 = .ok (.iload_n 2, 1) := by decide +kernel
theorem dX5_signsIn_36 : decode cX5_signsIn 36 = .ok (.goto 4, 3) := by decide +kernel
theorem dX5_signsIn_39 : decode cX5_signsIn 39 = .ok (.iconst 0, 1) := by decide +kernel
theorem dX5_signsIn_40 : decode cX5_signsIn 40 = .ok (.ireturn, 1) := by decide +kernel
theorem dX5_signsIn_41 : decode cX5_signsIn 41 = .ok (.lload 5, 2) := by decide +kernel
theorem dX5_signsIn_43 : decode cX5_signsIn 43 = .ok (.ldc2_w 17, 3) := by decide +kernel
theorem dX5_signsIn_46 : decode cX5_signsIn 46 = .ok (.lcmp, 1) := by decide +kernel
theorem dX5_signsIn_47 : decode cX5_signsIn 47 = .ok (.ifCond .lt 12, 3) := by decide +kernel
theorem dX5_signsIn_50 : decode cX5_signsIn 50 = .ok (.lload 5, 2) := by decide +kernel
theorem dX5_signsIn_52 : decode cX5_signsIn 52 = .ok (.ldc2_w 19, 3) := by decide +kernel
theorem dX5_signsIn_55 : decode cX5_signsIn 55 = .ok (.lcmp, 1) := by decide +kernel
theorem dX5_signsIn_56 : decode cX5_signsIn 56 = .ok (.ifCond .le 5, 3) := by decide +kernel
theorem dX5_signsIn_59 : decode cX5_signsIn 59 = .ok (.iconst 0, 1) := by decide +kernel
theorem dX5_signsIn_60 : decode cX5_signsIn 60 = .ok (.ireturn, 1) := by decide +kernel
theorem dX5_signsIn_61 : decode cX5_signsIn 61 = .ok (.iinc 2 1, 3) := by decide +kernel
theorem dX5_signsIn_64 : decode cX5_signsIn 64 = .ok (.goto (-62), 3) := by decide +kernel
theorem dX5_signsIn_67 : decode cX5_signsIn 67 = .ok (.bipush 8, 2) := by decide +kernel
theorem dX5_signsIn_69 : decode cX5_signsIn 69 = .ok (.ireturn, 1) := by decide +kernel
theorem dX5_append_0 : decode cX5_append 0 = .ok (.iload_n 3, 1) := by decide +kernel
theorem dX5_append_1 : decode cX5_append 1 = .ok (.iconst 1, 1) := by decide +kernel
theorem dX5_append_2 : decode cX5_append 2 = .ok (.isub, 1) := by decide +kernel
theorem dX5_append_3 : decode cX5_append 3 = .ok (.istore 4, 2) := by decide +kernel
theorem dX5_append_5 : decode cX5_append 5 = .ok (.iload 4, 2) := by decide +kernel
theorem dX5_append_7 : decode cX5_append 7 = .ok (.ifCond .lt 52, 3) := by decide +kernel
theorem dX5_append_10 : decode cX5_append 10 = .ok (.aload_n 0, 1) := by decide +kernel
theorem dX5_append_11 : decode cX5_append 11 = .ok (.getfield 21, 3) := by decide +kernel
theorem dX5_append_14 : decode cX5_append 14 = .ok (.aload_n 0, 1) := by decide +kernel
theorem dX5_append_15 : decode cX5_append 15 = .ok (.getfield 9, 3) := by decide +kernel
theorem dX5_append_18 : decode cX5_append 18 = .ok (.arraylength, 1) := by decide +kernel
theorem dX5_append_19 : decode cX5_append 19 = .ok (.if_icmp .ge 40, 3) := by decide +kernel
theorem dX5_append_22 : decode cX5_append 22 = .ok (.aload_n 0, 1) := by decide +kernel
theorem dX5_append_23 : decode cX5_append 23 = .ok (.getfield 9, 3) := by decide +kernel
theorem dX5_append_26 : decode cX5_append 26 = .ok (.aload_n 0, 1) := by decide +kernel
theorem dX5_append_27 : decode cX5_append 27 = .ok (.getfield 21, 3) := by decide +kernel
theorem dX5_append_30 : decode cX5_append 30 = .ok (.lload_n 1, 1) := by decide +kernel
theorem dX5_append_31 : decode cX5_append 31 = .ok (.bipush 8, 2) := by decide +kernel
theorem dX5_append_33 : decode cX5_append 33 = .ok (.iload 4, 2) := by decide +kernel
theorem dX5_append_35 : decode cX5_append 35 = .ok (.imul, 1) := by decide +kernel
theorem dX5_append_36 : decode cX5_append 36 = .ok (.lushr, 1) := by decide +kernel
theorem dX5_append_37 : decode cX5_append 37 = .ok (.ldc2_w 15, 3) := by decide +kernel
theorem dX5_append_40 : decode cX5_append 40 = .ok (.land, 1) := by decide +kernel
theorem dX5_append_41 : decode cX5_append 41 = .ok (.l2i, 1) := by decide +kernel
theorem dX5_append_42 : decode cX5_append 42 = .ok (.iastore, 1) := by decide +kernel
theorem dX5_append_43 : decode cX5_append 43 = .ok (.aload_n 0, 1) := by decide +kernel
theorem dX5_append_44 : decode cX5_append 44 = .ok (.dup, 1) := by decide +kernel
theorem dX5_append_45 : decode cX5_append 45 = .ok (.getfield 21, 3) := by decide +kernel
theorem dX5_append_48 : decode cX5_append 48 = .ok (.iconst 1, 1) := by decide +kernel
theorem dX5_append_49 : decode cX5_append 49 = .ok (.iadd, 1) := by decide +kernel
theorem dX5_append_50 : decode cX5_append 50 = .ok (.putfield 21, 3) := by decide +kernel
theorem dX5_append_53 : decode cX5_append 53 = .ok (.iinc 4 (-1), 3) := by decide +kernel
theorem dX5_append_56 : decode cX5_append 56 = .ok (.goto (-51), 3) := by decide +kernel
theorem dX5_append_59 : decode cX5_append 59 = .ok (.return_, 1) := by decide +kernel
theorem dX6_init_0 : decode cX6_init 0 = .ok (.aload_n 0, 1) := by decide +kernel
theorem dX6_init_1 : decode cX6_init 1 = .ok (.invokespecial 3, 3) := by decide +kernel
theorem dX6_init_4 : decode cX6_init 4 = .ok (.aload_n 0, 1) := by decide +kernel
theorem dX6_init_5 : decode cX6_init 5 = .ok (.bipush 12, 2) := by decide +kernel
theorem dX6_init_7 : decode cX6_init 7 = .ok (.newarray .int, 2) := by decide +kernel
theorem dX6_init_9 : decode cX6_init 9 = .ok (.putfield 9, 3) := by decide +kernel
theorem dX6_init_12 : decode cX6_init 12 = .ok (.aload_n 0, 1) := by decide +kernel
theorem dX6_init_13 : decode cX6_init 13 = .ok (.bipush 12, 2) := by decide +kernel
theorem dX6_init_15 : decode cX6_init 15 = .ok (.newarray .int, 2) := by decide +kernel
theorem dX6_init_17 : decode cX6_init 17 = .ok (.putfield 15, 3) := by decide +kernel
theorem dX6_init_20 : decode cX6_init 20 = .ok (.aload_n 0, 1) := by decide +kernel
theorem dX6_init_21 : decode cX6_init 21 = .ok (.bipush 12, 2) := by decide +kernel
theorem dX6_init_23 : decode cX6_init 23 = .ok (.newarray .int, 2) := by decide +kernel
theorem dX6_init_25 : decode cX6_init 25 = .ok (.putfield 18, 3) := by decide +kernel
theorem dX6_init_28 : decode cX6_init 28 = .ok (.aload_n 0, 1) := by decide +kernel
theorem dX6_init_29 : decode cX6_init 29 = .ok (.bipush 12, 2) := by decide +kernel
theorem dX6_init_31 : decode cX6_init 31 = .ok (.newarray .int, 2) := by decide +kernel
theorem dX6_init_33 : decode cX6_init 33 = .ok (.putfield 21, 3) := by decide +kernel
theorem dX6_init_36 : decode cX6_init 36 = .ok (.aload_n 0, 1) := by decide +kernel
theorem dX6_init_37 : decode cX6_init 37 = .ok (.bipush 12, 2) := by decide +kernel
theorem dX6_init_39 : decode cX6_init 39 = .ok (.newarray .int, 2) := by decide +kernel
theorem dX6_init_41 : decode cX6_init 41 = .ok (.putfield 24, 3) := by decide +kernel
theorem dX6_init_44 : decode cX6_init 44 = .ok (.aload_n 0, 1) := by decide +kernel
theorem dX6_init_45 : decode cX6_init 45 = .ok (.bipush 8, 2) := by decide +kernel
theorem dX6_init_47 : decode cX6_init 47 = .ok (.newarray .int, 2) := by decide +kernel
theorem dX6_init_49 : decode cX6_init 49 = .ok (.putfield 27, 3) := by decide +kernel
theorem dX6_init_52 : decode cX6_init 52 = .ok (.aload_n 0, 1) := by decide +kernel
theorem dX6_init_53 : decode cX6_init 53 = .ok (.bipush 8, 2) := by decide +kernel
theorem dX6_init_55 : decode cX6_init 55 = .ok (.bipush 12, 2) := by decide +kernel
theorem dX6_init_57 : decode cX6_init 57 = .ok (.multianewarray 30 2, 4) := by decide +kernel
theorem dX6_init_61 : decode cX6_init 61 = .ok (.putfield 32, 3) := by decide +kernel
theorem dX6_init_64 : decode cX6_init 64 = .ok (.aload_n 0, 1) := by decide +kernel
theorem dX6_init_65 : decode cX6_init 65 = .ok (.new 35, 3) := by decide +kernel
theorem dX6_init_68 : decode cX6_init 68 = .ok (.dup, 1) := by decide +kernel
theorem dX6_init_69 : decode cX6_init 69 = .ok (.invokespecial 37, 3) := by decide +kernel
theorem dX6_init_72 : decode cX6_init 72 = .ok (.putfield 38, 3) := by decide +kernel
theorem dX6_init_75 : decode cX6_init 75 = .ok (.aload_n 0, 1) := by decide +kernel
theorem dX6_init_76 : decode cX6_init 76 = .ok (.new 42, 3) := by decide +kernel
theorem dX6_init_79 : decode cX6_init 79 = .ok (.dup, 1) := by decide +kernel
theorem dX6_init_80 : decode cX6_init 80 = .ok (.bipush 12, 2) := by decide +kernel
theorem dX6_init_82 : decode cX6_init 82 = .ok (.newarray .int, 2) := by decide +kernel
theorem dX6_init_84 : decode cX6_init 84 = .ok (.invokespecial 44, 3) := by decide +kernel
theorem dX6_init_87 : decode cX6_init 87 = .ok (.putfield 47, 3) := by decide +kernel
theorem dX6_init_90 : decode cX6_init 90 = .ok (.aload_n 0, 1) := by decide +kernel
theorem dX6_init_91 : decode cX6_init 91 = .ok (.new 42, 3) := by decide +kernel
theorem dX6_init_94 : decode cX6_init 94 = .ok (.dup, 1) := by decide +kernel
theorem dX6_init_95 : decode cX6_init 95 = .ok (.iconst 3, 1) := by decide +kernel
theorem dX6_init_96 : decode cX6_init 96 = .ok (.newarray .int, 2) := by decide +kernel
theorem dX6_init_98 : decode cX6_init 98 = .ok (.invokespecial 44, 3) := by decide +kernel
theorem dX6_init_101 : decode cX6_init 101 = .ok (.putfield 51, 3) := by decide +kernel
theorem dX6_init_104 : decode cX6_init 104 = .ok (.iconst 0, 1) := by decide +kernel
theorem dX6_init_105 : decode cX6_init 105 = .ok (.istore_n 1, 1) := by decide +kernel
theorem dX6_init_106 : decode cX6_init 106 = .ok (.iload_n 1, 1) := by decide +kernel
theorem dX6_init_107 : decode cX6_init 107 = .ok (.bipush 12, 2) := by decide +kernel
theorem dX6_init_109 : decode cX6_init 109 = .ok (.if_icmp .ge 18, 3) := by decide +kernel
theorem dX6_init_112 : decode cX6_init 112 = .ok (.aload_n 0, 1) := by decide +kernel
theorem dX6_init_113 : decode cX6_init 113 = .ok (.getfield 24, 3) := by decide +kernel
theorem dX6_init_116 : decode cX6_init 116 = .ok (.iload_n 1, 1) := by decide +kernel
theorem dX6_init_117 : decode cX6_init 117 = .ok (.iload_n 1, 1) := by decide +kernel
theorem dX6_init_118 : decode cX6_init 118 = .ok (.iconst 3, 1) := by decide +kernel
theorem dX6_init_119 : decode cX6_init 119 = .ok (.irem, 1) := by decide +kernel
theorem dX6_init_120 : decode cX6_init 120 = .ok (.iastore, 1) := by decide +kernel
theorem dX6_init_121 : decode cX6_init 121 = .ok (.iinc 1 1, 3) := by decide +kernel
theorem dX6_init_124 : decode cX6_init 124 = .ok (.goto (-18), 3) := by decide +kernel
theorem dX6_init_127 : decode cX6_init 127 = .ok (.return_, 1) := by decide +kernel
theorem dX6_copyFrom_0 : decode cX6_copyFrom 0 = .ok (.aload_n 0, 1) := by decide +kernel
theorem dX6_copyFrom_1 : decode cX6_copyFrom 1 = .ok (.aload_n 1, 1) := by decide +kernel
theorem dX6_copyFrom_2 : decode cX6_copyFrom 2 = .ok (.getfield 54, 3) := by decide +kernel
theorem dX6_copyFrom_5 : decode cX6_copyFrom 5 = .ok (.putfield 54, 3) := by decide +kernel
theorem dX6_copyFrom_8 : decode cX6_copyFrom 8 = .ok (.aload_n 0, 1) := by decide +kernel
theorem dX6_copyFrom_9 : decode cX6_copyFrom 9 = .ok (.aload_n 1, 1) := by decide +kernel
theorem dX6_copyFrom_10 : decode cX6_copyFrom 10 = .ok (.getfield 58, 3) := by decide +kernel
theorem dX6_copyFrom_13 : decode cX6_copyFrom 13 = .ok (.putfield 58, 3) := by decide +kernel
theorem dX6_copyFrom_16 : decode cX6_copyFrom 16 = .ok (.aload_n 0, 1) := by decide +kernel
theorem dX6_copyFrom_17 : decode cX6_copyFrom 17 = .ok (.aload_n 1, 1) := by decide +kernel
theorem dX6_copyFrom_18 : decode cX6_copyFrom 18 = .ok (.getfield 61, 3) := by decide +kernel
theorem dX6_copyFrom_21 : decode cX6_copyFrom 21 = .ok (.putfield 61, 3) := by decide +kernel
theorem dX6_copyFrom_24 : decode cX6_copyFrom 24 = .ok (.aload_n 1, 1) := by decide +kernel
theorem dX6_copyFrom_25 : decode cX6_copyFrom 25 = .ok (.getfield 9, 3) := by decide +kernel
theorem dX6_copyFrom_28 : decode cX6_copyFrom 28 = .ok (.aload_n 0, 1) := by decide +kernel
theorem dX6_copyFrom_29 : decode cX6_copyFrom 29 = .ok (.getfield 9, 3) := by decide +kernel
theorem dX6_copyFrom_32 : decode cX6_copyFrom 32 = .ok (.invokestatic 64, 3) := by decide +kernel
theorem dX6_copyFrom_35 : decode cX6_copyFrom 35 = .ok (.aload_n 1, 1) := by decide +kernel
theorem dX6_copyFrom_36 : decode cX6_copyFrom 36 = .ok (.getfield 15, 3) := by decide +kernel
theorem dX6_copyFrom_39 : decode cX6_copyFrom 39 = .ok (.aload_n 0, 1) := by decide +kernel
theorem dX6_copyFrom_40 : decode cX6_copyFrom 40 = .ok (.getfield 15, 3) := by decide +kernel
theorem dX6_copyFrom_43 : decode cX6_copyFrom 43 = .ok (.invokestatic 64, 3) := by decide +kernel
theorem dX6_copyFrom_46 : decode cX6_copyFrom 46 = .ok (.aload_n 1, 1) := by decide +kernel
theorem dX6_copyFrom_47 : decode cX6_copyFrom 47 = .ok (.getfield 18, 3) := by decide +kernel
theorem dX6_copyFrom_50 : decode cX6_copyFrom 50 = .ok (.aload_n 0, 1) := by decide +kernel
theorem dX6_copyFrom_51 : decode cX6_copyFrom 51 = .ok (.getfield 18, 3) := by decide +kernel
theorem dX6_copyFrom_54 : decode cX6_copyFrom 54 = .ok (.invokestatic 64, 3) := by decide +kernel
theorem dX6_copyFrom_57 : decode cX6_copyFrom 57 = .ok (.aload_n 1, 1) := by decide +kernel
theorem dX6_copyFrom_58 : decode cX6_copyFrom 58 = .ok (.getfield 21, 3) := by decide +kernel
theorem dX6_copyFrom_61 : decode cX6_copyFrom 61 = .ok (.aload_n 0, 1) := by decide +kernel
theorem dX6_copyFrom_62 : decode cX6_copyFrom 62 = .ok (.getfield 21, 3) := by decide +kernel
theorem dX6_copyFrom_65 : decode cX6_copyFrom 65 = .ok (.invokestatic 64, 3) := by decide +kernel
theorem dX6_copyFrom_68 : decode cX6_copyFrom 68 = .ok (.aload_n 1, 1) := by decide +kernel
theorem dX6_copyFrom_69 : decode cX6_copyFrom 69 = .ok (.getfield 24, 3) := by decide +kernel
theorem dX6_copyFrom_72 : decode cX6_copyFrom 72 = .ok (.aload_n 0, 1) := by decide +kernel
theorem dX6_copyFrom_73 : decode cX6_copyFrom 73 = .ok (.getfield 24, 3) := by decide +kernel
theorem dX6_copyFrom_76 : decode cX6_copyFrom 76 = .ok (.invokestatic 64, 3) := by decide +kernel
theorem dX6_copyFrom_79 : decode cX6_copyFrom 79 = .ok (.aload_n 1, 1) := by decide +kernel
theorem dX6_copyFrom_80 : decode cX6_copyFrom 80 = .ok (.getfield 27, 3) := by decide +kernel
theorem dX6_copyFrom_83 : decode cX6_copyFrom 83 = .ok (.aload_n 0, 1) := by decide +kernel
theorem dX6_copyFrom_84 : decode cX6_copyFrom 84 = .ok (.getfield 27, 3) := by decide +kernel
theorem dX6_copyFrom_87 : decode cX6_copyFrom 87 = .ok (.invokestatic 64, 3) := by decide +kernel
theorem dX6_copyFrom_90 : decode cX6_copyFrom 90 = .ok (.iconst 0, 1) := by decide +kernel
theorem dX6_copyFrom_91 : decode cX6_copyFrom 91 = .ok (.istore_n 2, 1) := by decide +kernel
theorem dX6_copyFrom_92 : decode cX6_copyFrom 92 = .ok (.iload_n 2, 1) := by decide +kernel
theorem dX6_copyFrom_93 : decode cX6_copyFrom 93 = .ok (.bipush 8, 2) := by decide +kernel
theorem dX6_copyFrom_95 : decode cX6_copyFrom 95 = .ok (.if_icmp .ge 24, 3) := by decide +kernel
theorem dX6_copyFrom_98 : decode cX6_copyFrom 98 = .ok (.aload_n 1, 1) := by decide +kernel
theorem dX6_copyFrom_99 : decode cX6_copyFrom 99 = .ok (.getfield 32, 3) := by decide +kernel
theorem dX6_copyFrom_102 : decode cX6_copyFrom 102 = .ok (.iload_n 2, 1) := by decide +kernel
theorem dX6_copyFrom_103 : decode cX6_copyFrom 103 = .ok (.aaload, 1) := by decide +kernel
theorem dX6_copyFrom_104 : decode cX6_copyFrom 104 = .ok (.aload_n 0, 1) := by decide +kernel
theorem dX6_copyFrom_105 : decode cX6_copyFrom 105 = .ok (.getfield 32, 3) := by decide +kernel
theorem dX6_copyFrom_108 : decode cX6_copyFrom 108 = .ok (.iload_n 2, 1) := by decide +kernel
theorem dX6_copyFrom_109 : decode cX6_copyFrom 109 = .ok (.aaload, 1) := by decide +kernel
theorem dX6_copyFrom_110 : decode cX6_copyFrom 110 = .ok (.invokestatic 64, 3) := by decide +kernel
theorem dX6_copyFrom_113 : decode cX6_copyFrom 113 = .ok (.iinc 2 1, 3) := by decide +kernel
theorem dX6_copyFrom_116 : decode cX6_copyFrom 116 = .ok (.goto (-24), 3) := by decide +kernel
theorem dX6_copyFrom_119 : decode cX6_copyFrom 119 = .ok (.aload_n 0, 1) := by decide +kernel
theorem dX6_copyFrom_120 : decode cX6_copyFrom 120 = .ok (.getfield 38, 3) := by decide +kernel
theorem dX6_copyFrom_123 : decode cX6_copyFrom 123 = .ok (.aload_n 1, 1) := by decide +kernel
theorem dX6_copyFrom_124 : decode cX6_copyFrom 124 = .ok (.getfield 38, 3) := by decide +kernel
theorem dX6_copyFrom_127 : decode cX6_copyFrom 127 = .ok (.invokevirtual 68, 3) := by decide +kernel
theorem dX6_copyFrom_130 : decode cX6_copyFrom 130 = .ok (.aload_n 0, 1) := by decide +kernel
theorem dX6_copyFrom_131 : decode cX6_copyFrom 131 = .ok (.getfield 47, 3) := by decide +kernel
theorem dX6_copyFrom_134 : decode cX6_copyFrom 134 = .ok (.aload_n 1, 1) := by decide +kernel
theorem dX6_copyFrom_135 : decode cX6_copyFrom 135 = .ok (.getfield 47, 3) := by decide +kernel
theorem dX6_copyFrom_138 : decode cX6_copyFrom 138 = .ok (.invokevirtual 72, 3) := by decide +kernel
theorem dX6_copyFrom_141 : decode cX6_copyFrom 141 = .ok (.aload_n 0, 1) := by decide +kernel
theorem dX6_copyFrom_142 : decode cX6_copyFrom 142 = .ok (.getfield 51, 3) := by decide +kernel
theorem dX6_copyFrom_145 : decode cX6_copyFrom 145 = .ok (.aload_n 1, 1) := by decide +kernel
theorem dX6_copyFrom_146 : decode cX6_copyFrom 146 = .ok (.getfield 51, 3) := by decide +kernel
theorem dX6_copyFrom_149 : decode cX6_copyFrom 149 = .ok (.invokevirtual 72, 3) := by decide +kernel
theorem dX6_copyFrom_152 : decode cX6_copyFrom 152 = .ok (.return_, 1) := by decide +kernel
theorem dX6_isOn_0 : decode cX6_isOn 0 = .ok (.iload_n 1, 1) := by decide +kernel
theorem dX6_isOn_1 : decode cX6_isOn 1 = .ok (.aload_n 0, 1) := by decide +kernel
theorem dX6_isOn_2 : decode cX6_isOn 2 = .ok (.getfield 54, 3) := by decide +kernel
theorem dX6_isOn_5 : decode cX6_isOn 5 = .ok (.aload_n 0, 1) := by decide +kernel
theorem dX6_isOn_6 : decode cX6_isOn 6 = .ok (.getfield 58, 3) := by decide +kernel
theorem dX6_isOn_9 : decode cX6_isOn 9 = .ok (.invokestatic 75, 3) := by decide +kernel
theorem dX6_isOn_12 : decode cX6_isOn 12 = .ok (.ireturn, 1) := by decide +kernel
theorem dX6_isFull_0 : decode cX6_isFull 0 = .ok (.aload_n 0, 1) := by decide +kernel
theorem dX6_isFull_1 : decode cX6_isFull 1 = .ok (.getfield 61, 3) := by decide +kernel
theorem dX6_isFull_4 : decode cX6_isFull 4 = .ok (.bipush 12, 2) := by decide +kernel
theorem dX6_isFull_6 : decode cX6_isFull 6 = .ok (.if_icmp .lt 7, 3) := by decide +kernel
theorem dX6_isFull_9 : decode cX6_isFull 9 = .ok (.iconst 1, 1) := by decide +kernel
theorem dX6_isFull_10 : decode cX6_isFull 10 = .ok (.goto 4, 3) := by decide +kernel
theorem dX6_isFull_13 : decode cX6_isFull 13 = .ok (.iconst 0, 1) := by decide +kernel
theorem dX6_isFull_14 : decode cX6_isFull 14 = .ok (.ireturn, 1) := by decide +kernel
theorem dX6_hasLamp_0 : decode cX6_hasLamp 0 = .ok (.iload_n 1, 1) := by decide +kernel
theorem dX6_hasLamp_1 : decode cX6_hasLamp 1 = .ok (.ifCond .lt 21, 3) := by decide +kernel
theorem dX6_hasLamp_4 : decode cX6_hasLamp 4 = .ok (.iload_n 1, 1) := by decide +kernel
theorem dX6_hasLamp_5 : decode cX6_hasLamp 5 = .ok (.aload_n 0, 1) := by decide +kernel
theorem dX6_hasLamp_6 : decode cX6_hasLamp 6 = .ok (.getfield 61, 3) := by decide +kernel
theorem dX6_hasLamp_9 : decode cX6_hasLamp 9 = .ok (.if_icmp .ge 13, 3) := by decide +kernel
theorem dX6_hasLamp_12 : decode cX6_hasLamp 12 = .ok (.iload_n 1, 1) := by decide +kernel
theorem dX6_hasLamp_13 : decode cX6_hasLamp 13 = .ok (.bipush 12, 2) := by decide +kernel
theorem dX6_hasLamp_15 : decode cX6_hasLamp 15 = .ok (.if_icmp .ge 7, 3) := by decide +kernel
theorem dX6_hasLamp_18 : decode cX6_hasLamp 18 = .ok (.iconst 1, 1) := by decide +kernel
theorem dX6_hasLamp_19 : decode cX6_hasLamp 19 = .ok (.goto 4, 3) := by decide +kernel
theorem dX6_hasLamp_22 : decode cX6_hasLamp 22 = .ok (.iconst 0, 1) := by decide +kernel
theorem dX6_hasLamp_23 : decode cX6_hasLamp 23 = .ok (.ireturn, 1) := by decide +kernel
theorem dX6_addLamp_0 : decode cX6_addLamp 0 = .ok (.aload_n 0, 1) := by decide +kernel
theorem dX6_addLamp_1 : decode cX6_addLamp 1 = .ok (.invokevirtual 79, 3) := by decide +kernel
theorem dX6_addLamp_4 : decode cX6_addLamp 4 = .ok (.ifCond .eq 6, 3) := by decide +kernel
theorem dX6_addLamp_7 : decode cX6_addLamp 7 = .ok (.bipush (-4), 2) := by decide +kernel
theorem dX6_addLamp_9 : decode cX6_addLamp 9 = .ok (.ireturn, 1) := by decide +kernel
theorem dX6_addLamp_10 : decode cX6_addLamp 10 = .ok (.aload_n 0, 1) := by decide +kernel
theorem dX6_addLamp_11 : decode cX6_addLamp 11 = .ok (.dup, 1) := by decide +kernel
theorem dX6_addLamp_12 : decode cX6_addLamp 12 = .ok (.getfield 61, 3) := by decide +kernel
theorem dX6_addLamp_15 : decode cX6_addLamp 15 = .ok (.dup_x1, 1) := by decide +kernel
theorem dX6_addLamp_16 : decode cX6_addLamp 16 = .ok (.iconst 1, 1) := by decide +kernel
theorem dX6_addLamp_17 : decode cX6_addLamp 17 = .ok (.iadd, 1) := by decide +kernel
theorem dX6_addLamp_18 : decode cX6_addLamp 18 = .ok (.putfield 61, 3) := by decide +kernel
theorem dX6_addLamp_21 : decode cX6_addLamp 21 = .ok (.istore_n 3, 1) := by decide +kernel
theorem dX6_addLamp_22 : decode cX6_addLamp 22 = .ok (.aload_n 0, 1) := by decide +kernel
theorem dX6_addLamp_23 : decode cX6_addLamp 23 = .ok (.getfield 9, 3) := by decide +kernel
theorem dX6_addLamp_26 : decode cX6_addLamp 26 = .ok (.iload_n 3, 1) := by decide +kernel
theorem dX6_addLamp_27 : decode cX6_addLamp 27 = .ok (.iload_n 1, 1) := by decide +kernel
theorem dX6_addLamp_28 : decode cX6_addLamp 28 = .ok (.iastore, 1) := by decide +kernel
theorem dX6_addLamp_29 : decode cX6_addLamp 29 = .ok (.aload_n 0, 1) := by decide +kernel
theorem dX6_addLamp_30 : decode cX6_addLamp 30 = .ok (.getfield 15, 3) := by decide +kernel
theorem dX6_addLamp_33 : decode cX6_addLamp 33 = .ok (.iload_n 3, 1) := by decide +kernel
theorem dX6_addLamp_34 : decode cX6_addLamp 34 = .ok (.iload_n 2, 1) := by decide +kernel
theorem dX6_addLamp_35 : decode cX6_addLamp 35 = .ok (.iastore, 1) := by decide +kernel
theorem dX6_addLamp_36 : decode cX6_addLamp 36 = .ok (.iload_n 3, 1) := by decide +kernel
theorem dX6_addLamp_37 : decode cX6_addLamp 37 = .ok (.ireturn, 1) := by decide +kernel
theorem dX6_removeLamp_0 : decode cX6_removeLamp 0 = .ok (.aload_n 0, 1) := by decide +kernel
theorem dX6_removeLamp_1 : decode cX6_removeLamp 1 = .ok (.iload_n 1, 1) := by decide +kernel
theorem dX6_removeLamp_2 : decode cX6_removeLamp 2 = .ok (.invokevirtual 83, 3) := by decide +kernel
theorem dX6_removeLamp_5 : decode cX6_removeLamp 5 = .ok (.ifCond .ne 8, 3) := by decide +kernel
theorem dX6_removeLamp_8 : decode cX6_removeLamp 8 = .ok (.aload_n 0, 1) := by decide +kernel
theorem dX6_removeLamp_9 : decode cX6_removeLamp 9 = .ok (.getfield 61, 3) := by decide +kernel
theorem dX6_removeLamp_12 : decode cX6_removeLamp 12 = .ok (.ireturn, 1) := by decide +kernel
theorem dX6_removeLamp_13 : decode cX6_removeLamp 13 = .ok (.aload_n 0, 1) := by decide +kernel
theorem dX6_removeLamp_14 : decode cX6_removeLamp 14 = .ok (.getfield 9, 3) := by decide +kernel
theorem dX6_removeLamp_17 : decode cX6_removeLamp 17 = .ok (.iload_n 1, 1) := by decide +kernel
theorem dX6_removeLamp_18 : decode cX6_removeLamp 18 = .ok (.invokestatic 87, 3) := by decide +kernel
theorem dX6_removeLamp_21 : decode cX6_removeLamp 21 = .ok (.aload_n 0, 1) := by decide +kernel
theorem dX6_removeLamp_22 : decode cX6_removeLamp 22 = .ok (.getfield 15, 3) := by decide +kernel
theorem dX6_removeLamp_25 : decode cX6_removeLamp 25 = .ok (.iload_n 1, 1) := by decide +kernel
theorem dX6_removeLamp_26 : decode cX6_removeLamp 26 = .ok (.invokestatic 87, 3) := by decide +kernel
theorem dX6_removeLamp_29 : decode cX6_removeLamp 29 = .ok (.aload_n 0, 1) := by decide +kernel
theorem dX6_removeLamp_30 : decode cX6_removeLamp 30 = .ok (.getfield 18, 3) := by decide +kernel
theorem dX6_removeLamp_33 : decode cX6_removeLamp 33 = .ok (.iload_n 1, 1) := by decide +kernel
theorem dX6_removeLamp_34 : decode cX6_removeLamp 34 = .ok (.invokestatic 87, 3) := by decide +kernel
theorem dX6_removeLamp_37 : decode cX6_removeLamp 37 = .ok (.aload_n 0, 1) := by decide +kernel
theorem dX6_removeLamp_38 : decode cX6_removeLamp 38 = .ok (.getfield 21, 3) := by decide +kernel
theorem dX6_removeLamp_41 : decode cX6_removeLamp 41 = .ok (.iload_n 1, 1) := by decide +kernel
theorem dX6_removeLamp_42 : decode cX6_removeLamp 42 = .ok (.invokestatic 87, 3) := by decide +kernel
theorem dX6_removeLamp_45 : decode cX6_removeLamp 45 = .ok (.aload_n 0, 1) := by decide +kernel
theorem dX6_removeLamp_46 : decode cX6_removeLamp 46 = .ok (.getfield 32, 3) := by decide +kernel
theorem dX6_removeLamp_49 : decode cX6_removeLamp 49 = .ok (.astore_n 2, 1) := by decide +kernel
theorem dX6_removeLamp_50 : decode cX6_removeLamp 50 = .ok (.aload_n 2, 1) := by decide +kernel
theorem dX6_removeLamp_51 : decode cX6_removeLamp 51 = .ok (.arraylength, 1) := by decide +kernel
theorem dX6_removeLamp_52 : decode cX6_removeLamp 52 = .ok (.istore_n 3, 1) := by decide +kernel
theorem dX6_removeLamp_53 : decode cX6_removeLamp 53 = .ok (.iconst 0, 1) := by decide +kernel
theorem dX6_removeLamp_54 : decode cX6_removeLamp 54 = .ok (.istore 4, 2) := by decide +kernel
theorem dX6_removeLamp_56 : decode cX6_removeLamp 56 = .ok (.iload 4, 2) := by decide +kernel
theorem dX6_removeLamp_58 : decode cX6_removeLamp 58 = .ok (.iload_n 3, 1) := by decide +kernel
theorem dX6_removeLamp_59 : decode cX6_removeLamp 59 = .ok (.if_icmp .ge 21, 3) := by decide +kernel
theorem dX6_removeLamp_62 : decode cX6_removeLamp 62 = .ok (.aload_n 2, 1) := by decide +kernel
theorem dX6_removeLamp_63 : decode cX6_removeLamp 63 = .ok (.iload 4, 2) := by decide +kernel
theorem dX6_removeLamp_65 : decode cX6_removeLamp 65 = .ok (.aaload, 1) := by decide +kernel
theorem dX6_removeLamp_66 : decode cX6_removeLamp 66 = .ok (.astore 5, 2) := by decide +kernel
theorem dX6_removeLamp_68 : decode cX6_removeLamp 68 = .ok (.aload 5, 2) := by decide +kernel
theorem dX6_removeLamp_70 : decode cX6_removeLamp 70 = .ok (.iload_n 1, 1) := by decide +kernel
theorem dX6_removeLamp_71 : decode cX6_removeLamp 71 = .ok (.invokestatic 87, 3) := by decide +kernel
theorem dX6_removeLamp_74 : decode cX6_removeLamp 74 = .ok (.iinc 4 1, 3) := by decide +kernel
theorem dX6_removeLamp_77 : decode cX6_removeLamp 77 = .ok (.goto (-21), 3) := by decide +kernel
theorem dX6_removeLamp_80 : decode cX6_removeLamp 80 = .ok (.aload_n 0, 1) := by decide +kernel
theorem dX6_removeLamp_81 : decode cX6_removeLamp 81 = .ok (.getfield 38, 3) := by decide +kernel
theorem dX6_removeLamp_84 : decode cX6_removeLamp 84 = .ok (.iload_n 1, 1) := by decide +kernel
theorem dX6_removeLamp_85 : decode cX6_removeLamp 85 = .ok (.invokevirtual 91, 3) := by decide +kernel
theorem dX6_removeLamp_88 : decode cX6_removeLamp 88 = .ok (.aload_n 0, 1) := by decide +kernel
theorem dX6_removeLamp_89 : decode cX6_removeLamp 89 = .ok (.dup, 1) := by decide +kernel
theorem dX6_removeLamp_90 : decode cX6_removeLamp 90 = .ok (.getfield 61, 3) := by decide +kernel
theorem dX6_removeLamp_93 : decode cX6_removeLamp 93 = .ok (.iconst 1, 1) := by decide +kernel
theorem dX6_removeLamp_94 : decode cX6_removeLamp 94 = .ok (.isub, 1) := by decide +kernel
theorem dX6_removeLamp_95 : decode cX6_removeLamp 95 = .ok (.putfield 61, 3) := by decide +kernel
theorem dX6_removeLamp_98 : decode cX6_removeLamp 98 = .ok (.aload_n 0, 1) := by decide +kernel
theorem dX6_removeLamp_99 : decode cX6_removeLamp 99 = .ok (.getfield 61, 3) := by decide +kernel
theorem dX6_removeLamp_102 : decode cX6_removeLamp 102 = .ok (.ireturn, 1) := by decide +kernel
theorem dX6_lampsOfType_0 : decode cX6_lampsOfType 0 = .ok (.iconst 0, 1) := by decide +kernel
theorem dX6_lampsOfType_1 : decode cX6_lampsOfType 1 = .ok (.istore_n 2, 1) := by decide +kernel
theorem dX6_lampsOfType_2 : decode cX6_lampsOfType 2 = .ok (.iconst 0, 1) := by decide +kernel
theorem dX6_lampsOfType_3 : decode cX6_lampsOfType 3 = .ok (.istore_n 3, 1) := by decide +kernel
theorem dX6_lampsOfType_4 : decode cX6_lampsOfType 4 = .ok (.iload_n 3, 1) := by decide +kernel
theorem dX6_lampsOfType_5 : decode cX6_lampsOfType 5 = .ok (.bipush 12, 2) := by decide +kernel
theorem dX6_lampsOfType_7 : decode cX6_lampsOfType 7 = .ok (.if_icmp .ge 30, 3) := by decide +kernel
theorem dX6_lampsOfType_10 : decode cX6_lampsOfType 10 = .ok (.aload_n 0, 1) := by decide +kernel
theorem dX6_lampsOfType_11 : decode cX6_lampsOfType 11 = .ok (.iload_n 3, 1) := by decide +kernel
theorem dX6_lampsOfType_12 : decode cX6_lampsOfType 12 = .ok (.invokevirtual 83, 3) := by decide +kernel
theorem dX6_lampsOfType_15 : decode cX6_lampsOfType 15 = .ok (.ifCond .eq 22, 3) := by decide +kernel
theorem dX6_lampsOfType_18 : decode cX6_lampsOfType 18 = .ok (.aload_n 0, 1) := by decide +kernel
theorem dX6_lampsOfType_19 : decode cX6_lampsOfType 19 = .ok (.getfield 9, 3) := by decide +kernel
theorem dX6_lampsOfType_22 : decode cX6_lampsOfType 22 = .ok (.iload_n 3, 1) := by decide +kernel
theorem dX6_lampsOfType_23 : decode cX6_lampsOfType 23 = .ok (.iaload, 1) := by decide +kernel
theorem dX6_lampsOfType_24 : decode cX6_lampsOfType 24 = .ok (.iload_n 1, 1) := by decide +kernel
theorem dX6_lampsOfType_25 : decode cX6_lampsOfType 25 = .ok (.if_icmp .ne 6, 3) := by decide +kernel
theorem dX6_lampsOfType_28 : decode cX6_lampsOfType 28 = .ok (.iinc 2 1, 3) := by decide +kernel
theorem dX6_lampsOfType_31 : decode cX6_lampsOfType 31 = .ok (.iinc 3 1, 3) := by decide +kernel
theorem dX6_lampsOfType_34 : decode cX6_lampsOfType 34 = .ok (.goto (-30), 3) := by decide +kernel
theorem dX6_lampsOfType_37 : decode cX6_lampsOfType 37 = .ok (.iload_n 2, 1) := by decide +kernel
theorem dX6_lampsOfType_38 : decode cX6_lampsOfType 38 = .ok (.ireturn, 1) := by decide +kernel
theorem dX6_lampsOn_0 : decode cX6_lampsOn 0 = .ok (.iconst 0, 1) := by decide +kernel
theorem dX6_lampsOn_1 : decode cX6_lampsOn 1 = .ok (.istore_n 2, 1) := by decide +kernel
theorem dX6_lampsOn_2 : decode cX6_lampsOn 2 = .ok (.iconst 0, 1) := by decide +kernel
theorem dX6_lampsOn_3 : decode cX6_lampsOn 3 = .ok (.istore_n 3, 1) := by decide +kernel
theorem dX6_lampsOn_4 : decode cX6_lampsOn 4 = .ok (.iload_n 3, 1) := by decide +kernel
theorem dX6_lampsOn_5 : decode cX6_lampsOn 5 = .ok (.bipush 12, 2) := by decide +kernel
theorem dX6_lampsOn_7 : decode cX6_lampsOn 7 = .ok (.if_icmp .ge 30, 3) := by decide +kernel
theorem dX6_lampsOn_10 : decode cX6_lampsOn 10 = .ok (.aload_n 0, 1) := by decide +kernel
theorem dX6_lampsOn_11 : decode cX6_lampsOn 11 = .ok (.iload_n 3, 1) := by decide +kernel
theorem dX6_lampsOn_12 : decode cX6_lampsOn 12 = .ok (.invokevirtual 83, 3) := by decide +kernel
theorem dX6_lampsOn_15 : decode cX6_lampsOn 15 = .ok (.ifCond .eq 22, 3) := by decide +kernel
theorem dX6_lampsOn_18 : decode cX6_lampsOn 18 = .ok (.aload_n 0, 1) := by decide +kernel
theorem dX6_lampsOn_19 : decode cX6_lampsOn 19 = .ok (.getfield 15, 3) := by decide +kernel
theorem dX6_lampsOn_22 : decode cX6_lampsOn 22 = .ok (.iload_n 3, 1) := by decide +kernel
theorem dX6_lampsOn_23 : decode cX6_lampsOn 23 = .ok (.iaload, 1) := by decide +kernel
theorem dX6_lampsOn_24 : decode cX6_lampsOn 24 = .ok (.iload_n 1, 1) := by decide +kernel
theorem dX6_lampsOn_25 : decode cX6_lampsOn 25 = .ok (.if_icmp .ne 6, 3) := by decide +kernel
theorem dX6_lampsOn_28 : decode cX6_lampsOn 28 = .ok (.iinc 2 1, 3) := by decide +kernel
theorem dX6_lampsOn_31 : decode cX6_lampsOn 31 = .ok (.iinc 3 1, 3) := by decide +kernel
theorem dX6_lampsOn_34 : decode cX6_lampsOn 34 = .ok (.goto (-30), 3) := by decide +kernel
theorem dX6_lampsOn_37 : decode cX6_lampsOn 37 = .ok (.iload_n 2, 1) := by decide +kernel
theorem dX6_lampsOn_38 : decode cX6_lampsOn 38 = .ok (.ireturn, 1) := by decide +kernel
theorem dX6_dimmersOn_0 : decode cX6_dimmersOn 0 = .ok (.iconst 0, 1) := by decide +kernel
theorem dX6_dimmersOn_1 : decode cX6_dimmersOn 1 = .ok (.istore_n 2, 1) := by decide +kernel
theorem dX6_dimmersOn_2 : decode cX6_dimmersOn 2 = .ok (.iconst 0, 1) := by decide +kernel
theorem dX6_dimmersOn_3 : decode cX6_dimmersOn 3 = .ok (.istore_n 3, 1) := by decide +kernel
theorem dX6_dimmersOn_4 : decode cX6_dimmersOn 4 = .ok (.iload_n 3, 1) := by decide +kernel
theorem dX6_dimmersOn_5 : decode cX6_dimmersOn 5 = .ok (.bipush 12, 2) := by decide +kernel
theorem dX6_dimmersOn_7 : decode cX6_dimmersOn 7 = .ok (.if_icmp .ge 25, 3) := by decide +kernel
theorem dX6_dimmersOn_10 : decode cX6_dimmersOn 10 = .ok (.aload_n 0, 1) := by decide +kernel
theorem dX6_dimmersOn_11 : decode cX6_dimmersOn 11 = .ok (.getfield 24, 3) := by decide +kernel
theorem dX6_dimmersOn_14 : decode cX6_dimmersOn 14 = .ok (.iload_n 3, 1) := by decide +kernel
theorem dX6_dimmersOn_15 : decode cX6_dimmersOn 15 = .ok (.iaload, 1) := by decide +kernel
theorem dX6_dimmersOn_16 : decode cX6_dimmersOn 16 = .ok (.iload_n 1, 1) := by decide +kernel
theorem dX6_dimmersOn_17 : decode cX6_dimmersOn 17 = .ok (.if_icmp .ne 9, 3) := by decide +kernel
theorem dX6_dimmersOn_20 : decode cX6_dimmersOn 20 = .ok (.iload_n 2, 1) := by decide +kernel
theorem dX6_dimmersOn_21 : decode cX6_dimmersOn 21 = .ok (.iconst 1, 1) := by decide +kernel
theorem dX6_dimmersOn_22 : decode cX6_dimmersOn 22 = .ok (.iload_n 3, 1) := by decide +kernel
theorem dX6_dimmersOn_23 : decode cX6_dimmersOn 23 = .ok (.ishl, 1) := by decide +kernel
theorem dX6_dimmersOn_24 : decode cX6_dimmersOn 24 = .ok (.ior, 1) := by decide +kernel
theorem dX6_dimmersOn_25 : decode cX6_dimmersOn 25 = .ok (.istore_n 2, 1) := by decide +kernel
theorem dX6_dimmersOn_26 : decode cX6_dimmersOn 26 = .ok (.iinc 3 1, 3) := by decide +kernel
theorem dX6_dimmersOn_29 : decode cX6_dimmersOn 29 = .ok (.goto (-25), 3) := by decide +kernel
theorem dX6_dimmersOn_32 : decode cX6_dimmersOn 32 = .ok (.iload_n 2, 1) := by decide +kernel
theorem dX6_dimmersOn_33 : decode cX6_dimmersOn 33 = .ok (.ireturn, 1) := by decide +kernel
theorem dX6_isRecorded_0 : decode cX6_isRecorded 0 = .ok (.iload_n 1, 1) := by decide +kernel
theorem dX6_isRecorded_1 : decode cX6_isRecorded 1 = .ok (.invokestatic 95, 3) := by decide +kernel
theorem dX6_isRecorded_4 : decode cX6_isRecorded 4 = .ok (.ifCond .eq 16, 3) := by decide +kernel
theorem dX6_isRecorded_7 : decode cX6_isRecorded 7 = .ok (.aload_n 0, 1) := by decide +kernel
theorem dX6_isRecorded_8 : decode cX6_isRecorded 8 = .ok (.getfield 27, 3) := by decide +kernel
theorem dX6_isRecorded_11 : decode cX6_isRecorded 11 = .ok (.iload_n 1, 1) := by decide +kernel
theorem dX6_isRecorded_12 : decode cX6_isRecorded 12 = .ok (.iaload, 1) := by decide +kernel
theorem dX6_isRecorded_13 : decode cX6_isRecorded 13 = .ok (.ifCond .le 7, 3) := by decide +kernel
theorem dX6_isRecorded_16 : decode cX6_isRecorded 16 = .ok (.iconst 1, 1) := by decide +kernel
theorem dX6_isRecorded_17 : decode cX6_isRecorded 17 = .ok (.goto 4, 3) := by decide +kernel
theorem dX6_isRecorded_20 : decode cX6_isRecorded 20 = .ok (.iconst 0, 1) := by decide +kernel
theorem dX6_isRecorded_21 : decode cX6_isRecorded 21 = .ok (.ireturn, 1) := by decide +kernel
theorem dX6_recordedCues_0 : decode cX6_recordedCues 0 = .ok (.iconst 0, 1) := by decide +kernel
theorem dX6_recordedCues_1 : decode cX6_recordedCues 1 = .ok (.istore_n 1, 1) := by decide +kernel
theorem dX6_recordedCues_2 : decode cX6_recordedCues 2 = .ok (.iconst 0, 1) := by decide +kernel
theorem dX6_recordedCues_3 : decode cX6_recordedCues 3 = .ok (.istore_n 2, 1) := by decide +kernel
theorem dX6_recordedCues_4 : decode cX6_recordedCues 4 = .ok (.iload_n 2, 1) := by decide +kernel
theorem dX6_recordedCues_5 : decode cX6_recordedCues 5 = .ok (.bipush 8, 2) := by decide +kernel
theorem dX6_recordedCues_7 : decode cX6_recordedCues 7 = .ok (.if_icmp .ge 23, 3) := by decide +kernel
theorem dX6_recordedCues_10 : decode cX6_recordedCues 10 = .ok (.aload_n 0, 1) := by decide +kernel
theorem dX6_recordedCues_11 : decode cX6_recordedCues 11 = .ok (.iload_n 2, 1) := by decide +kernel
theorem dX6_recordedCues_12 : decode cX6_recordedCues 12 = .ok (.invokevirtual 98, 3) := by decide +kernel
theorem dX6_recordedCues_15 : decode cX6_recordedCues 15 = .ok (.ifCond .eq 9, 3) := by decide +kernel
theorem dX6_recordedCues_18 : decode cX6_recordedCues 18 = .ok (.iload_n 1, 1) := by decide +kernel
theorem dX6_recordedCues_19 : decode cX6_recordedCues 19 = .ok (.iconst 1, 1) := by decide +kernel
theorem dX6_recordedCues_20 : decode cX6_recordedCues 20 = .ok (.iload_n 2, 1) := by decide +kernel
theorem dX6_recordedCues_21 : decode cX6_recordedCues 21 = .ok (.ishl, 1) := by decide +kernel
theorem dX6_recordedCues_22 : decode cX6_recordedCues 22 = .ok (.ior, 1) := by decide +kernel
theorem dX6_recordedCues_23 : decode cX6_recordedCues 23 = .ok (.istore_n 1, 1) := by decide +kernel
theorem dX6_recordedCues_24 : decode cX6_recordedCues 24 = .ok (.iinc 2 1, 3) := by decide +kernel
theorem dX6_recordedCues_27 : decode cX6_recordedCues 27 = .ok (.goto (-23), 3) := by decide +kernel
theorem dX6_recordedCues_30 : decode cX6_recordedCues 30 = .ok (.iload_n 1, 1) := by decide +kernel
theorem dX6_recordedCues_31 : decode cX6_recordedCues 31 = .ok (.ireturn, 1) := by decide +kernel
theorem dX6_recordCue_0 : decode cX6_recordCue 0 = .ok (.iload_n 1, 1) := by decide +kernel
theorem dX6_recordCue_1 : decode cX6_recordCue 1 = .ok (.invokestatic 95, 3) := by decide +kernel
theorem dX6_recordCue_4 : decode cX6_recordCue 4 = .ok (.ifCond .eq 23, 3) := by decide +kernel
theorem dX6_recordCue_7 : decode cX6_recordCue 7 = .ok (.aload_n 0, 1) := by decide +kernel
theorem dX6_recordCue_8 : decode cX6_recordCue 8 = .ok (.getfield 27, 3) := by decide +kernel
theorem dX6_recordCue_11 : decode cX6_recordCue 11 = .ok (.iload_n 1, 1) := by decide +kernel
theorem dX6_recordCue_12 : decode cX6_recordCue 12 = .ok (.iload_n 2, 1) := by decide +kernel
theorem dX6_recordCue_13 : decode cX6_recordCue 13 = .ok (.iastore, 1) := by decide +kernel
theorem dX6_recordCue_14 : decode cX6_recordCue 14 = .ok (.aload_n 0, 1) := by decide +kernel
theorem dX6_recordCue_15 : decode cX6_recordCue 15 = .ok (.getfield 18, 3) := by decide +kernel
theorem dX6_recordCue_18 : decode cX6_recordCue 18 = .ok (.aload_n 0, 1) := by decide +kernel
theorem dX6_recordCue_19 : decode cX6_recordCue 19 = .ok (.getfield 32, 3) := by decide +kernel
theorem dX6_recordCue_22 : decode cX6_recordCue 22 = .ok (.iload_n 1, 1) := by decide +kernel
theorem dX6_recordCue_23 : decode cX6_recordCue 23 = .ok (.aaload, 1) := by decide +kernel
theorem dX6_recordCue_24 : decode cX6_recordCue 24 = .ok (.invokestatic 64, 3) := by decide +kernel
theorem dX6_recordCue_27 : decode cX6_recordCue 27 = .ok (.return_, 1) := by decide +kernel
theorem dX6_startCue_0 : decode cX6_startCue 0 = .ok (.iload_n 1, 1) := by decide +kernel
theorem dX6_startCue_1 : decode cX6_startCue 1 = .ok (.invokestatic 95, 3) := by decide +kernel
theorem dX6_startCue_4 : decode cX6_startCue 4 = .ok (.ifCond .eq 21, 3) := by decide +kernel
theorem dX6_startCue_7 : decode cX6_startCue 7 = .ok (.aload_n 0, 1) := by decide +kernel
theorem dX6_startCue_8 : decode cX6_startCue 8 = .ok (.getfield 38, 3) := by decide +kernel
theorem dX6_startCue_11 : decode cX6_startCue 11 = .ok (.aload_n 0, 1) := by decide +kernel
theorem dX6_startCue_12 : decode cX6_startCue 12 = .ok (.getfield 21, 3) := by decide +kernel
theorem dX6_startCue_15 : decode cX6_startCue 15 = .ok (.aload_n 0, 1) := by decide +kernel
theorem dX6_startCue_16 : decode cX6_startCue 16 = .ok (.getfield 32, 3) := by decide +kernel
theorem dX6_startCue_19 : decode cX6_startCue 19 = .ok (.iload_n 1, 1) := by decide +kernel
theorem dX6_startCue_20 : decode cX6_startCue 20 = .ok (.aaload, 1) := by decide +kernel
theorem dX6_startCue_21 : decode cX6_startCue 21 = .ok (.iload_n 2, 1) := by decide +kernel
theorem dX6_startCue_22 : decode cX6_startCue 22 = .ok (.invokevirtual 101, 3) := by decide +kernel
theorem dX6_startCue_25 : decode cX6_startCue 25 = .ok (.return_, 1) := by decide +kernel
theorem dX6_clearTrips_0 : decode cX6_clearTrips 0 = .ok (.aload_n 0, 1) := by decide +kernel
theorem dX6_clearTrips_1 : decode cX6_clearTrips 1 = .ok (.getfield 47, 3) := by decide +kernel
theorem dX6_clearTrips_4 : decode cX6_clearTrips 4 = .ok (.invokevirtual 105, 3) := by decide +kernel
theorem dX6_clearTrips_7 : decode cX6_clearTrips 7 = .ok (.aload_n 0, 1) := by decide +kernel
theorem dX6_clearTrips_8 : decode cX6_clearTrips 8 = .ok (.getfield 51, 3) := by decide +kernel
theorem dX6_clearTrips_11 : decode cX6_clearTrips 11 = .ok (.invokevirtual 105, 3) := by decide +kernel
theorem dX6_clearTrips_14 : decode cX6_clearTrips 14 = .ok (.iadd, 1) := by decide +kernel
theorem dX6_clearTrips_15 : decode cX6_clearTrips 15 = .ok (.ireturn, 1) := by decide +kernel
theorem dX6_passTick_0 : decode cX6_passTick 0 = .ok (.aload_n 1, 1) := by decide +kernel
theorem dX6_passTick_1 : decode cX6_passTick 1 = .ok (.getfield 109, 3) := by decide +kernel
theorem dX6_passTick_4 : decode cX6_passTick 4 = .ok (.iconst 2, 1) := by decide +kernel
theorem dX6_passTick_5 : decode cX6_passTick 5 = .ok (.iaload, 1) := by decide +kernel
theorem dX6_passTick_6 : decode cX6_passTick 6 = .ok (.istore_n 3, 1) := by decide +kernel
theorem dX6_passTick_7 : decode cX6_passTick 7 = .ok (.aload_n 0, 1) := by decide +kernel
theorem dX6_passTick_8 : decode cX6_passTick 8 = .ok (.getfield 38, 3) := by decide +kernel
theorem dX6_passTick_11 : decode cX6_passTick 11 = .ok (.aload_n 0, 1) := by decide +kernel
theorem dX6_passTick_12 : decode cX6_passTick 12 = .ok (.getfield 21, 3) := by decide +kernel
theorem dX6_passTick_15 : decode cX6_passTick 15 = .ok (.invokevirtual 114, 3) := by decide +kernel
theorem dX6_passTick_18 : decode cX6_passTick 18 = .ok (.aload_n 2, 1) := by decide +kernel
theorem dX6_passTick_19 : decode cX6_passTick 19 = .ok (.aload_n 0, 1) := by decide +kernel
theorem dX6_passTick_20 : decode cX6_passTick 20 = .ok (.aload_n 1, 1) := by decide +kernel
theorem dX6_passTick_21 : decode cX6_passTick 21 = .ok (.getfield 117, 3) := by decide +kernel
theorem dX6_passTick_24 : decode cX6_passTick 24 = .ok (.invokevirtual 121, 3) := by decide +kernel
theorem dX6_passTick_27 : decode cX6_passTick 27 = .ok (.aload_n 0, 1) := by decide +kernel
theorem dX6_passTick_28 : decode cX6_passTick 28 = .ok (.getfield 47, 3) := by decide +kernel
theorem dX6_passTick_31 : decode cX6_passTick 31 = .ok (.aload_n 2, 1) := by decide +kernel
theorem dX6_passTick_32 : decode cX6_passTick 32 = .ok (.getfield 127, 3) := by decide +kernel
theorem dX6_passTick_35 : decode cX6_passTick 35 = .ok (.aload_n 1, 1) := by decide +kernel
theorem dX6_passTick_36 : decode cX6_passTick 36 = .ok (.getfield 109, 3) := by decide +kernel
theorem dX6_passTick_39 : decode cX6_passTick 39 = .ok (.iconst 0, 1) := by decide +kernel
theorem dX6_passTick_40 : decode cX6_passTick 40 = .ok (.iaload, 1) := by decide +kernel
theorem dX6_passTick_41 : decode cX6_passTick 41 = .ok (.iload_n 3, 1) := by decide +kernel
theorem dX6_passTick_42 : decode cX6_passTick 42 = .ok (.invokevirtual 130, 3) := by decide +kernel
theorem dX6_passTick_45 : decode cX6_passTick 45 = .ok (.istore 4, 2) := by decide +kernel
theorem dX6_passTick_47 : decode cX6_passTick 47 = .ok (.iload 4, 2) := by decide +kernel
theorem dX6_passTick_49 : decode cX6_passTick 49 = .ok (.ifCond .le 12, 3) := by decide +kernel
theorem dX6_passTick_52 : decode cX6_passTick 52 = .ok (.aload_n 2, 1) := by decide +kernel
theorem dX6_passTick_53 : decode cX6_passTick 53 = .ok (.aload_n 0, 1) := by decide +kernel
theorem dX6_passTick_54 : decode cX6_passTick 54 = .ok (.aload_n 1, 1) := by decide +kernel
theorem dX6_passTick_55 : decode cX6_passTick 55 = .ok (.getfield 117, 3) := by decide +kernel
theorem dX6_passTick_58 : decode cX6_passTick 58 = .ok (.invokevirtual 121, 3) := by decide +kernel
theorem dX6_passTick_61 : decode cX6_passTick 61 = .ok (.aload_n 0, 1) := by decide +kernel
theorem dX6_passTick_62 : decode cX6_passTick 62 = .ok (.getfield 51, 3) := by decide +kernel
theorem dX6_passTick_65 : decode cX6_passTick 65 = .ok (.aload_n 2, 1) := by decide +kernel
theorem dX6_passTick_66 : decode cX6_passTick 66 = .ok (.getfield 134, 3) := by decide +kernel
theorem dX6_passTick_69 : decode cX6_passTick 69 = .ok (.aload_n 1, 1) := by decide +kernel
theorem dX6_passTick_70 : decode cX6_passTick 70 = .ok (.getfield 109, 3) := by decide +kernel
theorem dX6_passTick_73 : decode cX6_passTick 73 = .ok (.iconst 1, 1) := by decide +kernel
theorem dX6_passTick_74 : decode cX6_passTick 74 = .ok (.iaload, 1) := by decide +kernel
theorem dX6_passTick_75 : decode cX6_passTick 75 = .ok (.iload_n 3, 1) := by decide +kernel
theorem dX6_passTick_76 : decode cX6_passTick 76 = .ok (.invokevirtual 130, 3) := by decide +kernel
theorem dX6_passTick_79 : decode cX6_passTick 79 = .ok (.istore 5, 2) := by decide +kernel
theorem dX6_passTick_81 : decode cX6_passTick 81 = .ok (.iload 5, 2) := by decide +kernel
theorem dX6_passTick_83 : decode cX6_passTick 83 = .ok (.ifCond .le 12, 3) := by decide +kernel
theorem dX6_passTick_86 : decode cX6_passTick 86 = .ok (.aload_n 2, 1) := by decide +kernel
theorem dX6_passTick_87 : decode cX6_passTick 87 = .ok (.aload_n 0, 1) := by decide +kernel
theorem dX6_passTick_88 : decode cX6_passTick 88 = .ok (.aload_n 1, 1) := by decide +kernel
theorem dX6_passTick_89 : decode cX6_passTick 89 = .ok (.getfield 117, 3) := by decide +kernel
theorem dX6_passTick_92 : decode cX6_passTick 92 = .ok (.invokevirtual 121, 3) := by decide +kernel
theorem dX6_passTick_95 : decode cX6_passTick 95 = .ok (.iload 4, 2) := by decide +kernel
theorem dX6_passTick_97 : decode cX6_passTick 97 = .ok (.iload 5, 2) := by decide +kernel
theorem dX6_passTick_99 : decode cX6_passTick 99 = .ok (.iadd, 1) := by decide +kernel
theorem dX6_passTick_100 : decode cX6_passTick 100 = .ok (.ireturn, 1) := by decide +kernel
theorem dX6_loadOfLamp_0 : decode cX6_loadOfLamp 0 = .ok (.aload_n 0, 1) := by decide +kernel
theorem dX6_loadOfLamp_1 : decode cX6_loadOfLamp 1 = .ok (.iload_n 1, 1) := by decide +kernel
theorem dX6_loadOfLamp_2 : decode cX6_loadOfLamp 2 = .ok (.invokevirtual 137, 3) := by decide +kernel
theorem dX6_loadOfLamp_5 : decode cX6_loadOfLamp 5 = .ok (.ifCond .eq 16, 3) := by decide +kernel
theorem dX6_loadOfLamp_8 : decode cX6_loadOfLamp 8 = .ok (.aload_n 0, 1) := by decide +kernel
theorem dX6_loadOfLamp_9 : decode cX6_loadOfLamp 9 = .ok (.iload_n 1, 1) := by decide +kernel
theorem dX6_loadOfLamp_10 : decode cX6_loadOfLamp 10 = .ok (.aload_n 0, 1) := by decide +kernel
theorem dX6_loadOfLamp_11 : decode cX6_loadOfLamp 11 = .ok (.getfield 21, 3) := by decide +kernel
theorem dX6_loadOfLamp_14 : decode cX6_loadOfLamp 14 = .ok (.aload_n 2, 1) := by decide +kernel
theorem dX6_loadOfLamp_15 : decode cX6_loadOfLamp 15 = .ok (.invokevirtual 140, 3) := by decide +kernel
theorem dX6_loadOfLamp_18 : decode cX6_loadOfLamp 18 = .ok (.goto 4, 3) := by decide +kernel
theorem dX6_loadOfLamp_21 : decode cX6_loadOfLamp 21 = .ok (.iconst 0, 1) := by decide +kernel
theorem dX6_loadOfLamp_22 : decode cX6_loadOfLamp 22 = .ok (.ireturn, 1) := by decide +kernel
theorem dX6_draw_0 : decode cX6_draw 0 = .ok (.aload_n 0, 1) := by decide +kernel
theorem dX6_draw_1 : decode cX6_draw 1 = .ok (.iload_n 1, 1) := by decide +kernel
theorem dX6_draw_2 : decode cX6_draw 2 = .ok (.invokevirtual 83, 3) := by decide +kernel
theorem dX6_draw_5 : decode cX6_draw 5 = .ok (.ifCond .eq 9, 3) := by decide +kernel
theorem dX6_draw_8 : decode cX6_draw 8 = .ok (.iload_n 1, 1) := by decide +kernel
theorem dX6_draw_9 : decode cX6_draw 9 = .ok (.aload_n 2, 1) := by decide +kernel
theorem dX6_draw_10 : decode cX6_draw 10 = .ok (.arraylength, 1) := by decide +kernel
theorem dX6_draw_11 : decode cX6_draw 11 = .ok (.if_icmp .lt 5, 3) := by decide +kernel
theorem dX6_draw_14 : decode cX6_draw 14 = .ok (.iconst 0, 1) := by decide +kernel
theorem dX6_draw_15 : decode cX6_draw 15 = .ok (.ireturn, 1) := by decide +kernel
theorem dX6_draw_16 : decode cX6_draw 16 = .ok (.aload_n 3, 1) := by decide +kernel
theorem dX6_draw_17 : decode cX6_draw 17 = .ok (.aload_n 0, 1) := by decide +kernel
theorem dX6_draw_18 : decode cX6_draw 18 = .ok (.getfield 9, 3) := by decide +kernel
theorem dX6_draw_21 : decode cX6_draw 21 = .ok (.iload_n 1, 1) := by decide +kernel
theorem dX6_draw_22 : decode cX6_draw 22 = .ok (.iaload, 1) := by decide +kernel
theorem dX6_draw_23 : decode cX6_draw 23 = .ok (.invokevirtual 144, 3) := by decide +kernel
theorem dX6_draw_26 : decode cX6_draw 26 = .ok (.aload_n 2, 1) := by decide +kernel
theorem dX6_draw_27 : decode cX6_draw 27 = .ok (.iload_n 1, 1) := by decide +kernel
theorem dX6_draw_28 : decode cX6_draw 28 = .ok (.iaload, 1) := by decide +kernel
theorem dX6_draw_29 : decode cX6_draw 29 = .ok (.imul, 1) := by decide +kernel
theorem dX6_draw_30 : decode cX6_draw 30 = .ok (.bipush 100, 2) := by decide +kernel
theorem dX6_draw_32 : decode cX6_draw 32 = .ok (.idiv, 1) := by decide +kernel
theorem dX6_draw_33 : decode cX6_draw 33 = .ok (.ireturn, 1) := by decide +kernel
theorem dX6_dimmerOf_0 : decode cX6_dimmerOf 0 = .ok (.iload_n 1, 1) := by decide +kernel
theorem dX6_dimmerOf_1 : decode cX6_dimmerOf 1 = .ok (.ifCond .lt 21, 3) := by decide +kernel
theorem dX6_dimmerOf_4 : decode cX6_dimmerOf 4 = .ok (.iload_n 1, 1) := by decide +kernel
theorem dX6_dimmerOf_5 : decode cX6_dimmerOf 5 = .ok (.aload_n 0, 1) := by decide +kernel
theorem dX6_dimmerOf_6 : decode cX6_dimmerOf 6 = .ok (.getfield 15, 3) := by decide +kernel
theorem dX6_dimmerOf_9 : decode cX6_dimmerOf 9 = .ok (.arraylength, 1) := by decide +kernel
theorem dX6_dimmerOf_10 : decode cX6_dimmerOf 10 = .ok (.if_icmp .ge 12, 3) := by decide +kernel
theorem dX6_dimmerOf_13 : decode cX6_dimmerOf 13 = .ok (.aload_n 0, 1) := by decide +kernel
theorem dX6_dimmerOf_14 : decode cX6_dimmerOf 14 = .ok (.getfield 15, 3) := by decide +kernel
theorem dX6_dimmerOf_17 : decode cX6_dimmerOf 17 = .ok (.iload_n 1, 1) := by decide +kernel
theorem dX6_dimmerOf_18 : decode cX6_dimmerOf 18 = .ok (.iaload, 1) := by decide +kernel
theorem dX6_dimmerOf_19 : decode cX6_dimmerOf 19 = .ok (.goto 5, 3) := by decide +kernel
theorem dX6_dimmerOf_22 : decode cX6_dimmerOf 22 = .ok (.bipush (-6), 2) := by decide +kernel
theorem dX6_dimmerOf_24 : decode cX6_dimmerOf 24 = .ok (.ireturn, 1) := by decide +kernel
theorem dX6_phaseOf_0 : decode cX6_phaseOf 0 = .ok (.iload_n 1, 1) := by decide +kernel
theorem dX6_phaseOf_1 : decode cX6_phaseOf 1 = .ok (.ifCond .lt 21, 3) := by decide +kernel
theorem dX6_phaseOf_4 : decode cX6_phaseOf 4 = .ok (.iload_n 1, 1) := by decide +kernel
theorem dX6_phaseOf_5 : decode cX6_phaseOf 5 = .ok (.aload_n 0, 1) := by decide +kernel
theorem dX6_phaseOf_6 : decode cX6_phaseOf 6 = .ok (.getfield 24, 3) := by decide +kernel
theorem dX6_phaseOf_9 : decode cX6_phaseOf 9 = .ok (.arraylength, 1) := by decide +kernel
theorem dX6_phaseOf_10 : decode cX6_phaseOf 10 = .ok (.if_icmp .ge 12, 3) := by decide +kernel
theorem dX6_phaseOf_13 : decode cX6_phaseOf 13 = .ok (.aload_n 0, 1) := by decide +kernel
theorem dX6_phaseOf_14 : decode cX6_phaseOf 14 = .ok (.getfield 24, 3) := by decide +kernel
theorem dX6_phaseOf_17 : decode cX6_phaseOf 17 = .ok (.iload_n 1, 1) := by decide +kernel
theorem dX6_phaseOf_18 : decode cX6_phaseOf 18 = .ok (.iaload, 1) := by decide +kernel
theorem dX6_phaseOf_19 : decode cX6_phaseOf 19 = .ok (.goto 5, 3) := by decide +kernel
theorem dX6_phaseOf_22 : decode cX6_phaseOf 22 = .ok (.bipush (-6), 2) := by decide +kernel
theorem dX6_phaseOf_24 : decode cX6_phaseOf 24 = .ok (.ireturn, 1) := by decide +kernel
theorem dX6_isFed_0 : decode cX6_isFed 0 = .ok (.aload_n 0, 1) := by decide +kernel
theorem dX6_isFed_1 : decode cX6_isFed 1 = .ok (.iload_n 1, 1) := by decide +kernel
theorem dX6_isFed_2 : decode cX6_isFed 2 = .ok (.invokevirtual 150, 3) := by decide +kernel
theorem dX6_isFed_5 : decode cX6_isFed 5 = .ok (.istore_n 2, 1) := by decide +kernel
theorem dX6_isFed_6 : decode cX6_isFed 6 = .ok (.iload_n 2, 1) := by decide +kernel
theorem dX6_isFed_7 : decode cX6_isFed 7 = .ok (.bipush (-6), 2) := by decide +kernel
theorem dX6_isFed_9 : decode cX6_isFed 9 = .ok (.if_icmp .eq 33, 3) := by decide +kernel
theorem dX6_isFed_12 : decode cX6_isFed 12 = .ok (.aload_n 0, 1) := by decide +kernel
theorem dX6_isFed_13 : decode cX6_isFed 13 = .ok (.getfield 47, 3) := by decide +kernel
theorem dX6_isFed_16 : decode cX6_isFed 16 = .ok (.iload_n 2, 1) := by decide +kernel
theorem dX6_isFed_17 : decode cX6_isFed 17 = .ok (.invokevirtual 153, 3) := by decide +kernel
theorem dX6_isFed_20 : decode cX6_isFed 20 = .ok (.ifCond .ne 22, 3) := by decide +kernel
theorem dX6_isFed_23 : decode cX6_isFed 23 = .ok (.aload_n 0, 1) := by decide +kernel
theorem dX6_isFed_24 : decode cX6_isFed 24 = .ok (.getfield 51, 3) := by decide +kernel
theorem dX6_isFed_27 : decode cX6_isFed 27 = .ok (.aload_n 0, 1) := by decide +kernel
theorem dX6_isFed_28 : decode cX6_isFed 28 = .ok (.iload_n 2, 1) := by decide +kernel
theorem dX6_isFed_29 : decode cX6_isFed 29 = .ok (.invokevirtual 156, 3) := by decide +kernel
theorem dX6_isFed_32 : decode cX6_isFed 32 = .ok (.invokevirtual 153, 3) := by decide +kernel
theorem dX6_isFed_35 : decode cX6_isFed 35 = .ok (.ifCond .ne 7, 3) := by decide +kernel
theorem dX6_isFed_38 : decode cX6_isFed 38 = .ok (.iconst 1, 1) := by decide +kernel
theorem dX6_isFed_39 : decode cX6_isFed 39 = .ok (.goto 4, 3) := by decide +kernel
theorem dX6_isFed_42 : decode cX6_isFed 42 = .ok (.iconst 0, 1) := by decide +kernel
theorem dX6_isFed_43 : decode cX6_isFed 43 = .ok (.ireturn, 1) := by decide +kernel
theorem dX6_spreadDimmers_0 : decode cX6_spreadDimmers 0 = .ok (.iconst 0, 1) := by decide +kernel
theorem dX6_spreadDimmers_1 : decode cX6_spreadDimmers 1 = .ok (.istore_n 3, 1) := by decide +kernel
theorem dX6_spreadDimmers_2 : decode cX6_spreadDimmers 2 = .ok (.iconst 0, 1) := by decide +kernel
theorem dX6_spreadDimmers_3 : decode cX6_spreadDimmers 3 = .ok (.istore 4, 2) := by decide +kernel
theorem dX6_spreadDimmers_5 : decode cX6_spreadDimmers 5 = .ok (.aload_n 2, 1) := by decide +kernel
theorem dX6_spreadDimmers_6 : decode cX6_spreadDimmers 6 = .ok (.invokestatic 159, 3) := by decide +kernel
theorem dX6_spreadDimmers_9 : decode cX6_spreadDimmers 9 = .ok (.iconst 0, 1) := by decide +kernel
theorem dX6_spreadDimmers_10 : decode cX6_spreadDimmers 10 = .ok (.istore 5, 2) := by decide +kernel
theorem dX6_spreadDimmers_12 : decode cX6_spreadDimmers 12 = .ok (.iload 5, 2) := by decide +kernel
theorem dX6_spreadDimmers_14 : decode cX6_spreadDimmers 14 = .ok (.bipush 12, 2) := by decide +kernel
theorem dX6_spreadDimmers_16 : decode cX6_spreadDimmers 16 = .ok (.if_icmp .ge 64, 3) := by decide +kernel
theorem dX6_spreadDimmers_19 : decode cX6_spreadDimmers 19 = .ok (.aload_n 1, 1) := by decide +kernel
theorem dX6_spreadDimmers_20 : decode cX6_spreadDimmers 20 = .ok (.iload_n 3, 1) := by decide +kernel
theorem dX6_spreadDimmers_21 : decode cX6_spreadDimmers 21 = .ok (.invokestatic 162, 3) := by decide +kernel
theorem dX6_spreadDimmers_24 : decode cX6_spreadDimmers 24 = .ok (.istore 6, 2) := by decide +kernel
theorem dX6_spreadDimmers_26 : decode cX6_spreadDimmers 26 = .ok (.aload_n 2, 1) := by decide +kernel
theorem dX6_spreadDimmers_27 : decode cX6_spreadDimmers 27 = .ok (.invokestatic 166, 3) := by decide +kernel
theorem dX6_spreadDimmers_30 : decode cX6_spreadDimmers 30 = .ok (.istore 7, 2) := by decide +kernel
theorem dX6_spreadDimmers_32 : decode cX6_spreadDimmers 32 = .ok (.aload_n 0, 1) := by decide +kernel
theorem dX6_spreadDimmers_33 : decode cX6_spreadDimmers 33 = .ok (.getfield 24, 3) := by decide +kernel
theorem dX6_spreadDimmers_36 : decode cX6_spreadDimmers 36 = .ok (.iload 6, 2) := by decide +kernel
theorem dX6_spreadDimmers_38 : decode cX6_spreadDimmers 38 = .ok (.iaload, 1) := by decide +kernel
theorem dX6_spreadDimmers_39 : decode cX6_spreadDimmers 39 = .ok (.iload 7, 2) := by decide +kernel
theorem dX6_spreadDimmers_41 : decode cX6_spreadDimmers 41 = .ok (.if_icmp .eq 6, 3) := by decide +kernel
theorem dX6_spreadDimmers_44 : decode cX6_spreadDimmers 44 = .ok (.iinc 4 1, 3) := by decide +kernel
theorem dX6_spreadDimmers_47 : decode cX6_spreadDimmers 47 = .ok (.aload_n 0, 1) := by decide +kernel
theorem dX6_spreadDimmers_48 : decode cX6_spreadDimmers 48 = .ok (.getfield 24, 3) := by decide +kernel
theorem dX6_spreadDimmers_51 : decode cX6_spreadDimmers 51 = .ok (.iload 6, 2) := by decide +kernel
theorem dX6_spreadDimmers_53 : decode cX6_spreadDimmers 53 = .ok (.iload 7, 2) := by decide +kernel
theorem dX6_spreadDimmers_55 : decode cX6_spreadDimmers 55 = .ok (.iastore, 1) := by decide +kernel
theorem dX6_spreadDimmers_56 : decode cX6_spreadDimmers 56 = .ok (.aload_n 2, 1) := by decide +kernel
theorem dX6_spreadDimmers_57 : decode cX6_spreadDimmers 57 = .ok (.iload 7, 2) := by decide +kernel
theorem dX6_spreadDimmers_59 : decode cX6_spreadDimmers 59 = .ok (.dup2, 1) := by decide +kernel
theorem dX6_spreadDimmers_60 : decode cX6_spreadDimmers 60 = .ok (.iaload, 1) := by decide +kernel
theorem dX6_spreadDimmers_61 : decode cX6_spreadDimmers 61 = .ok (.aload_n 1, 1) := by decide +kernel
theorem dX6_spreadDimmers_62 : decode cX6_spreadDimmers 62 = .ok (.iload 6, 2) := by decide +kernel
theorem dX6_spreadDimmers_64 : decode cX6_spreadDimmers 64 = .ok (.iaload, 1) := by decide +kernel
theorem dX6_spreadDimmers_65 : decode cX6_spreadDimmers 65 = .ok (.iadd, 1) := by decide +kernel
theorem dX6_spreadDimmers_66 : decode cX6_spreadDimmers 66 = .ok (.iastore, 1) := by decide +kernel
theorem dX6_spreadDimmers_67 : decode cX6_spreadDimmers 67 = .ok (.iload_n 3, 1) := by decide +kernel
theorem dX6_spreadDimmers_68 : decode cX6_spreadDimmers 68 = .ok (.iconst 1, 1) := by decide +kernel
theorem dX6_spreadDimmers_69 : decode cX6_spreadDimmers 69 = .ok (.iload 6, 2) := by decide +kernel
theorem dX6_spreadDimmers_71 : decode cX6_spreadDimmers 71 = .ok (.ishl, 1) := by decide +kernel
theorem dX6_spreadDimmers_72 : decode cX6_spreadDimmers 72 = .ok (.ior, 1) := by decide +kernel
theorem dX6_spreadDimmers_73 : decode cX6_spreadDimmers 73 = .ok (.istore_n 3, 1) := by decide +kernel
theorem dX6_spreadDimmers_74 : decode cX6_spreadDimmers 74 = .ok (.iinc 5 1, 3) := by decide +kernel
theorem dX6_spreadDimmers_77 : decode cX6_spreadDimmers 77 = .ok (.goto (-65), 3) := by decide +kernel
theorem dX6_spreadDimmers_80 : decode cX6_spreadDimmers 80 = .ok (.iload 4, 2) := by decide +kernel
theorem dX6_spreadDimmers_82 : decode cX6_spreadDimmers 82 = .ok (.ireturn, 1) := by decide +kernel
theorem dX6_heaviestLeft_0 : decode cX6_heaviestLeft 0 = .ok (.iconst 0, 1) := by decide +kernel
theorem dX6_heaviestLeft_1 : decode cX6_heaviestLeft 1 = .ok (.istore_n 2, 1) := by decide +kernel
theorem dX6_heaviestLeft_2 : decode cX6_heaviestLeft 2 = .ok (.iconst (-1), 1) := by decide +kernel
theorem dX6_heaviestLeft_3 : decode cX6_heaviestLeft 3 = .ok (.istore_n 3, 1) := by decide +kernel
theorem dX6_heaviestLeft_4 : decode cX6_heaviestLeft 4 = .ok (.iconst 0, 1) := by decide +kernel
theorem dX6_heaviestLeft_5 : decode cX6_heaviestLeft 5 = .ok (.istore 4, 2) := by decide +kernel
theorem dX6_heaviestLeft_7 : decode cX6_heaviestLeft 7 = .ok (.iload 4, 2) := by decide +kernel
theorem dX6_heaviestLeft_9 : decode cX6_heaviestLeft 9 = .ok (.aload_n 0, 1) := by decide +kernel
theorem dX6_heaviestLeft_10 : decode cX6_heaviestLeft 10 = .ok (.arraylength, 1) := by decide +kernel
theorem dX6_heaviestLeft_11 : decode cX6_heaviestLeft 11 = .ok (.if_icmp .ge 34, 3) := by decide +kernel
theorem dX6_heaviestLeft_14 : decode cX6_heaviestLeft 14 = .ok (.iload_n 1, 1) := by decide +kernel
theorem dX6_heaviestLeft_15 : decode cX6_heaviestLeft 15 = .ok (.iload 4, 2) := by decide +kernel
theorem dX6_heaviestLeft_17 : decode cX6_heaviestLeft 17 = .ok (.invokestatic 170, 3) := by decide +kernel
theorem dX6_heaviestLeft_20 : decode cX6_heaviestLeft 20 = .ok (.ifCond .ne 19, 3) := by decide +kernel
theorem dX6_heaviestLeft_23 : decode cX6_heaviestLeft 23 = .ok (.aload_n 0, 1) := by decide +kernel
theorem dX6_heaviestLeft_24 : decode cX6_heaviestLeft 24 = .ok (.iload 4, 2) := by decide +kernel
theorem dX6_heaviestLeft_26 : decode cX6_heaviestLeft 26 = .ok (.iaload, 1) := by decide +kernel
theorem dX6_heaviestLeft_27 : decode cX6_heaviestLeft 27 = .ok (.iload_n 3, 1) := by decide +kernel
theorem dX6_heaviestLeft_28 : decode cX6_heaviestLeft 28 = .ok (.if_icmp .le 11, 3) := by decide +kernel
theorem dX6_heaviestLeft_31 : decode cX6_heaviestLeft 31 = .ok (.aload_n 0, 1) := by decide +kernel
theorem dX6_heaviestLeft_32 : decode cX6_heaviestLeft 32 = .ok (.iload 4, 2) := by decide +kernel
theorem dX6_heaviestLeft_34 : decode cX6_heaviestLeft 34 = .ok (.iaload, 1) := by decide +kernel
theorem dX6_heaviestLeft_35 : decode cX6_heaviestLeft 35 = .ok (.istore_n 3, 1) := by decide +kernel
theorem dX6_heaviestLeft_36 : decode cX6_heaviestLeft 36 = .ok (.iload 4, 2) := by decide +kernel
theorem dX6_heaviestLeft_38 : decode cX6_heaviestLeft 38 = .ok (.istore_n 2, 1) := by decide +kernel
theorem dX6_heaviestLeft_39 : decode cX6_heaviestLeft 39 = .ok (.iinc 4 1, 3) := by decide +kernel
theorem dX6_heaviestLeft_42 : decode cX6_heaviestLeft 42 = .ok (.goto (-35), 3) := by decide +kernel
theorem dX6_heaviestLeft_45 : decode cX6_heaviestLeft 45 = .ok (.iload_n 2, 1) := by decide +kernel
theorem dX6_heaviestLeft_46 : decode cX6_heaviestLeft 46 = .ok (.ireturn, 1) := by decide +kernel
theorem dX6_lightest_0 : decode cX6_lightest 0 = .ok (.iconst 0, 1) := by decide +kernel
theorem dX6_lightest_1 : decode cX6_lightest 1 = .ok (.istore_n 1, 1) := by decide +kernel
theorem dX6_lightest_2 : decode cX6_lightest 2 = .ok (.iconst 1, 1) := by decide +kernel
theorem dX6_lightest_3 : decode cX6_lightest 3 = .ok (.istore_n 2, 1) := by decide +kernel
theorem dX6_lightest_4 : decode cX6_lightest 4 = .ok (.iload_n 2, 1) := by decide +kernel
theorem dX6_lightest_5 : decode cX6_lightest 5 = .ok (.aload_n 0, 1) := by decide +kernel
theorem dX6_lightest_6 : decode cX6_lightest 6 = .ok (.arraylength, 1) := by decide +kernel
theorem dX6_lightest_7 : decode cX6_lightest 7 = .ok (.if_icmp .ge 20, 3) := by decide +kernel
theorem dX6_lightest_10 : decode cX6_lightest 10 = .ok (.aload_n 0, 1) := by decide +kernel
theorem dX6_lightest_11 : decode cX6_lightest 11 = .ok (.iload_n 2, 1) := by decide +kernel
theorem dX6_lightest_12 : decode cX6_lightest 12 = .ok (.iaload, 1) := by decide +kernel
theorem dX6_lightest_13 : decode cX6_lightest 13 = .ok (.aload_n 0, 1) := by decide +kernel
theorem dX6_lightest_14 : decode cX6_lightest 14 = .ok (.iload_n 1, 1) := by decide +kernel
theorem dX6_lightest_15 : decode cX6_lightest 15 = .ok (.iaload, 1) := by decide +kernel
theorem dX6_lightest_16 : decode cX6_lightest 16 = .ok (.if_icmp .ge 5, 3) := by decide +kernel
theorem dX6_lightest_19 : decode cX6_lightest 19 = .ok (.iload_n 2, 1) := by decide +kernel
theorem dX6_lightest_20 : decode cX6_lightest 20 = .ok (.istore_n 1, 1) := by decide +kernel
theorem dX6_lightest_21 : decode cX6_lightest 21 = .ok (.iinc 2 1, 3) := by decide +kernel
theorem dX6_lightest_24 : decode cX6_lightest 24 = .ok (.goto (-20), 3) := by decide +kernel
theorem dX6_lightest_27 : decode cX6_lightest 27 = .ok (.iload_n 1, 1) := by decide +kernel
theorem dX6_lightest_28 : decode cX6_lightest 28 = .ok (.ireturn, 1) := by decide +kernel
theorem dX7_init_0 : decode cX7_init 0 = .ok (.aload_n 0, 1) := by decide +kernel
theorem dX7_init_1 : decode cX7_init 1 = .ok (.invokespecial 3, 3) := by decide +kernel
theorem dX7_init_4 : decode cX7_init 4 = .ok (.aload_n 0, 1) := by decide +kernel
theorem dX7_init_5 : decode cX7_init 5 = .ok (.getstatic 9, 3) := by decide +kernel
theorem dX7_init_8 : decode cX7_init 8 = .ok (.invokevirtual 13, 3) := by decide +kernel
theorem dX7_init_11 : decode cX7_init 11 = .ok (.checkcast 14, 3) := by decide +kernel
theorem dX7_init_14 : decode cX7_init 14 = .ok (.putfield 18, 3) := by decide +kernel
theorem dX7_init_17 : decode cX7_init 17 = .ok (.aload_n 0, 1) := by decide +kernel
theorem dX7_init_18 : decode cX7_init 18 = .ok (.new 23, 3) := by decide +kernel
theorem dX7_init_21 : decode cX7_init 21 = .ok (.dup, 1) := by decide +kernel
theorem dX7_init_22 : decode cX7_init 22 = .ok (.invokespecial 25, 3) := by decide +kernel
theorem dX7_init_25 : decode cX7_init 25 = .ok (.putfield 26, 3) := by decide +kernel
theorem dX7_init_28 : decode cX7_init 28 = .ok (.aload_n 0, 1) := by decide +kernel
theorem dX7_init_29 : decode cX7_init 29 = .ok (.iconst 3, 1) := by decide +kernel
theorem dX7_init_30 : decode cX7_init 30 = .ok (.anewarray 30, 3) := by decide +kernel
theorem dX7_init_33 : decode cX7_init 33 = .ok (.putfield 32, 3) := by decide +kernel
theorem dX7_init_36 : decode cX7_init 36 = .ok (.iconst 0, 1) := by decide +kernel
theorem dX7_init_37 : decode cX7_init 37 = .ok (.istore_n 1, 1) := by decide +kernel
theorem dX7_init_38 : decode cX7_init 38 = .ok (.iload_n 1, 1) := by decide +kernel
theorem dX7_init_39 : decode cX7_init 39 = .ok (.aload_n 0, 1) := by decide +kernel
theorem dX7_init_40 : decode cX7_init 40 = .ok (.getfield 32, 3) := by decide +kernel
theorem dX7_init_43 : decode cX7_init 43 = .ok (.arraylength, 1) := by decide +kernel
theorem dX7_init_44 : decode cX7_init 44 = .ok (.if_icmp .ge 22, 3) := by decide +kernel
theorem dX7_init_47 : decode cX7_init 47 = .ok (.aload_n 0, 1) := by decide +kernel
theorem dX7_init_48 : decode cX7_init 48 = .ok (.getfield 32, 3) := by decide +kernel
theorem dX7_init_51 : decode cX7_init 51 = .ok (.iload_n 1, 1) := by decide +kernel
theorem dX7_init_52 : decode cX7_init 52 = .ok (.new 30, 3) := by decide +kernel
theorem dX7_init_55 : decode cX7_init 55 = .ok (.dup, 1) := by decide +kernel
theorem dX7_init_56 : decode cX7_init 56 = .ok (.invokespecial 36, 3) := by decide +kernel
theorem dX7_init_59 : decode cX7_init 59 = .ok (.aastore, 1) := by decide +kernel
theorem dX7_init_60 : decode cX7_init 60 = .ok (.iinc 1 1, 3) := by decide +kernel
theorem dX7_init_63 : decode cX7_init 63 = .ok (.goto (-25), 3) := by decide +kernel
theorem dX7_init_66 : decode cX7_init 66 = .ok (.return_, 1) := by decide +kernel
theorem dX7_find_0 : decode cX7_find 0 = .ok (.iload_n 1, 1) := by decide +kernel
theorem dX7_find_1 : decode cX7_find 1 = .ok (.iconst 0, 1) := by decide +kernel
theorem dX7_find_2 : decode cX7_find 2 = .ok (.aload_n 0, 1) := by decide +kernel
theorem dX7_find_3 : decode cX7_find 3 = .ok (.getfield 32, 3) := by decide +kernel
theorem dX7_find_6 : decode cX7_find 6 = .ok (.arraylength, 1) := by decide +kernel
theorem dX7_find_7 : decode cX7_find 7 = .ok (.iconst 1, 1) := by decide +kernel
theorem dX7_find_8 : decode cX7_find 8 = .ok (.isub, 1) := by decide +kernel
theorem dX7_find_9 : decode cX7_find 9 = .ok (.invokestatic 37, 3) := by decide +kernel
theorem dX7_find_12 : decode cX7_find 12 = .ok (.ifCond .eq 12, 3) := by decide +kernel
theorem dX7_find_15 : decode cX7_find 15 = .ok (.aload_n 0, 1) := by decide +kernel
theorem dX7_find_16 : decode cX7_find 16 = .ok (.getfield 32, 3) := by decide +kernel
theorem dX7_find_19 : decode cX7_find 19 = .ok (.iload_n 1, 1) := by decide +kernel
theorem dX7_find_20 : decode cX7_find 20 = .ok (.aaload, 1) := by decide +kernel
theorem dX7_find_21 : decode cX7_find 21 = .ok (.goto 4, 3) := by decide +kernel
theorem dX7_find_24 : decode cX7_find 24 = .ok (.aconst_null, 1) := by decide +kernel
theorem dX7_find_25 : decode cX7_find 25 = .ok (.areturn, 1) := by decide +kernel
theorem dX7_copyFrom_0 : decode cX7_copyFrom 0 = .ok (.aload_n 1, 1) := by decide +kernel
theorem dX7_copyFrom_1 : decode cX7_copyFrom 1 = .ok (.getfield 18, 3) := by decide +kernel
theorem dX7_copyFrom_4 : decode cX7_copyFrom 4 = .ok (.aload_n 0, 1) := by decide +kernel
theorem dX7_copyFrom_5 : decode cX7_copyFrom 5 = .ok (.getfield 18, 3) := by decide +kernel
theorem dX7_copyFrom_8 : decode cX7_copyFrom 8 = .ok (.invokestatic 41, 3) := by decide +kernel
theorem dX7_copyFrom_11 : decode cX7_copyFrom 11 = .ok (.aload_n 0, 1) := by decide +kernel
theorem dX7_copyFrom_12 : decode cX7_copyFrom 12 = .ok (.getfield 26, 3) := by decide +kernel
theorem dX7_copyFrom_15 : decode cX7_copyFrom 15 = .ok (.aload_n 1, 1) := by decide +kernel
theorem dX7_copyFrom_16 : decode cX7_copyFrom 16 = .ok (.getfield 26, 3) := by decide +kernel
theorem dX7_copyFrom_19 : decode cX7_copyFrom 19 = .ok (.invokevirtual 45, 3) := by decide +kernel
theorem dX7_copyFrom_22 : decode cX7_copyFrom 22 = .ok (.iconst 0, 1) := by decide +kernel
theorem dX7_copyFrom_23 : decode cX7_copyFrom 23 = .ok (.istore_n 2, 1) := by decide +kernel
theorem dX7_copyFrom_24 : decode cX7_copyFrom 24 = .ok (.iload_n 2, 1) := by decide +kernel
theorem dX7_copyFrom_25 : decode cX7_copyFrom 25 = .ok (.aload_n 0, 1) := by decide +kernel
theorem dX7_copyFrom_26 : decode cX7_copyFrom 26 = .ok (.getfield 32, 3) := by decide +kernel
theorem dX7_copyFrom_29 : decode cX7_copyFrom 29 = .ok (.arraylength, 1) := by decide +kernel
theorem dX7_copyFrom_30 : decode cX7_copyFrom 30 = .ok (.if_icmp .ge 33, 3) := by decide +kernel
theorem dX7_copyFrom_33 : decode cX7_copyFrom 33 = .ok (.iload_n 2, 1) := by decide +kernel
theorem dX7_copyFrom_34 : decode cX7_copyFrom 34 = .ok (.aload_n 1, 1) := by decide +kernel
theorem dX7_copyFrom_35 : decode cX7_copyFrom 35 = .ok (.getfield 32, 3) := by decide +kernel
theorem dX7_copyFrom_38 : decode cX7_copyFrom 38 = .ok (.arraylength, 1) := by decide +kernel
theorem dX7_copyFrom_39 : decode cX7_copyFrom 39 = .ok (.if_icmp .ge 24, 3) := by decide +kernel
theorem dX7_copyFrom_42 : decode cX7_copyFrom 42 = .ok (.aload_n 0, 1) := by decide +kernel
theorem dX7_copyFrom_43 : decode cX7_copyFrom 43 = .ok (.getfield 32, 3) := by decide +kernel
theorem dX7_copyFrom_46 : decode cX7_copyFrom 46 = .ok (.iload_n 2, 1) := by decide +kernel
theorem dX7_copyFrom_47 : decode cX7_copyFrom 47 = .ok (.aaload, 1) := by decide +kernel
theorem dX7_copyFrom_48 : decode cX7_copyFrom 48 = .ok (.aload_n 1, 1) := by decide +kernel
theorem dX7_copyFrom_49 : decode cX7_copyFrom 49 = .ok (.getfield 32, 3) := by decide +kernel
theorem dX7_copyFrom_52 : decode cX7_copyFrom 52 = .ok (.iload_n 2, 1) := by decide +kernel
theorem dX7_copyFrom_53 : decode cX7_copyFrom 53 = .ok (.aaload, 1) := by decide +kernel
theorem dX7_copyFrom_54 : decode cX7_copyFrom 54 = .ok (.invokevirtual 49, 3) := by decide +kernel
theorem dX7_copyFrom_57 : decode cX7_copyFrom 57 = .ok (.iinc 2 1, 3) := by decide +kernel
theorem dX7_copyFrom_60 : decode cX7_copyFrom 60 = .ok (.goto (-36), 3) := by decide +kernel
theorem dX7_copyFrom_63 : decode cX7_copyFrom 63 = .ok (.return_, 1) := by decide +kernel
theorem dX7_allLamps_0 : decode cX7_allLamps 0 = .ok (.iconst 0, 1) := by decide +kernel
theorem dX7_allLamps_1 : decode cX7_allLamps 1 = .ok (.istore_n 1, 1) := by decide +kernel
theorem dX7_allLamps_2 : decode cX7_allLamps 2 = .ok (.aload_n 0, 1) := by decide +kernel
theorem dX7_allLamps_3 : decode cX7_allLamps 3 = .ok (.getfield 32, 3) := by decide +kernel
theorem dX7_allLamps_6 : decode cX7_allLamps 6 = .ok (.astore_n 2, 1) := by decide +kernel
theorem dX7_allLamps_7 : decode cX7_allLamps 7 = .ok (.aload_n 2, 1) := by decide +kernel
theorem dX7_allLamps_8 : decode cX7_allLamps 8 = .ok (.arraylength, 1) := by decide +kernel
theorem dX7_allLamps_9 : decode cX7_allLamps 9 = .ok (.istore_n 3, 1) := by decide +kernel
theorem dX7_allLamps_10 : decode cX7_allLamps 10 = .ok (.iconst 0, 1) := by decide +kernel
theorem dX7_allLamps_11 : decode cX7_allLamps 11 = .ok (.istore 4, 2) := by decide +kernel
theorem dX7_allLamps_13 : decode cX7_allLamps 13 = .ok (.iload 4, 2) := by decide +kernel
theorem dX7_allLamps_15 : decode cX7_allLamps 15 = .ok (.iload_n 3, 1) := by decide +kernel
theorem dX7_allLamps_16 : decode cX7_allLamps 16 = .ok (.if_icmp .ge 23, 3) := by decide +kernel
theorem dX7_allLamps_19 : decode cX7_allLamps 19 = .ok (.aload_n 2, 1) := by decide +kernel
theorem dX7_allLamps_20 : decode cX7_allLamps 20 = .ok (.iload 4, 2) := by decide +kernel
theorem dX7_allLamps_22 : decode cX7_allLamps 22 = .ok (.aaload, 1) := by decide +kernel
theorem dX7_allLamps_23 : decode cX7_allLamps 23 = .ok (.astore 5, 2) := by decide +kernel
theorem dX7_allLamps_25 : decode cX7_allLamps 25 = .ok (.iload_n 1, 1) := by decide +kernel
theorem dX7_allLamps_26 : decode cX7_allLamps 26 = .ok (.aload 5, 2) := by decide +kernel
theorem dX7_allLamps_28 : decode cX7_allLamps 28 = .ok (.getfield 52, 3) := by decide +kernel
theorem dX7_allLamps_31 : decode cX7_allLamps 31 = .ok (.iadd, 1) := by decide +kernel
theorem dX7_allLamps_32 : decode cX7_allLamps 32 = .ok (.istore_n 1, 1) := by decide +kernel
theorem dX7_allLamps_33 : decode cX7_allLamps 33 = .ok (.iinc 4 1, 3) := by decide +kernel
theorem dX7_allLamps_36 : decode cX7_allLamps 36 = .ok (.goto (-23), 3) := by decide +kernel
theorem dX7_allLamps_39 : decode cX7_allLamps 39 = .ok (.iload_n 1, 1) := by decide +kernel
theorem dX7_allLamps_40 : decode cX7_allLamps 40 = .ok (.ireturn, 1) := by decide +kernel
theorem dX7_needed_0 : decode cX7_needed 0 = .ok (.iconst 0, 1) := by decide +kernel
theorem dX7_needed_1 : decode cX7_needed 1 = .ok (.istore_n 3, 1) := by decide +kernel
theorem dX7_needed_2 : decode cX7_needed 2 = .ok (.aload_n 0, 1) := by decide +kernel
theorem dX7_needed_3 : decode cX7_needed 3 = .ok (.getfield 32, 3) := by decide +kernel
theorem dX7_needed_6 : decode cX7_needed 6 = .ok (.astore 4, 2) := by decide +kernel
theorem dX7_needed_8 : decode cX7_needed 8 = .ok (.aload 4, 2) := by decide +kernel
theorem dX7_needed_10 : decode cX7_needed 10 = .ok (.arraylength, 1) := by decide +kernel
theorem dX7_needed_11 : decode cX7_needed 11 = .ok (.istore 5, 2) := by decide +kernel
theorem dX7_needed_13 : decode cX7_needed 13 = .ok (.iconst 0, 1) := by decide +kernel
theorem dX7_needed_14 : decode cX7_needed 14 = .ok (.istore 6, 2) := by decide +kernel
theorem dX7_needed_16 : decode cX7_needed 16 = .ok (.iload 6, 2) := by decide +kernel
theorem dX7_needed_18 : decode cX7_needed 18 = .ok (.iload 5, 2) := by decide +kernel
theorem dX7_needed_20 : decode cX7_needed 20 = .ok (.if_icmp .ge 34, 3) := by decide +kernel
theorem dX7_needed_23 : decode cX7_needed 23 = .ok (.aload 4, 2) := by decide +kernel
theorem dX7_needed_25 : decode cX7_needed 25 = .ok (.iload 6, 2) := by decide +kernel
theorem dX7_needed_27 : decode cX7_needed 27 = .ok (.aaload, 1) := by decide +kernel
theorem dX7_needed_28 : decode cX7_needed 28 = .ok (.astore 7, 2) := by decide +kernel
theorem dX7_needed_30 : decode cX7_needed 30 = .ok (.aload 7, 2) := by decide +kernel
theorem dX7_needed_32 : decode cX7_needed 32 = .ok (.iload_n 2, 1) := by decide +kernel
theorem dX7_needed_33 : decode cX7_needed 33 = .ok (.invokevirtual 56, 3) := by decide +kernel
theorem dX7_needed_36 : decode cX7_needed 36 = .ok (.ifCond .eq 12, 3) := by decide +kernel
theorem dX7_needed_39 : decode cX7_needed 39 = .ok (.iload_n 3, 1) := by decide +kernel
theorem dX7_needed_40 : decode cX7_needed 40 = .ok (.aload 7, 2) := by decide +kernel
theorem dX7_needed_42 : decode cX7_needed 42 = .ok (.iload_n 1, 1) := by decide +kernel
theorem dX7_needed_43 : decode cX7_needed 43 = .ok (.invokevirtual 60, 3) := by decide +kernel
theorem dX7_needed_46 : decode cX7_needed 46 = .ok (.iadd, 1) := by decide +kernel
theorem dX7_needed_47 : decode cX7_needed 47 = .ok (.istore_n 3, 1) := by decide +kernel
theorem dX7_needed_48 : decode cX7_needed 48 = .ok (.iinc 6 1, 3) := by decide +kernel
theorem dX7_needed_51 : decode cX7_needed 51 = .ok (.goto (-35), 3) := by decide +kernel
theorem dX7_needed_54 : decode cX7_needed 54 = .ok (.iload_n 3, 1) := by decide +kernel
theorem dX7_needed_55 : decode cX7_needed 55 = .ok (.ireturn, 1) := by decide +kernel
theorem dX7_missing_0 : decode cX7_missing 0 = .ok (.iconst 0, 1) := by decide +kernel
theorem dX7_missing_1 : decode cX7_missing 1 = .ok (.aload_n 0, 1) := by decide +kernel
theorem dX7_missing_2 : decode cX7_missing 2 = .ok (.iload_n 1, 1) := by decide +kernel
theorem dX7_missing_3 : decode cX7_missing 3 = .ok (.iload_n 2, 1) := by decide +kernel
theorem dX7_missing_4 : decode cX7_missing 4 = .ok (.invokevirtual 64, 3) := by decide +kernel
theorem dX7_missing_7 : decode cX7_missing 7 = .ok (.aload_n 0, 1) := by decide +kernel
theorem dX7_missing_8 : decode cX7_missing 8 = .ok (.getfield 26, 3) := by decide +kernel
theorem dX7_missing_11 : decode cX7_missing 11 = .ok (.iload_n 1, 1) := by decide +kernel
theorem dX7_missing_12 : decode cX7_missing 12 = .ok (.invokevirtual 68, 3) := by decide +kernel
theorem dX7_missing_15 : decode cX7_missing 15 = .ok (.isub, 1) := by decide +kernel
theorem dX7_missing_16 : decode cX7_missing 16 = .ok (.invokestatic 71, 3) := by decide +kernel
theorem dX7_missing_19 : decode cX7_missing 19 = .ok (.ireturn, 1) := by decide +kernel
theorem dX7_cost_0 : decode cX7_cost 0 = .ok (.aload_n 0, 1) := by decide +kernel
theorem dX7_cost_1 : decode cX7_cost 1 = .ok (.getfield 26, 3) := by decide +kernel
theorem dX7_cost_4 : decode cX7_cost 4 = .ok (.iload_n 1, 1) := by decide +kernel
theorem dX7_cost_5 : decode cX7_cost 5 = .ok (.invokevirtual 76, 3) := by decide +kernel
theorem dX7_cost_8 : decode cX7_cost 8 = .ok (.aload_n 0, 1) := by decide +kernel
theorem dX7_cost_9 : decode cX7_cost 9 = .ok (.iload_n 1, 1) := by decide +kernel
theorem dX7_cost_10 : decode cX7_cost 10 = .ok (.iload_n 2, 1) := by decide +kernel
theorem dX7_cost_11 : decode cX7_cost 11 = .ok (.invokevirtual 64, 3) := by decide +kernel
theorem dX7_cost_14 : decode cX7_cost 14 = .ok (.aload_n 0, 1) := by decide +kernel
theorem dX7_cost_15 : decode cX7_cost 15 = .ok (.getfield 26, 3) := by decide +kernel
theorem dX7_cost_18 : decode cX7_cost 18 = .ok (.iload_n 1, 1) := by decide +kernel
theorem dX7_cost_19 : decode cX7_cost 19 = .ok (.invokevirtual 68, 3) := by decide +kernel
theorem dX7_cost_22 : decode cX7_cost 22 = .ok (.invokestatic 79, 3) := by decide +kernel
theorem dX7_cost_25 : decode cX7_cost 25 = .ok (.imul, 1) := by decide +kernel
theorem dX7_cost_26 : decode cX7_cost 26 = .ok (.ireturn, 1) := by decide +kernel
theorem dX7_wholeCost_0 : decode cX7_wholeCost 0 = .ok (.iconst 0, 1) := by decide +kernel
theorem dX7_wholeCost_1 : decode cX7_wholeCost 1 = .ok (.istore_n 1, 1) := by decide +kernel
theorem dX7_wholeCost_2 : decode cX7_wholeCost 2 = .ok (.iconst 0, 1) := by decide +kernel
theorem dX7_wholeCost_3 : decode cX7_wholeCost 3 = .ok (.istore_n 2, 1) := by decide +kernel
theorem dX7_wholeCost_4 : decode cX7_wholeCost 4 = .ok (.iload_n 2, 1) := by decide +kernel
theorem dX7_wholeCost_5 : decode cX7_wholeCost 5 = .ok (.aload_n 0, 1) := by decide +kernel
theorem dX7_wholeCost_6 : decode cX7_wholeCost 6 = .ok (.getfield 26, 3) := by decide +kernel
theorem dX7_wholeCost_9 : decode cX7_wholeCost 9 = .ok (.getfield 82, 3) := by decide +kernel
theorem dX7_wholeCost_12 : decode cX7_wholeCost 12 = .ok (.if_icmp .ge 32, 3) := by decide +kernel
theorem dX7_wholeCost_15 : decode cX7_wholeCost 15 = .ok (.iconst 0, 1) := by decide +kernel
theorem dX7_wholeCost_16 : decode cX7_wholeCost 16 = .ok (.istore_n 3, 1) := by decide +kernel
theorem dX7_wholeCost_17 : decode cX7_wholeCost 17 = .ok (.iload_n 3, 1) := by decide +kernel
theorem dX7_wholeCost_18 : decode cX7_wholeCost 18 = .ok (.bipush 7, 2) := by decide +kernel
theorem dX7_wholeCost_20 : decode cX7_wholeCost 20 = .ok (.if_icmp .ge 18, 3) := by decide +kernel
theorem dX7_wholeCost_23 : decode cX7_wholeCost 23 = .ok (.iload_n 1, 1) := by decide +kernel
theorem dX7_wholeCost_24 : decode cX7_wholeCost 24 = .ok (.aload_n 0, 1) := by decide +kernel
theorem dX7_wholeCost_25 : decode cX7_wholeCost 25 = .ok (.iload_n 2, 1) := by decide +kernel
theorem dX7_wholeCost_26 : decode cX7_wholeCost 26 = .ok (.iload_n 3, 1) := by decide +kernel
theorem dX7_wholeCost_27 : decode cX7_wholeCost 27 = .ok (.invokevirtual 85, 3) := by decide +kernel
theorem dX7_wholeCost_30 : decode cX7_wholeCost 30 = .ok (.iadd, 1) := by decide +kernel
theorem dX7_wholeCost_31 : decode cX7_wholeCost 31 = .ok (.istore_n 1, 1) := by decide +kernel
theorem dX7_wholeCost_32 : decode cX7_wholeCost 32 = .ok (.iinc 3 1, 3) := by decide +kernel
theorem dX7_wholeCost_35 : decode cX7_wholeCost 35 = .ok (.goto (-18), 3) := by decide +kernel
theorem dX7_wholeCost_38 : decode cX7_wholeCost 38 = .ok (.iinc 2 1, 3) := by decide +kernel
theorem dX7_wholeCost_41 : decode cX7_wholeCost 41 = .ok (.goto (-37), 3) := by decide +kernel
theorem dX7_wholeCost_44 : decode cX7_wholeCost 44 = .ok (.iload_n 1, 1) := by decide +kernel
theorem dX7_wholeCost_45 : decode cX7_wholeCost 45 = .ok (.ireturn, 1) := by decide +kernel
theorem dX7_allMissing_0 : decode cX7_allMissing 0 = .ok (.iconst 0, 1) := by decide +kernel
theorem dX7_allMissing_1 : decode cX7_allMissing 1 = .ok (.istore_n 1, 1) := by decide +kernel
theorem dX7_allMissing_2 : decode cX7_allMissing 2 = .ok (.iconst 0, 1) := by decide +kernel
theorem dX7_allMissing_3 : decode cX7_allMissing 3 = .ok (.istore_n 2, 1) := by decide +kernel
theorem dX7_allMissing_4 : decode cX7_allMissing 4 = .ok (.iload_n 2, 1) := by decide +kernel
theorem dX7_allMissing_5 : decode cX7_allMissing 5 = .ok (.aload_n 0, 1) := by decide +kernel
theorem dX7_allMissing_6 : decode cX7_allMissing 6 = .ok (.getfield 26, 3) := by decide +kernel
theorem dX7_allMissing_9 : decode cX7_allMissing 9 = .ok (.getfield 82, 3) := by decide +kernel
theorem dX7_allMissing_12 : decode cX7_allMissing 12 = .ok (.if_icmp .ge 32, 3) := by decide +kernel
theorem dX7_allMissing_15 : decode cX7_allMissing 15 = .ok (.iconst 0, 1) := by decide +kernel
theorem dX7_allMissing_16 : decode cX7_allMissing 16 = .ok (.istore_n 3, 1) := by decide +kernel
theorem dX7_allMissing_17 : decode cX7_allMissing 17 = .ok (.iload_n 3, 1) := by decide +kernel
theorem dX7_allMissing_18 : decode cX7_allMissing 18 = .ok (.bipush 7, 2) := by decide +kernel
theorem dX7_allMissing_20 : decode cX7_allMissing 20 = .ok (.if_icmp .ge 18, 3) := by decide +kernel
theorem dX7_allMissing_23 : decode cX7_allMissing 23 = .ok (.iload_n 1, 1) := by decide +kernel
theorem dX7_allMissing_24 : decode cX7_allMissing 24 = .ok (.aload_n 0, 1) := by decide +kernel
theorem dX7_allMissing_25 : decode cX7_allMissing 25 = .ok (.iload_n 2, 1) := by decide +kernel
theorem dX7_allMissing_26 : decode cX7_allMissing 26 = .ok (.iload_n 3, 1) := by decide +kernel
theorem dX7_allMissing_27 : decode cX7_allMissing 27 = .ok (.invokevirtual 88, 3) := by decide +kernel
theorem dX7_allMissing_30 : decode cX7_allMissing 30 = .ok (.iadd, 1) := by decide +kernel
theorem dX7_allMissing_31 : decode cX7_allMissing 31 = .ok (.istore_n 1, 1) := by decide +kernel
theorem dX7_allMissing_32 : decode cX7_allMissing 32 = .ok (.iinc 3 1, 3) := by decide +kernel
theorem dX7_allMissing_35 : decode cX7_allMissing 35 = .ok (.goto (-18), 3) := by decide +kernel
theorem dX7_allMissing_38 : decode cX7_allMissing 38 = .ok (.iinc 2 1, 3) := by decide +kernel
theorem dX7_allMissing_41 : decode cX7_allMissing 41 = .ok (.goto (-37), 3) := by decide +kernel
theorem dX7_allMissing_44 : decode cX7_allMissing 44 = .ok (.iload_n 1, 1) := by decide +kernel
theorem dX7_allMissing_45 : decode cX7_allMissing 45 = .ok (.ireturn, 1) := by decide +kernel
theorem dX7_busiestDay_0 : decode cX7_busiestDay 0 = .ok (.iconst 0, 1) := by decide +kernel
theorem dX7_busiestDay_1 : decode cX7_busiestDay 1 = .ok (.istore_n 1, 1) := by decide +kernel
theorem dX7_busiestDay_2 : decode cX7_busiestDay 2 = .ok (.iconst 0, 1) := by decide +kernel
theorem dX7_busiestDay_3 : decode cX7_busiestDay 3 = .ok (.istore_n 2, 1) := by decide +kernel
theorem dX7_busiestDay_4 : decode cX7_busiestDay 4 = .ok (.iconst 0, 1) := by decide +kernel
theorem dX7_busiestDay_5 : decode cX7_busiestDay 5 = .ok (.istore_n 3, 1) := by decide +kernel
theorem dX7_busiestDay_6 : decode cX7_busiestDay 6 = .ok (.iload_n 3, 1) := by decide +kernel
theorem dX7_busiestDay_7 : decode cX7_busiestDay 7 = .ok (.bipush 7, 2) := by decide +kernel
theorem dX7_busiestDay_9 : decode cX7_busiestDay 9 = .ok (.if_icmp .ge 27, 3) := by decide +kernel
theorem dX7_busiestDay_12 : decode cX7_busiestDay 12 = .ok (.aload_n 0, 1) := by decide +kernel
theorem dX7_busiestDay_13 : decode cX7_busiestDay 13 = .ok (.iload_n 3, 1) := by decide +kernel
theorem dX7_busiestDay_14 : decode cX7_busiestDay 14 = .ok (.invokevirtual 91, 3) := by decide +kernel
theorem dX7_busiestDay_17 : decode cX7_busiestDay 17 = .ok (.istore 4, 2) := by decide +kernel
theorem dX7_busiestDay_19 : decode cX7_busiestDay 19 = .ok (.iload 4, 2) := by decide +kernel
theorem dX7_busiestDay_21 : decode cX7_busiestDay 21 = .ok (.iload_n 2, 1) := by decide +kernel
theorem dX7_busiestDay_22 : decode cX7_busiestDay 22 = .ok (.if_icmp .le 8, 3) := by decide +kernel
theorem dX7_busiestDay_25 : decode cX7_busiestDay 25 = .ok (.iload 4, 2) := by decide +kernel
theorem dX7_busiestDay_27 : decode cX7_busiestDay 27 = .ok (.istore_n 2, 1) := by decide +kernel
theorem dX7_busiestDay_28 : decode cX7_busiestDay 28 = .ok (.iload_n 3, 1) := by decide +kernel
theorem dX7_busiestDay_29 : decode cX7_busiestDay 29 = .ok (.istore_n 1, 1) := by decide +kernel
theorem dX7_busiestDay_30 : decode cX7_busiestDay 30 = .ok (.iinc 3 1, 3) := by decide +kernel
theorem dX7_busiestDay_33 : decode cX7_busiestDay 33 = .ok (.goto (-27), 3) := by decide +kernel
theorem dX7_busiestDay_36 : decode cX7_busiestDay 36 = .ok (.iload_n 1, 1) := by decide +kernel
theorem dX7_busiestDay_37 : decode cX7_busiestDay 37 = .ok (.ireturn, 1) := by decide +kernel
theorem dX7_neededOn_0 : decode cX7_neededOn 0 = .ok (.iconst 0, 1) := by decide +kernel
theorem dX7_neededOn_1 : decode cX7_neededOn 1 = .ok (.istore_n 2, 1) := by decide +kernel
theorem dX7_neededOn_2 : decode cX7_neededOn 2 = .ok (.aload_n 0, 1) := by decide +kernel
theorem dX7_neededOn_3 : decode cX7_neededOn 3 = .ok (.getfield 32, 3) := by decide +kernel
theorem dX7_neededOn_6 : decode cX7_neededOn 6 = .ok (.astore_n 3, 1) := by decide +kernel
theorem dX7_neededOn_7 : decode cX7_neededOn 7 = .ok (.aload_n 3, 1) := by decide +kernel
theorem dX7_neededOn_8 : decode cX7_neededOn 8 = .ok (.arraylength, 1) := by decide +kernel
theorem dX7_neededOn_9 : decode cX7_neededOn 9 = .ok (.istore 4, 2) := by decide +kernel
theorem dX7_neededOn_11 : decode cX7_neededOn 11 = .ok (.iconst 0, 1) := by decide +kernel
theorem dX7_neededOn_12 : decode cX7_neededOn 12 = .ok (.istore 5, 2) := by decide +kernel
theorem dX7_neededOn_14 : decode cX7_neededOn 14 = .ok (.iload 5, 2) := by decide +kernel
theorem dX7_neededOn_16 : decode cX7_neededOn 16 = .ok (.iload 4, 2) := by decide +kernel
theorem dX7_neededOn_18 : decode cX7_neededOn 18 = .ok (.if_icmp .ge 32, 3) := by decide +kernel
theorem dX7_neededOn_21 : decode cX7_neededOn 21 = .ok (.aload_n 3, 1) := by decide +kernel
theorem dX7_neededOn_22 : decode cX7_neededOn 22 = .ok (.iload 5, 2) := by decide +kernel
theorem dX7_neededOn_24 : decode cX7_neededOn 24 = .ok (.aaload, 1) := by decide +kernel
theorem dX7_neededOn_25 : decode cX7_neededOn 25 = .ok (.astore 6, 2) := by decide +kernel
theorem dX7_neededOn_27 : decode cX7_neededOn 27 = .ok (.aload 6, 2) := by decide +kernel
theorem dX7_neededOn_29 : decode cX7_neededOn 29 = .ok (.iload_n 1, 1) := by decide +kernel
theorem dX7_neededOn_30 : decode cX7_neededOn 30 = .ok (.invokevirtual 56, 3) := by decide +kernel
theorem dX7_neededOn_33 : decode cX7_neededOn 33 = .ok (.ifCond .eq 11, 3) := by decide +kernel
theorem dX7_neededOn_36 : decode cX7_neededOn 36 = .ok (.iload_n 2, 1) := by decide +kernel
theorem dX7_neededOn_37 : decode cX7_neededOn 37 = .ok (.aload 6, 2) := by decide +kernel
theorem dX7_neededOn_39 : decode cX7_neededOn 39 = .ok (.getfield 52, 3) := by decide +kernel
theorem dX7_neededOn_42 : decode cX7_neededOn 42 = .ok (.iadd, 1) := by decide +kernel
theorem dX7_neededOn_43 : decode cX7_neededOn 43 = .ok (.istore_n 2, 1) := by decide +kernel
theorem dX7_neededOn_44 : decode cX7_neededOn 44 = .ok (.iinc 5 1, 3) := by decide +kernel
theorem dX7_neededOn_47 : decode cX7_neededOn 47 = .ok (.goto (-33), 3) := by decide +kernel
theorem dX7_neededOn_50 : decode cX7_neededOn 50 = .ok (.iload_n 2, 1) := by decide +kernel
theorem dX7_neededOn_51 : decode cX7_neededOn 51 = .ok (.ireturn, 1) := by decide +kernel
theorem dX8_init_0 : decode cX8_init 0 = .ok (.aload_n 0, 1) := by decide +kernel
theorem dX8_init_1 : decode cX8_init 1 = .ok (.invokespecial 3, 3) := by decide +kernel
theorem dX8_init_4 : decode cX8_init 4 = .ok (.aload_n 0, 1) := by decide +kernel
theorem dX8_init_5 : decode cX8_init 5 = .ok (.new 9, 3) := by decide +kernel
theorem dX8_init_8 : decode cX8_init 8 = .ok (.dup, 1) := by decide +kernel
theorem dX8_init_9 : decode cX8_init 9 = .ok (.invokespecial 11, 3) := by decide +kernel
theorem dX8_init_12 : decode cX8_init 12 = .ok (.putfield 12, 3) := by decide +kernel
theorem dX8_init_15 : decode cX8_init 15 = .ok (.return_, 1) := by decide +kernel
theorem dX8_playToTheEnd_0 : decode cX8_playToTheEnd 0 = .ok (.aload_n 2, 1) := by decide +kernel
theorem dX8_playToTheEnd_1 : decode cX8_playToTheEnd 1 = .ok (.iload_n 3, 1) := by decide +kernel
theorem dX8_playToTheEnd_2 : decode cX8_playToTheEnd 2 = .ok (.invokevirtual 18, 3) := by decide +kernel
theorem dX8_playToTheEnd_5 : decode cX8_playToTheEnd 5 = .ok (.ifCond .eq 12, 3) := by decide +kernel
theorem dX8_playToTheEnd_8 : decode cX8_playToTheEnd 8 = .ok (.aload_n 2, 1) := by decide +kernel
theorem dX8_playToTheEnd_9 : decode cX8_playToTheEnd 9 = .ok (.getfield 22, 3) := by decide +kernel
theorem dX8_playToTheEnd_12 : decode cX8_playToTheEnd 12 = .ok (.iload_n 3, 1) := by decide +kernel
theorem dX8_playToTheEnd_13 : decode cX8_playToTheEnd 13 = .ok (.iaload, 1) := by decide +kernel
theorem dX8_playToTheEnd_14 : decode cX8_playToTheEnd 14 = .ok (.goto 4, 3) := by decide +kernel
theorem dX8_playToTheEnd_17 : decode cX8_playToTheEnd 17 = .ok (.iconst 0, 1) := by decide +kernel
theorem dX8_playToTheEnd_18 : decode cX8_playToTheEnd 18 = .ok (.istore 5, 2) := by decide +kernel
theorem dX8_playToTheEnd_20 : decode cX8_playToTheEnd 20 = .ok (.aload_n 0, 1) := by decide +kernel
theorem dX8_playToTheEnd_21 : decode cX8_playToTheEnd 21 = .ok (.aload_n 2, 1) := by decide +kernel
theorem dX8_playToTheEnd_22 : decode cX8_playToTheEnd 22 = .ok (.iload_n 3, 1) := by decide +kernel
theorem dX8_playToTheEnd_23 : decode cX8_playToTheEnd 23 = .ok (.iload 5, 2) := by decide +kernel
theorem dX8_playToTheEnd_25 : decode cX8_playToTheEnd 25 = .ok (.invokevirtual 26, 3) := by decide +kernel
theorem dX8_playToTheEnd_28 : decode cX8_playToTheEnd 28 = .ok (.iconst 1, 1) := by decide +kernel
theorem dX8_playToTheEnd_29 : decode cX8_playToTheEnd 29 = .ok (.istore 6, 2) := by decide +kernel
theorem dX8_playToTheEnd_31 : decode cX8_playToTheEnd 31 = .ok (.iload 6, 2) := by decide +kernel
theorem dX8_playToTheEnd_33 : decode cX8_playToTheEnd 33 = .ok (.iload 5, 2) := by decide +kernel
theorem dX8_playToTheEnd_35 : decode cX8_playToTheEnd 35 = .ok (.aload_n 1, 1) := by decide +kernel
theorem dX8_playToTheEnd_36 : decode cX8_playToTheEnd 36 = .ok (.getfield 30, 3) := by decide +kernel
theorem dX8_playToTheEnd_39 : decode cX8_playToTheEnd 39 = .ok (.iconst 2, 1) := by decide +kernel
theorem dX8_playToTheEnd_40 : decode cX8_playToTheEnd 40 = .ok (.iaload, 1) := by decide +kernel
theorem dX8_playToTheEnd_41 : decode cX8_playToTheEnd 41 = .ok (.iadd, 1) := by decide +kernel
theorem dX8_playToTheEnd_42 : decode cX8_playToTheEnd 42 = .ok (.if_icmp .gt 90, 3) := by decide +kernel
theorem dX8_playToTheEnd_45 : decode cX8_playToTheEnd 45 = .ok (.aload_n 0, 1) := by decide +kernel
theorem dX8_playToTheEnd_46 : decode cX8_playToTheEnd 46 = .ok (.getfield 12, 3) := by decide +kernel
end
section
theorem dX8_playToTheEnd_49 : decode cX8_playToTheEnd 49 = .ok (.aload_n 1, 1) := by decide +kernel
theorem dX8_playToTheEnd_50 : decode cX8_playToTheEnd 50 = .ok (.aload 4, 2) := by decide +kernel
theorem dX8_playToTheEnd_52 : decode cX8_playToTheEnd 52 = .ok (.invokevirtual 35, 3) := by decide +kernel
theorem dX8_playToTheEnd_55 : decode cX8_playToTheEnd 55 = .ok (.istore 7, 2) := by decide +kernel
theorem dX8_playToTheEnd_57 : decode cX8_playToTheEnd 57 = .ok (.iload 7, 2) := by decide +kernel
theorem dX8_playToTheEnd_59 : decode cX8_playToTheEnd 59 = .ok (.ifCond .le 18, 3) := by decide +kernel
theorem dX8_playToTheEnd_62 : decode cX8_playToTheEnd 62 = .ok (.aload_n 0, 1) := by decide +kernel
theorem dX8_playToTheEnd_63 : decode cX8_playToTheEnd 63 = .ok (.getfield 39, 3) := by decide +kernel
theorem dX8_playToTheEnd_66 : decode cX8_playToTheEnd 66 = .ok (.bipush (-6), 2) := by decide +kernel
theorem dX8_playToTheEnd_68 : decode cX8_playToTheEnd 68 = .ok (.if_icmp .ne 9, 3) := by decide +kernel
theorem dX8_playToTheEnd_71 : decode cX8_playToTheEnd 71 = .ok (.aload_n 0, 1) := by decide +kernel
theorem dX8_playToTheEnd_72 : decode cX8_playToTheEnd 72 = .ok (.iload 6, 2) := by decide +kernel
theorem dX8_playToTheEnd_74 : decode cX8_playToTheEnd 74 = .ok (.putfield 39, 3) := by decide +kernel
theorem dX8_playToTheEnd_77 : decode cX8_playToTheEnd 77 = .ok (.aload_n 0, 1) := by decide +kernel
theorem dX8_playToTheEnd_78 : decode cX8_playToTheEnd 78 = .ok (.dup, 1) := by decide +kernel
theorem dX8_playToTheEnd_79 : decode cX8_playToTheEnd 79 = .ok (.getfield 43, 3) := by decide +kernel
theorem dX8_playToTheEnd_82 : decode cX8_playToTheEnd 82 = .ok (.iload 7, 2) := by decide +kernel
theorem dX8_playToTheEnd_84 : decode cX8_playToTheEnd 84 = .ok (.iadd, 1) := by decide +kernel
theorem dX8_playToTheEnd_85 : decode cX8_playToTheEnd 85 = .ok (.putfield 43, 3) := by decide +kernel
theorem dX8_playToTheEnd_88 : decode cX8_playToTheEnd 88 = .ok (.aload_n 0, 1) := by decide +kernel
theorem dX8_playToTheEnd_89 : decode cX8_playToTheEnd 89 = .ok (.aload_n 0, 1) := by decide +kernel
theorem dX8_playToTheEnd_90 : decode cX8_playToTheEnd 90 = .ok (.getfield 46, 3) := by decide +kernel
theorem dX8_playToTheEnd_93 : decode cX8_playToTheEnd 93 = .ok (.aload 4, 2) := by decide +kernel
theorem dX8_playToTheEnd_95 : decode cX8_playToTheEnd 95 = .ok (.getfield 49, 3) := by decide +kernel
theorem dX8_playToTheEnd_98 : decode cX8_playToTheEnd 98 = .ok (.invokestatic 54, 3) := by decide +kernel
theorem dX8_playToTheEnd_101 : decode cX8_playToTheEnd 101 = .ok (.invokestatic 58, 3) := by decide +kernel
theorem dX8_playToTheEnd_104 : decode cX8_playToTheEnd 104 = .ok (.putfield 46, 3) := by decide +kernel
theorem dX8_playToTheEnd_107 : decode cX8_playToTheEnd 107 = .ok (.aload_n 0, 1) := by decide +kernel
theorem dX8_playToTheEnd_108 : decode cX8_playToTheEnd 108 = .ok (.aload_n 0, 1) := by decide +kernel
theorem dX8_playToTheEnd_109 : decode cX8_playToTheEnd 109 = .ok (.getfield 64, 3) := by decide +kernel
theorem dX8_playToTheEnd_112 : decode cX8_playToTheEnd 112 = .ok (.aload 4, 2) := by decide +kernel
theorem dX8_playToTheEnd_114 : decode cX8_playToTheEnd 114 = .ok (.getfield 67, 3) := by decide +kernel
theorem dX8_playToTheEnd_117 : decode cX8_playToTheEnd 117 = .ok (.invokestatic 54, 3) := by decide +kernel
theorem dX8_playToTheEnd_120 : decode cX8_playToTheEnd 120 = .ok (.invokestatic 58, 3) := by decide +kernel
theorem dX8_playToTheEnd_123 : decode cX8_playToTheEnd 123 = .ok (.putfield 64, 3) := by decide +kernel
theorem dX8_playToTheEnd_126 : decode cX8_playToTheEnd 126 = .ok (.iinc 6 1, 3) := by decide +kernel
theorem dX8_playToTheEnd_129 : decode cX8_playToTheEnd 129 = .ok (.goto (-98), 3) := by decide +kernel
theorem dX8_playToTheEnd_132 : decode cX8_playToTheEnd 132 = .ok (.return_, 1) := by decide +kernel
theorem dX8_isSafe_0 : decode cX8_isSafe 0 = .ok (.aload_n 0, 1) := by decide +kernel
theorem dX8_isSafe_1 : decode cX8_isSafe 1 = .ok (.aload_n 2, 1) := by decide +kernel
theorem dX8_isSafe_2 : decode cX8_isSafe 2 = .ok (.iload_n 3, 1) := by decide +kernel
theorem dX8_isSafe_3 : decode cX8_isSafe 3 = .ok (.iload 4, 2) := by decide +kernel
theorem dX8_isSafe_5 : decode cX8_isSafe 5 = .ok (.invokevirtual 26, 3) := by decide +kernel
theorem dX8_isSafe_8 : decode cX8_isSafe 8 = .ok (.iconst 1, 1) := by decide +kernel
theorem dX8_isSafe_9 : decode cX8_isSafe 9 = .ok (.istore 6, 2) := by decide +kernel
theorem dX8_isSafe_11 : decode cX8_isSafe 11 = .ok (.iload 6, 2) := by decide +kernel
theorem dX8_isSafe_13 : decode cX8_isSafe 13 = .ok (.iload 4, 2) := by decide +kernel
theorem dX8_isSafe_15 : decode cX8_isSafe 15 = .ok (.aload_n 1, 1) := by decide +kernel
theorem dX8_isSafe_16 : decode cX8_isSafe 16 = .ok (.getfield 30, 3) := by decide +kernel
theorem dX8_isSafe_19 : decode cX8_isSafe 19 = .ok (.iconst 2, 1) := by decide +kernel
theorem dX8_isSafe_20 : decode cX8_isSafe 20 = .ok (.iaload, 1) := by decide +kernel
theorem dX8_isSafe_21 : decode cX8_isSafe 21 = .ok (.iadd, 1) := by decide +kernel
theorem dX8_isSafe_22 : decode cX8_isSafe 22 = .ok (.if_icmp .gt 24, 3) := by decide +kernel
theorem dX8_isSafe_25 : decode cX8_isSafe 25 = .ok (.aload_n 0, 1) := by decide +kernel
theorem dX8_isSafe_26 : decode cX8_isSafe 26 = .ok (.getfield 12, 3) := by decide +kernel
theorem dX8_isSafe_29 : decode cX8_isSafe 29 = .ok (.aload_n 1, 1) := by decide +kernel
theorem dX8_isSafe_30 : decode cX8_isSafe 30 = .ok (.aload 5, 2) := by decide +kernel
theorem dX8_isSafe_32 : decode cX8_isSafe 32 = .ok (.invokevirtual 35, 3) := by decide +kernel
theorem dX8_isSafe_35 : decode cX8_isSafe 35 = .ok (.ifCond .le 5, 3) := by decide +kernel
theorem dX8_isSafe_38 : decode cX8_isSafe 38 = .ok (.iconst 0, 1) := by decide +kernel
theorem dX8_isSafe_39 : decode cX8_isSafe 39 = .ok (.ireturn, 1) := by decide +kernel
theorem dX8_isSafe_40 : decode cX8_isSafe 40 = .ok (.iinc 6 1, 3) := by decide +kernel
theorem dX8_isSafe_43 : decode cX8_isSafe 43 = .ok (.goto (-32), 3) := by decide +kernel
theorem dX8_isSafe_46 : decode cX8_isSafe 46 = .ok (.iconst 1, 1) := by decide +kernel
theorem dX8_isSafe_47 : decode cX8_isSafe 47 = .ok (.ireturn, 1) := by decide +kernel
theorem dX8_begin_0 : decode cX8_begin 0 = .ok (.aload_n 0, 1) := by decide +kernel
theorem dX8_begin_1 : decode cX8_begin 1 = .ok (.getfield 12, 3) := by decide +kernel
theorem dX8_begin_4 : decode cX8_begin 4 = .ok (.aload_n 1, 1) := by decide +kernel
theorem dX8_begin_5 : decode cX8_begin 5 = .ok (.invokevirtual 70, 3) := by decide +kernel
theorem dX8_begin_8 : decode cX8_begin 8 = .ok (.aload_n 0, 1) := by decide +kernel
theorem dX8_begin_9 : decode cX8_begin 9 = .ok (.getfield 12, 3) := by decide +kernel
theorem dX8_begin_12 : decode cX8_begin 12 = .ok (.iload_n 2, 1) := by decide +kernel
theorem dX8_begin_13 : decode cX8_begin 13 = .ok (.iload_n 3, 1) := by decide +kernel
theorem dX8_begin_14 : decode cX8_begin 14 = .ok (.invokevirtual 74, 3) := by decide +kernel
theorem dX8_begin_17 : decode cX8_begin 17 = .ok (.aload_n 0, 1) := by decide +kernel
theorem dX8_begin_18 : decode cX8_begin 18 = .ok (.iconst 0, 1) := by decide +kernel
theorem dX8_begin_19 : decode cX8_begin 19 = .ok (.putfield 43, 3) := by decide +kernel
theorem dX8_begin_22 : decode cX8_begin 22 = .ok (.aload_n 0, 1) := by decide +kernel
theorem dX8_begin_23 : decode cX8_begin 23 = .ok (.bipush (-6), 2) := by decide +kernel
theorem dX8_begin_25 : decode cX8_begin 25 = .ok (.putfield 39, 3) := by decide +kernel
theorem dX8_begin_28 : decode cX8_begin 28 = .ok (.aload_n 0, 1) := by decide +kernel
theorem dX8_begin_29 : decode cX8_begin 29 = .ok (.iconst 0, 1) := by decide +kernel
theorem dX8_begin_30 : decode cX8_begin 30 = .ok (.putfield 46, 3) := by decide +kernel
theorem dX8_begin_33 : decode cX8_begin 33 = .ok (.aload_n 0, 1) := by decide +kernel
theorem dX8_begin_34 : decode cX8_begin 34 = .ok (.iconst 0, 1) := by decide +kernel
theorem dX8_begin_35 : decode cX8_begin 35 = .ok (.putfield 64, 3) := by decide +kernel
theorem dX8_begin_38 : decode cX8_begin 38 = .ok (.return_, 1) := by decide +kernel
theorem dX9_init_0 : decode cX9_init 0 = .ok (.aload_n 0, 1) := by decide +kernel
theorem dX9_init_1 : decode cX9_init 1 = .ok (.invokespecial 3, 3) := by decide +kernel
theorem dX9_init_4 : decode cX9_init 4 = .ok (.aload_n 0, 1) := by decide +kernel
theorem dX9_init_5 : decode cX9_init 5 = .ok (.bipush 6, 2) := by decide +kernel
theorem dX9_init_7 : decode cX9_init 7 = .ok (.newarray .int, 2) := by decide +kernel
theorem dX9_init_9 : decode cX9_init 9 = .ok (.putfield 9, 3) := by decide +kernel
theorem dX9_init_12 : decode cX9_init 12 = .ok (.aload_n 0, 1) := by decide +kernel
theorem dX9_init_13 : decode cX9_init 13 = .ok (.bipush 6, 2) := by decide +kernel
theorem dX9_init_15 : decode cX9_init 15 = .ok (.newarray .int, 2) := by decide +kernel
theorem dX9_init_17 : decode cX9_init 17 = .ok (.putfield 15, 3) := by decide +kernel
theorem dX9_init_20 : decode cX9_init 20 = .ok (.aload_n 0, 1) := by decide +kernel
theorem dX9_init_21 : decode cX9_init 21 = .ok (.bipush 6, 2) := by decide +kernel
theorem dX9_init_23 : decode cX9_init 23 = .ok (.newarray .int, 2) := by decide +kernel
theorem dX9_init_25 : decode cX9_init 25 = .ok (.putfield 18, 3) := by decide +kernel
theorem dX9_init_28 : decode cX9_init 28 = .ok (.return_, 1) := by decide +kernel
theorem dX9_isFull_0 : decode cX9_isFull 0 = .ok (.aload_n 0, 1) := by decide +kernel
theorem dX9_isFull_1 : decode cX9_isFull 1 = .ok (.getfield 21, 3) := by decide +kernel
theorem dX9_isFull_4 : decode cX9_isFull 4 = .ok (.bipush 6, 2) := by decide +kernel
theorem dX9_isFull_6 : decode cX9_isFull 6 = .ok (.if_icmp .lt 7, 3) := by decide +kernel
theorem dX9_isFull_9 : decode cX9_isFull 9 = .ok (.iconst 1, 1) := by decide +kernel
theorem dX9_isFull_10 : decode cX9_isFull 10 = .ok (.goto 4, 3) := by decide +kernel
theorem dX9_isFull_13 : decode cX9_isFull 13 = .ok (.iconst 0, 1) := by decide +kernel
theorem dX9_isFull_14 : decode cX9_isFull 14 = .ok (.ireturn, 1) := by decide +kernel
theorem dX9_has_0 : decode cX9_has 0 = .ok (.iload_n 1, 1) := by decide +kernel
theorem dX9_has_1 : decode cX9_has 1 = .ok (.ifCond .lt 21, 3) := by decide +kernel
theorem dX9_has_4 : decode cX9_has 4 = .ok (.iload_n 1, 1) := by decide +kernel
theorem dX9_has_5 : decode cX9_has 5 = .ok (.aload_n 0, 1) := by decide +kernel
theorem dX9_has_6 : decode cX9_has 6 = .ok (.getfield 21, 3) := by decide +kernel
theorem dX9_has_9 : decode cX9_has 9 = .ok (.if_icmp .ge 13, 3) := by decide +kernel
theorem dX9_has_12 : decode cX9_has 12 = .ok (.iload_n 1, 1) := by decide +kernel
theorem dX9_has_13 : decode cX9_has 13 = .ok (.bipush 6, 2) := by decide +kernel
theorem dX9_has_15 : decode cX9_has 15 = .ok (.if_icmp .ge 7, 3) := by decide +kernel
theorem dX9_has_18 : decode cX9_has 18 = .ok (.iconst 1, 1) := by decide +kernel
theorem dX9_has_19 : decode cX9_has 19 = .ok (.goto 4, 3) := by decide +kernel
theorem dX9_has_22 : decode cX9_has 22 = .ok (.iconst 0, 1) := by decide +kernel
theorem dX9_has_23 : decode cX9_has 23 = .ok (.ireturn, 1) := by decide +kernel
theorem dX9_add_0 : decode cX9_add 0 = .ok (.aload_n 0, 1) := by decide +kernel
theorem dX9_add_1 : decode cX9_add 1 = .ok (.invokevirtual 25, 3) := by decide +kernel
theorem dX9_add_4 : decode cX9_add 4 = .ok (.ifCond .eq 6, 3) := by decide +kernel
theorem dX9_add_7 : decode cX9_add 7 = .ok (.bipush (-4), 2) := by decide +kernel
theorem dX9_add_9 : decode cX9_add 9 = .ok (.ireturn, 1) := by decide +kernel
theorem dX9_add_10 : decode cX9_add 10 = .ok (.aload_n 0, 1) := by decide +kernel
theorem dX9_add_11 : decode cX9_add 11 = .ok (.dup, 1) := by decide +kernel
theorem dX9_add_12 : decode cX9_add 12 = .ok (.getfield 21, 3) := by decide +kernel
theorem dX9_add_15 : decode cX9_add 15 = .ok (.dup_x1, 1) := by decide +kernel
theorem dX9_add_16 : decode cX9_add 16 = .ok (.iconst 1, 1) := by decide +kernel
theorem dX9_add_17 : decode cX9_add 17 = .ok (.iadd, 1) := by decide +kernel
theorem dX9_add_18 : decode cX9_add 18 = .ok (.putfield 21, 3) := by decide +kernel
theorem dX9_add_21 : decode cX9_add 21 = .ok (.istore 4, 2) := by decide +kernel
theorem dX9_add_23 : decode cX9_add 23 = .ok (.aload_n 0, 1) := by decide +kernel
theorem dX9_add_24 : decode cX9_add 24 = .ok (.getfield 9, 3) := by decide +kernel
theorem dX9_add_27 : decode cX9_add 27 = .ok (.iload 4, 2) := by decide +kernel
theorem dX9_add_29 : decode cX9_add 29 = .ok (.iload_n 1, 1) := by decide +kernel
theorem dX9_add_30 : decode cX9_add 30 = .ok (.iastore, 1) := by decide +kernel
theorem dX9_add_31 : decode cX9_add 31 = .ok (.aload_n 0, 1) := by decide +kernel
theorem dX9_add_32 : decode cX9_add 32 = .ok (.getfield 15, 3) := by decide +kernel
theorem dX9_add_35 : decode cX9_add 35 = .ok (.iload 4, 2) := by decide +kernel
theorem dX9_add_37 : decode cX9_add 37 = .ok (.iload_n 2, 1) := by decide +kernel
theorem dX9_add_38 : decode cX9_add 38 = .ok (.iastore, 1) := by decide +kernel
theorem dX9_add_39 : decode cX9_add 39 = .ok (.aload_n 0, 1) := by decide +kernel
theorem dX9_add_40 : decode cX9_add 40 = .ok (.getfield 18, 3) := by decide +kernel
theorem dX9_add_43 : decode cX9_add 43 = .ok (.iload 4, 2) := by decide +kernel
theorem dX9_add_45 : decode cX9_add 45 = .ok (.iload_n 3, 1) := by decide +kernel
theorem dX9_add_46 : decode cX9_add 46 = .ok (.iastore, 1) := by decide +kernel
theorem dX9_add_47 : decode cX9_add 47 = .ok (.iload 4, 2) := by decide +kernel
theorem dX9_add_49 : decode cX9_add 49 = .ok (.ireturn, 1) := by decide +kernel
theorem dX9_wattsOf_0 : decode cX9_wattsOf 0 = .ok (.iload_n 1, 1) := by decide +kernel
theorem dX9_wattsOf_1 : decode cX9_wattsOf 1 = .ok (.ifCond .lt 21, 3) := by decide +kernel
theorem dX9_wattsOf_4 : decode cX9_wattsOf 4 = .ok (.iload_n 1, 1) := by decide +kernel
theorem dX9_wattsOf_5 : decode cX9_wattsOf 5 = .ok (.aload_n 0, 1) := by decide +kernel
theorem dX9_wattsOf_6 : decode cX9_wattsOf 6 = .ok (.getfield 9, 3) := by decide +kernel
theorem dX9_wattsOf_9 : decode cX9_wattsOf 9 = .ok (.arraylength, 1) := by decide +kernel
theorem dX9_wattsOf_10 : decode cX9_wattsOf 10 = .ok (.if_icmp .ge 12, 3) := by decide +kernel
theorem dX9_wattsOf_13 : decode cX9_wattsOf 13 = .ok (.aload_n 0, 1) := by decide +kernel
theorem dX9_wattsOf_14 : decode cX9_wattsOf 14 = .ok (.getfield 9, 3) := by decide +kernel
theorem dX9_wattsOf_17 : decode cX9_wattsOf 17 = .ok (.iload_n 1, 1) := by decide +kernel
theorem dX9_wattsOf_18 : decode cX9_wattsOf 18 = .ok (.iaload, 1) := by decide +kernel
theorem dX9_wattsOf_19 : decode cX9_wattsOf 19 = .ok (.goto 4, 3) := by decide +kernel
theorem dX9_wattsOf_22 : decode cX9_wattsOf 22 = .ok (.iconst 0, 1) := by decide +kernel
theorem dX9_wattsOf_23 : decode cX9_wattsOf 23 = .ok (.ireturn, 1) := by decide +kernel
theorem dX9_stockOf_0 : decode cX9_stockOf 0 = .ok (.aload_n 0, 1) := by decide +kernel
theorem dX9_stockOf_1 : decode cX9_stockOf 1 = .ok (.iload_n 1, 1) := by decide +kernel
theorem dX9_stockOf_2 : decode cX9_stockOf 2 = .ok (.invokevirtual 29, 3) := by decide +kernel
theorem dX9_stockOf_5 : decode cX9_stockOf 5 = .ok (.ifCond .eq 12, 3) := by decide +kernel
theorem dX9_stockOf_8 : decode cX9_stockOf 8 = .ok (.aload_n 0, 1) := by decide +kernel
theorem dX9_stockOf_9 : decode cX9_stockOf 9 = .ok (.getfield 15, 3) := by decide +kernel
theorem dX9_stockOf_12 : decode cX9_stockOf 12 = .ok (.iload_n 1, 1) := by decide +kernel
theorem dX9_stockOf_13 : decode cX9_stockOf 13 = .ok (.iaload, 1) := by decide +kernel
theorem dX9_stockOf_14 : decode cX9_stockOf 14 = .ok (.goto 4, 3) := by decide +kernel
theorem dX9_stockOf_17 : decode cX9_stockOf 17 = .ok (.iconst 0, 1) := by decide +kernel
theorem dX9_stockOf_18 : decode cX9_stockOf 18 = .ok (.ireturn, 1) := by decide +kernel
theorem dX9_priceOf_0 : decode cX9_priceOf 0 = .ok (.aload_n 0, 1) := by decide +kernel
theorem dX9_priceOf_1 : decode cX9_priceOf 1 = .ok (.iload_n 1, 1) := by decide +kernel
theorem dX9_priceOf_2 : decode cX9_priceOf 2 = .ok (.invokevirtual 29, 3) := by decide +kernel
theorem dX9_priceOf_5 : decode cX9_priceOf 5 = .ok (.ifCond .eq 12, 3) := by decide +kernel
theorem dX9_priceOf_8 : decode cX9_priceOf 8 = .ok (.aload_n 0, 1) := by decide +kernel
theorem dX9_priceOf_9 : decode cX9_priceOf 9 = .ok (.getfield 18, 3) := by decide +kernel
theorem dX9_priceOf_12 : decode cX9_priceOf 12 = .ok (.iload_n 1, 1) := by decide +kernel
theorem dX9_priceOf_13 : decode cX9_priceOf 13 = .ok (.iaload, 1) := by decide +kernel
theorem dX9_priceOf_14 : decode cX9_priceOf 14 = .ok (.goto 4, 3) := by decide +kernel
theorem dX9_priceOf_17 : decode cX9_priceOf 17 = .ok (.iconst 0, 1) := by decide +kernel
theorem dX9_priceOf_18 : decode cX9_priceOf 18 = .ok (.ireturn, 1) := by decide +kernel
theorem dX9_copyFrom_0 : decode cX9_copyFrom 0 = .ok (.aload_n 0, 1) := by decide +kernel
theorem dX9_copyFrom_1 : decode cX9_copyFrom 1 = .ok (.aload_n 1, 1) := by decide +kernel
theorem dX9_copyFrom_2 : decode cX9_copyFrom 2 = .ok (.getfield 21, 3) := by decide +kernel
theorem dX9_copyFrom_5 : decode cX9_copyFrom 5 = .ok (.putfield 21, 3) := by decide +kernel
theorem dX9_copyFrom_8 : decode cX9_copyFrom 8 = .ok (.aload_n 1, 1) := by decide +kernel
theorem dX9_copyFrom_9 : decode cX9_copyFrom 9 = .ok (.getfield 9, 3) := by decide +kernel
theorem dX9_copyFrom_12 : decode cX9_copyFrom 12 = .ok (.aload_n 0, 1) := by decide +kernel
theorem dX9_copyFrom_13 : decode cX9_copyFrom 13 = .ok (.getfield 9, 3) := by decide +kernel
theorem dX9_copyFrom_16 : decode cX9_copyFrom 16 = .ok (.invokestatic 33, 3) := by decide +kernel
theorem dX9_copyFrom_19 : decode cX9_copyFrom 19 = .ok (.aload_n 1, 1) := by decide +kernel
theorem dX9_copyFrom_20 : decode cX9_copyFrom 20 = .ok (.getfield 15, 3) := by decide +kernel
theorem dX9_copyFrom_23 : decode cX9_copyFrom 23 = .ok (.aload_n 0, 1) := by decide +kernel
theorem dX9_copyFrom_24 : decode cX9_copyFrom 24 = .ok (.getfield 15, 3) := by decide +kernel
theorem dX9_copyFrom_27 : decode cX9_copyFrom 27 = .ok (.invokestatic 33, 3) := by decide +kernel
theorem dX9_copyFrom_30 : decode cX9_copyFrom 30 = .ok (.aload_n 1, 1) := by decide +kernel
theorem dX9_copyFrom_31 : decode cX9_copyFrom 31 = .ok (.getfield 18, 3) := by decide +kernel
theorem dX9_copyFrom_34 : decode cX9_copyFrom 34 = .ok (.aload_n 0, 1) := by decide +kernel
theorem dX9_copyFrom_35 : decode cX9_copyFrom 35 = .ok (.getfield 18, 3) := by decide +kernel
theorem dX9_copyFrom_38 : decode cX9_copyFrom 38 = .ok (.invokestatic 33, 3) := by decide +kernel
theorem dX9_copyFrom_41 : decode cX9_copyFrom 41 = .ok (.return_, 1) := by decide +kernel
theorem dX10_init_0 : decode cX10_init 0 = .ok (.aload_n 0, 1) := by decide +kernel
theorem dX10_init_1 : decode cX10_init 1 = .ok (.invokespecial 3, 3) := by decide +kernel
theorem dX10_init_4 : decode cX10_init 4 = .ok (.aload_n 0, 1) := by decide +kernel
theorem dX10_init_5 : decode cX10_init 5 = .ok (.new 9, 3) := by decide +kernel
theorem dX10_init_8 : decode cX10_init 8 = .ok (.dup, 1) := by decide +kernel
theorem dX10_init_9 : decode cX10_init 9 = .ok (.invokespecial 11, 3) := by decide +kernel
theorem dX10_init_12 : decode cX10_init 12 = .ok (.putfield 12, 3) := by decide +kernel
theorem dX10_init_15 : decode cX10_init 15 = .ok (.aload_n 0, 1) := by decide +kernel
theorem dX10_init_16 : decode cX10_init 16 = .ok (.new 9, 3) := by decide +kernel
theorem dX10_init_19 : decode cX10_init 19 = .ok (.dup, 1) := by decide +kernel
theorem dX10_init_20 : decode cX10_init 20 = .ok (.invokespecial 11, 3) := by decide +kernel
theorem dX10_init_23 : decode cX10_init 23 = .ok (.putfield 18, 3) := by decide +kernel
theorem dX10_init_26 : decode cX10_init 26 = .ok (.return_, 1) := by decide +kernel
theorem dX10_measure_0 : decode cX10_measure 0 = .ok (.aload_n 0, 1) := by decide +kernel
theorem dX10_measure_1 : decode cX10_measure 1 = .ok (.getfield 12, 3) := by decide +kernel
theorem dX10_measure_4 : decode cX10_measure 4 = .ok (.invokevirtual 21, 3) := by decide +kernel
theorem dX10_measure_7 : decode cX10_measure 7 = .ok (.iconst 0, 1) := by decide +kernel
theorem dX10_measure_8 : decode cX10_measure 8 = .ok (.istore_n 3, 1) := by decide +kernel
theorem dX10_measure_9 : decode cX10_measure 9 = .ok (.iload_n 3, 1) := by decide +kernel
theorem dX10_measure_10 : decode cX10_measure 10 = .ok (.bipush 8, 2) := by decide +kernel
theorem dX10_measure_12 : decode cX10_measure 12 = .ok (.if_icmp .ge 61, 3) := by decide +kernel
theorem dX10_measure_15 : decode cX10_measure 15 = .ok (.aload_n 1, 1) := by decide +kernel
theorem dX10_measure_16 : decode cX10_measure 16 = .ok (.iload_n 3, 1) := by decide +kernel
theorem dX10_measure_17 : decode cX10_measure 17 = .ok (.invokevirtual 24, 3) := by decide +kernel
theorem dX10_measure_20 : decode cX10_measure 20 = .ok (.ifCond .eq 47, 3) := by decide +kernel
theorem dX10_measure_23 : decode cX10_measure 23 = .ok (.aload_n 0, 1) := by decide +kernel
theorem dX10_measure_24 : decode cX10_measure 24 = .ok (.getfield 18, 3) := by decide +kernel
theorem dX10_measure_27 : decode cX10_measure 27 = .ok (.aload_n 1, 1) := by decide +kernel
theorem dX10_measure_28 : decode cX10_measure 28 = .ok (.iload_n 3, 1) := by decide +kernel
theorem dX10_measure_29 : decode cX10_measure 29 = .ok (.aload_n 2, 1) := by decide +kernel
theorem dX10_measure_30 : decode cX10_measure 30 = .ok (.invokevirtual 30, 3) := by decide +kernel
theorem dX10_measure_33 : decode cX10_measure 33 = .ok (.aload_n 0, 1) := by decide +kernel
theorem dX10_measure_34 : decode cX10_measure 34 = .ok (.getfield 12, 3) := by decide +kernel
theorem dX10_measure_37 : decode cX10_measure 37 = .ok (.getfield 34, 3) := by decide +kernel
theorem dX10_measure_40 : decode cX10_measure 40 = .ok (.aload_n 0, 1) := by decide +kernel
theorem dX10_measure_41 : decode cX10_measure 41 = .ok (.getfield 18, 3) := by decide +kernel
theorem dX10_measure_44 : decode cX10_measure 44 = .ok (.getfield 34, 3) := by decide +kernel
theorem dX10_measure_47 : decode cX10_measure 47 = .ok (.invokestatic 38, 3) := by decide +kernel
theorem dX10_measure_50 : decode cX10_measure 50 = .ok (.aload_n 0, 1) := by decide +kernel
theorem dX10_measure_51 : decode cX10_measure 51 = .ok (.getfield 12, 3) := by decide +kernel
theorem dX10_measure_54 : decode cX10_measure 54 = .ok (.getfield 42, 3) := by decide +kernel
theorem dX10_measure_57 : decode cX10_measure 57 = .ok (.aload_n 0, 1) := by decide +kernel
theorem dX10_measure_58 : decode cX10_measure 58 = .ok (.getfield 18, 3) := by decide +kernel
theorem dX10_measure_61 : decode cX10_measure 61 = .ok (.getfield 42, 3) := by decide +kernel
theorem dX10_measure_64 : decode cX10_measure 64 = .ok (.invokestatic 38, 3) := by decide +kernel
theorem dX10_measure_67 : decode cX10_measure 67 = .ok (.iinc 3 1, 3) := by decide +kernel
theorem dX10_measure_70 : decode cX10_measure 70 = .ok (.goto (-61), 3) := by decide +kernel
theorem dX10_measure_73 : decode cX10_measure 73 = .ok (.return_, 1) := by decide +kernel
theorem dX11_init_0 : decode cX11_init 0 = .ok (.aload_n 0, 1) := by decide +kernel
theorem dX11_init_1 : decode cX11_init 1 = .ok (.invokespecial 1, 3) := by decide +kernel
theorem dX11_init_4 : decode cX11_init 4 = .ok (.aload_n 0, 1) := by decide +kernel
theorem dX11_init_5 : decode cX11_init 5 = .ok (.new 7, 3) := by decide +kernel
theorem dX11_init_8 : decode cX11_init 8 = .ok (.dup, 1) := by decide +kernel
theorem dX11_init_9 : decode cX11_init 9 = .ok (.invokespecial 9, 3) := by decide +kernel
theorem dX11_init_12 : decode cX11_init 12 = .ok (.putfield 10, 3) := by decide +kernel
theorem dX11_init_15 : decode cX11_init 15 = .ok (.aload_n 0, 1) := by decide +kernel
theorem dX11_init_16 : decode cX11_init 16 = .ok (.new 16, 3) := by decide +kernel
theorem dX11_init_19 : decode cX11_init 19 = .ok (.dup, 1) := by decide +kernel
theorem dX11_init_20 : decode cX11_init 20 = .ok (.invokespecial 18, 3) := by decide +kernel
theorem dX11_init_23 : decode cX11_init 23 = .ok (.putfield 19, 3) := by decide +kernel
theorem dX11_init_26 : decode cX11_init 26 = .ok (.aload_n 0, 1) := by decide +kernel
theorem dX11_init_27 : decode cX11_init 27 = .ok (.iconst 2, 1) := by decide +kernel
theorem dX11_init_28 : decode cX11_init 28 = .ok (.anewarray 7, 3) := by decide +kernel
theorem dX11_init_31 : decode cX11_init 31 = .ok (.putfield 23, 3) := by decide +kernel
theorem dX11_init_34 : decode cX11_init 34 = .ok (.aload_n 0, 1) := by decide +kernel
theorem dX11_init_35 : decode cX11_init 35 = .ok (.new 27, 3) := by decide +kernel
theorem dX11_init_38 : decode cX11_init 38 = .ok (.dup, 1) := by decide +kernel
theorem dX11_init_39 : decode cX11_init 39 = .ok (.invokespecial 29, 3) := by decide +kernel
theorem dX11_init_42 : decode cX11_init 42 = .ok (.putfield 30, 3) := by decide +kernel
theorem dX11_init_45 : decode cX11_init 45 = .ok (.aload_n 0, 1) := by decide +kernel
theorem dX11_init_46 : decode cX11_init 46 = .ok (.aload_n 0, 1) := by decide +kernel
theorem dX11_init_47 : decode cX11_init 47 = .ok (.getfield 30, 3) := by decide +kernel
theorem dX11_init_50 : decode cX11_init 50 = .ok (.getfield 34, 3) := by decide +kernel
theorem dX11_init_53 : decode cX11_init 53 = .ok (.putfield 38, 3) := by decide +kernel
theorem dX11_init_56 : decode cX11_init 56 = .ok (.aload_n 0, 1) := by decide +kernel
theorem dX11_init_57 : decode cX11_init 57 = .ok (.new 39, 3) := by decide +kernel
theorem dX11_init_60 : decode cX11_init 60 = .ok (.dup, 1) := by decide +kernel
theorem dX11_init_61 : decode cX11_init 61 = .ok (.invokespecial 41, 3) := by decide +kernel
theorem dX11_init_64 : decode cX11_init 64 = .ok (.putfield 42, 3) := by decide +kernel
theorem dX11_init_67 : decode cX11_init 67 = .ok (.aload_n 0, 1) := by decide +kernel
theorem dX11_init_68 : decode cX11_init 68 = .ok (.new 46, 3) := by decide +kernel
theorem dX11_init_71 : decode cX11_init 71 = .ok (.dup, 1) := by decide +kernel
theorem dX11_init_72 : decode cX11_init 72 = .ok (.invokespecial 48, 3) := by decide +kernel
theorem dX11_init_75 : decode cX11_init 75 = .ok (.putfield 49, 3) := by decide +kernel
theorem dX11_init_78 : decode cX11_init 78 = .ok (.aload_n 0, 1) := by decide +kernel
theorem dX11_init_79 : decode cX11_init 79 = .ok (.new 53, 3) := by decide +kernel
theorem dX11_init_82 : decode cX11_init 82 = .ok (.dup, 1) := by decide +kernel
theorem dX11_init_83 : decode cX11_init 83 = .ok (.invokespecial 55, 3) := by decide +kernel
theorem dX11_init_86 : decode cX11_init 86 = .ok (.putfield 56, 3) := by decide +kernel
theorem dX11_init_89 : decode cX11_init 89 = .ok (.iconst 0, 1) := by decide +kernel
theorem dX11_init_90 : decode cX11_init 90 = .ok (.istore_n 1, 1) := by decide +kernel
theorem dX11_init_91 : decode cX11_init 91 = .ok (.iload_n 1, 1) := by decide +kernel
theorem dX11_init_92 : decode cX11_init 92 = .ok (.aload_n 0, 1) := by decide +kernel
theorem dX11_init_93 : decode cX11_init 93 = .ok (.getfield 23, 3) := by decide +kernel
theorem dX11_init_96 : decode cX11_init 96 = .ok (.arraylength, 1) := by decide +kernel
theorem dX11_init_97 : decode cX11_init 97 = .ok (.if_icmp .ge 22, 3) := by decide +kernel
theorem dX11_init_100 : decode cX11_init 100 = .ok (.aload_n 0, 1) := by decide +kernel
theorem dX11_init_101 : decode cX11_init 101 = .ok (.getfield 23, 3) := by decide +kernel
theorem dX11_init_104 : decode cX11_init 104 = .ok (.iload_n 1, 1) := by decide +kernel
theorem dX11_init_105 : decode cX11_init 105 = .ok (.new 7, 3) := by decide +kernel
theorem dX11_init_108 : decode cX11_init 108 = .ok (.dup, 1) := by decide +kernel
theorem dX11_init_109 : decode cX11_init 109 = .ok (.invokespecial 9, 3) := by decide +kernel
theorem dX11_init_112 : decode cX11_init 112 = .ok (.aastore, 1) := by decide +kernel
theorem dX11_init_113 : decode cX11_init 113 = .ok (.iinc 1 1, 3) := by decide +kernel
theorem dX11_init_116 : decode cX11_init 116 = .ok (.goto (-25), 3) := by decide +kernel
theorem dX11_init_119 : decode cX11_init 119 = .ok (.return_, 1) := by decide +kernel
theorem dX11_set_0 : decode cX11_set 0 = .ok (.iload_n 1, 1) := by decide +kernel
theorem dX11_set_1 : decode cX11_set 1 = .ok (.iconst 0, 1) := by decide +kernel
theorem dX11_set_2 : decode cX11_set 2 = .ok (.getstatic 60, 3) := by decide +kernel
theorem dX11_set_5 : decode cX11_set 5 = .ok (.arraylength, 1) := by decide +kernel
theorem dX11_set_6 : decode cX11_set 6 = .ok (.iconst 1, 1) := by decide +kernel
theorem dX11_set_7 : decode cX11_set 7 = .ok (.isub, 1) := by decide +kernel
theorem dX11_set_8 : decode cX11_set 8 = .ok (.invokestatic 64, 3) := by decide +kernel
theorem dX11_set_11 : decode cX11_set 11 = .ok (.ifCond .eq 20, 3) := by decide +kernel
theorem dX11_set_14 : decode cX11_set 14 = .ok (.iload_n 2, 1) := by decide +kernel
theorem dX11_set_15 : decode cX11_set 15 = .ok (.getstatic 60, 3) := by decide +kernel
theorem dX11_set_18 : decode cX11_set 18 = .ok (.iload_n 1, 1) := by decide +kernel
theorem dX11_set_19 : decode cX11_set 19 = .ok (.iaload, 1) := by decide +kernel
theorem dX11_set_20 : decode cX11_set 20 = .ok (.getstatic 68, 3) := by decide +kernel
theorem dX11_set_23 : decode cX11_set 23 = .ok (.iload_n 1, 1) := by decide +kernel
theorem dX11_set_24 : decode cX11_set 24 = .ok (.iaload, 1) := by decide +kernel
theorem dX11_set_25 : decode cX11_set 25 = .ok (.invokestatic 64, 3) := by decide +kernel
theorem dX11_set_28 : decode cX11_set 28 = .ok (.ifCond .ne 6, 3) := by decide +kernel
theorem dX11_set_31 : decode cX11_set 31 = .ok (.bipush (-2), 2) := by decide +kernel
theorem dX11_set_33 : decode cX11_set 33 = .ok (.ireturn, 1) := by decide +kernel
theorem dX11_set_34 : decode cX11_set 34 = .ok (.aload_n 0, 1) := by decide +kernel
theorem dX11_set_35 : decode cX11_set 35 = .ok (.getfield 19, 3) := by decide +kernel
theorem dX11_set_38 : decode cX11_set 38 = .ok (.aload_n 0, 1) := by decide +kernel
theorem dX11_set_39 : decode cX11_set 39 = .ok (.getfield 10, 3) := by decide +kernel
theorem dX11_set_42 : decode cX11_set 42 = .ok (.invokevirtual 71, 3) := by decide +kernel
theorem dX11_set_45 : decode cX11_set 45 = .ok (.aload_n 0, 1) := by decide +kernel
theorem dX11_set_46 : decode cX11_set 46 = .ok (.getfield 10, 3) := by decide +kernel
theorem dX11_set_49 : decode cX11_set 49 = .ok (.getfield 75, 3) := by decide +kernel
theorem dX11_set_52 : decode cX11_set 52 = .ok (.iload_n 1, 1) := by decide +kernel
theorem dX11_set_53 : decode cX11_set 53 = .ok (.iaload, 1) := by decide +kernel
theorem dX11_set_54 : decode cX11_set 54 = .ok (.istore_n 3, 1) := by decide +kernel
theorem dX11_set_55 : decode cX11_set 55 = .ok (.aload_n 0, 1) := by decide +kernel
theorem dX11_set_56 : decode cX11_set 56 = .ok (.getfield 10, 3) := by decide +kernel
theorem dX11_set_59 : decode cX11_set 59 = .ok (.getfield 75, 3) := by decide +kernel
theorem dX11_set_62 : decode cX11_set 62 = .ok (.iload_n 1, 1) := by decide +kernel
theorem dX11_set_63 : decode cX11_set 63 = .ok (.iload_n 2, 1) := by decide +kernel
theorem dX11_set_64 : decode cX11_set 64 = .ok (.iastore, 1) := by decide +kernel
theorem dX11_set_65 : decode cX11_set 65 = .ok (.iload_n 3, 1) := by decide +kernel
theorem dX11_set_66 : decode cX11_set 66 = .ok (.ireturn, 1) := by decide +kernel
theorem dX11_type_0 : decode cX11_type 0 = .ok (.iload_n 1, 1) := by decide +kernel
theorem dX11_type_1 : decode cX11_type 1 = .ok (.bipush 100, 2) := by decide +kernel
theorem dX11_type_3 : decode cX11_type 3 = .ok (.sipush 2000, 3) := by decide +kernel
theorem dX11_type_6 : decode cX11_type 6 = .ok (.invokestatic 64, 3) := by decide +kernel
theorem dX11_type_9 : decode cX11_type 9 = .ok (.ifCond .eq 23, 3) := by decide +kernel
theorem dX11_type_12 : decode cX11_type 12 = .ok (.iload_n 2, 1) := by decide +kernel
theorem dX11_type_13 : decode cX11_type 13 = .ok (.iconst 0, 1) := by decide +kernel
theorem dX11_type_14 : decode cX11_type 14 = .ok (.bipush 20, 2) := by decide +kernel
theorem dX11_type_16 : decode cX11_type 16 = .ok (.invokestatic 64, 3) := by decide +kernel
theorem dX11_type_19 : decode cX11_type 19 = .ok (.ifCond .eq 13, 3) := by decide +kernel
theorem dX11_type_22 : decode cX11_type 22 = .ok (.iload_n 3, 1) := by decide +kernel
theorem dX11_type_23 : decode cX11_type 23 = .ok (.iconst 0, 1) := by decide +kernel
theorem dX11_type_24 : decode cX11_type 24 = .ok (.bipush 50, 2) := by decide +kernel
theorem dX11_type_26 : decode cX11_type 26 = .ok (.invokestatic 64, 3) := by decide +kernel
theorem dX11_type_29 : decode cX11_type 29 = .ok (.ifCond .ne 6, 3) := by decide +kernel
theorem dX11_type_32 : decode cX11_type 32 = .ok (.bipush (-2), 2) := by decide +kernel
theorem dX11_type_34 : decode cX11_type 34 = .ok (.ireturn, 1) := by decide +kernel
theorem dX11_type_35 : decode cX11_type 35 = .ok (.aload_n 0, 1) := by decide +kernel
theorem dX11_type_36 : decode cX11_type 36 = .ok (.getfield 10, 3) := by decide +kernel
theorem dX11_type_39 : decode cX11_type 39 = .ok (.getfield 78, 3) := by decide +kernel
theorem dX11_type_42 : decode cX11_type 42 = .ok (.invokevirtual 82, 3) := by decide +kernel
theorem dX11_type_45 : decode cX11_type 45 = .ok (.ifCond .eq 6, 3) := by decide +kernel
theorem dX11_type_48 : decode cX11_type 48 = .ok (.bipush (-4), 2) := by decide +kernel
theorem dX11_type_50 : decode cX11_type 50 = .ok (.ireturn, 1) := by decide +kernel
theorem dX11_type_51 : decode cX11_type 51 = .ok (.aload_n 0, 1) := by decide +kernel
theorem dX11_type_52 : decode cX11_type 52 = .ok (.getfield 19, 3) := by decide +kernel
theorem dX11_type_55 : decode cX11_type 55 = .ok (.aload_n 0, 1) := by decide +kernel
theorem dX11_type_56 : decode cX11_type 56 = .ok (.getfield 10, 3) := by decide +kernel
theorem dX11_type_59 : decode cX11_type 59 = .ok (.invokevirtual 71, 3) := by decide +kernel
theorem dX11_type_62 : decode cX11_type 62 = .ok (.aload_n 0, 1) := by decide +kernel
theorem dX11_type_63 : decode cX11_type 63 = .ok (.getfield 10, 3) := by decide +kernel
theorem dX11_type_66 : decode cX11_type 66 = .ok (.getfield 78, 3) := by decide +kernel
theorem dX11_type_69 : decode cX11_type 69 = .ok (.iload_n 1, 1) := by decide +kernel
theorem dX11_type_70 : decode cX11_type 70 = .ok (.iload_n 2, 1) := by decide +kernel
theorem dX11_type_71 : decode cX11_type 71 = .ok (.iload_n 3, 1) := by decide +kernel
theorem dX11_type_72 : decode cX11_type 72 = .ok (.invokevirtual 88, 3) := by decide +kernel
theorem dX11_type_75 : decode cX11_type 75 = .ok (.ireturn, 1) := by decide +kernel
theorem dX11_days_0 : decode cX11_days 0 = .ok (.aload_n 0, 1) := by decide +kernel
theorem dX11_days_1 : decode cX11_days 1 = .ok (.getfield 10, 3) := by decide +kernel
theorem dX11_days_4 : decode cX11_days 4 = .ok (.iload_n 1, 1) := by decide +kernel
theorem dX11_days_5 : decode cX11_days 5 = .ok (.invokevirtual 92, 3) := by decide +kernel
theorem dX11_days_8 : decode cX11_days 8 = .ok (.astore 4, 2) := by decide +kernel
theorem dX11_days_10 : decode cX11_days 10 = .ok (.aload 4, 2) := by decide +kernel
theorem dX11_days_12 : decode cX11_days 12 = .ok (.ifnonnull 5, 3) := by decide +kernel
theorem dX11_days_15 : decode cX11_days 15 = .ok (.iconst (-1), 1) := by decide +kernel
theorem dX11_days_16 : decode cX11_days 16 = .ok (.ireturn, 1) := by decide +kernel
theorem dX11_days_17 : decode cX11_days 17 = .ok (.iload_n 2, 1) := by decide +kernel
theorem dX11_days_18 : decode cX11_days 18 = .ok (.iload_n 3, 1) := by decide +kernel
theorem dX11_days_19 : decode cX11_days 19 = .ok (.invokestatic 96, 3) := by decide +kernel
theorem dX11_days_22 : decode cX11_days 22 = .ok (.ifCond .ne 6, 3) := by decide +kernel
theorem dX11_days_25 : decode cX11_days 25 = .ok (.bipush (-2), 2) := by decide +kernel
theorem dX11_days_27 : decode cX11_days 27 = .ok (.ireturn, 1) := by decide +kernel
theorem dX11_days_28 : decode cX11_days 28 = .ok (.aload_n 0, 1) := by decide +kernel
theorem dX11_days_29 : decode cX11_days 29 = .ok (.getfield 19, 3) := by decide +kernel
theorem dX11_days_32 : decode cX11_days 32 = .ok (.aload_n 0, 1) := by decide +kernel
theorem dX11_days_33 : decode cX11_days 33 = .ok (.getfield 10, 3) := by decide +kernel
theorem dX11_days_36 : decode cX11_days 36 = .ok (.invokevirtual 71, 3) := by decide +kernel
theorem dX11_days_39 : decode cX11_days 39 = .ok (.aload 4, 2) := by decide +kernel
theorem dX11_days_41 : decode cX11_days 41 = .ok (.getfield 100, 3) := by decide +kernel
theorem dX11_days_44 : decode cX11_days 44 = .ok (.aload 4, 2) := by decide +kernel
theorem dX11_days_46 : decode cX11_days 46 = .ok (.getfield 106, 3) := by decide +kernel
theorem dX11_days_49 : decode cX11_days 49 = .ok (.isub, 1) := by decide +kernel
theorem dX11_days_50 : decode cX11_days 50 = .ok (.iconst 1, 1) := by decide +kernel
theorem dX11_days_51 : decode cX11_days 51 = .ok (.iadd, 1) := by decide +kernel
theorem dX11_days_52 : decode cX11_days 52 = .ok (.istore 5, 2) := by decide +kernel
theorem dX11_days_54 : decode cX11_days 54 = .ok (.aload 4, 2) := by decide +kernel
theorem dX11_days_56 : decode cX11_days 56 = .ok (.iload_n 2, 1) := by decide +kernel
theorem dX11_days_57 : decode cX11_days 57 = .ok (.putfield 106, 3) := by decide +kernel
theorem dX11_days_60 : decode cX11_days 60 = .ok (.aload 4, 2) := by decide +kernel
theorem dX11_days_62 : decode cX11_days 62 = .ok (.iload_n 3, 1) := by decide +kernel
theorem dX11_days_63 : decode cX11_days 63 = .ok (.putfield 100, 3) := by decide +kernel
theorem dX11_days_66 : decode cX11_days 66 = .ok (.iload 5, 2) := by decide +kernel
theorem dX11_days_68 : decode cX11_days 68 = .ok (.ireturn, 1) := by decide +kernel
theorem dX11_hang_0 : decode cX11_hang 0 = .ok (.aload_n 0, 1) := by decide +kernel
theorem dX11_hang_1 : decode cX11_hang 1 = .ok (.getfield 10, 3) := by decide +kernel
theorem dX11_hang_4 : decode cX11_hang 4 = .ok (.iload_n 1, 1) := by decide +kernel
theorem dX11_hang_5 : decode cX11_hang 5 = .ok (.invokevirtual 92, 3) := by decide +kernel
theorem dX11_hang_8 : decode cX11_hang 8 = .ok (.astore 4, 2) := by decide +kernel
theorem dX11_hang_10 : decode cX11_hang 10 = .ok (.aload 4, 2) := by decide +kernel
theorem dX11_hang_12 : decode cX11_hang 12 = .ok (.ifnull 24, 3) := by decide +kernel
theorem dX11_hang_15 : decode cX11_hang 15 = .ok (.aload_n 0, 1) := by decide +kernel
theorem dX11_hang_16 : decode cX11_hang 16 = .ok (.getfield 10, 3) := by decide +kernel
theorem dX11_hang_19 : decode cX11_hang 19 = .ok (.getfield 78, 3) := by decide +kernel
theorem dX11_hang_22 : decode cX11_hang 22 = .ok (.iload_n 2, 1) := by decide +kernel
theorem dX11_hang_23 : decode cX11_hang 23 = .ok (.invokevirtual 109, 3) := by decide +kernel
theorem dX11_hang_26 : decode cX11_hang 26 = .ok (.ifCond .eq 10, 3) := by decide +kernel
theorem dX11_hang_29 : decode cX11_hang 29 = .ok (.iload_n 3, 1) := by decide +kernel
theorem dX11_hang_30 : decode cX11_hang 30 = .ok (.invokestatic 113, 3) := by decide +kernel
theorem dX11_hang_33 : decode cX11_hang 33 = .ok (.ifCond .ne 5, 3) := by decide +kernel
theorem dX11_hang_36 : decode cX11_hang 36 = .ok (.iconst (-1), 1) := by decide +kernel
theorem dX11_hang_37 : decode cX11_hang 37 = .ok (.ireturn, 1) := by decide +kernel
theorem dX11_hang_38 : decode cX11_hang 38 = .ok (.aload 4, 2) := by decide +kernel
theorem dX11_hang_40 : decode cX11_hang 40 = .ok (.invokevirtual 116, 3) := by decide +kernel
theorem dX11_hang_43 : decode cX11_hang 43 = .ok (.ifCond .eq 6, 3) := by decide +kernel
theorem dX11_hang_46 : decode cX11_hang 46 = .ok (.bipush (-4), 2) := by decide +kernel
theorem dX11_hang_48 : decode cX11_hang 48 = .ok (.ireturn, 1) := by decide +kernel
theorem dX11_hang_49 : decode cX11_hang 49 = .ok (.aload_n 0, 1) := by decide +kernel
theorem dX11_hang_50 : decode cX11_hang 50 = .ok (.getfield 19, 3) := by decide +kernel
theorem dX11_hang_53 : decode cX11_hang 53 = .ok (.aload_n 0, 1) := by decide +kernel
theorem dX11_hang_54 : decode cX11_hang 54 = .ok (.getfield 10, 3) := by decide +kernel
theorem dX11_hang_57 : decode cX11_hang 57 = .ok (.invokevirtual 71, 3) := by decide +kernel
theorem dX11_hang_60 : decode cX11_hang 60 = .ok (.aload 4, 2) := by decide +kernel
theorem dX11_hang_62 : decode cX11_hang 62 = .ok (.iload_n 2, 1) := by decide +kernel
theorem dX11_hang_63 : decode cX11_hang 63 = .ok (.iload_n 3, 1) := by decide +kernel
theorem dX11_hang_64 : decode cX11_hang 64 = .ok (.invokevirtual 117, 3) := by decide +kernel
theorem dX11_hang_67 : decode cX11_hang 67 = .ok (.ireturn, 1) := by decide +kernel
theorem dX11_takeDown_0 : decode cX11_takeDown 0 = .ok (.aload_n 0, 1) := by decide +kernel
theorem dX11_takeDown_1 : decode cX11_takeDown 1 = .ok (.getfield 10, 3) := by decide +kernel
theorem dX11_takeDown_4 : decode cX11_takeDown 4 = .ok (.iload_n 1, 1) := by decide +kernel
theorem dX11_takeDown_5 : decode cX11_takeDown 5 = .ok (.invokevirtual 92, 3) := by decide +kernel
theorem dX11_takeDown_8 : decode cX11_takeDown 8 = .ok (.astore_n 3, 1) := by decide +kernel
theorem dX11_takeDown_9 : decode cX11_takeDown 9 = .ok (.aload_n 3, 1) := by decide +kernel
theorem dX11_takeDown_10 : decode cX11_takeDown 10 = .ok (.ifnull 11, 3) := by decide +kernel
theorem dX11_takeDown_13 : decode cX11_takeDown 13 = .ok (.aload_n 3, 1) := by decide +kernel
theorem dX11_takeDown_14 : decode cX11_takeDown 14 = .ok (.iload_n 2, 1) := by decide +kernel
theorem dX11_takeDown_15 : decode cX11_takeDown 15 = .ok (.invokevirtual 121, 3) := by decide +kernel
theorem dX11_takeDown_18 : decode cX11_takeDown 18 = .ok (.ifCond .ne 5, 3) := by decide +kernel
theorem dX11_takeDown_21 : decode cX11_takeDown 21 = .ok (.iconst (-1), 1) := by decide +kernel
theorem dX11_takeDown_22 : decode cX11_takeDown 22 = .ok (.ireturn, 1) := by decide +kernel
theorem dX11_takeDown_23 : decode cX11_takeDown 23 = .ok (.aload_n 0, 1) := by decide +kernel
theorem dX11_takeDown_24 : decode cX11_takeDown 24 = .ok (.getfield 19, 3) := by decide +kernel
theorem dX11_takeDown_27 : decode cX11_takeDown 27 = .ok (.aload_n 0, 1) := by decide +kernel
theorem dX11_takeDown_28 : decode cX11_takeDown 28 = .ok (.getfield 10, 3) := by decide +kernel
theorem dX11_takeDown_31 : decode cX11_takeDown 31 = .ok (.invokevirtual 71, 3) := by decide +kernel
theorem dX11_takeDown_34 : decode cX11_takeDown 34 = .ok (.aload_n 3, 1) := by decide +kernel
theorem dX11_takeDown_35 : decode cX11_takeDown 35 = .ok (.iload_n 2, 1) := by decide +kernel
theorem dX11_takeDown_36 : decode cX11_takeDown 36 = .ok (.invokevirtual 124, 3) := by decide +kernel
theorem dX11_takeDown_39 : decode cX11_takeDown 39 = .ok (.ireturn, 1) := by decide +kernel
theorem dX11_patch_0 : decode cX11_patch 0 = .ok (.aload_n 0, 1) := by decide +kernel
theorem dX11_patch_1 : decode cX11_patch 1 = .ok (.getfield 10, 3) := by decide +kernel
theorem dX11_patch_4 : decode cX11_patch 4 = .ok (.iload_n 1, 1) := by decide +kernel
theorem dX11_patch_5 : decode cX11_patch 5 = .ok (.invokevirtual 92, 3) := by decide +kernel
theorem dX11_patch_8 : decode cX11_patch 8 = .ok (.astore 4, 2) := by decide +kernel
theorem dX11_patch_10 : decode cX11_patch 10 = .ok (.aload 4, 2) := by decide +kernel
theorem dX11_patch_12 : decode cX11_patch 12 = .ok (.ifnull 19, 3) := by decide +kernel
theorem dX11_patch_15 : decode cX11_patch 15 = .ok (.aload 4, 2) := by decide +kernel
theorem dX11_patch_17 : decode cX11_patch 17 = .ok (.iload_n 2, 1) := by decide +kernel
theorem dX11_patch_18 : decode cX11_patch 18 = .ok (.invokevirtual 121, 3) := by decide +kernel
theorem dX11_patch_21 : decode cX11_patch 21 = .ok (.ifCond .eq 10, 3) := by decide +kernel
theorem dX11_patch_24 : decode cX11_patch 24 = .ok (.iload_n 3, 1) := by decide +kernel
theorem dX11_patch_25 : decode cX11_patch 25 = .ok (.invokestatic 113, 3) := by decide +kernel
theorem dX11_patch_28 : decode cX11_patch 28 = .ok (.ifCond .ne 5, 3) := by decide +kernel
theorem dX11_patch_31 : decode cX11_patch 31 = .ok (.iconst (-1), 1) := by decide +kernel
theorem dX11_patch_32 : decode cX11_patch 32 = .ok (.ireturn, 1) := by decide +kernel
theorem dX11_patch_33 : decode cX11_patch 33 = .ok (.aload_n 0, 1) := by decide +kernel
theorem dX11_patch_34 : decode cX11_patch 34 = .ok (.getfield 19, 3) := by decide +kernel
theorem dX11_patch_37 : decode cX11_patch 37 = .ok (.aload_n 0, 1) := by decide +kernel
theorem dX11_patch_38 : decode cX11_patch 38 = .ok (.getfield 10, 3) := by decide +kernel
theorem dX11_patch_41 : decode cX11_patch 41 = .ok (.invokevirtual 71, 3) := by decide +kernel
theorem dX11_patch_44 : decode cX11_patch 44 = .ok (.aload 4, 2) := by decide +kernel
theorem dX11_patch_46 : decode cX11_patch 46 = .ok (.getfield 128, 3) := by decide +kernel
theorem dX11_patch_49 : decode cX11_patch 49 = .ok (.iload_n 2, 1) := by decide +kernel
theorem dX11_patch_50 : decode cX11_patch 50 = .ok (.iaload, 1) := by decide +kernel
theorem dX11_patch_51 : decode cX11_patch 51 = .ok (.istore 5, 2) := by decide +kernel
theorem dX11_patch_53 : decode cX11_patch 53 = .ok (.aload 4, 2) := by decide +kernel
theorem dX11_patch_55 : decode cX11_patch 55 = .ok (.getfield 128, 3) := by decide +kernel
theorem dX11_patch_58 : decode cX11_patch 58 = .ok (.iload_n 2, 1) := by decide +kernel
theorem dX11_patch_59 : decode cX11_patch 59 = .ok (.iload_n 3, 1) := by decide +kernel
theorem dX11_patch_60 : decode cX11_patch 60 = .ok (.iastore, 1) := by decide +kernel
theorem dX11_patch_61 : decode cX11_patch 61 = .ok (.iload 5, 2) := by decide +kernel
theorem dX11_patch_63 : decode cX11_patch 63 = .ok (.ireturn, 1) := by decide +kernel
theorem dX11_feed_0 : decode cX11_feed 0 = .ok (.aload_n 0, 1) := by decide +kernel
theorem dX11_feed_1 : decode cX11_feed 1 = .ok (.getfield 10, 3) := by decide +kernel
theorem dX11_feed_4 : decode cX11_feed 4 = .ok (.iload_n 1, 1) := by decide +kernel
theorem dX11_feed_5 : decode cX11_feed 5 = .ok (.invokevirtual 92, 3) := by decide +kernel
theorem dX11_feed_8 : decode cX11_feed 8 = .ok (.astore 4, 2) := by decide +kernel
theorem dX11_feed_10 : decode cX11_feed 10 = .ok (.aload 4, 2) := by decide +kernel
theorem dX11_feed_12 : decode cX11_feed 12 = .ok (.ifnull 17, 3) := by decide +kernel
theorem dX11_feed_15 : decode cX11_feed 15 = .ok (.iload_n 2, 1) := by decide +kernel
theorem dX11_feed_16 : decode cX11_feed 16 = .ok (.invokestatic 131, 3) := by decide +kernel
theorem dX11_feed_19 : decode cX11_feed 19 = .ok (.ifCond .eq 10, 3) := by decide +kernel
theorem dX11_feed_22 : decode cX11_feed 22 = .ok (.iload_n 3, 1) := by decide +kernel
theorem dX11_feed_23 : decode cX11_feed 23 = .ok (.invokestatic 134, 3) := by decide +kernel
theorem dX11_feed_26 : decode cX11_feed 26 = .ok (.ifCond .ne 5, 3) := by decide +kernel
theorem dX11_feed_29 : decode cX11_feed 29 = .ok (.iconst (-1), 1) := by decide +kernel
theorem dX11_feed_30 : decode cX11_feed 30 = .ok (.ireturn, 1) := by decide +kernel
theorem dX11_feed_31 : decode cX11_feed 31 = .ok (.aload_n 0, 1) := by decide +kernel
theorem dX11_feed_32 : decode cX11_feed 32 = .ok (.getfield 19, 3) := by decide +kernel
theorem dX11_feed_35 : decode cX11_feed 35 = .ok (.aload_n 0, 1) := by decide +kernel
theorem dX11_feed_36 : decode cX11_feed 36 = .ok (.getfield 10, 3) := by decide +kernel
theorem dX11_feed_39 : decode cX11_feed 39 = .ok (.invokevirtual 71, 3) := by decide +kernel
theorem dX11_feed_42 : decode cX11_feed 42 = .ok (.aload 4, 2) := by decide +kernel
theorem dX11_feed_44 : decode cX11_feed 44 = .ok (.getfield 137, 3) := by decide +kernel
theorem dX11_feed_47 : decode cX11_feed 47 = .ok (.iload_n 2, 1) := by decide +kernel
theorem dX11_feed_48 : decode cX11_feed 48 = .ok (.iaload, 1) := by decide +kernel
theorem dX11_feed_49 : decode cX11_feed 49 = .ok (.istore 5, 2) := by decide +kernel
theorem dX11_feed_51 : decode cX11_feed 51 = .ok (.aload 4, 2) := by decide +kernel
theorem dX11_feed_53 : decode cX11_feed 53 = .ok (.getfield 137, 3) := by decide +kernel
theorem dX11_feed_56 : decode cX11_feed 56 = .ok (.iload_n 2, 1) := by decide +kernel
theorem dX11_feed_57 : decode cX11_feed 57 = .ok (.iload_n 3, 1) := by decide +kernel
theorem dX11_feed_58 : decode cX11_feed 58 = .ok (.iastore, 1) := by decide +kernel
theorem dX11_feed_59 : decode cX11_feed 59 = .ok (.iload 5, 2) := by decide +kernel
theorem dX11_feed_61 : decode cX11_feed 61 = .ok (.ireturn, 1) := by decide +kernel
theorem dX11_spread_0 : decode cX11_spread 0 = .ok (.aload_n 0, 1) := by decide +kernel
theorem dX11_spread_1 : decode cX11_spread 1 = .ok (.getfield 10, 3) := by decide +kernel
theorem dX11_spread_4 : decode cX11_spread 4 = .ok (.iload_n 1, 1) := by decide +kernel
theorem dX11_spread_5 : decode cX11_spread 5 = .ok (.invokevirtual 92, 3) := by decide +kernel
theorem dX11_spread_8 : decode cX11_spread 8 = .ok (.astore_n 2, 1) := by decide +kernel
theorem dX11_spread_9 : decode cX11_spread 9 = .ok (.aload_n 2, 1) := by decide +kernel
theorem dX11_spread_10 : decode cX11_spread 10 = .ok (.ifnonnull 5, 3) := by decide +kernel
theorem dX11_spread_13 : decode cX11_spread 13 = .ok (.iconst (-1), 1) := by decide +kernel
theorem dX11_spread_14 : decode cX11_spread 14 = .ok (.ireturn, 1) := by decide +kernel
theorem dX11_spread_15 : decode cX11_spread 15 = .ok (.aload_n 0, 1) := by decide +kernel
theorem dX11_spread_16 : decode cX11_spread 16 = .ok (.getfield 19, 3) := by decide +kernel
theorem dX11_spread_19 : decode cX11_spread 19 = .ok (.aload_n 0, 1) := by decide +kernel
theorem dX11_spread_20 : decode cX11_spread 20 = .ok (.getfield 10, 3) := by decide +kernel
theorem dX11_spread_23 : decode cX11_spread 23 = .ok (.invokevirtual 71, 3) := by decide +kernel
theorem dX11_spread_26 : decode cX11_spread 26 = .ok (.aload_n 0, 1) := by decide +kernel
theorem dX11_spread_27 : decode cX11_spread 27 = .ok (.getfield 49, 3) := by decide +kernel
theorem dX11_spread_30 : decode cX11_spread 30 = .ok (.aload_n 2, 1) := by decide +kernel
theorem dX11_spread_31 : decode cX11_spread 31 = .ok (.aload_n 0, 1) := by decide +kernel
theorem dX11_spread_32 : decode cX11_spread 32 = .ok (.getfield 10, 3) := by decide +kernel
theorem dX11_spread_35 : decode cX11_spread 35 = .ok (.getfield 78, 3) := by decide +kernel
theorem dX11_spread_38 : decode cX11_spread 38 = .ok (.invokevirtual 140, 3) := by decide +kernel
theorem dX11_spread_41 : decode cX11_spread 41 = .ok (.aload_n 2, 1) := by decide +kernel
theorem dX11_spread_42 : decode cX11_spread 42 = .ok (.aload_n 0, 1) := by decide +kernel
theorem dX11_spread_43 : decode cX11_spread 43 = .ok (.getfield 49, 3) := by decide +kernel
theorem dX11_spread_46 : decode cX11_spread 46 = .ok (.getfield 144, 3) := by decide +kernel
theorem dX11_spread_49 : decode cX11_spread 49 = .ok (.getfield 145, 3) := by decide +kernel
theorem dX11_spread_52 : decode cX11_spread 52 = .ok (.aload_n 0, 1) := by decide +kernel
theorem dX11_spread_53 : decode cX11_spread 53 = .ok (.getfield 49, 3) := by decide +kernel
theorem dX11_spread_56 : decode cX11_spread 56 = .ok (.getfield 144, 3) := by decide +kernel
theorem dX11_spread_59 : decode cX11_spread 59 = .ok (.getfield 148, 3) := by decide +kernel
theorem dX11_spread_62 : decode cX11_spread 62 = .ok (.invokevirtual 151, 3) := by decide +kernel
theorem dX11_spread_65 : decode cX11_spread 65 = .ok (.ireturn, 1) := by decide +kernel
theorem dX11_at_0 : decode cX11_at 0 = .ok (.aload_n 0, 1) := by decide +kernel
theorem dX11_at_1 : decode cX11_at 1 = .ok (.getfield 10, 3) := by decide +kernel
theorem dX11_at_4 : decode cX11_at 4 = .ok (.iload_n 1, 1) := by decide +kernel
theorem dX11_at_5 : decode cX11_at 5 = .ok (.invokevirtual 92, 3) := by decide +kernel
theorem dX11_at_8 : decode cX11_at 8 = .ok (.astore 4, 2) := by decide +kernel
theorem dX11_at_10 : decode cX11_at 10 = .ok (.aload 4, 2) := by decide +kernel
theorem dX11_at_12 : decode cX11_at 12 = .ok (.ifnull 12, 3) := by decide +kernel
theorem dX11_at_15 : decode cX11_at 15 = .ok (.aload 4, 2) := by decide +kernel
theorem dX11_at_17 : decode cX11_at 17 = .ok (.iload_n 2, 1) := by decide +kernel
theorem dX11_at_18 : decode cX11_at 18 = .ok (.invokevirtual 121, 3) := by decide +kernel
theorem dX11_at_21 : decode cX11_at 21 = .ok (.ifCond .ne 5, 3) := by decide +kernel
theorem dX11_at_24 : decode cX11_at 24 = .ok (.iconst (-1), 1) := by decide +kernel
theorem dX11_at_25 : decode cX11_at 25 = .ok (.ireturn, 1) := by decide +kernel
theorem dX11_at_26 : decode cX11_at 26 = .ok (.iload_n 3, 1) := by decide +kernel
theorem dX11_at_27 : decode cX11_at 27 = .ok (.iconst 0, 1) := by decide +kernel
theorem dX11_at_28 : decode cX11_at 28 = .ok (.bipush 100, 2) := by decide +kernel
theorem dX11_at_30 : decode cX11_at 30 = .ok (.invokestatic 64, 3) := by decide +kernel
theorem dX11_at_33 : decode cX11_at 33 = .ok (.ifCond .ne 6, 3) := by decide +kernel
theorem dX11_at_36 : decode cX11_at 36 = .ok (.bipush (-2), 2) := by decide +kernel
theorem dX11_at_38 : decode cX11_at 38 = .ok (.ireturn, 1) := by decide +kernel
theorem dX11_at_39 : decode cX11_at 39 = .ok (.aload_n 0, 1) := by decide +kernel
theorem dX11_at_40 : decode cX11_at 40 = .ok (.getfield 19, 3) := by decide +kernel
theorem dX11_at_43 : decode cX11_at 43 = .ok (.aload_n 0, 1) := by decide +kernel
theorem dX11_at_44 : decode cX11_at 44 = .ok (.getfield 10, 3) := by decide +kernel
theorem dX11_at_47 : decode cX11_at 47 = .ok (.invokevirtual 71, 3) := by decide +kernel
theorem dX11_at_50 : decode cX11_at 50 = .ok (.aload 4, 2) := by decide +kernel
theorem dX11_at_52 : decode cX11_at 52 = .ok (.getfield 155, 3) := by decide +kernel
theorem dX11_at_55 : decode cX11_at 55 = .ok (.iload_n 2, 1) := by decide +kernel
theorem dX11_at_56 : decode cX11_at 56 = .ok (.iaload, 1) := by decide +kernel
theorem dX11_at_57 : decode cX11_at 57 = .ok (.istore 5, 2) := by decide +kernel
theorem dX11_at_59 : decode cX11_at 59 = .ok (.aload 4, 2) := by decide +kernel
theorem dX11_at_61 : decode cX11_at 61 = .ok (.getfield 155, 3) := by decide +kernel
theorem dX11_at_64 : decode cX11_at 64 = .ok (.iload_n 2, 1) := by decide +kernel
theorem dX11_at_65 : decode cX11_at 65 = .ok (.iload_n 3, 1) := by decide +kernel
theorem dX11_at_66 : decode cX11_at 66 = .ok (.iastore, 1) := by decide +kernel
theorem dX11_at_67 : decode cX11_at 67 = .ok (.iload 5, 2) := by decide +kernel
theorem dX11_at_69 : decode cX11_at 69 = .ok (.ireturn, 1) := by decide +kernel
theorem dX11_record_0 : decode cX11_record 0 = .ok (.aload_n 0, 1) := by decide +kernel
theorem dX11_record_1 : decode cX11_record 1 = .ok (.getfield 10, 3) := by decide +kernel
theorem dX11_record_4 : decode cX11_record 4 = .ok (.iload_n 1, 1) := by decide +kernel
theorem dX11_record_5 : decode cX11_record 5 = .ok (.invokevirtual 92, 3) := by decide +kernel
theorem dX11_record_8 : decode cX11_record 8 = .ok (.astore 4, 2) := by decide +kernel
theorem dX11_record_10 : decode cX11_record 10 = .ok (.aload 4, 2) := by decide +kernel
theorem dX11_record_12 : decode cX11_record 12 = .ok (.ifnull 10, 3) := by decide +kernel
theorem dX11_record_15 : decode cX11_record 15 = .ok (.iload_n 2, 1) := by decide +kernel
theorem dX11_record_16 : decode cX11_record 16 = .ok (.invokestatic 158, 3) := by decide +kernel
theorem dX11_record_19 : decode cX11_record 19 = .ok (.ifCond .ne 5, 3) := by decide +kernel
theorem dX11_record_22 : decode cX11_record 22 = .ok (.iconst (-1), 1) := by decide +kernel
theorem dX11_record_23 : decode cX11_record 23 = .ok (.ireturn, 1) := by decide +kernel
theorem dX11_record_24 : decode cX11_record 24 = .ok (.iload_n 3, 1) := by decide +kernel
theorem dX11_record_25 : decode cX11_record 25 = .ok (.iconst 1, 1) := by decide +kernel
theorem dX11_record_26 : decode cX11_record 26 = .ok (.bipush 50, 2) := by decide +kernel
theorem dX11_record_28 : decode cX11_record 28 = .ok (.invokestatic 64, 3) := by decide +kernel
theorem dX11_record_31 : decode cX11_record 31 = .ok (.ifCond .ne 6, 3) := by decide +kernel
theorem dX11_record_34 : decode cX11_record 34 = .ok (.bipush (-2), 2) := by decide +kernel
theorem dX11_record_36 : decode cX11_record 36 = .ok (.ireturn, 1) := by decide +kernel
theorem dX11_record_37 : decode cX11_record 37 = .ok (.aload_n 0, 1) := by decide +kernel
theorem dX11_record_38 : decode cX11_record 38 = .ok (.getfield 19, 3) := by decide +kernel
theorem dX11_record_41 : decode cX11_record 41 = .ok (.aload_n 0, 1) := by decide +kernel
theorem dX11_record_42 : decode cX11_record 42 = .ok (.getfield 10, 3) := by decide +kernel
theorem dX11_record_45 : decode cX11_record 45 = .ok (.invokevirtual 71, 3) := by decide +kernel
theorem dX11_record_48 : decode cX11_record 48 = .ok (.aload 4, 2) := by decide +kernel
theorem dX11_record_50 : decode cX11_record 50 = .ok (.iload_n 2, 1) := by decide +kernel
theorem dX11_record_51 : decode cX11_record 51 = .ok (.iload_n 3, 1) := by decide +kernel
theorem dX11_record_52 : decode cX11_record 52 = .ok (.invokevirtual 161, 3) := by decide +kernel
theorem dX11_record_55 : decode cX11_record 55 = .ok (.aload 4, 2) := by decide +kernel
theorem dX11_record_57 : decode cX11_record 57 = .ok (.invokevirtual 165, 3) := by decide +kernel
theorem dX11_record_60 : decode cX11_record 60 = .ok (.invokestatic 169, 3) := by decide +kernel
theorem dX11_record_63 : decode cX11_record 63 = .ok (.ireturn, 1) := by decide +kernel
theorem dX11_go_0 : decode cX11_go 0 = .ok (.aload_n 0, 1) := by decide +kernel
theorem dX11_go_1 : decode cX11_go 1 = .ok (.getfield 10, 3) := by decide +kernel
theorem dX11_go_4 : decode cX11_go 4 = .ok (.iload_n 1, 1) := by decide +kernel
theorem dX11_go_5 : decode cX11_go 5 = .ok (.invokevirtual 92, 3) := by decide +kernel
theorem dX11_go_8 : decode cX11_go 8 = .ok (.astore_n 3, 1) := by decide +kernel
theorem dX11_go_9 : decode cX11_go 9 = .ok (.aload_n 3, 1) := by decide +kernel
theorem dX11_go_10 : decode cX11_go 10 = .ok (.ifnull 10, 3) := by decide +kernel
theorem dX11_go_13 : decode cX11_go 13 = .ok (.iload_n 2, 1) := by decide +kernel
theorem dX11_go_14 : decode cX11_go 14 = .ok (.invokestatic 158, 3) := by decide +kernel
theorem dX11_go_17 : decode cX11_go 17 = .ok (.ifCond .ne 5, 3) := by decide +kernel
theorem dX11_go_20 : decode cX11_go 20 = .ok (.iconst (-1), 1) := by decide +kernel
theorem dX11_go_21 : decode cX11_go 21 = .ok (.ireturn, 1) := by decide +kernel
theorem dX11_go_22 : decode cX11_go 22 = .ok (.aload_n 3, 1) := by decide +kernel
theorem dX11_go_23 : decode cX11_go 23 = .ok (.iload_n 2, 1) := by decide +kernel
theorem dX11_go_24 : decode cX11_go 24 = .ok (.invokevirtual 174, 3) := by decide +kernel
theorem dX11_go_27 : decode cX11_go 27 = .ok (.ifCond .ne 6, 3) := by decide +kernel
theorem dX11_go_30 : decode cX11_go 30 = .ok (.bipush (-5), 2) := by decide +kernel
theorem dX11_go_32 : decode cX11_go 32 = .ok (.ireturn, 1) := by decide +kernel
theorem dX11_go_33 : decode cX11_go 33 = .ok (.aload_n 0, 1) := by decide +kernel
theorem dX11_go_34 : decode cX11_go 34 = .ok (.getfield 19, 3) := by decide +kernel
theorem dX11_go_37 : decode cX11_go 37 = .ok (.aload_n 0, 1) := by decide +kernel
theorem dX11_go_38 : decode cX11_go 38 = .ok (.getfield 10, 3) := by decide +kernel
theorem dX11_go_41 : decode cX11_go 41 = .ok (.invokevirtual 71, 3) := by decide +kernel
theorem dX11_go_44 : decode cX11_go 44 = .ok (.aload_n 3, 1) := by decide +kernel
theorem dX11_go_45 : decode cX11_go 45 = .ok (.iload_n 2, 1) := by decide +kernel
theorem dX11_go_46 : decode cX11_go 46 = .ok (.aload_n 3, 1) := by decide +kernel
theorem dX11_go_47 : decode cX11_go 47 = .ok (.getfield 177, 3) := by decide +kernel
theorem dX11_go_50 : decode cX11_go 50 = .ok (.iload_n 2, 1) := by decide +kernel
theorem dX11_go_51 : decode cX11_go 51 = .ok (.iaload, 1) := by decide +kernel
theorem dX11_go_52 : decode cX11_go 52 = .ok (.invokevirtual 180, 3) := by decide +kernel
theorem dX11_go_55 : decode cX11_go 55 = .ok (.aload_n 3, 1) := by decide +kernel
theorem dX11_go_56 : decode cX11_go 56 = .ok (.getfield 177, 3) := by decide +kernel
theorem dX11_go_59 : decode cX11_go 59 = .ok (.iload_n 2, 1) := by decide +kernel
theorem dX11_go_60 : decode cX11_go 60 = .ok (.iaload, 1) := by decide +kernel
theorem dX11_go_61 : decode cX11_go 61 = .ok (.ireturn, 1) := by decide +kernel
theorem dX11_reset_0 : decode cX11_reset 0 = .ok (.aload_n 0, 1) := by decide +kernel
theorem dX11_reset_1 : decode cX11_reset 1 = .ok (.getfield 10, 3) := by decide +kernel
theorem dX11_reset_4 : decode cX11_reset 4 = .ok (.iload_n 1, 1) := by decide +kernel
theorem dX11_reset_5 : decode cX11_reset 5 = .ok (.invokevirtual 92, 3) := by decide +kernel
theorem dX11_reset_8 : decode cX11_reset 8 = .ok (.astore_n 2, 1) := by decide +kernel
theorem dX11_reset_9 : decode cX11_reset 9 = .ok (.aload_n 2, 1) := by decide +kernel
theorem dX11_reset_10 : decode cX11_reset 10 = .ok (.ifnonnull 5, 3) := by decide +kernel
theorem dX11_reset_13 : decode cX11_reset 13 = .ok (.iconst (-1), 1) := by decide +kernel
theorem dX11_reset_14 : decode cX11_reset 14 = .ok (.ireturn, 1) := by decide +kernel
theorem dX11_reset_15 : decode cX11_reset 15 = .ok (.aload_n 0, 1) := by decide +kernel
theorem dX11_reset_16 : decode cX11_reset 16 = .ok (.getfield 19, 3) := by decide +kernel
theorem dX11_reset_19 : decode cX11_reset 19 = .ok (.aload_n 0, 1) := by decide +kernel
theorem dX11_reset_20 : decode cX11_reset 20 = .ok (.getfield 10, 3) := by decide +kernel
theorem dX11_reset_23 : decode cX11_reset 23 = .ok (.invokevirtual 71, 3) := by decide +kernel
theorem dX11_reset_26 : decode cX11_reset 26 = .ok (.aload_n 2, 1) := by decide +kernel
theorem dX11_reset_27 : decode cX11_reset 27 = .ok (.invokevirtual 183, 3) := by decide +kernel
theorem dX11_reset_30 : decode cX11_reset 30 = .ok (.ireturn, 1) := by decide +kernel
theorem dX11_tick_0 : decode cX11_tick 0 = .ok (.iload_n 1, 1) := by decide +kernel
theorem dX11_tick_1 : decode cX11_tick 1 = .ok (.iconst 1, 1) := by decide +kernel
theorem dX11_tick_2 : decode cX11_tick 2 = .ok (.bipush 100, 2) := by decide +kernel
theorem dX11_tick_4 : decode cX11_tick 4 = .ok (.invokestatic 64, 3) := by decide +kernel
theorem dX11_tick_7 : decode cX11_tick 7 = .ok (.ifCond .ne 6, 3) := by decide +kernel
theorem dX11_tick_10 : decode cX11_tick 10 = .ok (.bipush (-2), 2) := by decide +kernel
theorem dX11_tick_12 : decode cX11_tick 12 = .ok (.ireturn, 1) := by decide +kernel
theorem dX11_tick_13 : decode cX11_tick 13 = .ok (.aload_n 0, 1) := by decide +kernel
theorem dX11_tick_14 : decode cX11_tick 14 = .ok (.getfield 19, 3) := by decide +kernel
theorem dX11_tick_17 : decode cX11_tick 17 = .ok (.aload_n 0, 1) := by decide +kernel
theorem dX11_tick_18 : decode cX11_tick 18 = .ok (.getfield 10, 3) := by decide +kernel
theorem dX11_tick_21 : decode cX11_tick 21 = .ok (.invokevirtual 71, 3) := by decide +kernel
theorem dX11_tick_24 : decode cX11_tick 24 = .ok (.iconst 0, 1) := by decide +kernel
theorem dX11_tick_25 : decode cX11_tick 25 = .ok (.istore_n 2, 1) := by decide +kernel
theorem dX11_tick_26 : decode cX11_tick 26 = .ok (.iconst 0, 1) := by decide +kernel
theorem dX11_tick_27 : decode cX11_tick 27 = .ok (.istore_n 3, 1) := by decide +kernel
theorem dX11_tick_28 : decode cX11_tick 28 = .ok (.iload_n 3, 1) := by decide +kernel
theorem dX11_tick_29 : decode cX11_tick 29 = .ok (.iload_n 1, 1) := by decide +kernel
theorem dX11_tick_30 : decode cX11_tick 30 = .ok (.if_icmp .ge 62, 3) := by decide +kernel
theorem dX11_tick_33 : decode cX11_tick 33 = .ok (.aload_n 0, 1) := by decide +kernel
theorem dX11_tick_34 : decode cX11_tick 34 = .ok (.getfield 10, 3) := by decide +kernel
theorem dX11_tick_37 : decode cX11_tick 37 = .ok (.getfield 186, 3) := by decide +kernel
theorem dX11_tick_40 : decode cX11_tick 40 = .ok (.astore 4, 2) := by decide +kernel
theorem dX11_tick_42 : decode cX11_tick 42 = .ok (.aload 4, 2) := by decide +kernel
theorem dX11_tick_44 : decode cX11_tick 44 = .ok (.arraylength, 1) := by decide +kernel
theorem dX11_tick_45 : decode cX11_tick 45 = .ok (.istore 5, 2) := by decide +kernel
theorem dX11_tick_47 : decode cX11_tick 47 = .ok (.iconst 0, 1) := by decide +kernel
theorem dX11_tick_48 : decode cX11_tick 48 = .ok (.istore 6, 2) := by decide +kernel
theorem dX11_tick_50 : decode cX11_tick 50 = .ok (.iload 6, 2) := by decide +kernel
theorem dX11_tick_52 : decode cX11_tick 52 = .ok (.iload 5, 2) := by decide +kernel
theorem dX11_tick_54 : decode cX11_tick 54 = .ok (.if_icmp .ge 32, 3) := by decide +kernel
theorem dX11_tick_57 : decode cX11_tick 57 = .ok (.aload 4, 2) := by decide +kernel
theorem dX11_tick_59 : decode cX11_tick 59 = .ok (.iload 6, 2) := by decide +kernel
theorem dX11_tick_61 : decode cX11_tick 61 = .ok (.aaload, 1) := by decide +kernel
theorem dX11_tick_62 : decode cX11_tick 62 = .ok (.astore 7, 2) := by decide +kernel
theorem dX11_tick_64 : decode cX11_tick 64 = .ok (.iload_n 2, 1) := by decide +kernel
theorem dX11_tick_65 : decode cX11_tick 65 = .ok (.aload 7, 2) := by decide +kernel
theorem dX11_tick_67 : decode cX11_tick 67 = .ok (.aload_n 0, 1) := by decide +kernel
theorem dX11_tick_68 : decode cX11_tick 68 = .ok (.getfield 10, 3) := by decide +kernel
theorem dX11_tick_71 : decode cX11_tick 71 = .ok (.aload_n 0, 1) := by decide +kernel
theorem dX11_tick_72 : decode cX11_tick 72 = .ok (.getfield 42, 3) := by decide +kernel
theorem dX11_tick_75 : decode cX11_tick 75 = .ok (.invokevirtual 190, 3) := by decide +kernel
theorem dX11_tick_78 : decode cX11_tick 78 = .ok (.iadd, 1) := by decide +kernel
theorem dX11_tick_79 : decode cX11_tick 79 = .ok (.istore_n 2, 1) := by decide +kernel
theorem dX11_tick_80 : decode cX11_tick 80 = .ok (.iinc 6 1, 3) := by decide +kernel
theorem dX11_tick_83 : decode cX11_tick 83 = .ok (.goto (-33), 3) := by decide +kernel
theorem dX11_tick_86 : decode cX11_tick 86 = .ok (.iinc 3 1, 3) := by decide +kernel
theorem dX11_tick_89 : decode cX11_tick 89 = .ok (.goto (-61), 3) := by decide +kernel
theorem dX11_tick_92 : decode cX11_tick 92 = .ok (.iload_n 2, 1) := by decide +kernel
theorem dX11_tick_93 : decode cX11_tick 93 = .ok (.ireturn, 1) := by decide +kernel
theorem dX11_carryOut_0 : decode cX11_carryOut 0 = .ok (.aload_n 0, 1) := by decide +kernel
theorem dX11_carryOut_1 : decode cX11_carryOut 1 = .ok (.getfield 10, 3) := by decide +kernel
theorem dX11_carryOut_4 : decode cX11_carryOut 4 = .ok (.iload_n 1, 1) := by decide +kernel
theorem dX11_carryOut_5 : decode cX11_carryOut 5 = .ok (.invokevirtual 92, 3) := by decide +kernel
theorem dX11_carryOut_8 : decode cX11_carryOut 8 = .ok (.astore_n 2, 1) := by decide +kernel
theorem dX11_carryOut_9 : decode cX11_carryOut 9 = .ok (.aload_n 2, 1) := by decide +kernel
theorem dX11_carryOut_10 : decode cX11_carryOut 10 = .ok (.ifnonnull 5, 3) := by decide +kernel
theorem dX11_carryOut_13 : decode cX11_carryOut 13 = .ok (.iconst (-1), 1) := by decide +kernel
theorem dX11_carryOut_14 : decode cX11_carryOut 14 = .ok (.ireturn, 1) := by decide +kernel
theorem dX11_carryOut_15 : decode cX11_carryOut 15 = .ok (.aload_n 0, 1) := by decide +kernel
theorem dX11_carryOut_16 : decode cX11_carryOut 16 = .ok (.getfield 30, 3) := by decide +kernel
theorem dX11_carryOut_19 : decode cX11_carryOut 19 = .ok (.invokevirtual 194, 3) := by decide +kernel
theorem dX11_carryOut_22 : decode cX11_carryOut 22 = .ok (.ifCond .ne 6, 3) := by decide +kernel
theorem dX11_carryOut_25 : decode cX11_carryOut 25 = .ok (.bipush (-3), 2) := by decide +kernel
theorem dX11_carryOut_27 : decode cX11_carryOut 27 = .ok (.ireturn, 1) := by decide +kernel
theorem dX11_carryOut_28 : decode cX11_carryOut 28 = .ok (.aload_n 0, 1) := by decide +kernel
theorem dX11_carryOut_29 : decode cX11_carryOut 29 = .ok (.getfield 19, 3) := by decide +kernel
theorem dX11_carryOut_32 : decode cX11_carryOut 32 = .ok (.aload_n 0, 1) := by decide +kernel
theorem dX11_carryOut_33 : decode cX11_carryOut 33 = .ok (.getfield 10, 3) := by decide +kernel
theorem dX11_carryOut_36 : decode cX11_carryOut 36 = .ok (.invokevirtual 71, 3) := by decide +kernel
theorem dX11_carryOut_39 : decode cX11_carryOut 39 = .ok (.aload_n 0, 1) := by decide +kernel
theorem dX11_carryOut_40 : decode cX11_carryOut 40 = .ok (.getfield 38, 3) := by decide +kernel
theorem dX11_carryOut_43 : decode cX11_carryOut 43 = .ok (.iconst 0, 1) := by decide +kernel
theorem dX11_carryOut_44 : decode cX11_carryOut 44 = .ok (.putfield 197, 3) := by decide +kernel
theorem dX11_carryOut_47 : decode cX11_carryOut 47 = .ok (.aload_n 0, 1) := by decide +kernel
theorem dX11_carryOut_48 : decode cX11_carryOut 48 = .ok (.getfield 30, 3) := by decide +kernel
theorem dX11_carryOut_51 : decode cX11_carryOut 51 = .ok (.aload_n 2, 1) := by decide +kernel
theorem dX11_carryOut_52 : decode cX11_carryOut 52 = .ok (.invokevirtual 202, 3) := by decide +kernel
theorem dX11_carryOut_55 : decode cX11_carryOut 55 = .ok (.ireturn, 1) := by decide +kernel
theorem dX11_lamp_0 : decode cX11_lamp 0 = .ok (.aload_n 0, 1) := by decide +kernel
theorem dX11_lamp_1 : decode cX11_lamp 1 = .ok (.getfield 10, 3) := by decide +kernel
theorem dX11_lamp_4 : decode cX11_lamp 4 = .ok (.iload_n 1, 1) := by decide +kernel
theorem dX11_lamp_5 : decode cX11_lamp 5 = .ok (.invokevirtual 92, 3) := by decide +kernel
theorem dX11_lamp_8 : decode cX11_lamp 8 = .ok (.astore 4, 2) := by decide +kernel
theorem dX11_lamp_10 : decode cX11_lamp 10 = .ok (.aload 4, 2) := by decide +kernel
theorem dX11_lamp_12 : decode cX11_lamp 12 = .ok (.ifnull 12, 3) := by decide +kernel
theorem dX11_lamp_15 : decode cX11_lamp 15 = .ok (.aload 4, 2) := by decide +kernel
theorem dX11_lamp_17 : decode cX11_lamp 17 = .ok (.iload_n 2, 1) := by decide +kernel
theorem dX11_lamp_18 : decode cX11_lamp 18 = .ok (.invokevirtual 121, 3) := by decide +kernel
theorem dX11_lamp_21 : decode cX11_lamp 21 = .ok (.ifCond .ne 5, 3) := by decide +kernel
theorem dX11_lamp_24 : decode cX11_lamp 24 = .ok (.iconst (-1), 1) := by decide +kernel
theorem dX11_lamp_25 : decode cX11_lamp 25 = .ok (.ireturn, 1) := by decide +kernel
theorem dX11_lamp_26 : decode cX11_lamp 26 = .ok (.iload_n 3, 1) := by decide +kernel
theorem dX11_lamp_27 : decode cX11_lamp 27 = .ok (.tableswitch 79 0 4 #[33, 41, 49, 57, 65], 33) := by decide +kernel
theorem dX11_lamp_60 : decode cX11_lamp 60 = .ok (.aload 4, 2) := by decide +kernel
theorem dX11_lamp_62 : decode cX11_lamp 62 = .ok (.getfield 206, 3) := by decide +kernel
theorem dX11_lamp_65 : decode cX11_lamp 65 = .ok (.iload_n 2, 1) := by decide +kernel
theorem dX11_lamp_66 : decode cX11_lamp 66 = .ok (.iaload, 1) := by decide +kernel
theorem dX11_lamp_67 : decode cX11_lamp 67 = .ok (.ireturn, 1) := by decide +kernel
theorem dX11_lamp_68 : decode cX11_lamp 68 = .ok (.aload 4, 2) := by decide +kernel
theorem dX11_lamp_70 : decode cX11_lamp 70 = .ok (.getfield 128, 3) := by decide +kernel
theorem dX11_lamp_73 : decode cX11_lamp 73 = .ok (.iload_n 2, 1) := by decide +kernel
theorem dX11_lamp_74 : decode cX11_lamp 74 = .ok (.iaload, 1) := by decide +kernel
theorem dX11_lamp_75 : decode cX11_lamp 75 = .ok (.ireturn, 1) := by decide +kernel
theorem dX11_lamp_76 : decode cX11_lamp 76 = .ok (.aload 4, 2) := by decide +kernel
theorem dX11_lamp_78 : decode cX11_lamp 78 = .ok (.getfield 155, 3) := by decide +kernel
theorem dX11_lamp_81 : decode cX11_lamp 81 = .ok (.iload_n 2, 1) := by decide +kernel
theorem dX11_lamp_82 : decode cX11_lamp 82 = .ok (.iaload, 1) := by decide +kernel
theorem dX11_lamp_83 : decode cX11_lamp 83 = .ok (.ireturn, 1) := by decide +kernel
theorem dX11_lamp_84 : decode cX11_lamp 84 = .ok (.aload 4, 2) := by decide +kernel
theorem dX11_lamp_86 : decode cX11_lamp 86 = .ok (.getfield 209, 3) := by decide +kernel
theorem dX11_lamp_89 : decode cX11_lamp 89 = .ok (.iload_n 2, 1) := by decide +kernel
theorem dX11_lamp_90 : decode cX11_lamp 90 = .ok (.iaload, 1) := by decide +kernel
theorem dX11_lamp_91 : decode cX11_lamp 91 = .ok (.ireturn, 1) := by decide +kernel
theorem dX11_lamp_92 : decode cX11_lamp 92 = .ok (.aload 4, 2) := by decide +kernel
theorem dX11_lamp_94 : decode cX11_lamp 94 = .ok (.iload_n 2, 1) := by decide +kernel
theorem dX11_lamp_95 : decode cX11_lamp 95 = .ok (.aload_n 0, 1) := by decide +kernel
theorem dX11_lamp_96 : decode cX11_lamp 96 = .ok (.getfield 10, 3) := by decide +kernel
theorem dX11_lamp_99 : decode cX11_lamp 99 = .ok (.getfield 78, 3) := by decide +kernel
theorem dX11_lamp_102 : decode cX11_lamp 102 = .ok (.invokevirtual 212, 3) := by decide +kernel
theorem dX11_lamp_105 : decode cX11_lamp 105 = .ok (.ireturn, 1) := by decide +kernel
theorem dX11_lamp_106 : decode cX11_lamp 106 = .ok (.bipush (-2), 2) := by decide +kernel
theorem dX11_lamp_108 : decode cX11_lamp 108 = .ok (.ireturn, 1) := by decide +kernel
theorem dX11_dimmer_0 : decode cX11_dimmer 0 = .ok (.aload_n 0, 1) := by decide +kernel
theorem dX11_dimmer_1 : decode cX11_dimmer 1 = .ok (.getfield 10, 3) := by decide +kernel
theorem dX11_dimmer_4 : decode cX11_dimmer 4 = .ok (.iload_n 1, 1) := by decide +kernel
theorem dX11_dimmer_5 : decode cX11_dimmer 5 = .ok (.invokevirtual 92, 3) := by decide +kernel
theorem dX11_dimmer_8 : decode cX11_dimmer 8 = .ok (.astore 4, 2) := by decide +kernel
theorem dX11_dimmer_10 : decode cX11_dimmer 10 = .ok (.aload 4, 2) := by decide +kernel
theorem dX11_dimmer_12 : decode cX11_dimmer 12 = .ok (.ifnull 10, 3) := by decide +kernel
theorem dX11_dimmer_15 : decode cX11_dimmer 15 = .ok (.iload_n 2, 1) := by decide +kernel
theorem dX11_dimmer_16 : decode cX11_dimmer 16 = .ok (.invokestatic 131, 3) := by decide +kernel
theorem dX11_dimmer_19 : decode cX11_dimmer 19 = .ok (.ifCond .ne 5, 3) := by decide +kernel
theorem dX11_dimmer_22 : decode cX11_dimmer 22 = .ok (.iconst (-1), 1) := by decide +kernel
theorem dX11_dimmer_23 : decode cX11_dimmer 23 = .ok (.ireturn, 1) := by decide +kernel
theorem dX11_dimmer_24 : decode cX11_dimmer 24 = .ok (.iload_n 3, 1) := by decide +kernel
theorem dX11_dimmer_25 : decode cX11_dimmer 25 = .ok (.tableswitch 138 0 5 #[39, 47, 73, 91, 102, 109], 39) := by decide +kernel
theorem dX11_dimmer_64 : decode cX11_dimmer 64 = .ok (.aload 4, 2) := by decide +kernel
theorem dX11_dimmer_66 : decode cX11_dimmer 66 = .ok (.getfield 137, 3) := by decide +kernel
theorem dX11_dimmer_69 : decode cX11_dimmer 69 = .ok (.iload_n 2, 1) := by decide +kernel
theorem dX11_dimmer_70 : decode cX11_dimmer 70 = .ok (.iaload, 1) := by decide +kernel
theorem dX11_dimmer_71 : decode cX11_dimmer 71 = .ok (.ireturn, 1) := by decide +kernel
theorem dX11_dimmer_72 : decode cX11_dimmer 72 = .ok (.aload_n 0, 1) := by decide +kernel
theorem dX11_dimmer_73 : decode cX11_dimmer 73 = .ok (.getfield 42, 3) := by decide +kernel
theorem dX11_dimmer_76 : decode cX11_dimmer 76 = .ok (.aload 4, 2) := by decide +kernel
theorem dX11_dimmer_78 : decode cX11_dimmer 78 = .ok (.aload_n 0, 1) := by decide +kernel
theorem dX11_dimmer_79 : decode cX11_dimmer 79 = .ok (.getfield 10, 3) := by decide +kernel
theorem dX11_dimmer_82 : decode cX11_dimmer 82 = .ok (.getfield 78, 3) := by decide +kernel
theorem dX11_dimmer_85 : decode cX11_dimmer 85 = .ok (.invokevirtual 216, 3) := by decide +kernel
theorem dX11_dimmer_88 : decode cX11_dimmer 88 = .ok (.aload_n 0, 1) := by decide +kernel
theorem dX11_dimmer_89 : decode cX11_dimmer 89 = .ok (.getfield 42, 3) := by decide +kernel
theorem dX11_dimmer_92 : decode cX11_dimmer 92 = .ok (.getfield 145, 3) := by decide +kernel
theorem dX11_dimmer_95 : decode cX11_dimmer 95 = .ok (.iload_n 2, 1) := by decide +kernel
theorem dX11_dimmer_96 : decode cX11_dimmer 96 = .ok (.iaload, 1) := by decide +kernel
theorem dX11_dimmer_97 : decode cX11_dimmer 97 = .ok (.ireturn, 1) := by decide +kernel
theorem dX11_dimmer_98 : decode cX11_dimmer 98 = .ok (.aload 4, 2) := by decide +kernel
theorem dX11_dimmer_100 : decode cX11_dimmer 100 = .ok (.getfield 219, 3) := by decide +kernel
theorem dX11_dimmer_103 : decode cX11_dimmer 103 = .ok (.iload_n 2, 1) := by decide +kernel
theorem dX11_dimmer_104 : decode cX11_dimmer 104 = .ok (.invokevirtual 223, 3) := by decide +kernel
theorem dX11_dimmer_107 : decode cX11_dimmer 107 = .ok (.ifCond .eq 7, 3) := by decide +kernel
theorem dX11_dimmer_110 : decode cX11_dimmer 110 = .ok (.iconst 1, 1) := by decide +kernel
theorem dX11_dimmer_111 : decode cX11_dimmer 111 = .ok (.goto 4, 3) := by decide +kernel
theorem dX11_dimmer_114 : decode cX11_dimmer 114 = .ok (.iconst 0, 1) := by decide +kernel
theorem dX11_dimmer_115 : decode cX11_dimmer 115 = .ok (.ireturn, 1) := by decide +kernel
theorem dX11_dimmer_116 : decode cX11_dimmer 116 = .ok (.aload 4, 2) := by decide +kernel
theorem dX11_dimmer_118 : decode cX11_dimmer 118 = .ok (.getfield 219, 3) := by decide +kernel
theorem dX11_dimmer_121 : decode cX11_dimmer 121 = .ok (.getfield 228, 3) := by decide +kernel
theorem dX11_dimmer_124 : decode cX11_dimmer 124 = .ok (.iload_n 2, 1) := by decide +kernel
theorem dX11_dimmer_125 : decode cX11_dimmer 125 = .ok (.iaload, 1) := by decide +kernel
theorem dX11_dimmer_126 : decode cX11_dimmer 126 = .ok (.ireturn, 1) := by decide +kernel
theorem dX11_dimmer_127 : decode cX11_dimmer 127 = .ok (.aload 4, 2) := by decide +kernel
theorem dX11_dimmer_129 : decode cX11_dimmer 129 = .ok (.iload_n 2, 1) := by decide +kernel
theorem dX11_dimmer_130 : decode cX11_dimmer 130 = .ok (.invokevirtual 231, 3) := by decide +kernel
theorem dX11_dimmer_133 : decode cX11_dimmer 133 = .ok (.ireturn, 1) := by decide +kernel
theorem dX11_dimmer_134 : decode cX11_dimmer 134 = .ok (.aload_n 0, 1) := by decide +kernel
theorem dX11_dimmer_135 : decode cX11_dimmer 135 = .ok (.getfield 49, 3) := by decide +kernel
theorem dX11_dimmer_138 : decode cX11_dimmer 138 = .ok (.aload 4, 2) := by decide +kernel
theorem dX11_dimmer_140 : decode cX11_dimmer 140 = .ok (.aload_n 0, 1) := by decide +kernel
theorem dX11_dimmer_141 : decode cX11_dimmer 141 = .ok (.getfield 10, 3) := by decide +kernel
theorem dX11_dimmer_144 : decode cX11_dimmer 144 = .ok (.getfield 78, 3) := by decide +kernel
theorem dX11_dimmer_147 : decode cX11_dimmer 147 = .ok (.invokevirtual 140, 3) := by decide +kernel
theorem dX11_dimmer_150 : decode cX11_dimmer 150 = .ok (.aload_n 0, 1) := by decide +kernel
theorem dX11_dimmer_151 : decode cX11_dimmer 151 = .ok (.getfield 49, 3) := by decide +kernel
theorem dX11_dimmer_154 : decode cX11_dimmer 154 = .ok (.getfield 144, 3) := by decide +kernel
theorem dX11_dimmer_157 : decode cX11_dimmer 157 = .ok (.getfield 145, 3) := by decide +kernel
theorem dX11_dimmer_160 : decode cX11_dimmer 160 = .ok (.iload_n 2, 1) := by decide +kernel
theorem dX11_dimmer_161 : decode cX11_dimmer 161 = .ok (.iaload, 1) := by decide +kernel
theorem dX11_dimmer_162 : decode cX11_dimmer 162 = .ok (.ireturn, 1) := by decide +kernel
theorem dX11_dimmer_163 : decode cX11_dimmer 163 = .ok (.bipush (-2), 2) := by decide +kernel
theorem dX11_dimmer_165 : decode cX11_dimmer 165 = .ok (.ireturn, 1) := by decide +kernel
theorem dX11_phase_0 : decode cX11_phase 0 = .ok (.aload_n 0, 1) := by decide +kernel
theorem dX11_phase_1 : decode cX11_phase 1 = .ok (.getfield 10, 3) := by decide +kernel
theorem dX11_phase_4 : decode cX11_phase 4 = .ok (.iload_n 1, 1) := by decide +kernel
theorem dX11_phase_5 : decode cX11_phase 5 = .ok (.invokevirtual 92, 3) := by decide +kernel
theorem dX11_phase_8 : decode cX11_phase 8 = .ok (.astore 4, 2) := by decide +kernel
theorem dX11_phase_10 : decode cX11_phase 10 = .ok (.aload 4, 2) := by decide +kernel
theorem dX11_phase_12 : decode cX11_phase 12 = .ok (.ifnull 10, 3) := by decide +kernel
theorem dX11_phase_15 : decode cX11_phase 15 = .ok (.iload_n 2, 1) := by decide +kernel
theorem dX11_phase_16 : decode cX11_phase 16 = .ok (.invokestatic 134, 3) := by decide +kernel
theorem dX11_phase_19 : decode cX11_phase 19 = .ok (.ifCond .ne 5, 3) := by decide +kernel
theorem dX11_phase_22 : decode cX11_phase 22 = .ok (.iconst (-1), 1) := by decide +kernel
theorem dX11_phase_23 : decode cX11_phase 23 = .ok (.ireturn, 1) := by decide +kernel
theorem dX11_phase_24 : decode cX11_phase 24 = .ok (.iload_n 3, 1) := by decide +kernel
theorem dX11_phase_25 : decode cX11_phase 25 = .ok (.tableswitch 126 0 4 #[35, 61, 79, 90, 97], 35) := by decide +kernel
theorem dX11_phase_60 : decode cX11_phase 60 = .ok (.aload_n 0, 1) := by decide +kernel
theorem dX11_phase_61 : decode cX11_phase 61 = .ok (.getfield 42, 3) := by decide +kernel
theorem dX11_phase_64 : decode cX11_phase 64 = .ok (.aload 4, 2) := by decide +kernel
theorem dX11_phase_66 : decode cX11_phase 66 = .ok (.aload_n 0, 1) := by decide +kernel
theorem dX11_phase_67 : decode cX11_phase 67 = .ok (.getfield 10, 3) := by decide +kernel
theorem dX11_phase_70 : decode cX11_phase 70 = .ok (.getfield 78, 3) := by decide +kernel
theorem dX11_phase_73 : decode cX11_phase 73 = .ok (.invokevirtual 216, 3) := by decide +kernel
theorem dX11_phase_76 : decode cX11_phase 76 = .ok (.aload_n 0, 1) := by decide +kernel
theorem dX11_phase_77 : decode cX11_phase 77 = .ok (.getfield 42, 3) := by decide +kernel
theorem dX11_phase_80 : decode cX11_phase 80 = .ok (.getfield 148, 3) := by decide +kernel
theorem dX11_phase_83 : decode cX11_phase 83 = .ok (.iload_n 2, 1) := by decide +kernel
theorem dX11_phase_84 : decode cX11_phase 84 = .ok (.iaload, 1) := by decide +kernel
theorem dX11_phase_85 : decode cX11_phase 85 = .ok (.ireturn, 1) := by decide +kernel
theorem dX11_phase_86 : decode cX11_phase 86 = .ok (.aload 4, 2) := by decide +kernel
theorem dX11_phase_88 : decode cX11_phase 88 = .ok (.getfield 234, 3) := by decide +kernel
theorem dX11_phase_91 : decode cX11_phase 91 = .ok (.iload_n 2, 1) := by decide +kernel
theorem dX11_phase_92 : decode cX11_phase 92 = .ok (.invokevirtual 223, 3) := by decide +kernel
theorem dX11_phase_95 : decode cX11_phase 95 = .ok (.ifCond .eq 7, 3) := by decide +kernel
theorem dX11_phase_98 : decode cX11_phase 98 = .ok (.iconst 1, 1) := by decide +kernel
theorem dX11_phase_99 : decode cX11_phase 99 = .ok (.goto 4, 3) := by decide +kernel
theorem dX11_phase_102 : decode cX11_phase 102 = .ok (.iconst 0, 1) := by decide +kernel
theorem dX11_phase_103 : decode cX11_phase 103 = .ok (.ireturn, 1) := by decide +kernel
theorem dX11_phase_104 : decode cX11_phase 104 = .ok (.aload 4, 2) := by decide +kernel
theorem dX11_phase_106 : decode cX11_phase 106 = .ok (.getfield 234, 3) := by decide +kernel
theorem dX11_phase_109 : decode cX11_phase 109 = .ok (.getfield 228, 3) := by decide +kernel
theorem dX11_phase_112 : decode cX11_phase 112 = .ok (.iload_n 2, 1) := by decide +kernel
theorem dX11_phase_113 : decode cX11_phase 113 = .ok (.iaload, 1) := by decide +kernel
theorem dX11_phase_114 : decode cX11_phase 114 = .ok (.ireturn, 1) := by decide +kernel
theorem dX11_phase_115 : decode cX11_phase 115 = .ok (.aload 4, 2) := by decide +kernel
theorem dX11_phase_117 : decode cX11_phase 117 = .ok (.iload_n 2, 1) := by decide +kernel
theorem dX11_phase_118 : decode cX11_phase 118 = .ok (.invokevirtual 237, 3) := by decide +kernel
theorem dX11_phase_121 : decode cX11_phase 121 = .ok (.ireturn, 1) := by decide +kernel
theorem dX11_phase_122 : decode cX11_phase 122 = .ok (.aload_n 0, 1) := by decide +kernel
theorem dX11_phase_123 : decode cX11_phase 123 = .ok (.getfield 49, 3) := by decide +kernel
theorem dX11_phase_126 : decode cX11_phase 126 = .ok (.aload 4, 2) := by decide +kernel
theorem dX11_phase_128 : decode cX11_phase 128 = .ok (.aload_n 0, 1) := by decide +kernel
theorem dX11_phase_129 : decode cX11_phase 129 = .ok (.getfield 10, 3) := by decide +kernel
theorem dX11_phase_132 : decode cX11_phase 132 = .ok (.getfield 78, 3) := by decide +kernel
theorem dX11_phase_135 : decode cX11_phase 135 = .ok (.invokevirtual 140, 3) := by decide +kernel
theorem dX11_phase_138 : decode cX11_phase 138 = .ok (.aload_n 0, 1) := by decide +kernel
theorem dX11_phase_139 : decode cX11_phase 139 = .ok (.getfield 49, 3) := by decide +kernel
theorem dX11_phase_142 : decode cX11_phase 142 = .ok (.getfield 144, 3) := by decide +kernel
theorem dX11_phase_145 : decode cX11_phase 145 = .ok (.getfield 148, 3) := by decide +kernel
theorem dX11_phase_148 : decode cX11_phase 148 = .ok (.iload_n 2, 1) := by decide +kernel
theorem dX11_phase_149 : decode cX11_phase 149 = .ok (.iaload, 1) := by decide +kernel
theorem dX11_phase_150 : decode cX11_phase 150 = .ok (.ireturn, 1) := by decide +kernel
theorem dX11_phase_151 : decode cX11_phase 151 = .ok (.bipush (-2), 2) := by decide +kernel
theorem dX11_phase_153 : decode cX11_phase 153 = .ok (.ireturn, 1) := by decide +kernel
theorem dX11_cue_0 : decode cX11_cue 0 = .ok (.aload_n 0, 1) := by decide +kernel
theorem dX11_cue_1 : decode cX11_cue 1 = .ok (.getfield 10, 3) := by decide +kernel
theorem dX11_cue_4 : decode cX11_cue 4 = .ok (.iload_n 1, 1) := by decide +kernel
theorem dX11_cue_5 : decode cX11_cue 5 = .ok (.invokevirtual 92, 3) := by decide +kernel
theorem dX11_cue_8 : decode cX11_cue 8 = .ok (.astore 4, 2) := by decide +kernel
theorem dX11_cue_10 : decode cX11_cue 10 = .ok (.aload 4, 2) := by decide +kernel
theorem dX11_cue_12 : decode cX11_cue 12 = .ok (.ifnull 10, 3) := by decide +kernel
theorem dX11_cue_15 : decode cX11_cue 15 = .ok (.iload_n 2, 1) := by decide +kernel
theorem dX11_cue_16 : decode cX11_cue 16 = .ok (.invokestatic 158, 3) := by decide +kernel
theorem dX11_cue_19 : decode cX11_cue 19 = .ok (.ifCond .ne 5, 3) := by decide +kernel
theorem dX11_cue_22 : decode cX11_cue 22 = .ok (.iconst (-1), 1) := by decide +kernel
theorem dX11_cue_23 : decode cX11_cue 23 = .ok (.ireturn, 1) := by decide +kernel
theorem dX11_cue_24 : decode cX11_cue 24 = .ok (.iload_n 3, 1) := by decide +kernel
theorem dX11_cue_25 : decode cX11_cue 25 = .ok (.tableswitch 58 0 2 #[27, 42, 50], 27) := by decide +kernel
theorem dX11_cue_52 : decode cX11_cue 52 = .ok (.aload 4, 2) := by decide +kernel
theorem dX11_cue_54 : decode cX11_cue 54 = .ok (.iload_n 2, 1) := by decide +kernel
theorem dX11_cue_55 : decode cX11_cue 55 = .ok (.invokevirtual 174, 3) := by decide +kernel
theorem dX11_cue_58 : decode cX11_cue 58 = .ok (.ifCond .eq 7, 3) := by decide +kernel
theorem dX11_cue_61 : decode cX11_cue 61 = .ok (.iconst 1, 1) := by decide +kernel
theorem dX11_cue_62 : decode cX11_cue 62 = .ok (.goto 4, 3) := by decide +kernel
theorem dX11_cue_65 : decode cX11_cue 65 = .ok (.iconst 0, 1) := by decide +kernel
theorem dX11_cue_66 : decode cX11_cue 66 = .ok (.ireturn, 1) := by decide +kernel
theorem dX11_cue_67 : decode cX11_cue 67 = .ok (.aload 4, 2) := by decide +kernel
theorem dX11_cue_69 : decode cX11_cue 69 = .ok (.getfield 177, 3) := by decide +kernel
theorem dX11_cue_72 : decode cX11_cue 72 = .ok (.iload_n 2, 1) := by decide +kernel
theorem dX11_cue_73 : decode cX11_cue 73 = .ok (.iaload, 1) := by decide +kernel
theorem dX11_cue_74 : decode cX11_cue 74 = .ok (.ireturn, 1) := by decide +kernel
theorem dX11_cue_75 : decode cX11_cue 75 = .ok (.aload_n 0, 1) := by decide +kernel
theorem dX11_cue_76 : decode cX11_cue 76 = .ok (.aload 4, 2) := by decide +kernel
theorem dX11_cue_78 : decode cX11_cue 78 = .ok (.iload_n 2, 1) := by decide +kernel
theorem dX11_cue_79 : decode cX11_cue 79 = .ok (.invokevirtual 240, 3) := by decide +kernel
theorem dX11_cue_82 : decode cX11_cue 82 = .ok (.ireturn, 1) := by decide +kernel
theorem dX11_cue_83 : decode cX11_cue 83 = .ok (.bipush (-2), 2) := by decide +kernel
theorem dX11_cue_85 : decode cX11_cue 85 = .ok (.ireturn, 1) := by decide +kernel
theorem dX11_inCue_0 : decode cX11_inCue 0 = .ok (.aload_n 0, 1) := by decide +kernel
theorem dX11_inCue_1 : decode cX11_inCue 1 = .ok (.getfield 10, 3) := by decide +kernel
theorem dX11_inCue_4 : decode cX11_inCue 4 = .ok (.iload_n 1, 1) := by decide +kernel
theorem dX11_inCue_5 : decode cX11_inCue 5 = .ok (.invokevirtual 92, 3) := by decide +kernel
theorem dX11_inCue_8 : decode cX11_inCue 8 = .ok (.astore 4, 2) := by decide +kernel
theorem dX11_inCue_10 : decode cX11_inCue 10 = .ok (.aload 4, 2) := by decide +kernel
theorem dX11_inCue_12 : decode cX11_inCue 12 = .ok (.ifnull 19, 3) := by decide +kernel
theorem dX11_inCue_15 : decode cX11_inCue 15 = .ok (.iload_n 2, 1) := by decide +kernel
theorem dX11_inCue_16 : decode cX11_inCue 16 = .ok (.invokestatic 158, 3) := by decide +kernel
theorem dX11_inCue_19 : decode cX11_inCue 19 = .ok (.ifCond .eq 12, 3) := by decide +kernel
theorem dX11_inCue_22 : decode cX11_inCue 22 = .ok (.aload 4, 2) := by decide +kernel
theorem dX11_inCue_24 : decode cX11_inCue 24 = .ok (.iload_n 3, 1) := by decide +kernel
theorem dX11_inCue_25 : decode cX11_inCue 25 = .ok (.invokevirtual 121, 3) := by decide +kernel
theorem dX11_inCue_28 : decode cX11_inCue 28 = .ok (.ifCond .ne 5, 3) := by decide +kernel
theorem dX11_inCue_31 : decode cX11_inCue 31 = .ok (.iconst (-1), 1) := by decide +kernel
theorem dX11_inCue_32 : decode cX11_inCue 32 = .ok (.ireturn, 1) := by decide +kernel
theorem dX11_inCue_33 : decode cX11_inCue 33 = .ok (.aload 4, 2) := by decide +kernel
theorem dX11_inCue_35 : decode cX11_inCue 35 = .ok (.iload_n 2, 1) := by decide +kernel
theorem dX11_inCue_36 : decode cX11_inCue 36 = .ok (.invokevirtual 174, 3) := by decide +kernel
theorem dX11_inCue_39 : decode cX11_inCue 39 = .ok (.ifCond .eq 15, 3) := by decide +kernel
theorem dX11_inCue_42 : decode cX11_inCue 42 = .ok (.aload 4, 2) := by decide +kernel
theorem dX11_inCue_44 : decode cX11_inCue 44 = .ok (.getfield 244, 3) := by decide +kernel
theorem dX11_inCue_47 : decode cX11_inCue 47 = .ok (.iload_n 2, 1) := by decide +kernel
theorem dX11_inCue_48 : decode cX11_inCue 48 = .ok (.aaload, 1) := by decide +kernel
theorem dX11_inCue_49 : decode cX11_inCue 49 = .ok (.iload_n 3, 1) := by decide +kernel
theorem dX11_inCue_50 : decode cX11_inCue 50 = .ok (.iaload, 1) := by decide +kernel
theorem dX11_inCue_51 : decode cX11_inCue 51 = .ok (.goto 5, 3) := by decide +kernel
theorem dX11_inCue_54 : decode cX11_inCue 54 = .ok (.bipush (-6), 2) := by decide +kernel
theorem dX11_inCue_56 : decode cX11_inCue 56 = .ok (.ireturn, 1) := by decide +kernel
theorem dX11_of_0 : decode cX11_of 0 = .ok (.aload_n 0, 1) := by decide +kernel
theorem dX11_of_1 : decode cX11_of 1 = .ok (.getfield 10, 3) := by decide +kernel
theorem dX11_of_4 : decode cX11_of 4 = .ok (.iload_n 1, 1) := by decide +kernel
theorem dX11_of_5 : decode cX11_of 5 = .ok (.invokevirtual 92, 3) := by decide +kernel
theorem dX11_of_8 : decode cX11_of 8 = .ok (.astore_n 3, 1) := by decide +kernel
theorem dX11_of_9 : decode cX11_of 9 = .ok (.aload_n 3, 1) := by decide +kernel
theorem dX11_of_10 : decode cX11_of 10 = .ok (.ifnonnull 5, 3) := by decide +kernel
theorem dX11_of_13 : decode cX11_of 13 = .ok (.iconst (-1), 1) := by decide +kernel
theorem dX11_of_14 : decode cX11_of 14 = .ok (.ireturn, 1) := by decide +kernel
theorem dX11_of_15 : decode cX11_of 15 = .ok (.iload_n 2, 1) := by decide +kernel
theorem dX11_of_16 : decode cX11_of 16 = .ok (.tableswitch 156 0 8 #[52, 57, 62, 67, 72, 80, 103, 111, 119], 52) := by decide +kernel
theorem dX11_of_68 : decode cX11_of 68 = .ok (.aload_n 3, 1) := by decide +kernel
theorem dX11_of_69 : decode cX11_of 69 = .ok (.getfield 106, 3) := by decide +kernel
theorem dX11_of_72 : decode cX11_of 72 = .ok (.ireturn, 1) := by decide +kernel
theorem dX11_of_73 : decode cX11_of 73 = .ok (.aload_n 3, 1) := by decide +kernel
theorem dX11_of_74 : decode cX11_of 74 = .ok (.getfield 100, 3) := by decide +kernel
theorem dX11_of_77 : decode cX11_of 77 = .ok (.ireturn, 1) := by decide +kernel
theorem dX11_of_78 : decode cX11_of 78 = .ok (.aload_n 3, 1) := by decide +kernel
theorem dX11_of_79 : decode cX11_of 79 = .ok (.getfield 248, 3) := by decide +kernel
theorem dX11_of_82 : decode cX11_of 82 = .ok (.ireturn, 1) := by decide +kernel
theorem dX11_of_83 : decode cX11_of 83 = .ok (.aload_n 3, 1) := by decide +kernel
theorem dX11_of_84 : decode cX11_of 84 = .ok (.invokevirtual 165, 3) := by decide +kernel
theorem dX11_of_87 : decode cX11_of 87 = .ok (.ireturn, 1) := by decide +kernel
theorem dX11_of_88 : decode cX11_of 88 = .ok (.aload_n 3, 1) := by decide +kernel
theorem dX11_of_89 : decode cX11_of 89 = .ok (.getfield 251, 3) := by decide +kernel
theorem dX11_of_92 : decode cX11_of 92 = .ok (.invokevirtual 255, 3) := by decide +kernel
theorem dX11_of_95 : decode cX11_of 95 = .ok (.ireturn, 1) := by decide +kernel
theorem dX11_of_96 : decode cX11_of 96 = .ok (.aload_n 0, 1) := by decide +kernel
theorem dX11_of_97 : decode cX11_of 97 = .ok (.getfield 42, 3) := by decide +kernel
theorem dX11_of_100 : decode cX11_of 100 = .ok (.aload_n 3, 1) := by decide +kernel
theorem dX11_of_101 : decode cX11_of 101 = .ok (.aload_n 0, 1) := by decide +kernel
theorem dX11_of_102 : decode cX11_of 102 = .ok (.getfield 10, 3) := by decide +kernel
theorem dX11_of_105 : decode cX11_of 105 = .ok (.getfield 78, 3) := by decide +kernel
theorem dX11_of_108 : decode cX11_of 108 = .ok (.invokevirtual 216, 3) := by decide +kernel
theorem dX11_of_111 : decode cX11_of 111 = .ok (.aload_n 0, 1) := by decide +kernel
theorem dX11_of_112 : decode cX11_of 112 = .ok (.getfield 42, 3) := by decide +kernel
theorem dX11_of_115 : decode cX11_of 115 = .ok (.invokevirtual 260, 3) := by decide +kernel
theorem dX11_of_118 : decode cX11_of 118 = .ok (.ireturn, 1) := by decide +kernel
theorem dX11_of_119 : decode cX11_of 119 = .ok (.aload_n 3, 1) := by decide +kernel
theorem dX11_of_120 : decode cX11_of 120 = .ok (.getfield 219, 3) := by decide +kernel
theorem dX11_of_123 : decode cX11_of 123 = .ok (.getfield 263, 3) := by decide +kernel
theorem dX11_of_126 : decode cX11_of 126 = .ok (.ireturn, 1) := by decide +kernel
theorem dX11_of_127 : decode cX11_of 127 = .ok (.aload_n 3, 1) := by decide +kernel
theorem dX11_of_128 : decode cX11_of 128 = .ok (.getfield 234, 3) := by decide +kernel
theorem dX11_of_131 : decode cX11_of 131 = .ok (.getfield 263, 3) := by decide +kernel
theorem dX11_of_134 : decode cX11_of 134 = .ok (.ireturn, 1) := by decide +kernel
theorem dX11_of_135 : decode cX11_of 135 = .ok (.aload_n 0, 1) := by decide +kernel
theorem dX11_of_136 : decode cX11_of 136 = .ok (.getfield 42, 3) := by decide +kernel
theorem dX11_of_139 : decode cX11_of 139 = .ok (.aload_n 3, 1) := by decide +kernel
theorem dX11_of_140 : decode cX11_of 140 = .ok (.aload_n 0, 1) := by decide +kernel
theorem dX11_of_141 : decode cX11_of 141 = .ok (.getfield 10, 3) := by decide +kernel
theorem dX11_of_144 : decode cX11_of 144 = .ok (.getfield 78, 3) := by decide +kernel
theorem dX11_of_147 : decode cX11_of 147 = .ok (.invokevirtual 216, 3) := by decide +kernel
theorem dX11_of_150 : decode cX11_of 150 = .ok (.aload_n 0, 1) := by decide +kernel
theorem dX11_of_151 : decode cX11_of 151 = .ok (.getfield 42, 3) := by decide +kernel
theorem dX11_of_154 : decode cX11_of 154 = .ok (.getfield 148, 3) := by decide +kernel
theorem dX11_of_157 : decode cX11_of 157 = .ok (.invokestatic 266, 3) := by decide +kernel
theorem dX11_of_160 : decode cX11_of 160 = .ok (.aload_n 0, 1) := by decide +kernel
theorem dX11_of_161 : decode cX11_of 161 = .ok (.getfield 42, 3) := by decide +kernel
theorem dX11_of_164 : decode cX11_of 164 = .ok (.getfield 148, 3) := by decide +kernel
theorem dX11_of_167 : decode cX11_of 167 = .ok (.invokestatic 270, 3) := by decide +kernel
theorem dX11_of_170 : decode cX11_of 170 = .ok (.isub, 1) := by decide +kernel
theorem dX11_of_171 : decode cX11_of 171 = .ok (.ireturn, 1) := by decide +kernel
theorem dX11_of_172 : decode cX11_of 172 = .ok (.bipush (-2), 2) := by decide +kernel
theorem dX11_of_174 : decode cX11_of 174 = .ok (.ireturn, 1) := by decide +kernel
theorem dX11_hire_0 : decode cX11_hire 0 = .ok (.aload_n 0, 1) := by decide +kernel
theorem dX11_hire_1 : decode cX11_hire 1 = .ok (.getfield 10, 3) := by decide +kernel
theorem dX11_hire_4 : decode cX11_hire 4 = .ok (.getfield 78, 3) := by decide +kernel
theorem dX11_hire_7 : decode cX11_hire 7 = .ok (.iload_n 1, 1) := by decide +kernel
theorem dX11_hire_8 : decode cX11_hire 8 = .ok (.invokevirtual 109, 3) := by decide +kernel
theorem dX11_hire_11 : decode cX11_hire 11 = .ok (.ifCond .ne 5, 3) := by decide +kernel
theorem dX11_hire_14 : decode cX11_hire 14 = .ok (.iconst (-1), 1) := by decide +kernel
theorem dX11_hire_15 : decode cX11_hire 15 = .ok (.ireturn, 1) := by decide +kernel
theorem dX11_hire_16 : decode cX11_hire 16 = .ok (.iload_n 2, 1) := by decide +kernel
theorem dX11_hire_17 : decode cX11_hire 17 = .ok (.iconst 0, 1) := by decide +kernel
theorem dX11_hire_18 : decode cX11_hire 18 = .ok (.bipush 6, 2) := by decide +kernel
theorem dX11_hire_20 : decode cX11_hire 20 = .ok (.invokestatic 64, 3) := by decide +kernel
theorem dX11_hire_23 : decode cX11_hire 23 = .ok (.ifCond .ne 6, 3) := by decide +kernel
theorem dX11_hire_26 : decode cX11_hire 26 = .ok (.bipush (-2), 2) := by decide +kernel
theorem dX11_hire_28 : decode cX11_hire 28 = .ok (.ireturn, 1) := by decide +kernel
theorem dX11_hire_29 : decode cX11_hire 29 = .ok (.iload_n 3, 1) := by decide +kernel
theorem dX11_hire_30 : decode cX11_hire 30 = .ok (.tableswitch 56 0 2 #[26, 36, 46], 26) := by decide +kernel
theorem dX11_hire_56 : decode cX11_hire 56 = .ok (.aload_n 0, 1) := by decide +kernel
theorem dX11_hire_57 : decode cX11_hire 57 = .ok (.getfield 10, 3) := by decide +kernel
theorem dX11_hire_60 : decode cX11_hire 60 = .ok (.iload_n 1, 1) := by decide +kernel
theorem dX11_hire_61 : decode cX11_hire 61 = .ok (.iload_n 2, 1) := by decide +kernel
theorem dX11_hire_62 : decode cX11_hire 62 = .ok (.invokevirtual 273, 3) := by decide +kernel
theorem dX11_hire_65 : decode cX11_hire 65 = .ok (.ireturn, 1) := by decide +kernel
theorem dX11_hire_66 : decode cX11_hire 66 = .ok (.aload_n 0, 1) := by decide +kernel
theorem dX11_hire_67 : decode cX11_hire 67 = .ok (.getfield 10, 3) := by decide +kernel
theorem dX11_hire_70 : decode cX11_hire 70 = .ok (.iload_n 1, 1) := by decide +kernel
theorem dX11_hire_71 : decode cX11_hire 71 = .ok (.iload_n 2, 1) := by decide +kernel
theorem dX11_hire_72 : decode cX11_hire 72 = .ok (.invokevirtual 276, 3) := by decide +kernel
theorem dX11_hire_75 : decode cX11_hire 75 = .ok (.ireturn, 1) := by decide +kernel
theorem dX11_hire_76 : decode cX11_hire 76 = .ok (.aload_n 0, 1) := by decide +kernel
theorem dX11_hire_77 : decode cX11_hire 77 = .ok (.getfield 10, 3) := by decide +kernel
theorem dX11_hire_80 : decode cX11_hire 80 = .ok (.iload_n 1, 1) := by decide +kernel
theorem dX11_hire_81 : decode cX11_hire 81 = .ok (.iload_n 2, 1) := by decide +kernel
theorem dX11_hire_82 : decode cX11_hire 82 = .ok (.invokevirtual 279, 3) := by decide +kernel
theorem dX11_hire_85 : decode cX11_hire 85 = .ok (.ireturn, 1) := by decide +kernel
theorem dX11_hire_86 : decode cX11_hire 86 = .ok (.bipush (-2), 2) := by decide +kernel
theorem dX11_hire_88 : decode cX11_hire 88 = .ok (.ireturn, 1) := by decide +kernel
theorem dX11_count_0 : decode cX11_count 0 = .ok (.iload_n 1, 1) := by decide +kernel
theorem dX11_count_1 : decode cX11_count 1 = .ok (.tableswitch 132 0 8 #[51, 62, 70, 78, 86, 96, 106, 116, 124], 51) := by decide +kernel
theorem dX11_count_52 : decode cX11_count 52 = .ok (.aload_n 0, 1) := by decide +kernel
theorem dX11_count_53 : decode cX11_count 53 = .ok (.getfield 10, 3) := by decide +kernel
theorem dX11_count_56 : decode cX11_count 56 = .ok (.getfield 78, 3) := by decide +kernel
theorem dX11_count_59 : decode cX11_count 59 = .ok (.getfield 282, 3) := by decide +kernel
theorem dX11_count_62 : decode cX11_count 62 = .ok (.ireturn, 1) := by decide +kernel
theorem dX11_count_63 : decode cX11_count 63 = .ok (.aload_n 0, 1) := by decide +kernel
theorem dX11_count_64 : decode cX11_count 64 = .ok (.getfield 10, 3) := by decide +kernel
theorem dX11_count_67 : decode cX11_count 67 = .ok (.invokevirtual 285, 3) := by decide +kernel
theorem dX11_count_70 : decode cX11_count 70 = .ok (.ireturn, 1) := by decide +kernel
theorem dX11_count_71 : decode cX11_count 71 = .ok (.aload_n 0, 1) := by decide +kernel
theorem dX11_count_72 : decode cX11_count 72 = .ok (.getfield 10, 3) := by decide +kernel
theorem dX11_count_75 : decode cX11_count 75 = .ok (.invokevirtual 288, 3) := by decide +kernel
theorem dX11_count_78 : decode cX11_count 78 = .ok (.ireturn, 1) := by decide +kernel
theorem dX11_count_79 : decode cX11_count 79 = .ok (.aload_n 0, 1) := by decide +kernel
theorem dX11_count_80 : decode cX11_count 80 = .ok (.getfield 10, 3) := by decide +kernel
theorem dX11_count_83 : decode cX11_count 83 = .ok (.invokevirtual 291, 3) := by decide +kernel
theorem dX11_count_86 : decode cX11_count 86 = .ok (.ireturn, 1) := by decide +kernel
theorem dX11_count_87 : decode cX11_count 87 = .ok (.aload_n 0, 1) := by decide +kernel
theorem dX11_count_88 : decode cX11_count 88 = .ok (.getfield 10, 3) := by decide +kernel
theorem dX11_count_91 : decode cX11_count 91 = .ok (.getfield 75, 3) := by decide +kernel
theorem dX11_count_94 : decode cX11_count 94 = .ok (.iconst 0, 1) := by decide +kernel
theorem dX11_count_95 : decode cX11_count 95 = .ok (.iaload, 1) := by decide +kernel
theorem dX11_count_96 : decode cX11_count 96 = .ok (.ireturn, 1) := by decide +kernel
theorem dX11_count_97 : decode cX11_count 97 = .ok (.aload_n 0, 1) := by decide +kernel
theorem dX11_count_98 : decode cX11_count 98 = .ok (.getfield 10, 3) := by decide +kernel
theorem dX11_count_101 : decode cX11_count 101 = .ok (.getfield 75, 3) := by decide +kernel
theorem dX11_count_104 : decode cX11_count 104 = .ok (.iconst 1, 1) := by decide +kernel
theorem dX11_count_105 : decode cX11_count 105 = .ok (.iaload, 1) := by decide +kernel
theorem dX11_count_106 : decode cX11_count 106 = .ok (.ireturn, 1) := by decide +kernel
theorem dX11_count_107 : decode cX11_count 107 = .ok (.aload_n 0, 1) := by decide +kernel
theorem dX11_count_108 : decode cX11_count 108 = .ok (.getfield 10, 3) := by decide +kernel
theorem dX11_count_111 : decode cX11_count 111 = .ok (.getfield 75, 3) := by decide +kernel
theorem dX11_count_114 : decode cX11_count 114 = .ok (.iconst 2, 1) := by decide +kernel
theorem dX11_count_115 : decode cX11_count 115 = .ok (.iaload, 1) := by decide +kernel
theorem dX11_count_116 : decode cX11_count 116 = .ok (.ireturn, 1) := by decide +kernel
theorem dX11_count_117 : decode cX11_count 117 = .ok (.aload_n 0, 1) := by decide +kernel
theorem dX11_count_118 : decode cX11_count 118 = .ok (.getfield 38, 3) := by decide +kernel
theorem dX11_count_121 : decode cX11_count 121 = .ok (.getfield 197, 3) := by decide +kernel
theorem dX11_count_124 : decode cX11_count 124 = .ok (.ireturn, 1) := by decide +kernel
theorem dX11_count_125 : decode cX11_count 125 = .ok (.aload_n 0, 1) := by decide +kernel
theorem dX11_count_126 : decode cX11_count 126 = .ok (.getfield 19, 3) := by decide +kernel
theorem dX11_count_129 : decode cX11_count 129 = .ok (.getfield 294, 3) := by decide +kernel
theorem dX11_count_132 : decode cX11_count 132 = .ok (.ireturn, 1) := by decide +kernel
theorem dX11_count_133 : decode cX11_count 133 = .ok (.bipush (-2), 2) := by decide +kernel
theorem dX11_count_135 : decode cX11_count 135 = .ok (.ireturn, 1) := by decide +kernel
theorem dX11_ifGo_0 : decode cX11_ifGo 0 = .ok (.aload_n 0, 1) := by decide +kernel
theorem dX11_ifGo_1 : decode cX11_ifGo 1 = .ok (.getfield 10, 3) := by decide +kernel
theorem dX11_ifGo_4 : decode cX11_ifGo 4 = .ok (.iload_n 1, 1) := by decide +kernel
theorem dX11_ifGo_5 : decode cX11_ifGo 5 = .ok (.invokevirtual 92, 3) := by decide +kernel
theorem dX11_ifGo_8 : decode cX11_ifGo 8 = .ok (.astore 4, 2) := by decide +kernel
theorem dX11_ifGo_10 : decode cX11_ifGo 10 = .ok (.aload 4, 2) := by decide +kernel
theorem dX11_ifGo_12 : decode cX11_ifGo 12 = .ok (.ifnull 10, 3) := by decide +kernel
theorem dX11_ifGo_15 : decode cX11_ifGo 15 = .ok (.iload_n 2, 1) := by decide +kernel
theorem dX11_ifGo_16 : decode cX11_ifGo 16 = .ok (.invokestatic 158, 3) := by decide +kernel
theorem dX11_ifGo_19 : decode cX11_ifGo 19 = .ok (.ifCond .ne 5, 3) := by decide +kernel
theorem dX11_ifGo_22 : decode cX11_ifGo 22 = .ok (.iconst (-1), 1) := by decide +kernel
theorem dX11_ifGo_23 : decode cX11_ifGo 23 = .ok (.ireturn, 1) := by decide +kernel
theorem dX11_ifGo_24 : decode cX11_ifGo 24 = .ok (.iload_n 3, 1) := by decide +kernel
theorem dX11_ifGo_25 : decode cX11_ifGo 25 = .ok (.iconst 0, 1) := by decide +kernel
theorem dX11_ifGo_26 : decode cX11_ifGo 26 = .ok (.iconst 3, 1) := by decide +kernel
theorem dX11_ifGo_27 : decode cX11_ifGo 27 = .ok (.invokestatic 64, 3) := by decide +kernel
theorem dX11_ifGo_30 : decode cX11_ifGo 30 = .ok (.ifCond .ne 6, 3) := by decide +kernel
theorem dX11_ifGo_33 : decode cX11_ifGo 33 = .ok (.bipush (-2), 2) := by decide +kernel
theorem dX11_ifGo_35 : decode cX11_ifGo 35 = .ok (.ireturn, 1) := by decide +kernel
theorem dX11_ifGo_36 : decode cX11_ifGo 36 = .ok (.aload 4, 2) := by decide +kernel
theorem dX11_ifGo_38 : decode cX11_ifGo 38 = .ok (.iload_n 2, 1) := by decide +kernel
theorem dX11_ifGo_39 : decode cX11_ifGo 39 = .ok (.invokevirtual 174, 3) := by decide +kernel
theorem dX11_ifGo_42 : decode cX11_ifGo 42 = .ok (.ifCond .ne 6, 3) := by decide +kernel
theorem dX11_ifGo_45 : decode cX11_ifGo 45 = .ok (.bipush (-5), 2) := by decide +kernel
theorem dX11_ifGo_47 : decode cX11_ifGo 47 = .ok (.ireturn, 1) := by decide +kernel
theorem dX11_ifGo_48 : decode cX11_ifGo 48 = .ok (.aload_n 0, 1) := by decide +kernel
theorem dX11_ifGo_49 : decode cX11_ifGo 49 = .ok (.getfield 56, 3) := by decide +kernel
theorem dX11_ifGo_52 : decode cX11_ifGo 52 = .ok (.aload_n 0, 1) := by decide +kernel
theorem dX11_ifGo_53 : decode cX11_ifGo 53 = .ok (.getfield 10, 3) := by decide +kernel
theorem dX11_ifGo_56 : decode cX11_ifGo 56 = .ok (.aload 4, 2) := by decide +kernel
theorem dX11_ifGo_58 : decode cX11_ifGo 58 = .ok (.iload_n 2, 1) := by decide +kernel
theorem dX11_ifGo_59 : decode cX11_ifGo 59 = .ok (.aload_n 0, 1) := by decide +kernel
theorem dX11_ifGo_60 : decode cX11_ifGo 60 = .ok (.getfield 42, 3) := by decide +kernel
theorem dX11_ifGo_63 : decode cX11_ifGo 63 = .ok (.invokevirtual 297, 3) := by decide +kernel
theorem dX11_ifGo_66 : decode cX11_ifGo 66 = .ok (.iload_n 3, 1) := by decide +kernel
theorem dX11_ifGo_67 : decode cX11_ifGo 67 = .ok (.tableswitch 49 0 2 #[25, 33, 41], 25) := by decide +kernel
theorem dX11_ifGo_92 : decode cX11_ifGo 92 = .ok (.aload_n 0, 1) := by decide +kernel
theorem dX11_ifGo_93 : decode cX11_ifGo 93 = .ok (.getfield 56, 3) := by decide +kernel
theorem dX11_ifGo_96 : decode cX11_ifGo 96 = .ok (.getfield 301, 3) := by decide +kernel
theorem dX11_ifGo_99 : decode cX11_ifGo 99 = .ok (.ireturn, 1) := by decide +kernel
theorem dX11_ifGo_100 : decode cX11_ifGo 100 = .ok (.aload_n 0, 1) := by decide +kernel
theorem dX11_ifGo_101 : decode cX11_ifGo 101 = .ok (.getfield 56, 3) := by decide +kernel
theorem dX11_ifGo_104 : decode cX11_ifGo 104 = .ok (.getfield 304, 3) := by decide +kernel
theorem dX11_ifGo_107 : decode cX11_ifGo 107 = .ok (.ireturn, 1) := by decide +kernel
theorem dX11_ifGo_108 : decode cX11_ifGo 108 = .ok (.aload_n 0, 1) := by decide +kernel
theorem dX11_ifGo_109 : decode cX11_ifGo 109 = .ok (.getfield 56, 3) := by decide +kernel
theorem dX11_ifGo_112 : decode cX11_ifGo 112 = .ok (.getfield 307, 3) := by decide +kernel
theorem dX11_ifGo_115 : decode cX11_ifGo 115 = .ok (.ireturn, 1) := by decide +kernel
theorem dX11_ifGo_116 : decode cX11_ifGo 116 = .ok (.aload_n 0, 1) := by decide +kernel
theorem dX11_ifGo_117 : decode cX11_ifGo 117 = .ok (.getfield 56, 3) := by decide +kernel
theorem dX11_ifGo_120 : decode cX11_ifGo 120 = .ok (.getfield 310, 3) := by decide +kernel
theorem dX11_ifGo_123 : decode cX11_ifGo 123 = .ok (.ireturn, 1) := by decide +kernel
theorem dX11_safeTicks_0 : decode cX11_safeTicks 0 = .ok (.aload_n 0, 1) := by decide +kernel
theorem dX11_safeTicks_1 : decode cX11_safeTicks 1 = .ok (.getfield 10, 3) := by decide +kernel
theorem dX11_safeTicks_4 : decode cX11_safeTicks 4 = .ok (.iload_n 1, 1) := by decide +kernel
theorem dX11_safeTicks_5 : decode cX11_safeTicks 5 = .ok (.invokevirtual 92, 3) := by decide +kernel
theorem dX11_safeTicks_8 : decode cX11_safeTicks 8 = .ok (.astore_n 3, 1) := by decide +kernel
theorem dX11_safeTicks_9 : decode cX11_safeTicks 9 = .ok (.aload_n 3, 1) := by decide +kernel
theorem dX11_safeTicks_10 : decode cX11_safeTicks 10 = .ok (.ifnull 10, 3) := by decide +kernel
theorem dX11_safeTicks_13 : decode cX11_safeTicks 13 = .ok (.iload_n 2, 1) := by decide +kernel
theorem dX11_safeTicks_14 : decode cX11_safeTicks 14 = .ok (.invokestatic 158, 3) := by decide +kernel
theorem dX11_safeTicks_17 : decode cX11_safeTicks 17 = .ok (.ifCond .ne 5, 3) := by decide +kernel
theorem dX11_safeTicks_20 : decode cX11_safeTicks 20 = .ok (.iconst (-1), 1) := by decide +kernel
theorem dX11_safeTicks_21 : decode cX11_safeTicks 21 = .ok (.ireturn, 1) := by decide +kernel
theorem dX11_safeTicks_22 : decode cX11_safeTicks 22 = .ok (.aload_n 3, 1) := by decide +kernel
theorem dX11_safeTicks_23 : decode cX11_safeTicks 23 = .ok (.iload_n 2, 1) := by decide +kernel
theorem dX11_safeTicks_24 : decode cX11_safeTicks 24 = .ok (.invokevirtual 174, 3) := by decide +kernel
theorem dX11_safeTicks_27 : decode cX11_safeTicks 27 = .ok (.ifCond .ne 6, 3) := by decide +kernel
theorem dX11_safeTicks_30 : decode cX11_safeTicks 30 = .ok (.bipush (-5), 2) := by decide +kernel
theorem dX11_safeTicks_32 : decode cX11_safeTicks 32 = .ok (.ireturn, 1) := by decide +kernel
theorem dX11_safeTicks_33 : decode cX11_safeTicks 33 = .ok (.iconst 1, 1) := by decide +kernel
theorem dX11_safeTicks_34 : decode cX11_safeTicks 34 = .ok (.istore 4, 2) := by decide +kernel
theorem dX11_safeTicks_36 : decode cX11_safeTicks 36 = .ok (.iload 4, 2) := by decide +kernel
theorem dX11_safeTicks_38 : decode cX11_safeTicks 38 = .ok (.bipush 50, 2) := by decide +kernel
theorem dX11_safeTicks_40 : decode cX11_safeTicks 40 = .ok (.if_icmp .gt 34, 3) := by decide +kernel
theorem dX11_safeTicks_43 : decode cX11_safeTicks 43 = .ok (.aload_n 0, 1) := by decide +kernel
theorem dX11_safeTicks_44 : decode cX11_safeTicks 44 = .ok (.getfield 56, 3) := by decide +kernel
theorem dX11_safeTicks_47 : decode cX11_safeTicks 47 = .ok (.aload_n 0, 1) := by decide +kernel
theorem dX11_safeTicks_48 : decode cX11_safeTicks 48 = .ok (.getfield 10, 3) := by decide +kernel
theorem dX11_safeTicks_51 : decode cX11_safeTicks 51 = .ok (.aload_n 3, 1) := by decide +kernel
theorem dX11_safeTicks_52 : decode cX11_safeTicks 52 = .ok (.iload_n 2, 1) := by decide +kernel
theorem dX11_safeTicks_53 : decode cX11_safeTicks 53 = .ok (.iload 4, 2) := by decide +kernel
theorem dX11_safeTicks_55 : decode cX11_safeTicks 55 = .ok (.aload_n 0, 1) := by decide +kernel
theorem dX11_safeTicks_56 : decode cX11_safeTicks 56 = .ok (.getfield 42, 3) := by decide +kernel
theorem dX11_safeTicks_59 : decode cX11_safeTicks 59 = .ok (.invokevirtual 313, 3) := by decide +kernel
theorem dX11_safeTicks_62 : decode cX11_safeTicks 62 = .ok (.ifCond .eq 6, 3) := by decide +kernel
theorem dX11_safeTicks_65 : decode cX11_safeTicks 65 = .ok (.iload 4, 2) := by decide +kernel
theorem dX11_safeTicks_67 : decode cX11_safeTicks 67 = .ok (.ireturn, 1) := by decide +kernel
theorem dX11_safeTicks_68 : decode cX11_safeTicks 68 = .ok (.iinc 4 1, 3) := by decide +kernel
theorem dX11_safeTicks_71 : decode cX11_safeTicks 71 = .ok (.goto (-35), 3) := by decide +kernel
theorem dX11_safeTicks_74 : decode cX11_safeTicks 74 = .ok (.bipush (-6), 2) := by decide +kernel
theorem dX11_safeTicks_76 : decode cX11_safeTicks 76 = .ok (.ireturn, 1) := by decide +kernel
theorem dX11_bestFeed_0 : decode cX11_bestFeed 0 = .ok (.aload_n 0, 1) := by decide +kernel
theorem dX11_bestFeed_1 : decode cX11_bestFeed 1 = .ok (.getfield 10, 3) := by decide +kernel
theorem dX11_bestFeed_4 : decode cX11_bestFeed 4 = .ok (.iload_n 1, 1) := by decide +kernel
theorem dX11_bestFeed_5 : decode cX11_bestFeed 5 = .ok (.invokevirtual 92, 3) := by decide +kernel
theorem dX11_bestFeed_8 : decode cX11_bestFeed 8 = .ok (.astore_n 3, 1) := by decide +kernel
theorem dX11_bestFeed_9 : decode cX11_bestFeed 9 = .ok (.aload_n 3, 1) := by decide +kernel
theorem dX11_bestFeed_10 : decode cX11_bestFeed 10 = .ok (.ifnull 10, 3) := by decide +kernel
theorem dX11_bestFeed_13 : decode cX11_bestFeed 13 = .ok (.iload_n 2, 1) := by decide +kernel
theorem dX11_bestFeed_14 : decode cX11_bestFeed 14 = .ok (.invokestatic 131, 3) := by decide +kernel
theorem dX11_bestFeed_17 : decode cX11_bestFeed 17 = .ok (.ifCond .ne 5, 3) := by decide +kernel
theorem dX11_bestFeed_20 : decode cX11_bestFeed 20 = .ok (.iconst (-1), 1) := by decide +kernel
theorem dX11_bestFeed_21 : decode cX11_bestFeed 21 = .ok (.ireturn, 1) := by decide +kernel
theorem dX11_bestFeed_22 : decode cX11_bestFeed 22 = .ok (.aload_n 3, 1) := by decide +kernel
theorem dX11_bestFeed_23 : decode cX11_bestFeed 23 = .ok (.getfield 137, 3) := by decide +kernel
theorem dX11_bestFeed_26 : decode cX11_bestFeed 26 = .ok (.iload_n 2, 1) := by decide +kernel
theorem dX11_bestFeed_27 : decode cX11_bestFeed 27 = .ok (.iaload, 1) := by decide +kernel
theorem dX11_bestFeed_28 : decode cX11_bestFeed 28 = .ok (.istore 4, 2) := by decide +kernel
theorem dX11_bestFeed_30 : decode cX11_bestFeed 30 = .ok (.iconst 0, 1) := by decide +kernel
theorem dX11_bestFeed_31 : decode cX11_bestFeed 31 = .ok (.istore 5, 2) := by decide +kernel
theorem dX11_bestFeed_33 : decode cX11_bestFeed 33 = .ok (.ldc_w 317, 3) := by decide +kernel
theorem dX11_bestFeed_36 : decode cX11_bestFeed 36 = .ok (.istore 6, 2) := by decide +kernel
theorem dX11_bestFeed_38 : decode cX11_bestFeed 38 = .ok (.iconst 0, 1) := by decide +kernel
theorem dX11_bestFeed_39 : decode cX11_bestFeed 39 = .ok (.istore 7, 2) := by decide +kernel
theorem dX11_bestFeed_41 : decode cX11_bestFeed 41 = .ok (.iload 7, 2) := by decide +kernel
theorem dX11_bestFeed_43 : decode cX11_bestFeed 43 = .ok (.iconst 3, 1) := by decide +kernel
theorem dX11_bestFeed_44 : decode cX11_bestFeed 44 = .ok (.if_icmp .ge 62, 3) := by decide +kernel
theorem dX11_bestFeed_47 : decode cX11_bestFeed 47 = .ok (.aload_n 3, 1) := by decide +kernel
theorem dX11_bestFeed_48 : decode cX11_bestFeed 48 = .ok (.getfield 137, 3) := by decide +kernel
theorem dX11_bestFeed_51 : decode cX11_bestFeed 51 = .ok (.iload_n 2, 1) := by decide +kernel
theorem dX11_bestFeed_52 : decode cX11_bestFeed 52 = .ok (.iload 7, 2) := by decide +kernel
theorem dX11_bestFeed_54 : decode cX11_bestFeed 54 = .ok (.iastore, 1) := by decide +kernel
theorem dX11_bestFeed_55 : decode cX11_bestFeed 55 = .ok (.aload_n 0, 1) := by decide +kernel
theorem dX11_bestFeed_56 : decode cX11_bestFeed 56 = .ok (.getfield 49, 3) := by decide +kernel
theorem dX11_bestFeed_59 : decode cX11_bestFeed 59 = .ok (.aload_n 3, 1) := by decide +kernel
theorem dX11_bestFeed_60 : decode cX11_bestFeed 60 = .ok (.aload_n 0, 1) := by decide +kernel
theorem dX11_bestFeed_61 : decode cX11_bestFeed 61 = .ok (.getfield 10, 3) := by decide +kernel
theorem dX11_bestFeed_64 : decode cX11_bestFeed 64 = .ok (.getfield 78, 3) := by decide +kernel
theorem dX11_bestFeed_67 : decode cX11_bestFeed 67 = .ok (.invokevirtual 140, 3) := by decide +kernel
theorem dX11_bestFeed_70 : decode cX11_bestFeed 70 = .ok (.aload_n 0, 1) := by decide +kernel
theorem dX11_bestFeed_71 : decode cX11_bestFeed 71 = .ok (.getfield 49, 3) := by decide +kernel
theorem dX11_bestFeed_74 : decode cX11_bestFeed 74 = .ok (.getfield 144, 3) := by decide +kernel
theorem dX11_bestFeed_77 : decode cX11_bestFeed 77 = .ok (.getfield 148, 3) := by decide +kernel
theorem dX11_bestFeed_80 : decode cX11_bestFeed 80 = .ok (.invokestatic 266, 3) := by decide +kernel
theorem dX11_bestFeed_83 : decode cX11_bestFeed 83 = .ok (.istore 8, 2) := by decide +kernel
theorem dX11_bestFeed_85 : decode cX11_bestFeed 85 = .ok (.iload 8, 2) := by decide +kernel
theorem dX11_bestFeed_87 : decode cX11_bestFeed 87 = .ok (.iload 6, 2) := by decide +kernel
theorem dX11_bestFeed_89 : decode cX11_bestFeed 89 = .ok (.if_icmp .ge 11, 3) := by decide +kernel
theorem dX11_bestFeed_92 : decode cX11_bestFeed 92 = .ok (.iload 8, 2) := by decide +kernel
theorem dX11_bestFeed_94 : decode cX11_bestFeed 94 = .ok (.istore 6, 2) := by decide +kernel
theorem dX11_bestFeed_96 : decode cX11_bestFeed 96 = .ok (.iload 7, 2) := by decide +kernel
theorem dX11_bestFeed_98 : decode cX11_bestFeed 98 = .ok (.istore 5, 2) := by decide +kernel
theorem dX11_bestFeed_100 : decode cX11_bestFeed 100 = .ok (.iinc 7 1, 3) := by decide +kernel
theorem dX11_bestFeed_103 : decode cX11_bestFeed 103 = .ok (.goto (-62), 3) := by decide +kernel
theorem dX11_bestFeed_106 : decode cX11_bestFeed 106 = .ok (.aload_n 3, 1) := by decide +kernel
theorem dX11_bestFeed_107 : decode cX11_bestFeed 107 = .ok (.getfield 137, 3) := by decide +kernel
theorem dX11_bestFeed_110 : decode cX11_bestFeed 110 = .ok (.iload_n 2, 1) := by decide +kernel
theorem dX11_bestFeed_111 : decode cX11_bestFeed 111 = .ok (.iload 4, 2) := by decide +kernel
theorem dX11_bestFeed_113 : decode cX11_bestFeed 113 = .ok (.iastore, 1) := by decide +kernel
theorem dX11_bestFeed_114 : decode cX11_bestFeed 114 = .ok (.iload 5, 2) := by decide +kernel
theorem dX11_bestFeed_116 : decode cX11_bestFeed 116 = .ok (.ireturn, 1) := by decide +kernel
theorem dX11_ifDays_0 : decode cX11_ifDays 0 = .ok (.aload_n 0, 1) := by decide +kernel
theorem dX11_ifDays_1 : decode cX11_ifDays 1 = .ok (.getfield 10, 3) := by decide +kernel
theorem dX11_ifDays_4 : decode cX11_ifDays 4 = .ok (.iload_n 1, 1) := by decide +kernel
theorem dX11_ifDays_5 : decode cX11_ifDays 5 = .ok (.invokevirtual 92, 3) := by decide +kernel
theorem dX11_ifDays_8 : decode cX11_ifDays 8 = .ok (.astore 4, 2) := by decide +kernel
theorem dX11_ifDays_10 : decode cX11_ifDays 10 = .ok (.aload 4, 2) := by decide +kernel
theorem dX11_ifDays_12 : decode cX11_ifDays 12 = .ok (.ifnonnull 5, 3) := by decide +kernel
theorem dX11_ifDays_15 : decode cX11_ifDays 15 = .ok (.iconst (-1), 1) := by decide +kernel
theorem dX11_ifDays_16 : decode cX11_ifDays 16 = .ok (.ireturn, 1) := by decide +kernel
theorem dX11_ifDays_17 : decode cX11_ifDays 17 = .ok (.iload_n 2, 1) := by decide +kernel
theorem dX11_ifDays_18 : decode cX11_ifDays 18 = .ok (.iload_n 3, 1) := by decide +kernel
theorem dX11_ifDays_19 : decode cX11_ifDays 19 = .ok (.invokestatic 96, 3) := by decide +kernel
theorem dX11_ifDays_22 : decode cX11_ifDays 22 = .ok (.ifCond .ne 6, 3) := by decide +kernel
theorem dX11_ifDays_25 : decode cX11_ifDays 25 = .ok (.bipush (-2), 2) := by decide +kernel
theorem dX11_ifDays_27 : decode cX11_ifDays 27 = .ok (.ireturn, 1) := by decide +kernel
theorem dX11_ifDays_28 : decode cX11_ifDays 28 = .ok (.aload 4, 2) := by decide +kernel
theorem dX11_ifDays_30 : decode cX11_ifDays 30 = .ok (.getfield 106, 3) := by decide +kernel
theorem dX11_ifDays_33 : decode cX11_ifDays 33 = .ok (.istore 5, 2) := by decide +kernel
theorem dX11_ifDays_35 : decode cX11_ifDays 35 = .ok (.aload 4, 2) := by decide +kernel
theorem dX11_ifDays_37 : decode cX11_ifDays 37 = .ok (.getfield 100, 3) := by decide +kernel
theorem dX11_ifDays_40 : decode cX11_ifDays 40 = .ok (.istore 6, 2) := by decide +kernel
theorem dX11_ifDays_42 : decode cX11_ifDays 42 = .ok (.aload 4, 2) := by decide +kernel
theorem dX11_ifDays_44 : decode cX11_ifDays 44 = .ok (.iload_n 2, 1) := by decide +kernel
theorem dX11_ifDays_45 : decode cX11_ifDays 45 = .ok (.putfield 106, 3) := by decide +kernel
theorem dX11_ifDays_48 : decode cX11_ifDays 48 = .ok (.aload 4, 2) := by decide +kernel
theorem dX11_ifDays_50 : decode cX11_ifDays 50 = .ok (.iload_n 3, 1) := by decide +kernel
theorem dX11_ifDays_51 : decode cX11_ifDays 51 = .ok (.putfield 100, 3) := by decide +kernel
theorem dX11_ifDays_54 : decode cX11_ifDays 54 = .ok (.aload_n 0, 1) := by decide +kernel
theorem dX11_ifDays_55 : decode cX11_ifDays 55 = .ok (.getfield 10, 3) := by decide +kernel
theorem dX11_ifDays_58 : decode cX11_ifDays 58 = .ok (.invokevirtual 288, 3) := by decide +kernel
theorem dX11_ifDays_61 : decode cX11_ifDays 61 = .ok (.istore 7, 2) := by decide +kernel
theorem dX11_ifDays_63 : decode cX11_ifDays 63 = .ok (.aload 4, 2) := by decide +kernel
theorem dX11_ifDays_65 : decode cX11_ifDays 65 = .ok (.iload 5, 2) := by decide +kernel
theorem dX11_ifDays_67 : decode cX11_ifDays 67 = .ok (.putfield 106, 3) := by decide +kernel
theorem dX11_ifDays_70 : decode cX11_ifDays 70 = .ok (.aload 4, 2) := by decide +kernel
theorem dX11_ifDays_72 : decode cX11_ifDays 72 = .ok (.iload 6, 2) := by decide +kernel
theorem dX11_ifDays_74 : decode cX11_ifDays 74 = .ok (.putfield 100, 3) := by decide +kernel
theorem dX11_ifDays_77 : decode cX11_ifDays 77 = .ok (.iload 7, 2) := by decide +kernel
theorem dX11_ifDays_79 : decode cX11_ifDays 79 = .ok (.ireturn, 1) := by decide +kernel
theorem dX11_put_0 : decode cX11_put 0 = .ok (.lload_n 1, 1) := by decide +kernel
theorem dX11_put_1 : decode cX11_put 1 = .ok (.invokestatic 318, 3) := by decide +kernel
theorem dX11_put_4 : decode cX11_put 4 = .ok (.istore_n 3, 1) := by decide +kernel
theorem dX11_put_5 : decode cX11_put 5 = .ok (.iload_n 3, 1) := by decide +kernel
theorem dX11_put_6 : decode cX11_put 6 = .ok (.ifCond .ne 6, 3) := by decide +kernel
theorem dX11_put_9 : decode cX11_put 9 = .ok (.bipush (-2), 2) := by decide +kernel
theorem dX11_put_11 : decode cX11_put 11 = .ok (.ireturn, 1) := by decide +kernel
theorem dX11_put_12 : decode cX11_put 12 = .ok (.aload_n 0, 1) := by decide +kernel
theorem dX11_put_13 : decode cX11_put 13 = .ok (.getfield 38, 3) := by decide +kernel
theorem dX11_put_16 : decode cX11_put 16 = .ok (.getfield 197, 3) := by decide +kernel
theorem dX11_put_19 : decode cX11_put 19 = .ok (.iload_n 3, 1) := by decide +kernel
theorem dX11_put_20 : decode cX11_put 20 = .ok (.iadd, 1) := by decide +kernel
theorem dX11_put_21 : decode cX11_put 21 = .ok (.bipush 60, 2) := by decide +kernel
theorem dX11_put_23 : decode cX11_put 23 = .ok (.if_icmp .le 6, 3) := by decide +kernel
theorem dX11_put_26 : decode cX11_put 26 = .ok (.bipush (-4), 2) := by decide +kernel
theorem dX11_put_28 : decode cX11_put 28 = .ok (.ireturn, 1) := by decide +kernel
theorem dX11_put_29 : decode cX11_put 29 = .ok (.aload_n 0, 1) := by decide +kernel
theorem dX11_put_30 : decode cX11_put 30 = .ok (.getfield 38, 3) := by decide +kernel
theorem dX11_put_33 : decode cX11_put 33 = .ok (.lload_n 1, 1) := by decide +kernel
theorem dX11_put_34 : decode cX11_put 34 = .ok (.iload_n 3, 1) := by decide +kernel
theorem dX11_put_35 : decode cX11_put 35 = .ok (.invokevirtual 322, 3) := by decide +kernel
theorem dX11_put_38 : decode cX11_put 38 = .ok (.aload_n 0, 1) := by decide +kernel
theorem dX11_put_39 : decode cX11_put 39 = .ok (.getfield 38, 3) := by decide +kernel
theorem dX11_put_42 : decode cX11_put 42 = .ok (.getfield 197, 3) := by decide +kernel
theorem dX11_put_45 : decode cX11_put 45 = .ok (.ireturn, 1) := by decide +kernel
theorem dX11_wipe_0 : decode cX11_wipe 0 = .ok (.aload_n 0, 1) := by decide +kernel
theorem dX11_wipe_1 : decode cX11_wipe 1 = .ok (.getfield 38, 3) := by decide +kernel
theorem dX11_wipe_4 : decode cX11_wipe 4 = .ok (.getfield 197, 3) := by decide +kernel
theorem dX11_wipe_7 : decode cX11_wipe 7 = .ok (.istore_n 1, 1) := by decide +kernel
theorem dX11_wipe_8 : decode cX11_wipe 8 = .ok (.aload_n 0, 1) := by decide +kernel
theorem dX11_wipe_9 : decode cX11_wipe 9 = .ok (.getfield 38, 3) := by decide +kernel
theorem dX11_wipe_12 : decode cX11_wipe 12 = .ok (.iconst 0, 1) := by decide +kernel
theorem dX11_wipe_13 : decode cX11_wipe 13 = .ok (.putfield 197, 3) := by decide +kernel
theorem dX11_wipe_16 : decode cX11_wipe 16 = .ok (.iload_n 1, 1) := by decide +kernel
theorem dX11_wipe_17 : decode cX11_wipe 17 = .ok (.ireturn, 1) := by decide +kernel
theorem dX11_fault_0 : decode cX11_fault 0 = .ok (.aload_n 0, 1) := by decide +kernel
theorem dX11_fault_1 : decode cX11_fault 1 = .ok (.getfield 30, 3) := by decide +kernel
theorem dX11_fault_4 : decode cX11_fault 4 = .ok (.invokevirtual 194, 3) := by decide +kernel
theorem dX11_fault_7 : decode cX11_fault 7 = .ok (.ifCond .eq 8, 3) := by decide +kernel
theorem dX11_fault_10 : decode cX11_fault 10 = .ok (.bipush (-6), 2) := by decide +kernel
theorem dX11_fault_12 : decode cX11_fault 12 = .ok (.goto 10, 3) := by decide +kernel
theorem dX11_fault_15 : decode cX11_fault 15 = .ok (.aload_n 0, 1) := by decide +kernel
theorem dX11_fault_16 : decode cX11_fault 16 = .ok (.getfield 30, 3) := by decide +kernel
theorem dX11_fault_19 : decode cX11_fault 19 = .ok (.getfield 326, 3) := by decide +kernel
theorem dX11_fault_22 : decode cX11_fault 22 = .ok (.ireturn, 1) := by decide +kernel
theorem dX11_undo_0 : decode cX11_undo 0 = .ok (.aload_n 0, 1) := by decide +kernel
theorem dX11_undo_1 : decode cX11_undo 1 = .ok (.getfield 19, 3) := by decide +kernel
theorem dX11_undo_4 : decode cX11_undo 4 = .ok (.aload_n 0, 1) := by decide +kernel
theorem dX11_undo_5 : decode cX11_undo 5 = .ok (.getfield 10, 3) := by decide +kernel
theorem dX11_undo_8 : decode cX11_undo 8 = .ok (.invokevirtual 329, 3) := by decide +kernel
theorem dX11_undo_11 : decode cX11_undo 11 = .ok (.ifCond .eq 13, 3) := by decide +kernel
theorem dX11_undo_14 : decode cX11_undo 14 = .ok (.aload_n 0, 1) := by decide +kernel
theorem dX11_undo_15 : decode cX11_undo 15 = .ok (.getfield 19, 3) := by decide +kernel
theorem dX11_undo_18 : decode cX11_undo 18 = .ok (.getfield 294, 3) := by decide +kernel
theorem dX11_undo_21 : decode cX11_undo 21 = .ok (.goto 5, 3) := by decide +kernel
theorem dX11_undo_24 : decode cX11_undo 24 = .ok (.bipush (-5), 2) := by decide +kernel
theorem dX11_undo_26 : decode cX11_undo 26 = .ok (.ireturn, 1) := by decide +kernel
theorem dX11_save_0 : decode cX11_save 0 = .ok (.iload_n 1, 1) := by decide +kernel
theorem dX11_save_1 : decode cX11_save 1 = .ok (.iconst 0, 1) := by decide +kernel
theorem dX11_save_2 : decode cX11_save 2 = .ok (.iconst 1, 1) := by decide +kernel
theorem dX11_save_3 : decode cX11_save 3 = .ok (.invokestatic 64, 3) := by decide +kernel
theorem dX11_save_6 : decode cX11_save 6 = .ok (.ifCond .ne 6, 3) := by decide +kernel
theorem dX11_save_9 : decode cX11_save 9 = .ok (.bipush (-2), 2) := by decide +kernel
theorem dX11_save_11 : decode cX11_save 11 = .ok (.ireturn, 1) := by decide +kernel
theorem dX11_save_12 : decode cX11_save 12 = .ok (.aload_n 0, 1) := by decide +kernel
theorem dX11_save_13 : decode cX11_save 13 = .ok (.getfield 23, 3) := by decide +kernel
theorem dX11_save_16 : decode cX11_save 16 = .ok (.iload_n 1, 1) := by decide +kernel
theorem dX11_save_17 : decode cX11_save 17 = .ok (.aaload, 1) := by decide +kernel
theorem dX11_save_18 : decode cX11_save 18 = .ok (.aload_n 0, 1) := by decide +kernel
theorem dX11_save_19 : decode cX11_save 19 = .ok (.getfield 10, 3) := by decide +kernel
theorem dX11_save_22 : decode cX11_save 22 = .ok (.invokevirtual 333, 3) := by decide +kernel
theorem dX11_save_25 : decode cX11_save 25 = .ok (.aload_n 0, 1) := by decide +kernel
theorem dX11_save_26 : decode cX11_save 26 = .ok (.dup, 1) := by decide +kernel
theorem dX11_save_27 : decode cX11_save 27 = .ok (.getfield 336, 3) := by decide +kernel
theorem dX11_save_30 : decode cX11_save 30 = .ok (.iconst 1, 1) := by decide +kernel
theorem dX11_save_31 : decode cX11_save 31 = .ok (.iload_n 1, 1) := by decide +kernel
theorem dX11_save_32 : decode cX11_save 32 = .ok (.ishl, 1) := by decide +kernel
theorem dX11_save_33 : decode cX11_save 33 = .ok (.ior, 1) := by decide +kernel
theorem dX11_save_34 : decode cX11_save 34 = .ok (.putfield 336, 3) := by decide +kernel
theorem dX11_save_37 : decode cX11_save 37 = .ok (.aload_n 0, 1) := by decide +kernel
theorem dX11_save_38 : decode cX11_save 38 = .ok (.getfield 10, 3) := by decide +kernel
theorem dX11_save_41 : decode cX11_save 41 = .ok (.invokevirtual 339, 3) := by decide +kernel
theorem dX11_save_44 : decode cX11_save 44 = .ok (.ireturn, 1) := by decide +kernel
theorem dX11_restore_0 : decode cX11_restore 0 = .ok (.iload_n 1, 1) := by decide +kernel
theorem dX11_restore_1 : decode cX11_restore 1 = .ok (.iconst 0, 1) := by decide +kernel
theorem dX11_restore_2 : decode cX11_restore 2 = .ok (.iconst 1, 1) := by decide +kernel
theorem dX11_restore_3 : decode cX11_restore 3 = .ok (.invokestatic 64, 3) := by decide +kernel
theorem dX11_restore_6 : decode cX11_restore 6 = .ok (.ifCond .ne 6, 3) := by decide +kernel
theorem dX11_restore_9 : decode cX11_restore 9 = .ok (.bipush (-2), 2) := by decide +kernel
theorem dX11_restore_11 : decode cX11_restore 11 = .ok (.ireturn, 1) := by decide +kernel
theorem dX11_restore_12 : decode cX11_restore 12 = .ok (.aload_n 0, 1) := by decide +kernel
theorem dX11_restore_13 : decode cX11_restore 13 = .ok (.getfield 336, 3) := by decide +kernel
theorem dX11_restore_16 : decode cX11_restore 16 = .ok (.iload_n 1, 1) := by decide +kernel
theorem dX11_restore_17 : decode cX11_restore 17 = .ok (.invokestatic 342, 3) := by decide +kernel
theorem dX11_restore_20 : decode cX11_restore 20 = .ok (.ifCond .ne 6, 3) := by decide +kernel
theorem dX11_restore_23 : decode cX11_restore 23 = .ok (.bipush (-5), 2) := by decide +kernel
theorem dX11_restore_25 : decode cX11_restore 25 = .ok (.ireturn, 1) := by decide +kernel
theorem dX11_restore_26 : decode cX11_restore 26 = .ok (.aload_n 0, 1) := by decide +kernel
theorem dX11_restore_27 : decode cX11_restore 27 = .ok (.getfield 19, 3) := by decide +kernel
theorem dX11_restore_30 : decode cX11_restore 30 = .ok (.aload_n 0, 1) := by decide +kernel
theorem dX11_restore_31 : decode cX11_restore 31 = .ok (.getfield 10, 3) := by decide +kernel
theorem dX11_restore_34 : decode cX11_restore 34 = .ok (.invokevirtual 71, 3) := by decide +kernel
theorem dX11_restore_37 : decode cX11_restore 37 = .ok (.aload_n 0, 1) := by decide +kernel
theorem dX11_restore_38 : decode cX11_restore 38 = .ok (.getfield 10, 3) := by decide +kernel
theorem dX11_restore_41 : decode cX11_restore 41 = .ok (.aload_n 0, 1) := by decide +kernel
theorem dX11_restore_42 : decode cX11_restore 42 = .ok (.getfield 23, 3) := by decide +kernel
theorem dX11_restore_45 : decode cX11_restore 45 = .ok (.iload_n 1, 1) := by decide +kernel
theorem dX11_restore_46 : decode cX11_restore 46 = .ok (.aaload, 1) := by decide +kernel
theorem dX11_restore_47 : decode cX11_restore 47 = .ok (.invokevirtual 333, 3) := by decide +kernel
theorem dX11_restore_50 : decode cX11_restore 50 = .ok (.aload_n 0, 1) := by decide +kernel
theorem dX11_restore_51 : decode cX11_restore 51 = .ok (.getfield 10, 3) := by decide +kernel
theorem dX11_restore_54 : decode cX11_restore 54 = .ok (.invokevirtual 339, 3) := by decide +kernel
theorem dX11_restore_57 : decode cX11_restore 57 = .ok (.ireturn, 1) := by decide +kernel
theorem dX11_loadByCue_0 : decode cX11_loadByCue 0 = .ok (.aload_n 1, 1) := by decide +kernel
theorem dX11_loadByCue_1 : decode cX11_loadByCue 1 = .ok (.iload_n 2, 1) := by decide +kernel
theorem dX11_loadByCue_2 : decode cX11_loadByCue 2 = .ok (.invokevirtual 174, 3) := by decide +kernel
theorem dX11_loadByCue_5 : decode cX11_loadByCue 5 = .ok (.ifCond .ne 5, 3) := by decide +kernel
theorem dX11_loadByCue_8 : decode cX11_loadByCue 8 = .ok (.iconst 0, 1) := by decide +kernel
theorem dX11_loadByCue_9 : decode cX11_loadByCue 9 = .ok (.ireturn, 1) := by decide +kernel
theorem dX11_loadByCue_10 : decode cX11_loadByCue 10 = .ok (.aload_n 0, 1) := by decide +kernel
theorem dX11_loadByCue_11 : decode cX11_loadByCue 11 = .ok (.getfield 42, 3) := by decide +kernel
theorem dX11_loadByCue_14 : decode cX11_loadByCue 14 = .ok (.aload_n 1, 1) := by decide +kernel
theorem dX11_loadByCue_15 : decode cX11_loadByCue 15 = .ok (.iload_n 2, 1) := by decide +kernel
theorem dX11_loadByCue_16 : decode cX11_loadByCue 16 = .ok (.aload_n 0, 1) := by decide +kernel
theorem dX11_loadByCue_17 : decode cX11_loadByCue 17 = .ok (.getfield 10, 3) := by decide +kernel
theorem dX11_loadByCue_20 : decode cX11_loadByCue 20 = .ok (.getfield 78, 3) := by decide +kernel
theorem dX11_loadByCue_23 : decode cX11_loadByCue 23 = .ok (.invokevirtual 345, 3) := by decide +kernel
theorem dX11_loadByCue_26 : decode cX11_loadByCue 26 = .ok (.aload_n 0, 1) := by decide +kernel
theorem dX11_loadByCue_27 : decode cX11_loadByCue 27 = .ok (.getfield 42, 3) := by decide +kernel
theorem dX11_loadByCue_30 : decode cX11_loadByCue 30 = .ok (.invokevirtual 260, 3) := by decide +kernel
theorem dX11_loadByCue_33 : decode cX11_loadByCue 33 = .ok (.ireturn, 1) := by decide +kernel
theorem dX11_isIn_0 : decode cX11_isIn 0 = .ok (.iload_n 0, 1) := by decide +kernel
theorem dX11_isIn_1 : decode cX11_isIn 1 = .ok (.iload_n 1, 1) := by decide +kernel
theorem dX11_isIn_2 : decode cX11_isIn 2 = .ok (.if_icmp .lt 12, 3) := by decide +kernel
theorem dX11_isIn_5 : decode cX11_isIn 5 = .ok (.iload_n 0, 1) := by decide +kernel
theorem dX11_isIn_6 : decode cX11_isIn 6 = .ok (.iload_n 2, 1) := by decide +kernel
theorem dX11_isIn_7 : decode cX11_isIn 7 = .ok (.if_icmp .gt 7, 3) := by decide +kernel
theorem dX11_isIn_10 : decode cX11_isIn 10 = .ok (.iconst 1, 1) := by decide +kernel
theorem dX11_isIn_11 : decode cX11_isIn 11 = .ok (.goto 4, 3) := by decide +kernel
theorem dX11_isIn_14 : decode cX11_isIn 14 = .ok (.iconst 0, 1) := by decide +kernel
theorem dX11_isIn_15 : decode cX11_isIn 15 = .ok (.ireturn, 1) := by decide +kernel
theorem dX11_isDimmer_0 : decode cX11_isDimmer 0 = .ok (.iload_n 0, 1) := by decide +kernel
theorem dX11_isDimmer_1 : decode cX11_isDimmer 1 = .ok (.iconst 0, 1) := by decide +kernel
theorem dX11_isDimmer_2 : decode cX11_isDimmer 2 = .ok (.bipush 11, 2) := by decide +kernel
theorem dX11_isDimmer_4 : decode cX11_isDimmer 4 = .ok (.invokestatic 64, 3) := by decide +kernel
theorem dX11_isDimmer_7 : decode cX11_isDimmer 7 = .ok (.ireturn, 1) := by decide +kernel
theorem dX11_isDimmerOrNone_0 : decode cX11_isDimmerOrNone 0 = .ok (.iload_n 0, 1) := by decide +kernel
theorem dX11_isDimmerOrNone_1 : decode cX11_isDimmerOrNone 1 = .ok (.bipush (-6), 2) := by decide +kernel
theorem dX11_isDimmerOrNone_3 : decode cX11_isDimmerOrNone 3 = .ok (.if_icmp .eq 10, 3) := by decide +kernel
theorem dX11_isDimmerOrNone_6 : decode cX11_isDimmerOrNone 6 = .ok (.iload_n 0, 1) := by decide +kernel
theorem dX11_isDimmerOrNone_7 : decode cX11_isDimmerOrNone 7 = .ok (.invokestatic 131, 3) := by decide +kernel
theorem dX11_isDimmerOrNone_10 : decode cX11_isDimmerOrNone 10 = .ok (.ifCond .eq 7, 3) := by decide +kernel
theorem dX11_isDimmerOrNone_13 : decode cX11_isDimmerOrNone 13 = .ok (.iconst 1, 1) := by decide +kernel
theorem dX11_isDimmerOrNone_14 : decode cX11_isDimmerOrNone 14 = .ok (.goto 4, 3) := by decide +kernel
theorem dX11_isDimmerOrNone_17 : decode cX11_isDimmerOrNone 17 = .ok (.iconst 0, 1) := by decide +kernel
theorem dX11_isDimmerOrNone_18 : decode cX11_isDimmerOrNone 18 = .ok (.ireturn, 1) := by decide +kernel
theorem dX11_isPhase_0 : decode cX11_isPhase 0 = .ok (.iload_n 0, 1) := by decide +kernel
theorem dX11_isPhase_1 : decode cX11_isPhase 1 = .ok (.iconst 0, 1) := by decide +kernel
theorem dX11_isPhase_2 : decode cX11_isPhase 2 = .ok (.iconst 2, 1) := by decide +kernel
theorem dX11_isPhase_3 : decode cX11_isPhase 3 = .ok (.invokestatic 64, 3) := by decide +kernel
theorem dX11_isPhase_6 : decode cX11_isPhase 6 = .ok (.ireturn, 1) := by decide +kernel
theorem dX11_isCue_0 : decode cX11_isCue 0 = .ok (.iload_n 0, 1) := by decide +kernel
theorem dX11_isCue_1 : decode cX11_isCue 1 = .ok (.iconst 0, 1) := by decide +kernel
theorem dX11_isCue_2 : decode cX11_isCue 2 = .ok (.bipush 7, 2) := by decide +kernel
theorem dX11_isCue_4 : decode cX11_isCue 4 = .ok (.invokestatic 64, 3) := by decide +kernel
theorem dX11_isCue_7 : decode cX11_isCue 7 = .ok (.ireturn, 1) := by decide +kernel
theorem dX11_areDays_0 : decode cX11_areDays 0 = .ok (.iload_n 0, 1) := by decide +kernel
theorem dX11_areDays_1 : decode cX11_areDays 1 = .ok (.iconst 0, 1) := by decide +kernel
theorem dX11_areDays_2 : decode cX11_areDays 2 = .ok (.bipush 6, 2) := by decide +kernel
theorem dX11_areDays_4 : decode cX11_areDays 4 = .ok (.invokestatic 64, 3) := by decide +kernel
theorem dX11_areDays_7 : decode cX11_areDays 7 = .ok (.ifCond .eq 17, 3) := by decide +kernel
theorem dX11_areDays_10 : decode cX11_areDays 10 = .ok (.iload_n 1, 1) := by decide +kernel
theorem dX11_areDays_11 : decode cX11_areDays 11 = .ok (.iload_n 0, 1) := by decide +kernel
theorem dX11_areDays_12 : decode cX11_areDays 12 = .ok (.bipush 6, 2) := by decide +kernel
theorem dX11_areDays_14 : decode cX11_areDays 14 = .ok (.invokestatic 64, 3) := by decide +kernel
theorem dX11_areDays_17 : decode cX11_areDays 17 = .ok (.ifCond .eq 7, 3) := by decide +kernel
theorem dX11_areDays_20 : decode cX11_areDays 20 = .ok (.iconst 1, 1) := by decide +kernel
theorem dX11_areDays_21 : decode cX11_areDays 21 = .ok (.goto 4, 3) := by decide +kernel
theorem dX11_areDays_24 : decode cX11_areDays 24 = .ok (.iconst 0, 1) := by decide +kernel
theorem dX11_areDays_25 : decode cX11_areDays 25 = .ok (.ireturn, 1) := by decide +kernel
theorem dX11_hasBit_0 : decode cX11_hasBit 0 = .ok (.iload_n 0, 1) := by decide +kernel
theorem dX11_hasBit_1 : decode cX11_hasBit 1 = .ok (.iload_n 1, 1) := by decide +kernel
theorem dX11_hasBit_2 : decode cX11_hasBit 2 = .ok (.ishr, 1) := by decide +kernel
theorem dX11_hasBit_3 : decode cX11_hasBit 3 = .ok (.iconst 1, 1) := by decide +kernel
theorem dX11_hasBit_4 : decode cX11_hasBit 4 = .ok (.iand, 1) := by decide +kernel
theorem dX11_hasBit_5 : decode cX11_hasBit 5 = .ok (.ifCond .eq 7, 3) := by decide +kernel
theorem dX11_hasBit_8 : decode cX11_hasBit 8 = .ok (.iconst 1, 1) := by decide +kernel
theorem dX11_hasBit_9 : decode cX11_hasBit 9 = .ok (.goto 4, 3) := by decide +kernel
theorem dX11_hasBit_12 : decode cX11_hasBit 12 = .ok (.iconst 0, 1) := by decide +kernel
theorem dX11_hasBit_13 : decode cX11_hasBit 13 = .ok (.ireturn, 1) := by decide +kernel
theorem dX11_greatest_0 : decode cX11_greatest 0 = .ok (.iconst 0, 1) := by decide +kernel
theorem dX11_greatest_1 : decode cX11_greatest 1 = .ok (.istore_n 1, 1) := by decide +kernel
theorem dX11_greatest_2 : decode cX11_greatest 2 = .ok (.aload_n 0, 1) := by decide +kernel
theorem dX11_greatest_3 : decode cX11_greatest 3 = .ok (.astore_n 2, 1) := by decide +kernel
theorem dX11_greatest_4 : decode cX11_greatest 4 = .ok (.aload_n 2, 1) := by decide +kernel
theorem dX11_greatest_5 : decode cX11_greatest 5 = .ok (.arraylength, 1) := by decide +kernel
theorem dX11_greatest_6 : decode cX11_greatest 6 = .ok (.istore_n 3, 1) := by decide +kernel
theorem dX11_greatest_7 : decode cX11_greatest 7 = .ok (.iconst 0, 1) := by decide +kernel
theorem dX11_greatest_8 : decode cX11_greatest 8 = .ok (.istore 4, 2) := by decide +kernel
theorem dX11_greatest_10 : decode cX11_greatest 10 = .ok (.iload 4, 2) := by decide +kernel
theorem dX11_greatest_12 : decode cX11_greatest 12 = .ok (.iload_n 3, 1) := by decide +kernel
theorem dX11_greatest_13 : decode cX11_greatest 13 = .ok (.if_icmp .ge 22, 3) := by decide +kernel
theorem dX11_greatest_16 : decode cX11_greatest 16 = .ok (.aload_n 2, 1) := by decide +kernel
theorem dX11_greatest_17 : decode cX11_greatest 17 = .ok (.iload 4, 2) := by decide +kernel
theorem dX11_greatest_19 : decode cX11_greatest 19 = .ok (.iaload, 1) := by decide +kernel
theorem dX11_greatest_20 : decode cX11_greatest 20 = .ok (.istore 5, 2) := by decide +kernel
theorem dX11_greatest_22 : decode cX11_greatest 22 = .ok (.iload_n 1, 1) := by decide +kernel
theorem dX11_greatest_23 : decode cX11_greatest 23 = .ok (.iload 5, 2) := by decide +kernel
theorem dX11_greatest_25 : decode cX11_greatest 25 = .ok (.invokestatic 349, 3) := by decide +kernel
theorem dX11_greatest_28 : decode cX11_greatest 28 = .ok (.istore_n 1, 1) := by decide +kernel
theorem dX11_greatest_29 : decode cX11_greatest 29 = .ok (.iinc 4 1, 3) := by decide +kernel
theorem dX11_greatest_32 : decode cX11_greatest 32 = .ok (.goto (-22), 3) := by decide +kernel
theorem dX11_greatest_35 : decode cX11_greatest 35 = .ok (.iload_n 1, 1) := by decide +kernel
theorem dX11_greatest_36 : decode cX11_greatest 36 = .ok (.ireturn, 1) := by decide +kernel
theorem dX11_least_0 : decode cX11_least 0 = .ok (.ldc_w 317, 3) := by decide +kernel
theorem dX11_least_3 : decode cX11_least 3 = .ok (.istore_n 1, 1) := by decide +kernel
theorem dX11_least_4 : decode cX11_least 4 = .ok (.aload_n 0, 1) := by decide +kernel
theorem dX11_least_5 : decode cX11_least 5 = .ok (.astore_n 2, 1) := by decide +kernel
theorem dX11_least_6 : decode cX11_least 6 = .ok (.aload_n 2, 1) := by decide +kernel
theorem dX11_least_7 : decode cX11_least 7 = .ok (.arraylength, 1) := by decide +kernel
theorem dX11_least_8 : decode cX11_least 8 = .ok (.istore_n 3, 1) := by decide +kernel
theorem dX11_least_9 : decode cX11_least 9 = .ok (.iconst 0, 1) := by decide +kernel
theorem dX11_least_10 : decode cX11_least 10 = .ok (.istore 4, 2) := by decide +kernel
theorem dX11_least_12 : decode cX11_least 12 = .ok (.iload 4, 2) := by decide +kernel
theorem dX11_least_14 : decode cX11_least 14 = .ok (.iload_n 3, 1) := by decide +kernel
theorem dX11_least_15 : decode cX11_least 15 = .ok (.if_icmp .ge 22, 3) := by decide +kernel
theorem dX11_least_18 : decode cX11_least 18 = .ok (.aload_n 2, 1) := by decide +kernel
theorem dX11_least_19 : decode cX11_least 19 = .ok (.iload 4, 2) := by decide +kernel
theorem dX11_least_21 : decode cX11_least 21 = .ok (.iaload, 1) := by decide +kernel
theorem dX11_least_22 : decode cX11_least 22 = .ok (.istore 5, 2) := by decide +kernel
theorem dX11_least_24 : decode cX11_least 24 = .ok (.iload_n 1, 1) := by decide +kernel
theorem dX11_least_25 : decode cX11_least 25 = .ok (.iload 5, 2) := by decide +kernel
theorem dX11_least_27 : decode cX11_least 27 = .ok (.invokestatic 354, 3) := by decide +kernel
theorem dX11_least_30 : decode cX11_least 30 = .ok (.istore_n 1, 1) := by decide +kernel
theorem dX11_least_31 : decode cX11_least 31 = .ok (.iinc 4 1, 3) := by decide +kernel
theorem dX11_least_34 : decode cX11_least 34 = .ok (.goto (-22), 3) := by decide +kernel
theorem dX11_least_37 : decode cX11_least 37 = .ok (.iload_n 1, 1) := by decide +kernel
theorem dX11_least_38 : decode cX11_least 38 = .ok (.ireturn, 1) := by decide +kernel
theorem dX11_clear_0 : decode cX11_clear 0 = .ok (.iconst 0, 1) := by decide +kernel
theorem dX11_clear_1 : decode cX11_clear 1 = .ok (.istore_n 1, 1) := by decide +kernel
theorem dX11_clear_2 : decode cX11_clear 2 = .ok (.iload_n 1, 1) := by decide +kernel
theorem dX11_clear_3 : decode cX11_clear 3 = .ok (.aload_n 0, 1) := by decide +kernel
theorem dX11_clear_4 : decode cX11_clear 4 = .ok (.arraylength, 1) := by decide +kernel
theorem dX11_clear_5 : decode cX11_clear 5 = .ok (.if_icmp .ge 13, 3) := by decide +kernel
theorem dX11_clear_8 : decode cX11_clear 8 = .ok (.aload_n 0, 1) := by decide +kernel
theorem dX11_clear_9 : decode cX11_clear 9 = .ok (.iload_n 1, 1) := by decide +kernel
theorem dX11_clear_10 : decode cX11_clear 10 = .ok (.iconst 0, 1) := by decide +kernel
theorem dX11_clear_11 : decode cX11_clear 11 = .ok (.iastore, 1) := by decide +kernel
theorem dX11_clear_12 : decode cX11_clear 12 = .ok (.iinc 1 1, 3) := by decide +kernel
theorem dX11_clear_15 : decode cX11_clear 15 = .ok (.goto (-13), 3) := by decide +kernel
theorem dX11_clear_18 : decode cX11_clear 18 = .ok (.return_, 1) := by decide +kernel
theorem dX11_copy_0 : decode cX11_copy 0 = .ok (.iconst 0, 1) := by decide +kernel
theorem dX11_copy_1 : decode cX11_copy 1 = .ok (.istore_n 2, 1) := by decide +kernel
theorem dX11_copy_2 : decode cX11_copy 2 = .ok (.iload_n 2, 1) := by decide +kernel
theorem dX11_copy_3 : decode cX11_copy 3 = .ok (.aload_n 0, 1) := by decide +kernel
theorem dX11_copy_4 : decode cX11_copy 4 = .ok (.arraylength, 1) := by decide +kernel
theorem dX11_copy_5 : decode cX11_copy 5 = .ok (.if_icmp .ge 21, 3) := by decide +kernel
theorem dX11_copy_8 : decode cX11_copy 8 = .ok (.iload_n 2, 1) := by decide +kernel
theorem dX11_copy_9 : decode cX11_copy 9 = .ok (.aload_n 1, 1) := by decide +kernel
theorem dX11_copy_10 : decode cX11_copy 10 = .ok (.arraylength, 1) := by decide +kernel
theorem dX11_copy_11 : decode cX11_copy 11 = .ok (.if_icmp .ge 15, 3) := by decide +kernel
theorem dX11_copy_14 : decode cX11_copy 14 = .ok (.aload_n 1, 1) := by decide +kernel
theorem dX11_copy_15 : decode cX11_copy 15 = .ok (.iload_n 2, 1) := by decide +kernel
theorem dX11_copy_16 : decode cX11_copy 16 = .ok (.aload_n 0, 1) := by decide +kernel
theorem dX11_copy_17 : decode cX11_copy 17 = .ok (.iload_n 2, 1) := by decide +kernel
theorem dX11_copy_18 : decode cX11_copy 18 = .ok (.iaload, 1) := by decide +kernel
theorem dX11_copy_19 : decode cX11_copy 19 = .ok (.iastore, 1) := by decide +kernel
theorem dX11_copy_20 : decode cX11_copy 20 = .ok (.iinc 2 1, 3) := by decide +kernel
theorem dX11_copy_23 : decode cX11_copy 23 = .ok (.goto (-21), 3) := by decide +kernel
theorem dX11_copy_26 : decode cX11_copy 26 = .ok (.return_, 1) := by decide +kernel
theorem dX11_closeGap_0 : decode cX11_closeGap 0 = .ok (.iload_n 1, 1) := by decide +kernel
theorem dX11_closeGap_1 : decode cX11_closeGap 1 = .ok (.iconst 0, 1) := by decide +kernel
theorem dX11_closeGap_2 : decode cX11_closeGap 2 = .ok (.invokestatic 349, 3) := by decide +kernel
theorem dX11_closeGap_5 : decode cX11_closeGap 5 = .ok (.istore_n 2, 1) := by decide +kernel
theorem dX11_closeGap_6 : decode cX11_closeGap 6 = .ok (.iload_n 2, 1) := by decide +kernel
theorem dX11_closeGap_7 : decode cX11_closeGap 7 = .ok (.aload_n 0, 1) := by decide +kernel
theorem dX11_closeGap_8 : decode cX11_closeGap 8 = .ok (.arraylength, 1) := by decide +kernel
theorem dX11_closeGap_9 : decode cX11_closeGap 9 = .ok (.if_icmp .ge 29, 3) := by decide +kernel
theorem dX11_closeGap_12 : decode cX11_closeGap 12 = .ok (.aload_n 0, 1) := by decide +kernel
theorem dX11_closeGap_13 : decode cX11_closeGap 13 = .ok (.iload_n 2, 1) := by decide +kernel
theorem dX11_closeGap_14 : decode cX11_closeGap 14 = .ok (.iload_n 2, 1) := by decide +kernel
theorem dX11_closeGap_15 : decode cX11_closeGap 15 = .ok (.iconst 1, 1) := by decide +kernel
theorem dX11_closeGap_16 : decode cX11_closeGap 16 = .ok (.iadd, 1) := by decide +kernel
theorem dX11_closeGap_17 : decode cX11_closeGap 17 = .ok (.aload_n 0, 1) := by decide +kernel
theorem dX11_closeGap_18 : decode cX11_closeGap 18 = .ok (.arraylength, 1) := by decide +kernel
theorem dX11_closeGap_19 : decode cX11_closeGap 19 = .ok (.if_icmp .ge 11, 3) := by decide +kernel
theorem dX11_closeGap_22 : decode cX11_closeGap 22 = .ok (.aload_n 0, 1) := by decide +kernel
theorem dX11_closeGap_23 : decode cX11_closeGap 23 = .ok (.iload_n 2, 1) := by decide +kernel
theorem dX11_closeGap_24 : decode cX11_closeGap 24 = .ok (.iconst 1, 1) := by decide +kernel
theorem dX11_closeGap_25 : decode cX11_closeGap 25 = .ok (.iadd, 1) := by decide +kernel
theorem dX11_closeGap_26 : decode cX11_closeGap 26 = .ok (.iaload, 1) := by decide +kernel
theorem dX11_closeGap_27 : decode cX11_closeGap 27 = .ok (.goto 4, 3) := by decide +kernel
theorem dX11_closeGap_30 : decode cX11_closeGap 30 = .ok (.iconst 0, 1) := by decide +kernel
theorem dX11_closeGap_31 : decode cX11_closeGap 31 = .ok (.iastore, 1) := by decide +kernel
theorem dX11_closeGap_32 : decode cX11_closeGap 32 = .ok (.iinc 2 1, 3) := by decide +kernel
theorem dX11_closeGap_35 : decode cX11_closeGap 35 = .ok (.goto (-29), 3) := by decide +kernel
theorem dX11_closeGap_38 : decode cX11_closeGap 38 = .ok (.return_, 1) := by decide +kernel
theorem dX11_raise_0 : decode cX11_raise 0 = .ok (.iconst 0, 1) := by decide +kernel
theorem dX11_raise_1 : decode cX11_raise 1 = .ok (.istore_n 2, 1) := by decide +kernel
theorem dX11_raise_2 : decode cX11_raise 2 = .ok (.iload_n 2, 1) := by decide +kernel
theorem dX11_raise_3 : decode cX11_raise 3 = .ok (.aload_n 0, 1) := by decide +kernel
theorem dX11_raise_4 : decode cX11_raise 4 = .ok (.arraylength, 1) := by decide +kernel
theorem dX11_raise_5 : decode cX11_raise 5 = .ok (.if_icmp .ge 27, 3) := by decide +kernel
theorem dX11_raise_8 : decode cX11_raise 8 = .ok (.iload_n 2, 1) := by decide +kernel
theorem dX11_raise_9 : decode cX11_raise 9 = .ok (.aload_n 1, 1) := by decide +kernel
theorem dX11_raise_10 : decode cX11_raise 10 = .ok (.arraylength, 1) := by decide +kernel
theorem dX11_raise_11 : decode cX11_raise 11 = .ok (.if_icmp .ge 21, 3) := by decide +kernel
theorem dX11_raise_14 : decode cX11_raise 14 = .ok (.aload_n 0, 1) := by decide +kernel
theorem dX11_raise_15 : decode cX11_raise 15 = .ok (.iload_n 2, 1) := by decide +kernel
theorem dX11_raise_16 : decode cX11_raise 16 = .ok (.aload_n 0, 1) := by decide +kernel
theorem dX11_raise_17 : decode cX11_raise 17 = .ok (.iload_n 2, 1) := by decide +kernel
theorem dX11_raise_18 : decode cX11_raise 18 = .ok (.iaload, 1) := by decide +kernel
theorem dX11_raise_19 : decode cX11_raise 19 = .ok (.aload_n 1, 1) := by decide +kernel
theorem dX11_raise_20 : decode cX11_raise 20 = .ok (.iload_n 2, 1) := by decide +kernel
theorem dX11_raise_21 : decode cX11_raise 21 = .ok (.iaload, 1) := by decide +kernel
theorem dX11_raise_22 : decode cX11_raise 22 = .ok (.invokestatic 349, 3) := by decide +kernel
theorem dX11_raise_25 : decode cX11_raise 25 = .ok (.iastore, 1) := by decide +kernel
theorem dX11_raise_26 : decode cX11_raise 26 = .ok (.iinc 2 1, 3) := by decide +kernel
theorem dX11_raise_29 : decode cX11_raise 29 = .ok (.goto (-27), 3) := by decide +kernel
theorem dX11_raise_32 : decode cX11_raise 32 = .ok (.return_, 1) := by decide +kernel
theorem dX12_init_0 : decode cX12_init 0 = .ok (.aload_n 0, 1) := by decide +kernel
theorem dX12_init_1 : decode cX12_init 1 = .ok (.invokespecial 1, 3) := by decide +kernel
theorem dX12_init_4 : decode cX12_init 4 = .ok (.aload_n 0, 1) := by decide +kernel
theorem dX12_init_5 : decode cX12_init 5 = .ok (.sipush 691, 3) := by decide +kernel
theorem dX12_init_8 : decode cX12_init 8 = .ok (.newarray .int, 2) := by decide +kernel
theorem dX12_init_10 : decode cX12_init 10 = .ok (.putfield 7, 3) := by decide +kernel
theorem dX12_init_13 : decode cX12_init 13 = .ok (.aload_n 0, 1) := by decide +kernel
theorem dX12_init_14 : decode cX12_init 14 = .ok (.sipush 691, 3) := by decide +kernel
theorem dX12_init_17 : decode cX12_init 17 = .ok (.newarray .int, 2) := by decide +kernel
theorem dX12_init_19 : decode cX12_init 19 = .ok (.putfield 13, 3) := by decide +kernel
theorem dX12_init_22 : decode cX12_init 22 = .ok (.aload_n 0, 1) := by decide +kernel
theorem dX12_init_23 : decode cX12_init 23 = .ok (.sipush 4146, 3) := by decide +kernel
theorem dX12_init_26 : decode cX12_init 26 = .ok (.newarray .int, 2) := by decide +kernel
theorem dX12_init_28 : decode cX12_init 28 = .ok (.putfield 16, 3) := by decide +kernel
theorem dX12_init_31 : decode cX12_init 31 = .ok (.aload_n 0, 1) := by decide +kernel
theorem dX12_init_32 : decode cX12_init 32 = .ok (.sipush 1382, 3) := by decide +kernel
theorem dX12_init_35 : decode cX12_init 35 = .ok (.newarray .int, 2) := by decide +kernel
theorem dX12_init_37 : decode cX12_init 37 = .ok (.putfield 19, 3) := by decide +kernel
theorem dX12_init_40 : decode cX12_init 40 = .ok (.aload_n 0, 1) := by decide +kernel
theorem dX12_init_41 : decode cX12_init 41 = .ok (.iconst 2, 1) := by decide +kernel
theorem dX12_init_42 : decode cX12_init 42 = .ok (.newarray .boolean, 2) := by decide +kernel
theorem dX12_init_44 : decode cX12_init 44 = .ok (.putfield 22, 3) := by decide +kernel
theorem dX12_init_47 : decode cX12_init 47 = .ok (.aload_n 0, 1) := by decide +kernel
theorem dX12_init_48 : decode cX12_init 48 = .ok (.bipush 60, 2) := by decide +kernel
theorem dX12_init_50 : decode cX12_init 50 = .ok (.newarray .int, 2) := by decide +kernel
theorem dX12_init_52 : decode cX12_init 52 = .ok (.putfield 26, 3) := by decide +kernel
theorem dX12_init_55 : decode cX12_init 55 = .ok (.aload_n 0, 1) := by decide +kernel
theorem dX12_init_56 : decode cX12_init 56 = .ok (.bipush 12, 2) := by decide +kernel
theorem dX12_init_58 : decode cX12_init 58 = .ok (.newarray .int, 2) := by decide +kernel
theorem dX12_init_60 : decode cX12_init 60 = .ok (.putfield 29, 3) := by decide +kernel
theorem dX12_init_63 : decode cX12_init 63 = .ok (.aload_n 0, 1) := by decide +kernel
theorem dX12_init_64 : decode cX12_init 64 = .ok (.iconst 3, 1) := by decide +kernel
theorem dX12_init_65 : decode cX12_init 65 = .ok (.newarray .int, 2) := by decide +kernel
theorem dX12_init_67 : decode cX12_init 67 = .ok (.putfield 32, 3) := by decide +kernel
theorem dX12_init_70 : decode cX12_init 70 = .ok (.aload_n 0, 1) := by decide +kernel
theorem dX12_init_71 : decode cX12_init 71 = .ok (.bipush 62, 2) := by decide +kernel
theorem dX12_init_73 : decode cX12_init 73 = .ok (.newarray .int, 2) := by decide +kernel
theorem dX12_init_75 : decode cX12_init 75 = .ok (.putfield 35, 3) := by decide +kernel
theorem dX12_init_78 : decode cX12_init 78 = .ok (.aload_n 0, 1) := by decide +kernel
theorem dX12_init_79 : decode cX12_init 79 = .ok (.getfield 7, 3) := by decide +kernel
theorem dX12_init_82 : decode cX12_init 82 = .ok (.iconst 0, 1) := by decide +kernel
theorem dX12_init_83 : decode cX12_init 83 = .ok (.sipush 2400, 3) := by decide +kernel
theorem dX12_init_86 : decode cX12_init 86 = .ok (.iastore, 1) := by decide +kernel
theorem dX12_init_87 : decode cX12_init 87 = .ok (.aload_n 0, 1) := by decide +kernel
theorem dX12_init_88 : decode cX12_init 88 = .ok (.getfield 7, 3) := by decide +kernel
theorem dX12_init_91 : decode cX12_init 91 = .ok (.iconst 1, 1) := by decide +kernel
theorem dX12_init_92 : decode cX12_init 92 = .ok (.sipush 7000, 3) := by decide +kernel
theorem dX12_init_95 : decode cX12_init 95 = .ok (.iastore, 1) := by decide +kernel
theorem dX12_init_96 : decode cX12_init 96 = .ok (.aload_n 0, 1) := by decide +kernel
theorem dX12_init_97 : decode cX12_init 97 = .ok (.getfield 7, 3) := by decide +kernel
theorem dX12_init_100 : decode cX12_init 100 = .ok (.iconst 2, 1) := by decide +kernel
theorem dX12_init_101 : decode cX12_init 101 = .ok (.iconst 3, 1) := by decide +kernel
theorem dX12_init_102 : decode cX12_init 102 = .ok (.iastore, 1) := by decide +kernel
theorem dX12_init_103 : decode cX12_init 103 = .ok (.iconst 0, 1) := by decide +kernel
theorem dX12_init_104 : decode cX12_init 104 = .ok (.istore_n 1, 1) := by decide +kernel
theorem dX12_init_105 : decode cX12_init 105 = .ok (.iload_n 1, 1) := by decide +kernel
theorem dX12_init_106 : decode cX12_init 106 = .ok (.bipush 36, 2) := by decide +kernel
theorem dX12_init_108 : decode cX12_init 108 = .ok (.if_icmp .ge 34, 3) := by decide +kernel
theorem dX12_init_111 : decode cX12_init 111 = .ok (.aload_n 0, 1) := by decide +kernel
theorem dX12_init_112 : decode cX12_init 112 = .ok (.getfield 7, 3) := by decide +kernel
theorem dX12_init_115 : decode cX12_init 115 = .ok (.iload_n 1, 1) := by decide +kernel
theorem dX12_init_116 : decode cX12_init 116 = .ok (.bipush 12, 2) := by decide +kernel
theorem dX12_init_118 : decode cX12_init 118 = .ok (.idiv, 1) := by decide +kernel
theorem dX12_init_119 : decode cX12_init 119 = .ok (.bipush 75, 2) := by decide +kernel
theorem dX12_init_121 : decode cX12_init 121 = .ok (.iload_n 1, 1) := by decide +kernel
theorem dX12_init_122 : decode cX12_init 122 = .ok (.bipush 12, 2) := by decide +kernel
theorem dX12_init_124 : decode cX12_init 124 = .ok (.irem, 1) := by decide +kernel
theorem dX12_init_125 : decode cX12_init 125 = .ok (.iadd, 1) := by decide +kernel
theorem dX12_init_126 : decode cX12_init 126 = .ok (.invokestatic 38, 3) := by decide +kernel
theorem dX12_init_129 : decode cX12_init 129 = .ok (.iload_n 1, 1) := by decide +kernel
theorem dX12_init_130 : decode cX12_init 130 = .ok (.bipush 12, 2) := by decide +kernel
theorem dX12_init_132 : decode cX12_init 132 = .ok (.irem, 1) := by decide +kernel
theorem dX12_init_133 : decode cX12_init 133 = .ok (.iconst 3, 1) := by decide +kernel
theorem dX12_init_134 : decode cX12_init 134 = .ok (.irem, 1) := by decide +kernel
theorem dX12_init_135 : decode cX12_init 135 = .ok (.iastore, 1) := by decide +kernel
theorem dX12_init_136 : decode cX12_init 136 = .ok (.iinc 1 1, 3) := by decide +kernel
theorem dX12_init_139 : decode cX12_init 139 = .ok (.goto (-34), 3) := by decide +kernel
theorem dX12_init_142 : decode cX12_init 142 = .ok (.return_, 1) := by decide +kernel
theorem dX12_in_0 : decode cX12_in 0 = .ok (.iload_n 0, 1) := by decide +kernel
theorem dX12_in_1 : decode cX12_in 1 = .ok (.iload_n 1, 1) := by decide +kernel
theorem dX12_in_2 : decode cX12_in 2 = .ok (.if_icmp .lt 12, 3) := by decide +kernel
theorem dX12_in_5 : decode cX12_in 5 = .ok (.iload_n 0, 1) := by decide +kernel
theorem dX12_in_6 : decode cX12_in 6 = .ok (.iload_n 2, 1) := by decide +kernel
theorem dX12_in_7 : decode cX12_in 7 = .ok (.if_icmp .gt 7, 3) := by decide +kernel
theorem dX12_in_10 : decode cX12_in 10 = .ok (.iconst 1, 1) := by decide +kernel
theorem dX12_in_11 : decode cX12_in 11 = .ok (.goto 4, 3) := by decide +kernel
theorem dX12_in_14 : decode cX12_in 14 = .ok (.iconst 0, 1) := by decide +kernel
theorem dX12_in_15 : decode cX12_in 15 = .ok (.ireturn, 1) := by decide +kernel
theorem dX12_at1_0 : decode cX12_at1 0 = .ok (.bipush 22, 2) := by decide +kernel
theorem dX12_at1_2 : decode cX12_at1 2 = .ok (.sipush 223, 3) := by decide +kernel
theorem dX12_at1_5 : decode cX12_at1 5 = .ok (.iload_n 0, 1) := by decide +kernel
theorem dX12_at1_6 : decode cX12_at1 6 = .ok (.imul, 1) := by decide +kernel
theorem dX12_at1_7 : decode cX12_at1 7 = .ok (.iadd, 1) := by decide +kernel
theorem dX12_at1_8 : decode cX12_at1 8 = .ok (.iload_n 1, 1) := by decide +kernel
theorem dX12_at1_9 : decode cX12_at1 9 = .ok (.iadd, 1) := by decide +kernel
theorem dX12_at1_10 : decode cX12_at1 10 = .ok (.ireturn, 1) := by decide +kernel
theorem dX12_ofLamp_0 : decode cX12_ofLamp 0 = .ok (.iload_n 0, 1) := by decide +kernel
theorem dX12_ofLamp_1 : decode cX12_ofLamp 1 = .ok (.iconst 3, 1) := by decide +kernel
theorem dX12_ofLamp_2 : decode cX12_ofLamp 2 = .ok (.bipush 6, 2) := by decide +kernel
theorem dX12_ofLamp_4 : decode cX12_ofLamp 4 = .ok (.iload_n 1, 1) := by decide +kernel
theorem dX12_ofLamp_5 : decode cX12_ofLamp 5 = .ok (.imul, 1) := by decide +kernel
theorem dX12_ofLamp_6 : decode cX12_ofLamp 6 = .ok (.iadd, 1) := by decide +kernel
theorem dX12_ofLamp_7 : decode cX12_ofLamp 7 = .ok (.iload_n 2, 1) := by decide +kernel
theorem dX12_ofLamp_8 : decode cX12_ofLamp 8 = .ok (.iadd, 1) := by decide +kernel
theorem dX12_ofLamp_9 : decode cX12_ofLamp 9 = .ok (.invokestatic 38, 3) := by decide +kernel
theorem dX12_ofLamp_12 : decode cX12_ofLamp 12 = .ok (.ireturn, 1) := by decide +kernel
theorem dX12_ofCue_0 : decode cX12_ofCue 0 = .ok (.iload_n 0, 1) := by decide +kernel
theorem dX12_ofCue_1 : decode cX12_ofCue 1 = .ok (.bipush 117, 2) := by decide +kernel
theorem dX12_ofCue_3 : decode cX12_ofCue 3 = .ok (.bipush 13, 2) := by decide +kernel
theorem dX12_ofCue_5 : decode cX12_ofCue 5 = .ok (.iload_n 1, 1) := by decide +kernel
theorem dX12_ofCue_6 : decode cX12_ofCue 6 = .ok (.imul, 1) := by decide +kernel
theorem dX12_ofCue_7 : decode cX12_ofCue 7 = .ok (.iadd, 1) := by decide +kernel
theorem dX12_ofCue_8 : decode cX12_ofCue 8 = .ok (.invokestatic 38, 3) := by decide +kernel
theorem dX12_ofCue_11 : decode cX12_ofCue 11 = .ok (.ireturn, 1) := by decide +kernel
theorem dX12_isPremiere_0 : decode cX12_isPremiere 0 = .ok (.iload_n 0, 1) := by decide +kernel
theorem dX12_isPremiere_1 : decode cX12_isPremiere 1 = .ok (.iconst 0, 1) := by decide +kernel
theorem dX12_isPremiere_2 : decode cX12_isPremiere 2 = .ok (.iconst 2, 1) := by decide +kernel
theorem dX12_isPremiere_3 : decode cX12_isPremiere 3 = .ok (.invokestatic 42, 3) := by decide +kernel
theorem dX12_isPremiere_6 : decode cX12_isPremiere 6 = .ok (.ireturn, 1) := by decide +kernel
theorem dX12_isLamp_0 : decode cX12_isLamp 0 = .ok (.iload_n 1, 1) := by decide +kernel
theorem dX12_isLamp_1 : decode cX12_isLamp 1 = .ok (.invokestatic 46, 3) := by decide +kernel
theorem dX12_isLamp_4 : decode cX12_isLamp 4 = .ok (.ifCond .eq 27, 3) := by decide +kernel
theorem dX12_isLamp_7 : decode cX12_isLamp 7 = .ok (.iload_n 2, 1) := by decide +kernel
theorem dX12_isLamp_8 : decode cX12_isLamp 8 = .ok (.iconst 0, 1) := by decide +kernel
theorem dX12_isLamp_9 : decode cX12_isLamp 9 = .ok (.aload_n 0, 1) := by decide +kernel
theorem dX12_isLamp_10 : decode cX12_isLamp 10 = .ok (.getfield 7, 3) := by decide +kernel
theorem dX12_isLamp_13 : decode cX12_isLamp 13 = .ok (.iload_n 1, 1) := by decide +kernel
theorem dX12_isLamp_14 : decode cX12_isLamp 14 = .ok (.iconst 2, 1) := by decide +kernel
theorem dX12_isLamp_15 : decode cX12_isLamp 15 = .ok (.invokestatic 38, 3) := by decide +kernel
theorem dX12_isLamp_18 : decode cX12_isLamp 18 = .ok (.iaload, 1) := by decide +kernel
theorem dX12_isLamp_19 : decode cX12_isLamp 19 = .ok (.iconst 1, 1) := by decide +kernel
theorem dX12_isLamp_20 : decode cX12_isLamp 20 = .ok (.isub, 1) := by decide +kernel
theorem dX12_isLamp_21 : decode cX12_isLamp 21 = .ok (.invokestatic 42, 3) := by decide +kernel
theorem dX12_isLamp_24 : decode cX12_isLamp 24 = .ok (.ifCond .eq 7, 3) := by decide +kernel
theorem dX12_isLamp_27 : decode cX12_isLamp 27 = .ok (.iconst 1, 1) := by decide +kernel
theorem dX12_isLamp_28 : decode cX12_isLamp 28 = .ok (.goto 4, 3) := by decide +kernel
theorem dX12_isLamp_31 : decode cX12_isLamp 31 = .ok (.iconst 0, 1) := by decide +kernel
theorem dX12_isLamp_32 : decode cX12_isLamp 32 = .ok (.ireturn, 1) := by decide +kernel
theorem dX12_isDimmer_0 : decode cX12_isDimmer 0 = .ok (.iload_n 0, 1) := by decide +kernel
theorem dX12_isDimmer_1 : decode cX12_isDimmer 1 = .ok (.iconst 0, 1) := by decide +kernel
theorem dX12_isDimmer_2 : decode cX12_isDimmer 2 = .ok (.bipush 11, 2) := by decide +kernel
theorem dX12_isDimmer_4 : decode cX12_isDimmer 4 = .ok (.invokestatic 42, 3) := by decide +kernel
theorem dX12_isDimmer_7 : decode cX12_isDimmer 7 = .ok (.ireturn, 1) := by decide +kernel
theorem dX12_know_0 : decode cX12_know 0 = .ok (.aload_n 0, 1) := by decide +kernel
theorem dX12_know_1 : decode cX12_know 1 = .ok (.getfield 50, 3) := by decide +kernel
theorem dX12_know_4 : decode cX12_know 4 = .ok (.bipush 6, 2) := by decide +kernel
theorem dX12_know_6 : decode cX12_know 6 = .ok (.if_icmp .ne 44, 3) := by decide +kernel
theorem dX12_know_9 : decode cX12_know 9 = .ok (.iconst 0, 1) := by decide +kernel
theorem dX12_know_10 : decode cX12_know 10 = .ok (.istore_n 1, 1) := by decide +kernel
theorem dX12_know_11 : decode cX12_know 11 = .ok (.iload_n 1, 1) := by decide +kernel
theorem dX12_know_12 : decode cX12_know 12 = .ok (.sipush 3455, 3) := by decide +kernel
theorem dX12_know_15 : decode cX12_know 15 = .ok (.if_icmp .ge 25, 3) := by decide +kernel
theorem dX12_know_18 : decode cX12_know 18 = .ok (.aload_n 0, 1) := by decide +kernel
theorem dX12_know_19 : decode cX12_know 19 = .ok (.getfield 16, 3) := by decide +kernel
theorem dX12_know_22 : decode cX12_know 22 = .ok (.iload_n 1, 1) := by decide +kernel
theorem dX12_know_23 : decode cX12_know 23 = .ok (.aload_n 0, 1) := by decide +kernel
theorem dX12_know_24 : decode cX12_know 24 = .ok (.getfield 16, 3) := by decide +kernel
theorem dX12_know_27 : decode cX12_know 27 = .ok (.sipush 691, 3) := by decide +kernel
theorem dX12_know_30 : decode cX12_know 30 = .ok (.iload_n 1, 1) := by decide +kernel
theorem dX12_know_31 : decode cX12_know 31 = .ok (.iadd, 1) := by decide +kernel
theorem dX12_know_32 : decode cX12_know 32 = .ok (.iaload, 1) := by decide +kernel
theorem dX12_know_33 : decode cX12_know 33 = .ok (.iastore, 1) := by decide +kernel
theorem dX12_know_34 : decode cX12_know 34 = .ok (.iinc 1 1, 3) := by decide +kernel
theorem dX12_know_37 : decode cX12_know 37 = .ok (.goto (-26), 3) := by decide +kernel
theorem dX12_know_40 : decode cX12_know 40 = .ok (.aload_n 0, 1) := by decide +kernel
theorem dX12_know_41 : decode cX12_know 41 = .ok (.dup, 1) := by decide +kernel
theorem dX12_know_42 : decode cX12_know 42 = .ok (.getfield 50, 3) := by decide +kernel
theorem dX12_know_45 : decode cX12_know 45 = .ok (.iconst 1, 1) := by decide +kernel
theorem dX12_know_46 : decode cX12_know 46 = .ok (.isub, 1) := by decide +kernel
theorem dX12_know_47 : decode cX12_know 47 = .ok (.putfield 50, 3) := by decide +kernel
theorem dX12_know_50 : decode cX12_know 50 = .ok (.iconst 0, 1) := by decide +kernel
theorem dX12_know_51 : decode cX12_know 51 = .ok (.istore_n 1, 1) := by decide +kernel
theorem dX12_know_52 : decode cX12_know 52 = .ok (.iload_n 1, 1) := by decide +kernel
theorem dX12_know_53 : decode cX12_know 53 = .ok (.sipush 691, 3) := by decide +kernel
theorem dX12_know_56 : decode cX12_know 56 = .ok (.if_icmp .ge 30, 3) := by decide +kernel
theorem dX12_know_59 : decode cX12_know 59 = .ok (.aload_n 0, 1) := by decide +kernel
theorem dX12_know_60 : decode cX12_know 60 = .ok (.getfield 16, 3) := by decide +kernel
theorem dX12_know_63 : decode cX12_know 63 = .ok (.sipush 691, 3) := by decide +kernel
theorem dX12_know_66 : decode cX12_know 66 = .ok (.aload_n 0, 1) := by decide +kernel
theorem dX12_know_67 : decode cX12_know 67 = .ok (.getfield 50, 3) := by decide +kernel
theorem dX12_know_70 : decode cX12_know 70 = .ok (.imul, 1) := by decide +kernel
theorem dX12_know_71 : decode cX12_know 71 = .ok (.iload_n 1, 1) := by decide +kernel
theorem dX12_know_72 : decode cX12_know 72 = .ok (.iadd, 1) := by decide +kernel
theorem dX12_know_73 : decode cX12_know 73 = .ok (.aload_n 0, 1) := by decide +kernel
theorem dX12_know_74 : decode cX12_know 74 = .ok (.getfield 7, 3) := by decide +kernel
theorem dX12_know_77 : decode cX12_know 77 = .ok (.iload_n 1, 1) := by decide +kernel
theorem dX12_know_78 : decode cX12_know 78 = .ok (.iaload, 1) := by decide +kernel
theorem dX12_know_79 : decode cX12_know 79 = .ok (.iastore, 1) := by decide +kernel
theorem dX12_know_80 : decode cX12_know 80 = .ok (.iinc 1 1, 3) := by decide +kernel
theorem dX12_know_83 : decode cX12_know 83 = .ok (.goto (-31), 3) := by decide +kernel
theorem dX12_know_86 : decode cX12_know 86 = .ok (.aload_n 0, 1) := by decide +kernel
theorem dX12_know_87 : decode cX12_know 87 = .ok (.dup, 1) := by decide +kernel
theorem dX12_know_88 : decode cX12_know 88 = .ok (.getfield 50, 3) := by decide +kernel
theorem dX12_know_91 : decode cX12_know 91 = .ok (.iconst 1, 1) := by decide +kernel
theorem dX12_know_92 : decode cX12_know 92 = .ok (.iadd, 1) := by decide +kernel
theorem dX12_know_93 : decode cX12_know 93 = .ok (.putfield 50, 3) := by decide +kernel
theorem dX12_know_96 : decode cX12_know 96 = .ok (.return_, 1) := by decide +kernel
theorem dX12_putAside_0 : decode cX12_putAside 0 = .ok (.iconst 0, 1) := by decide +kernel
theorem dX12_putAside_1 : decode cX12_putAside 1 = .ok (.istore_n 1, 1) := by decide +kernel
theorem dX12_putAside_2 : decode cX12_putAside 2 = .ok (.iload_n 1, 1) := by decide +kernel
theorem dX12_putAside_3 : decode cX12_putAside 3 = .ok (.sipush 691, 3) := by decide +kernel
theorem dX12_putAside_6 : decode cX12_putAside 6 = .ok (.if_icmp .ge 21, 3) := by decide +kernel
theorem dX12_putAside_9 : decode cX12_putAside 9 = .ok (.aload_n 0, 1) := by decide +kernel
theorem dX12_putAside_10 : decode cX12_putAside 10 = .ok (.getfield 13, 3) := by decide +kernel
theorem dX12_putAside_13 : decode cX12_putAside 13 = .ok (.iload_n 1, 1) := by decide +kernel
theorem dX12_putAside_14 : decode cX12_putAside 14 = .ok (.aload_n 0, 1) := by decide +kernel
theorem dX12_putAside_15 : decode cX12_putAside 15 = .ok (.getfield 7, 3) := by decide +kernel
theorem dX12_putAside_18 : decode cX12_putAside 18 = .ok (.iload_n 1, 1) := by decide +kernel
theorem dX12_putAside_19 : decode cX12_putAside 19 = .ok (.iaload, 1) := by decide +kernel
theorem dX12_putAside_20 : decode cX12_putAside 20 = .ok (.iastore, 1) := by decide +kernel
theorem dX12_putAside_21 : decode cX12_putAside 21 = .ok (.iinc 1 1, 3) := by decide +kernel
theorem dX12_putAside_24 : decode cX12_putAside 24 = .ok (.goto (-22), 3) := by decide +kernel
theorem dX12_putAside_27 : decode cX12_putAside 27 = .ok (.return_, 1) := by decide +kernel
theorem dX12_putBack_0 : decode cX12_putBack 0 = .ok (.iconst 0, 1) := by decide +kernel
theorem dX12_putBack_1 : decode cX12_putBack 1 = .ok (.istore_n 1, 1) := by decide +kernel
theorem dX12_putBack_2 : decode cX12_putBack 2 = .ok (.iload_n 1, 1) := by decide +kernel
theorem dX12_putBack_3 : decode cX12_putBack 3 = .ok (.sipush 691, 3) := by decide +kernel
theorem dX12_putBack_6 : decode cX12_putBack 6 = .ok (.if_icmp .ge 21, 3) := by decide +kernel
theorem dX12_putBack_9 : decode cX12_putBack 9 = .ok (.aload_n 0, 1) := by decide +kernel
theorem dX12_putBack_10 : decode cX12_putBack 10 = .ok (.getfield 7, 3) := by decide +kernel
theorem dX12_putBack_13 : decode cX12_putBack 13 = .ok (.iload_n 1, 1) := by decide +kernel
theorem dX12_putBack_14 : decode cX12_putBack 14 = .ok (.aload_n 0, 1) := by decide +kernel
theorem dX12_putBack_15 : decode cX12_putBack 15 = .ok (.getfield 13, 3) := by decide +kernel
theorem dX12_putBack_18 : decode cX12_putBack 18 = .ok (.iload_n 1, 1) := by decide +kernel
theorem dX12_putBack_19 : decode cX12_putBack 19 = .ok (.iaload, 1) := by decide +kernel
theorem dX12_putBack_20 : decode cX12_putBack 20 = .ok (.iastore, 1) := by decide +kernel
theorem dX12_putBack_21 : decode cX12_putBack 21 = .ok (.iinc 1 1, 3) := by decide +kernel
theorem dX12_putBack_24 : decode cX12_putBack 24 = .ok (.goto (-22), 3) := by decide +kernel
theorem dX12_putBack_27 : decode cX12_putBack 27 = .ok (.return_, 1) := by decide +kernel
theorem dX12_watts_0 : decode cX12_watts 0 = .ok (.aload_n 0, 1) := by decide +kernel
theorem dX12_watts_1 : decode cX12_watts 1 = .ok (.getfield 7, 3) := by decide +kernel
theorem dX12_watts_4 : decode cX12_watts 4 = .ok (.iconst 4, 1) := by decide +kernel
theorem dX12_watts_5 : decode cX12_watts 5 = .ok (.iconst 3, 1) := by decide +kernel
theorem dX12_watts_6 : decode cX12_watts 6 = .ok (.aload_n 0, 1) := by decide +kernel
theorem dX12_watts_7 : decode cX12_watts 7 = .ok (.getfield 7, 3) := by decide +kernel
theorem dX12_watts_10 : decode cX12_watts 10 = .ok (.iload_n 1, 1) := by decide +kernel
theorem dX12_watts_11 : decode cX12_watts 11 = .ok (.iload_n 2, 1) := by decide +kernel
theorem dX12_watts_12 : decode cX12_watts 12 = .ok (.iconst 0, 1) := by decide +kernel
theorem dX12_watts_13 : decode cX12_watts 13 = .ok (.invokestatic 54, 3) := by decide +kernel
theorem dX12_watts_16 : decode cX12_watts 16 = .ok (.iaload, 1) := by decide +kernel
theorem dX12_watts_17 : decode cX12_watts 17 = .ok (.imul, 1) := by decide +kernel
theorem dX12_watts_18 : decode cX12_watts 18 = .ok (.iadd, 1) := by decide +kernel
theorem dX12_watts_19 : decode cX12_watts 19 = .ok (.iaload, 1) := by decide +kernel
theorem dX12_watts_20 : decode cX12_watts 20 = .ok (.iload_n 3, 1) := by decide +kernel
theorem dX12_watts_21 : decode cX12_watts 21 = .ok (.imul, 1) := by decide +kernel
theorem dX12_watts_22 : decode cX12_watts 22 = .ok (.bipush 100, 2) := by decide +kernel
theorem dX12_watts_24 : decode cX12_watts 24 = .ok (.idiv, 1) := by decide +kernel
theorem dX12_watts_25 : decode cX12_watts 25 = .ok (.ireturn, 1) := by decide +kernel
theorem dX12_loadOfLamp_0 : decode cX12_loadOfLamp 0 = .ok (.aload_n 0, 1) := by decide +kernel
theorem dX12_loadOfLamp_1 : decode cX12_loadOfLamp 1 = .ok (.getfield 7, 3) := by decide +kernel
theorem dX12_loadOfLamp_4 : decode cX12_loadOfLamp 4 = .ok (.iload_n 1, 1) := by decide +kernel
theorem dX12_loadOfLamp_5 : decode cX12_loadOfLamp 5 = .ok (.iload_n 2, 1) := by decide +kernel
theorem dX12_loadOfLamp_6 : decode cX12_loadOfLamp 6 = .ok (.iconst 1, 1) := by decide +kernel
theorem dX12_loadOfLamp_7 : decode cX12_loadOfLamp 7 = .ok (.invokestatic 54, 3) := by decide +kernel
theorem dX12_loadOfLamp_10 : decode cX12_loadOfLamp 10 = .ok (.iaload, 1) := by decide +kernel
theorem dX12_loadOfLamp_11 : decode cX12_loadOfLamp 11 = .ok (.istore_n 3, 1) := by decide +kernel
theorem dX12_loadOfLamp_12 : decode cX12_loadOfLamp 12 = .ok (.iload_n 3, 1) := by decide +kernel
theorem dX12_loadOfLamp_13 : decode cX12_loadOfLamp 13 = .ok (.bipush (-6), 2) := by decide +kernel
theorem dX12_loadOfLamp_15 : decode cX12_loadOfLamp 15 = .ok (.if_icmp .eq 49, 3) := by decide +kernel
theorem dX12_loadOfLamp_18 : decode cX12_loadOfLamp 18 = .ok (.aload_n 0, 1) := by decide +kernel
theorem dX12_loadOfLamp_19 : decode cX12_loadOfLamp 19 = .ok (.getfield 7, 3) := by decide +kernel
theorem dX12_loadOfLamp_22 : decode cX12_loadOfLamp 22 = .ok (.iload_n 1, 1) := by decide +kernel
theorem dX12_loadOfLamp_23 : decode cX12_loadOfLamp 23 = .ok (.bipush 87, 2) := by decide +kernel
theorem dX12_loadOfLamp_25 : decode cX12_loadOfLamp 25 = .ok (.iload_n 3, 1) := by decide +kernel
theorem dX12_loadOfLamp_26 : decode cX12_loadOfLamp 26 = .ok (.iadd, 1) := by decide +kernel
theorem dX12_loadOfLamp_27 : decode cX12_loadOfLamp 27 = .ok (.invokestatic 38, 3) := by decide +kernel
theorem dX12_loadOfLamp_30 : decode cX12_loadOfLamp 30 = .ok (.iaload, 1) := by decide +kernel
theorem dX12_loadOfLamp_31 : decode cX12_loadOfLamp 31 = .ok (.iconst 1, 1) := by decide +kernel
theorem dX12_loadOfLamp_32 : decode cX12_loadOfLamp 32 = .ok (.if_icmp .eq 32, 3) := by decide +kernel
theorem dX12_loadOfLamp_35 : decode cX12_loadOfLamp 35 = .ok (.aload_n 0, 1) := by decide +kernel
theorem dX12_loadOfLamp_36 : decode cX12_loadOfLamp 36 = .ok (.getfield 7, 3) := by decide +kernel
theorem dX12_loadOfLamp_39 : decode cX12_loadOfLamp 39 = .ok (.iload_n 1, 1) := by decide +kernel
theorem dX12_loadOfLamp_40 : decode cX12_loadOfLamp 40 = .ok (.bipush 99, 2) := by decide +kernel
theorem dX12_loadOfLamp_42 : decode cX12_loadOfLamp 42 = .ok (.aload_n 0, 1) := by decide +kernel
theorem dX12_loadOfLamp_43 : decode cX12_loadOfLamp 43 = .ok (.getfield 7, 3) := by decide +kernel
theorem dX12_loadOfLamp_46 : decode cX12_loadOfLamp 46 = .ok (.iload_n 1, 1) := by decide +kernel
theorem dX12_loadOfLamp_47 : decode cX12_loadOfLamp 47 = .ok (.bipush 75, 2) := by decide +kernel
theorem dX12_loadOfLamp_49 : decode cX12_loadOfLamp 49 = .ok (.iload_n 3, 1) := by decide +kernel
theorem dX12_loadOfLamp_50 : decode cX12_loadOfLamp 50 = .ok (.iadd, 1) := by decide +kernel
theorem dX12_loadOfLamp_51 : decode cX12_loadOfLamp 51 = .ok (.invokestatic 38, 3) := by decide +kernel
theorem dX12_loadOfLamp_54 : decode cX12_loadOfLamp 54 = .ok (.iaload, 1) := by decide +kernel
theorem dX12_loadOfLamp_55 : decode cX12_loadOfLamp 55 = .ok (.iadd, 1) := by decide +kernel
theorem dX12_loadOfLamp_56 : decode cX12_loadOfLamp 56 = .ok (.invokestatic 38, 3) := by decide +kernel
theorem dX12_loadOfLamp_59 : decode cX12_loadOfLamp 59 = .ok (.iaload, 1) := by decide +kernel
theorem dX12_loadOfLamp_60 : decode cX12_loadOfLamp 60 = .ok (.iconst 1, 1) := by decide +kernel
theorem dX12_loadOfLamp_61 : decode cX12_loadOfLamp 61 = .ok (.if_icmp .ne 5, 3) := by decide +kernel
theorem dX12_loadOfLamp_64 : decode cX12_loadOfLamp 64 = .ok (.iconst 0, 1) := by decide +kernel
theorem dX12_loadOfLamp_65 : decode cX12_loadOfLamp 65 = .ok (.ireturn, 1) := by decide +kernel
theorem dX12_loadOfLamp_66 : decode cX12_loadOfLamp 66 = .ok (.aload_n 0, 1) := by decide +kernel
theorem dX12_loadOfLamp_67 : decode cX12_loadOfLamp 67 = .ok (.iload_n 1, 1) := by decide +kernel
theorem dX12_loadOfLamp_68 : decode cX12_loadOfLamp 68 = .ok (.iload_n 2, 1) := by decide +kernel
theorem dX12_loadOfLamp_69 : decode cX12_loadOfLamp 69 = .ok (.aload_n 0, 1) := by decide +kernel
theorem dX12_loadOfLamp_70 : decode cX12_loadOfLamp 70 = .ok (.getfield 7, 3) := by decide +kernel
theorem dX12_loadOfLamp_73 : decode cX12_loadOfLamp 73 = .ok (.iload_n 1, 1) := by decide +kernel
theorem dX12_loadOfLamp_74 : decode cX12_loadOfLamp 74 = .ok (.iload_n 2, 1) := by decide +kernel
theorem dX12_loadOfLamp_75 : decode cX12_loadOfLamp 75 = .ok (.iconst 3, 1) := by decide +kernel
theorem dX12_loadOfLamp_76 : decode cX12_loadOfLamp 76 = .ok (.invokestatic 54, 3) := by decide +kernel
theorem dX12_loadOfLamp_79 : decode cX12_loadOfLamp 79 = .ok (.iaload, 1) := by decide +kernel
theorem dX12_loadOfLamp_80 : decode cX12_loadOfLamp 80 = .ok (.invokevirtual 58, 3) := by decide +kernel
theorem dX12_loadOfLamp_83 : decode cX12_loadOfLamp 83 = .ok (.ireturn, 1) := by decide +kernel
theorem dX12_load_0 : decode cX12_load 0 = .ok (.iconst 0, 1) := by decide +kernel
theorem dX12_load_1 : decode cX12_load 1 = .ok (.istore_n 3, 1) := by decide +kernel
theorem dX12_load_2 : decode cX12_load 2 = .ok (.iconst 0, 1) := by decide +kernel
theorem dX12_load_3 : decode cX12_load 3 = .ok (.istore 4, 2) := by decide +kernel
theorem dX12_load_5 : decode cX12_load 5 = .ok (.iload 4, 2) := by decide +kernel
theorem dX12_load_7 : decode cX12_load 7 = .ok (.aload_n 0, 1) := by decide +kernel
theorem dX12_load_8 : decode cX12_load 8 = .ok (.getfield 7, 3) := by decide +kernel
theorem dX12_load_11 : decode cX12_load 11 = .ok (.iload_n 1, 1) := by decide +kernel
theorem dX12_load_12 : decode cX12_load 12 = .ok (.iconst 2, 1) := by decide +kernel
theorem dX12_load_13 : decode cX12_load 13 = .ok (.invokestatic 38, 3) := by decide +kernel
theorem dX12_load_16 : decode cX12_load 16 = .ok (.iaload, 1) := by decide +kernel
theorem dX12_load_17 : decode cX12_load 17 = .ok (.if_icmp .ge 83, 3) := by decide +kernel
theorem dX12_load_20 : decode cX12_load 20 = .ok (.aload_n 0, 1) := by decide +kernel
theorem dX12_load_21 : decode cX12_load 21 = .ok (.getfield 7, 3) := by decide +kernel
theorem dX12_load_24 : decode cX12_load 24 = .ok (.iload_n 1, 1) := by decide +kernel
theorem dX12_load_25 : decode cX12_load 25 = .ok (.iload 4, 2) := by decide +kernel
theorem dX12_load_27 : decode cX12_load 27 = .ok (.iconst 1, 1) := by decide +kernel
theorem dX12_load_28 : decode cX12_load 28 = .ok (.invokestatic 54, 3) := by decide +kernel
theorem dX12_load_31 : decode cX12_load 31 = .ok (.iaload, 1) := by decide +kernel
theorem dX12_load_32 : decode cX12_load 32 = .ok (.istore 5, 2) := by decide +kernel
theorem dX12_load_34 : decode cX12_load 34 = .ok (.iload 5, 2) := by decide +kernel
theorem dX12_load_36 : decode cX12_load 36 = .ok (.bipush (-6), 2) := by decide +kernel
theorem dX12_load_38 : decode cX12_load 38 = .ok (.if_icmp .eq 34, 3) := by decide +kernel
theorem dX12_load_41 : decode cX12_load 41 = .ok (.iload_n 2, 1) := by decide +kernel
theorem dX12_load_42 : decode cX12_load 42 = .ok (.iload 5, 2) := by decide +kernel
theorem dX12_load_44 : decode cX12_load 44 = .ok (.if_icmp .eq 24, 3) := by decide +kernel
end
section
theorem dX12_load_47 : decode cX12_load 47 = .ok (.iload_n 2, 1) := by decide +kernel
theorem dX12_load_48 : decode cX12_load 48 = .ok (.bipush 12, 2) := by decide +kernel
theorem dX12_load_50 : decode cX12_load 50 = .ok (.aload_n 0, 1) := by decide +kernel
theorem dX12_load_51 : decode cX12_load 51 = .ok (.getfield 7, 3) := by decide +kernel
theorem dX12_load_54 : decode cX12_load 54 = .ok (.iload_n 1, 1) := by decide +kernel
theorem dX12_load_55 : decode cX12_load 55 = .ok (.bipush 75, 2) := by decide +kernel
theorem dX12_load_57 : decode cX12_load 57 = .ok (.iload 5, 2) := by decide +kernel
theorem dX12_load_59 : decode cX12_load 59 = .ok (.iadd, 1) := by decide +kernel
theorem dX12_load_60 : decode cX12_load 60 = .ok (.invokestatic 38, 3) := by decide +kernel
theorem dX12_load_63 : decode cX12_load 63 = .ok (.iaload, 1) := by decide +kernel
theorem dX12_load_64 : decode cX12_load 64 = .ok (.iadd, 1) := by decide +kernel
theorem dX12_load_65 : decode cX12_load 65 = .ok (.if_icmp .ne 7, 3) := by decide +kernel
theorem dX12_load_68 : decode cX12_load 68 = .ok (.iconst 1, 1) := by decide +kernel
theorem dX12_load_69 : decode cX12_load 69 = .ok (.goto 4, 3) := by decide +kernel
theorem dX12_load_72 : decode cX12_load 72 = .ok (.iconst 0, 1) := by decide +kernel
theorem dX12_load_73 : decode cX12_load 73 = .ok (.istore 6, 2) := by decide +kernel
theorem dX12_load_75 : decode cX12_load 75 = .ok (.iload_n 3, 1) := by decide +kernel
theorem dX12_load_76 : decode cX12_load 76 = .ok (.iload 6, 2) := by decide +kernel
theorem dX12_load_78 : decode cX12_load 78 = .ok (.ifCond .eq 13, 3) := by decide +kernel
theorem dX12_load_81 : decode cX12_load 81 = .ok (.aload_n 0, 1) := by decide +kernel
theorem dX12_load_82 : decode cX12_load 82 = .ok (.iload_n 1, 1) := by decide +kernel
theorem dX12_load_83 : decode cX12_load 83 = .ok (.iload 4, 2) := by decide +kernel
theorem dX12_load_85 : decode cX12_load 85 = .ok (.invokevirtual 61, 3) := by decide +kernel
theorem dX12_load_88 : decode cX12_load 88 = .ok (.goto 4, 3) := by decide +kernel
theorem dX12_load_91 : decode cX12_load 91 = .ok (.iconst 0, 1) := by decide +kernel
theorem dX12_load_92 : decode cX12_load 92 = .ok (.iadd, 1) := by decide +kernel
theorem dX12_load_93 : decode cX12_load 93 = .ok (.istore_n 3, 1) := by decide +kernel
theorem dX12_load_94 : decode cX12_load 94 = .ok (.iinc 4 1, 3) := by decide +kernel
theorem dX12_load_97 : decode cX12_load 97 = .ok (.goto (-92), 3) := by decide +kernel
theorem dX12_load_100 : decode cX12_load 100 = .ok (.iload_n 3, 1) := by decide +kernel
theorem dX12_load_101 : decode cX12_load 101 = .ok (.ireturn, 1) := by decide +kernel
theorem dX12_loadBy_0 : decode cX12_loadBy 0 = .ok (.iconst 0, 1) := by decide +kernel
theorem dX12_loadBy_1 : decode cX12_loadBy 1 = .ok (.istore 4, 2) := by decide +kernel
theorem dX12_loadBy_3 : decode cX12_loadBy 3 = .ok (.iconst 0, 1) := by decide +kernel
theorem dX12_loadBy_4 : decode cX12_loadBy 4 = .ok (.istore 5, 2) := by decide +kernel
theorem dX12_loadBy_6 : decode cX12_loadBy 6 = .ok (.iload 5, 2) := by decide +kernel
theorem dX12_loadBy_8 : decode cX12_loadBy 8 = .ok (.aload_n 0, 1) := by decide +kernel
theorem dX12_loadBy_9 : decode cX12_loadBy 9 = .ok (.getfield 7, 3) := by decide +kernel
theorem dX12_loadBy_12 : decode cX12_loadBy 12 = .ok (.iload_n 1, 1) := by decide +kernel
theorem dX12_loadBy_13 : decode cX12_loadBy 13 = .ok (.iconst 2, 1) := by decide +kernel
theorem dX12_loadBy_14 : decode cX12_loadBy 14 = .ok (.invokestatic 38, 3) := by decide +kernel
theorem dX12_loadBy_17 : decode cX12_loadBy 17 = .ok (.iaload, 1) := by decide +kernel
theorem dX12_loadBy_18 : decode cX12_loadBy 18 = .ok (.if_icmp .ge 119, 3) := by decide +kernel
theorem dX12_loadBy_21 : decode cX12_loadBy 21 = .ok (.aload_n 0, 1) := by decide +kernel
theorem dX12_loadBy_22 : decode cX12_loadBy 22 = .ok (.getfield 7, 3) := by decide +kernel
theorem dX12_loadBy_25 : decode cX12_loadBy 25 = .ok (.iload_n 1, 1) := by decide +kernel
theorem dX12_loadBy_26 : decode cX12_loadBy 26 = .ok (.iload_n 3, 1) := by decide +kernel
theorem dX12_loadBy_27 : decode cX12_loadBy 27 = .ok (.invokestatic 64, 3) := by decide +kernel
theorem dX12_loadBy_30 : decode cX12_loadBy 30 = .ok (.iaload, 1) := by decide +kernel
theorem dX12_loadBy_31 : decode cX12_loadBy 31 = .ok (.ifCond .le 106, 3) := by decide +kernel
theorem dX12_loadBy_34 : decode cX12_loadBy 34 = .ok (.aload_n 0, 1) := by decide +kernel
theorem dX12_loadBy_35 : decode cX12_loadBy 35 = .ok (.getfield 7, 3) := by decide +kernel
theorem dX12_loadBy_38 : decode cX12_loadBy 38 = .ok (.iload_n 1, 1) := by decide +kernel
theorem dX12_loadBy_39 : decode cX12_loadBy 39 = .ok (.iload 5, 2) := by decide +kernel
theorem dX12_loadBy_41 : decode cX12_loadBy 41 = .ok (.iconst 1, 1) := by decide +kernel
theorem dX12_loadBy_42 : decode cX12_loadBy 42 = .ok (.invokestatic 54, 3) := by decide +kernel
theorem dX12_loadBy_45 : decode cX12_loadBy 45 = .ok (.iaload, 1) := by decide +kernel
theorem dX12_loadBy_46 : decode cX12_loadBy 46 = .ok (.istore 6, 2) := by decide +kernel
theorem dX12_loadBy_48 : decode cX12_loadBy 48 = .ok (.iload 6, 2) := by decide +kernel
theorem dX12_loadBy_50 : decode cX12_loadBy 50 = .ok (.bipush (-6), 2) := by decide +kernel
theorem dX12_loadBy_52 : decode cX12_loadBy 52 = .ok (.if_icmp .eq 40, 3) := by decide +kernel
theorem dX12_loadBy_55 : decode cX12_loadBy 55 = .ok (.iload_n 2, 1) := by decide +kernel
theorem dX12_loadBy_56 : decode cX12_loadBy 56 = .ok (.iload 6, 2) := by decide +kernel
theorem dX12_loadBy_58 : decode cX12_loadBy 58 = .ok (.if_icmp .eq 30, 3) := by decide +kernel
theorem dX12_loadBy_61 : decode cX12_loadBy 61 = .ok (.iload_n 2, 1) := by decide +kernel
theorem dX12_loadBy_62 : decode cX12_loadBy 62 = .ok (.bipush 15, 2) := by decide +kernel
theorem dX12_loadBy_64 : decode cX12_loadBy 64 = .ok (.if_icmp .eq 24, 3) := by decide +kernel
theorem dX12_loadBy_67 : decode cX12_loadBy 67 = .ok (.iload_n 2, 1) := by decide +kernel
theorem dX12_loadBy_68 : decode cX12_loadBy 68 = .ok (.bipush 12, 2) := by decide +kernel
theorem dX12_loadBy_70 : decode cX12_loadBy 70 = .ok (.aload_n 0, 1) := by decide +kernel
theorem dX12_loadBy_71 : decode cX12_loadBy 71 = .ok (.getfield 7, 3) := by decide +kernel
theorem dX12_loadBy_74 : decode cX12_loadBy 74 = .ok (.iload_n 1, 1) := by decide +kernel
theorem dX12_loadBy_75 : decode cX12_loadBy 75 = .ok (.bipush 75, 2) := by decide +kernel
theorem dX12_loadBy_77 : decode cX12_loadBy 77 = .ok (.iload 6, 2) := by decide +kernel
theorem dX12_loadBy_79 : decode cX12_loadBy 79 = .ok (.iadd, 1) := by decide +kernel
theorem dX12_loadBy_80 : decode cX12_loadBy 80 = .ok (.invokestatic 38, 3) := by decide +kernel
theorem dX12_loadBy_83 : decode cX12_loadBy 83 = .ok (.iaload, 1) := by decide +kernel
theorem dX12_loadBy_84 : decode cX12_loadBy 84 = .ok (.iadd, 1) := by decide +kernel
theorem dX12_loadBy_85 : decode cX12_loadBy 85 = .ok (.if_icmp .ne 7, 3) := by decide +kernel
theorem dX12_loadBy_88 : decode cX12_loadBy 88 = .ok (.iconst 1, 1) := by decide +kernel
theorem dX12_loadBy_89 : decode cX12_loadBy 89 = .ok (.goto 4, 3) := by decide +kernel
theorem dX12_loadBy_92 : decode cX12_loadBy 92 = .ok (.iconst 0, 1) := by decide +kernel
theorem dX12_loadBy_93 : decode cX12_loadBy 93 = .ok (.istore 7, 2) := by decide +kernel
theorem dX12_loadBy_95 : decode cX12_loadBy 95 = .ok (.iload 4, 2) := by decide +kernel
theorem dX12_loadBy_97 : decode cX12_loadBy 97 = .ok (.iload 7, 2) := by decide +kernel
theorem dX12_loadBy_99 : decode cX12_loadBy 99 = .ok (.ifCond .eq 28, 3) := by decide +kernel
theorem dX12_loadBy_102 : decode cX12_loadBy 102 = .ok (.aload_n 0, 1) := by decide +kernel
theorem dX12_loadBy_103 : decode cX12_loadBy 103 = .ok (.iload_n 1, 1) := by decide +kernel
theorem dX12_loadBy_104 : decode cX12_loadBy 104 = .ok (.iload 5, 2) := by decide +kernel
theorem dX12_loadBy_106 : decode cX12_loadBy 106 = .ok (.aload_n 0, 1) := by decide +kernel
theorem dX12_loadBy_107 : decode cX12_loadBy 107 = .ok (.getfield 7, 3) := by decide +kernel
theorem dX12_loadBy_110 : decode cX12_loadBy 110 = .ok (.iload_n 1, 1) := by decide +kernel
theorem dX12_loadBy_111 : decode cX12_loadBy 111 = .ok (.iload_n 3, 1) := by decide +kernel
theorem dX12_loadBy_112 : decode cX12_loadBy 112 = .ok (.invokestatic 64, 3) := by decide +kernel
theorem dX12_loadBy_115 : decode cX12_loadBy 115 = .ok (.iconst 1, 1) := by decide +kernel
theorem dX12_loadBy_116 : decode cX12_loadBy 116 = .ok (.iadd, 1) := by decide +kernel
theorem dX12_loadBy_117 : decode cX12_loadBy 117 = .ok (.iload 5, 2) := by decide +kernel
theorem dX12_loadBy_119 : decode cX12_loadBy 119 = .ok (.iadd, 1) := by decide +kernel
theorem dX12_loadBy_120 : decode cX12_loadBy 120 = .ok (.iaload, 1) := by decide +kernel
theorem dX12_loadBy_121 : decode cX12_loadBy 121 = .ok (.invokevirtual 58, 3) := by decide +kernel
theorem dX12_loadBy_124 : decode cX12_loadBy 124 = .ok (.goto 4, 3) := by decide +kernel
theorem dX12_loadBy_127 : decode cX12_loadBy 127 = .ok (.iconst 0, 1) := by decide +kernel
theorem dX12_loadBy_128 : decode cX12_loadBy 128 = .ok (.iadd, 1) := by decide +kernel
theorem dX12_loadBy_129 : decode cX12_loadBy 129 = .ok (.istore 4, 2) := by decide +kernel
theorem dX12_loadBy_131 : decode cX12_loadBy 131 = .ok (.iinc 5 1, 3) := by decide +kernel
theorem dX12_loadBy_134 : decode cX12_loadBy 134 = .ok (.goto (-128), 3) := by decide +kernel
theorem dX12_loadBy_137 : decode cX12_loadBy 137 = .ok (.iload 4, 2) := by decide +kernel
theorem dX12_loadBy_139 : decode cX12_loadBy 139 = .ok (.ireturn, 1) := by decide +kernel
theorem dX12_worst_0 : decode cX12_worst 0 = .ok (.iconst 0, 1) := by decide +kernel
theorem dX12_worst_1 : decode cX12_worst 1 = .ok (.istore_n 3, 1) := by decide +kernel
theorem dX12_worst_2 : decode cX12_worst 2 = .ok (.iconst 0, 1) := by decide +kernel
theorem dX12_worst_3 : decode cX12_worst 3 = .ok (.istore 4, 2) := by decide +kernel
theorem dX12_worst_5 : decode cX12_worst 5 = .ok (.iload 4, 2) := by decide +kernel
theorem dX12_worst_7 : decode cX12_worst 7 = .ok (.bipush 8, 2) := by decide +kernel
theorem dX12_worst_9 : decode cX12_worst 9 = .ok (.if_icmp .ge 32, 3) := by decide +kernel
theorem dX12_worst_12 : decode cX12_worst 12 = .ok (.aload_n 0, 1) := by decide +kernel
theorem dX12_worst_13 : decode cX12_worst 13 = .ok (.iload_n 1, 1) := by decide +kernel
theorem dX12_worst_14 : decode cX12_worst 14 = .ok (.iload_n 2, 1) := by decide +kernel
theorem dX12_worst_15 : decode cX12_worst 15 = .ok (.iload 4, 2) := by decide +kernel
theorem dX12_worst_17 : decode cX12_worst 17 = .ok (.invokevirtual 67, 3) := by decide +kernel
theorem dX12_worst_20 : decode cX12_worst 20 = .ok (.istore 5, 2) := by decide +kernel
theorem dX12_worst_22 : decode cX12_worst 22 = .ok (.iload 5, 2) := by decide +kernel
theorem dX12_worst_24 : decode cX12_worst 24 = .ok (.iload_n 3, 1) := by decide +kernel
theorem dX12_worst_25 : decode cX12_worst 25 = .ok (.if_icmp .le 8, 3) := by decide +kernel
theorem dX12_worst_28 : decode cX12_worst 28 = .ok (.iload 5, 2) := by decide +kernel
theorem dX12_worst_30 : decode cX12_worst 30 = .ok (.goto 4, 3) := by decide +kernel
theorem dX12_worst_33 : decode cX12_worst 33 = .ok (.iload_n 3, 1) := by decide +kernel
theorem dX12_worst_34 : decode cX12_worst 34 = .ok (.istore_n 3, 1) := by decide +kernel
theorem dX12_worst_35 : decode cX12_worst 35 = .ok (.iinc 4 1, 3) := by decide +kernel
theorem dX12_worst_38 : decode cX12_worst 38 = .ok (.goto (-33), 3) := by decide +kernel
theorem dX12_worst_41 : decode cX12_worst 41 = .ok (.iload_n 3, 1) := by decide +kernel
theorem dX12_worst_42 : decode cX12_worst 42 = .ok (.ireturn, 1) := by decide +kernel
theorem dX12_trip_0 : decode cX12_trip 0 = .ok (.iconst 0, 1) := by decide +kernel
theorem dX12_trip_1 : decode cX12_trip 1 = .ok (.istore 5, 2) := by decide +kernel
theorem dX12_trip_3 : decode cX12_trip 3 = .ok (.iload_n 2, 1) := by decide +kernel
theorem dX12_trip_4 : decode cX12_trip 4 = .ok (.istore 6, 2) := by decide +kernel
theorem dX12_trip_6 : decode cX12_trip 6 = .ok (.iload 6, 2) := by decide +kernel
theorem dX12_trip_8 : decode cX12_trip 8 = .ok (.iload_n 3, 1) := by decide +kernel
theorem dX12_trip_9 : decode cX12_trip 9 = .ok (.if_icmp .ge 52, 3) := by decide +kernel
theorem dX12_trip_12 : decode cX12_trip 12 = .ok (.iload_n 1, 1) := by decide +kernel
theorem dX12_trip_13 : decode cX12_trip 13 = .ok (.bipush 102, 2) := by decide +kernel
theorem dX12_trip_15 : decode cX12_trip 15 = .ok (.iload 6, 2) := by decide +kernel
theorem dX12_trip_17 : decode cX12_trip 17 = .ok (.iadd, 1) := by decide +kernel
theorem dX12_trip_18 : decode cX12_trip 18 = .ok (.invokestatic 38, 3) := by decide +kernel
theorem dX12_trip_21 : decode cX12_trip 21 = .ok (.istore 7, 2) := by decide +kernel
theorem dX12_trip_23 : decode cX12_trip 23 = .ok (.aload_n 0, 1) := by decide +kernel
theorem dX12_trip_24 : decode cX12_trip 24 = .ok (.getfield 7, 3) := by decide +kernel
theorem dX12_trip_27 : decode cX12_trip 27 = .ok (.iload 7, 2) := by decide +kernel
theorem dX12_trip_29 : decode cX12_trip 29 = .ok (.aload_n 0, 1) := by decide +kernel
theorem dX12_trip_30 : decode cX12_trip 30 = .ok (.iload_n 1, 1) := by decide +kernel
theorem dX12_trip_31 : decode cX12_trip 31 = .ok (.iload 6, 2) := by decide +kernel
theorem dX12_trip_33 : decode cX12_trip 33 = .ok (.invokevirtual 70, 3) := by decide +kernel
theorem dX12_trip_36 : decode cX12_trip 36 = .ok (.iload 4, 2) := by decide +kernel
theorem dX12_trip_38 : decode cX12_trip 38 = .ok (.if_icmp .le 15, 3) := by decide +kernel
theorem dX12_trip_41 : decode cX12_trip 41 = .ok (.aload_n 0, 1) := by decide +kernel
theorem dX12_trip_42 : decode cX12_trip 42 = .ok (.getfield 7, 3) := by decide +kernel
theorem dX12_trip_45 : decode cX12_trip 45 = .ok (.iload 7, 2) := by decide +kernel
theorem dX12_trip_47 : decode cX12_trip 47 = .ok (.iaload, 1) := by decide +kernel
theorem dX12_trip_48 : decode cX12_trip 48 = .ok (.iconst 1, 1) := by decide +kernel
theorem dX12_trip_49 : decode cX12_trip 49 = .ok (.iadd, 1) := by decide +kernel
theorem dX12_trip_50 : decode cX12_trip 50 = .ok (.goto 4, 3) := by decide +kernel
theorem dX12_trip_53 : decode cX12_trip 53 = .ok (.iconst 0, 1) := by decide +kernel
theorem dX12_trip_54 : decode cX12_trip 54 = .ok (.iastore, 1) := by decide +kernel
theorem dX12_trip_55 : decode cX12_trip 55 = .ok (.iinc 6 1, 3) := by decide +kernel
theorem dX12_trip_58 : decode cX12_trip 58 = .ok (.goto (-52), 3) := by decide +kernel
theorem dX12_trip_61 : decode cX12_trip 61 = .ok (.iload_n 2, 1) := by decide +kernel
theorem dX12_trip_62 : decode cX12_trip 62 = .ok (.istore 6, 2) := by decide +kernel
theorem dX12_trip_64 : decode cX12_trip 64 = .ok (.iload 6, 2) := by decide +kernel
theorem dX12_trip_66 : decode cX12_trip 66 = .ok (.iload_n 3, 1) := by decide +kernel
theorem dX12_trip_67 : decode cX12_trip 67 = .ok (.if_icmp .ge 62, 3) := by decide +kernel
theorem dX12_trip_70 : decode cX12_trip 70 = .ok (.iload_n 1, 1) := by decide +kernel
theorem dX12_trip_71 : decode cX12_trip 71 = .ok (.bipush 102, 2) := by decide +kernel
theorem dX12_trip_73 : decode cX12_trip 73 = .ok (.iload 6, 2) := by decide +kernel
theorem dX12_trip_75 : decode cX12_trip 75 = .ok (.iadd, 1) := by decide +kernel
theorem dX12_trip_76 : decode cX12_trip 76 = .ok (.invokestatic 38, 3) := by decide +kernel
theorem dX12_trip_79 : decode cX12_trip 79 = .ok (.istore 7, 2) := by decide +kernel
theorem dX12_trip_81 : decode cX12_trip 81 = .ok (.aload_n 0, 1) := by decide +kernel
theorem dX12_trip_82 : decode cX12_trip 82 = .ok (.getfield 7, 3) := by decide +kernel
theorem dX12_trip_85 : decode cX12_trip 85 = .ok (.iload 7, 2) := by decide +kernel
theorem dX12_trip_87 : decode cX12_trip 87 = .ok (.iaload, 1) := by decide +kernel
theorem dX12_trip_88 : decode cX12_trip 88 = .ok (.aload_n 0, 1) := by decide +kernel
theorem dX12_trip_89 : decode cX12_trip 89 = .ok (.getfield 7, 3) := by decide +kernel
theorem dX12_trip_92 : decode cX12_trip 92 = .ok (.iconst 2, 1) := by decide +kernel
theorem dX12_trip_93 : decode cX12_trip 93 = .ok (.iaload, 1) := by decide +kernel
theorem dX12_trip_94 : decode cX12_trip 94 = .ok (.if_icmp .lt 29, 3) := by decide +kernel
theorem dX12_trip_97 : decode cX12_trip 97 = .ok (.aload_n 0, 1) := by decide +kernel
theorem dX12_trip_98 : decode cX12_trip 98 = .ok (.getfield 7, 3) := by decide +kernel
theorem dX12_trip_101 : decode cX12_trip 101 = .ok (.iload_n 1, 1) := by decide +kernel
theorem dX12_trip_102 : decode cX12_trip 102 = .ok (.bipush 87, 2) := by decide +kernel
theorem dX12_trip_104 : decode cX12_trip 104 = .ok (.iload 6, 2) := by decide +kernel
theorem dX12_trip_106 : decode cX12_trip 106 = .ok (.iadd, 1) := by decide +kernel
theorem dX12_trip_107 : decode cX12_trip 107 = .ok (.invokestatic 38, 3) := by decide +kernel
theorem dX12_trip_110 : decode cX12_trip 110 = .ok (.iconst 1, 1) := by decide +kernel
theorem dX12_trip_111 : decode cX12_trip 111 = .ok (.iastore, 1) := by decide +kernel
theorem dX12_trip_112 : decode cX12_trip 112 = .ok (.aload_n 0, 1) := by decide +kernel
theorem dX12_trip_113 : decode cX12_trip 113 = .ok (.getfield 7, 3) := by decide +kernel
theorem dX12_trip_116 : decode cX12_trip 116 = .ok (.iload 7, 2) := by decide +kernel
theorem dX12_trip_118 : decode cX12_trip 118 = .ok (.iconst 0, 1) := by decide +kernel
theorem dX12_trip_119 : decode cX12_trip 119 = .ok (.iastore, 1) := by decide +kernel
theorem dX12_trip_120 : decode cX12_trip 120 = .ok (.iinc 5 1, 3) := by decide +kernel
theorem dX12_trip_123 : decode cX12_trip 123 = .ok (.iinc 6 1, 3) := by decide +kernel
theorem dX12_trip_126 : decode cX12_trip 126 = .ok (.goto (-62), 3) := by decide +kernel
theorem dX12_trip_129 : decode cX12_trip 129 = .ok (.iload 5, 2) := by decide +kernel
theorem dX12_trip_131 : decode cX12_trip 131 = .ok (.ireturn, 1) := by decide +kernel
theorem dX12_turn_0 : decode cX12_turn 0 = .ok (.aload_n 0, 1) := by decide +kernel
theorem dX12_turn_1 : decode cX12_turn 1 = .ok (.getfield 7, 3) := by decide +kernel
theorem dX12_turn_4 : decode cX12_turn 4 = .ok (.iload_n 1, 1) := by decide +kernel
theorem dX12_turn_5 : decode cX12_turn 5 = .ok (.sipush 221, 3) := by decide +kernel
theorem dX12_turn_8 : decode cX12_turn 8 = .ok (.invokestatic 38, 3) := by decide +kernel
theorem dX12_turn_11 : decode cX12_turn 11 = .ok (.iaload, 1) := by decide +kernel
theorem dX12_turn_12 : decode cX12_turn 12 = .ok (.istore_n 2, 1) := by decide +kernel
theorem dX12_turn_13 : decode cX12_turn 13 = .ok (.iload_n 2, 1) := by decide +kernel
theorem dX12_turn_14 : decode cX12_turn 14 = .ok (.ifCond .le 126, 3) := by decide +kernel
theorem dX12_turn_17 : decode cX12_turn 17 = .ok (.aload_n 0, 1) := by decide +kernel
theorem dX12_turn_18 : decode cX12_turn 18 = .ok (.getfield 7, 3) := by decide +kernel
theorem dX12_turn_21 : decode cX12_turn 21 = .ok (.iload_n 1, 1) := by decide +kernel
theorem dX12_turn_22 : decode cX12_turn 22 = .ok (.sipush 222, 3) := by decide +kernel
theorem dX12_turn_25 : decode cX12_turn 25 = .ok (.invokestatic 38, 3) := by decide +kernel
theorem dX12_turn_28 : decode cX12_turn 28 = .ok (.dup2, 1) := by decide +kernel
theorem dX12_turn_29 : decode cX12_turn 29 = .ok (.iaload, 1) := by decide +kernel
theorem dX12_turn_30 : decode cX12_turn 30 = .ok (.iconst 1, 1) := by decide +kernel
theorem dX12_turn_31 : decode cX12_turn 31 = .ok (.iadd, 1) := by decide +kernel
theorem dX12_turn_32 : decode cX12_turn 32 = .ok (.iastore, 1) := by decide +kernel
theorem dX12_turn_33 : decode cX12_turn 33 = .ok (.aload_n 0, 1) := by decide +kernel
theorem dX12_turn_34 : decode cX12_turn 34 = .ok (.getfield 7, 3) := by decide +kernel
theorem dX12_turn_37 : decode cX12_turn 37 = .ok (.iload_n 1, 1) := by decide +kernel
theorem dX12_turn_38 : decode cX12_turn 38 = .ok (.sipush 222, 3) := by decide +kernel
theorem dX12_turn_41 : decode cX12_turn 41 = .ok (.invokestatic 38, 3) := by decide +kernel
theorem dX12_turn_44 : decode cX12_turn 44 = .ok (.iaload, 1) := by decide +kernel
theorem dX12_turn_45 : decode cX12_turn 45 = .ok (.istore_n 3, 1) := by decide +kernel
theorem dX12_turn_46 : decode cX12_turn 46 = .ok (.iconst 0, 1) := by decide +kernel
theorem dX12_turn_47 : decode cX12_turn 47 = .ok (.istore 4, 2) := by decide +kernel
theorem dX12_turn_49 : decode cX12_turn 49 = .ok (.iload 4, 2) := by decide +kernel
theorem dX12_turn_51 : decode cX12_turn 51 = .ok (.aload_n 0, 1) := by decide +kernel
theorem dX12_turn_52 : decode cX12_turn 52 = .ok (.getfield 7, 3) := by decide +kernel
theorem dX12_turn_55 : decode cX12_turn 55 = .ok (.iload_n 1, 1) := by decide +kernel
theorem dX12_turn_56 : decode cX12_turn 56 = .ok (.iconst 2, 1) := by decide +kernel
theorem dX12_turn_57 : decode cX12_turn 57 = .ok (.invokestatic 38, 3) := by decide +kernel
theorem dX12_turn_60 : decode cX12_turn 60 = .ok (.iaload, 1) := by decide +kernel
theorem dX12_turn_61 : decode cX12_turn 61 = .ok (.if_icmp .ge 57, 3) := by decide +kernel
theorem dX12_turn_64 : decode cX12_turn 64 = .ok (.aload_n 0, 1) := by decide +kernel
theorem dX12_turn_65 : decode cX12_turn 65 = .ok (.getfield 7, 3) := by decide +kernel
theorem dX12_turn_68 : decode cX12_turn 68 = .ok (.iload_n 1, 1) := by decide +kernel
theorem dX12_turn_69 : decode cX12_turn 69 = .ok (.iload 4, 2) := by decide +kernel
theorem dX12_turn_71 : decode cX12_turn 71 = .ok (.iconst 4, 1) := by decide +kernel
theorem dX12_turn_72 : decode cX12_turn 72 = .ok (.invokestatic 54, 3) := by decide +kernel
theorem dX12_turn_75 : decode cX12_turn 75 = .ok (.iaload, 1) := by decide +kernel
theorem dX12_turn_76 : decode cX12_turn 76 = .ok (.istore 5, 2) := by decide +kernel
theorem dX12_turn_78 : decode cX12_turn 78 = .ok (.aload_n 0, 1) := by decide +kernel
theorem dX12_turn_79 : decode cX12_turn 79 = .ok (.getfield 7, 3) := by decide +kernel
theorem dX12_turn_82 : decode cX12_turn 82 = .ok (.iload_n 1, 1) := by decide +kernel
theorem dX12_turn_83 : decode cX12_turn 83 = .ok (.iload 4, 2) := by decide +kernel
theorem dX12_turn_85 : decode cX12_turn 85 = .ok (.iconst 3, 1) := by decide +kernel
theorem dX12_turn_86 : decode cX12_turn 86 = .ok (.invokestatic 54, 3) := by decide +kernel
theorem dX12_turn_89 : decode cX12_turn 89 = .ok (.iload 5, 2) := by decide +kernel
theorem dX12_turn_91 : decode cX12_turn 91 = .ok (.aload_n 0, 1) := by decide +kernel
theorem dX12_turn_92 : decode cX12_turn 92 = .ok (.getfield 7, 3) := by decide +kernel
theorem dX12_turn_95 : decode cX12_turn 95 = .ok (.iload_n 1, 1) := by decide +kernel
theorem dX12_turn_96 : decode cX12_turn 96 = .ok (.iload 4, 2) := by decide +kernel
theorem dX12_turn_98 : decode cX12_turn 98 = .ok (.iconst 5, 1) := by decide +kernel
theorem dX12_turn_99 : decode cX12_turn 99 = .ok (.invokestatic 54, 3) := by decide +kernel
theorem dX12_turn_102 : decode cX12_turn 102 = .ok (.iaload, 1) := by decide +kernel
theorem dX12_turn_103 : decode cX12_turn 103 = .ok (.iload 5, 2) := by decide +kernel
theorem dX12_turn_105 : decode cX12_turn 105 = .ok (.isub, 1) := by decide +kernel
theorem dX12_turn_106 : decode cX12_turn 106 = .ok (.iload_n 3, 1) := by decide +kernel
theorem dX12_turn_107 : decode cX12_turn 107 = .ok (.imul, 1) := by decide +kernel
theorem dX12_turn_108 : decode cX12_turn 108 = .ok (.iload_n 2, 1) := by decide +kernel
theorem dX12_turn_109 : decode cX12_turn 109 = .ok (.idiv, 1) := by decide +kernel
theorem dX12_turn_110 : decode cX12_turn 110 = .ok (.iadd, 1) := by decide +kernel
theorem dX12_turn_111 : decode cX12_turn 111 = .ok (.iastore, 1) := by decide +kernel
theorem dX12_turn_112 : decode cX12_turn 112 = .ok (.iinc 4 1, 3) := by decide +kernel
theorem dX12_turn_115 : decode cX12_turn 115 = .ok (.goto (-66), 3) := by decide +kernel
theorem dX12_turn_118 : decode cX12_turn 118 = .ok (.aload_n 0, 1) := by decide +kernel
theorem dX12_turn_119 : decode cX12_turn 119 = .ok (.getfield 7, 3) := by decide +kernel
theorem dX12_turn_122 : decode cX12_turn 122 = .ok (.iload_n 1, 1) := by decide +kernel
theorem dX12_turn_123 : decode cX12_turn 123 = .ok (.sipush 221, 3) := by decide +kernel
theorem dX12_turn_126 : decode cX12_turn 126 = .ok (.invokestatic 38, 3) := by decide +kernel
theorem dX12_turn_129 : decode cX12_turn 129 = .ok (.iload_n 3, 1) := by decide +kernel
theorem dX12_turn_130 : decode cX12_turn 130 = .ok (.iload_n 2, 1) := by decide +kernel
theorem dX12_turn_131 : decode cX12_turn 131 = .ok (.if_icmp .ne 7, 3) := by decide +kernel
theorem dX12_turn_134 : decode cX12_turn 134 = .ok (.iconst 0, 1) := by decide +kernel
theorem dX12_turn_135 : decode cX12_turn 135 = .ok (.goto 4, 3) := by decide +kernel
theorem dX12_turn_138 : decode cX12_turn 138 = .ok (.iload_n 2, 1) := by decide +kernel
theorem dX12_turn_139 : decode cX12_turn 139 = .ok (.iastore, 1) := by decide +kernel
theorem dX12_turn_140 : decode cX12_turn 140 = .ok (.aload_n 0, 1) := by decide +kernel
theorem dX12_turn_141 : decode cX12_turn 141 = .ok (.iload_n 1, 1) := by decide +kernel
theorem dX12_turn_142 : decode cX12_turn 142 = .ok (.iconst 0, 1) := by decide +kernel
theorem dX12_turn_143 : decode cX12_turn 143 = .ok (.bipush 12, 2) := by decide +kernel
theorem dX12_turn_145 : decode cX12_turn 145 = .ok (.aload_n 0, 1) := by decide +kernel
theorem dX12_turn_146 : decode cX12_turn 146 = .ok (.getfield 7, 3) := by decide +kernel
theorem dX12_turn_149 : decode cX12_turn 149 = .ok (.iconst 0, 1) := by decide +kernel
theorem dX12_turn_150 : decode cX12_turn 150 = .ok (.iaload, 1) := by decide +kernel
theorem dX12_turn_151 : decode cX12_turn 151 = .ok (.invokevirtual 73, 3) := by decide +kernel
theorem dX12_turn_154 : decode cX12_turn 154 = .ok (.istore_n 3, 1) := by decide +kernel
theorem dX12_turn_155 : decode cX12_turn 155 = .ok (.iload_n 3, 1) := by decide +kernel
theorem dX12_turn_156 : decode cX12_turn 156 = .ok (.aload_n 0, 1) := by decide +kernel
theorem dX12_turn_157 : decode cX12_turn 157 = .ok (.iload_n 1, 1) := by decide +kernel
theorem dX12_turn_158 : decode cX12_turn 158 = .ok (.bipush 12, 2) := by decide +kernel
theorem dX12_turn_160 : decode cX12_turn 160 = .ok (.bipush 15, 2) := by decide +kernel
theorem dX12_turn_162 : decode cX12_turn 162 = .ok (.aload_n 0, 1) := by decide +kernel
theorem dX12_turn_163 : decode cX12_turn 163 = .ok (.getfield 7, 3) := by decide +kernel
theorem dX12_turn_166 : decode cX12_turn 166 = .ok (.iconst 1, 1) := by decide +kernel
theorem dX12_turn_167 : decode cX12_turn 167 = .ok (.iaload, 1) := by decide +kernel
theorem dX12_turn_168 : decode cX12_turn 168 = .ok (.invokevirtual 73, 3) := by decide +kernel
theorem dX12_turn_171 : decode cX12_turn 171 = .ok (.iadd, 1) := by decide +kernel
theorem dX12_turn_172 : decode cX12_turn 172 = .ok (.ireturn, 1) := by decide +kernel
theorem dX12_start_0 : decode cX12_start 0 = .ok (.iconst 0, 1) := by decide +kernel
theorem dX12_start_1 : decode cX12_start 1 = .ok (.istore 4, 2) := by decide +kernel
theorem dX12_start_3 : decode cX12_start 3 = .ok (.iload 4, 2) := by decide +kernel
theorem dX12_start_5 : decode cX12_start 5 = .ok (.aload_n 0, 1) := by decide +kernel
theorem dX12_start_6 : decode cX12_start 6 = .ok (.getfield 7, 3) := by decide +kernel
theorem dX12_start_9 : decode cX12_start 9 = .ok (.iload_n 1, 1) := by decide +kernel
theorem dX12_start_10 : decode cX12_start 10 = .ok (.iconst 2, 1) := by decide +kernel
theorem dX12_start_11 : decode cX12_start 11 = .ok (.invokestatic 38, 3) := by decide +kernel
theorem dX12_start_14 : decode cX12_start 14 = .ok (.iaload, 1) := by decide +kernel
theorem dX12_start_15 : decode cX12_start 15 = .ok (.if_icmp .ge 60, 3) := by decide +kernel
theorem dX12_start_18 : decode cX12_start 18 = .ok (.aload_n 0, 1) := by decide +kernel
theorem dX12_start_19 : decode cX12_start 19 = .ok (.getfield 7, 3) := by decide +kernel
theorem dX12_start_22 : decode cX12_start 22 = .ok (.iload_n 1, 1) := by decide +kernel
theorem dX12_start_23 : decode cX12_start 23 = .ok (.iload 4, 2) := by decide +kernel
theorem dX12_start_25 : decode cX12_start 25 = .ok (.iconst 4, 1) := by decide +kernel
theorem dX12_start_26 : decode cX12_start 26 = .ok (.invokestatic 54, 3) := by decide +kernel
theorem dX12_start_29 : decode cX12_start 29 = .ok (.aload_n 0, 1) := by decide +kernel
theorem dX12_start_30 : decode cX12_start 30 = .ok (.getfield 7, 3) := by decide +kernel
theorem dX12_start_33 : decode cX12_start 33 = .ok (.iload_n 1, 1) := by decide +kernel
theorem dX12_start_34 : decode cX12_start 34 = .ok (.iload 4, 2) := by decide +kernel
theorem dX12_start_36 : decode cX12_start 36 = .ok (.iconst 3, 1) := by decide +kernel
theorem dX12_start_37 : decode cX12_start 37 = .ok (.invokestatic 54, 3) := by decide +kernel
theorem dX12_start_40 : decode cX12_start 40 = .ok (.iaload, 1) := by decide +kernel
theorem dX12_start_41 : decode cX12_start 41 = .ok (.iastore, 1) := by decide +kernel
theorem dX12_start_42 : decode cX12_start 42 = .ok (.aload_n 0, 1) := by decide +kernel
theorem dX12_start_43 : decode cX12_start 43 = .ok (.getfield 7, 3) := by decide +kernel
theorem dX12_start_46 : decode cX12_start 46 = .ok (.iload_n 1, 1) := by decide +kernel
theorem dX12_start_47 : decode cX12_start 47 = .ok (.iload 4, 2) := by decide +kernel
theorem dX12_start_49 : decode cX12_start 49 = .ok (.iconst 5, 1) := by decide +kernel
theorem dX12_start_50 : decode cX12_start 50 = .ok (.invokestatic 54, 3) := by decide +kernel
theorem dX12_start_53 : decode cX12_start 53 = .ok (.aload_n 0, 1) := by decide +kernel
theorem dX12_start_54 : decode cX12_start 54 = .ok (.getfield 7, 3) := by decide +kernel
theorem dX12_start_57 : decode cX12_start 57 = .ok (.iload_n 1, 1) := by decide +kernel
theorem dX12_start_58 : decode cX12_start 58 = .ok (.iload_n 2, 1) := by decide +kernel
theorem dX12_start_59 : decode cX12_start 59 = .ok (.invokestatic 64, 3) := by decide +kernel
theorem dX12_start_62 : decode cX12_start 62 = .ok (.iconst 1, 1) := by decide +kernel
theorem dX12_start_63 : decode cX12_start 63 = .ok (.iadd, 1) := by decide +kernel
theorem dX12_start_64 : decode cX12_start 64 = .ok (.iload 4, 2) := by decide +kernel
theorem dX12_start_66 : decode cX12_start 66 = .ok (.iadd, 1) := by decide +kernel
theorem dX12_start_67 : decode cX12_start 67 = .ok (.iaload, 1) := by decide +kernel
theorem dX12_start_68 : decode cX12_start 68 = .ok (.iastore, 1) := by decide +kernel
theorem dX12_start_69 : decode cX12_start 69 = .ok (.iinc 4 1, 3) := by decide +kernel
theorem dX12_start_72 : decode cX12_start 72 = .ok (.goto (-69), 3) := by decide +kernel
theorem dX12_start_75 : decode cX12_start 75 = .ok (.aload_n 0, 1) := by decide +kernel
theorem dX12_start_76 : decode cX12_start 76 = .ok (.getfield 7, 3) := by decide +kernel
theorem dX12_start_79 : decode cX12_start 79 = .ok (.iload_n 1, 1) := by decide +kernel
theorem dX12_start_80 : decode cX12_start 80 = .ok (.sipush 221, 3) := by decide +kernel
theorem dX12_start_83 : decode cX12_start 83 = .ok (.invokestatic 38, 3) := by decide +kernel
theorem dX12_start_86 : decode cX12_start 86 = .ok (.iload_n 3, 1) := by decide +kernel
theorem dX12_start_87 : decode cX12_start 87 = .ok (.iastore, 1) := by decide +kernel
theorem dX12_start_88 : decode cX12_start 88 = .ok (.aload_n 0, 1) := by decide +kernel
theorem dX12_start_89 : decode cX12_start 89 = .ok (.getfield 7, 3) := by decide +kernel
theorem dX12_start_92 : decode cX12_start 92 = .ok (.iload_n 1, 1) := by decide +kernel
theorem dX12_start_93 : decode cX12_start 93 = .ok (.sipush 222, 3) := by decide +kernel
theorem dX12_start_96 : decode cX12_start 96 = .ok (.invokestatic 38, 3) := by decide +kernel
theorem dX12_start_99 : decode cX12_start 99 = .ok (.iconst 0, 1) := by decide +kernel
theorem dX12_start_100 : decode cX12_start 100 = .ok (.iastore, 1) := by decide +kernel
theorem dX12_start_101 : decode cX12_start 101 = .ok (.return_, 1) := by decide +kernel
theorem dX12_set_0 : decode cX12_set 0 = .ok (.iload_n 1, 1) := by decide +kernel
theorem dX12_set_1 : decode cX12_set 1 = .ok (.ifCond .ne 9, 3) := by decide +kernel
theorem dX12_set_4 : decode cX12_set 4 = .ok (.sipush 500, 3) := by decide +kernel
theorem dX12_set_7 : decode cX12_set 7 = .ok (.goto 15, 3) := by decide +kernel
theorem dX12_set_10 : decode cX12_set 10 = .ok (.iload_n 1, 1) := by decide +kernel
theorem dX12_set_11 : decode cX12_set 11 = .ok (.iconst 1, 1) := by decide +kernel
theorem dX12_set_12 : decode cX12_set 12 = .ok (.if_icmp .ne 9, 3) := by decide +kernel
theorem dX12_set_15 : decode cX12_set 15 = .ok (.sipush 1000, 3) := by decide +kernel
theorem dX12_set_18 : decode cX12_set 18 = .ok (.goto 4, 3) := by decide +kernel
theorem dX12_set_21 : decode cX12_set 21 = .ok (.iconst 1, 1) := by decide +kernel
theorem dX12_set_22 : decode cX12_set 22 = .ok (.istore_n 3, 1) := by decide +kernel
theorem dX12_set_23 : decode cX12_set 23 = .ok (.iload_n 1, 1) := by decide +kernel
theorem dX12_set_24 : decode cX12_set 24 = .ok (.ifCond .ne 9, 3) := by decide +kernel
theorem dX12_set_27 : decode cX12_set 27 = .ok (.sipush 6000, 3) := by decide +kernel
theorem dX12_set_30 : decode cX12_set 30 = .ok (.goto 16, 3) := by decide +kernel
theorem dX12_set_33 : decode cX12_set 33 = .ok (.iload_n 1, 1) := by decide +kernel
theorem dX12_set_34 : decode cX12_set 34 = .ok (.iconst 1, 1) := by decide +kernel
theorem dX12_set_35 : decode cX12_set 35 = .ok (.if_icmp .ne 9, 3) := by decide +kernel
theorem dX12_set_38 : decode cX12_set 38 = .ok (.sipush 20000, 3) := by decide +kernel
theorem dX12_set_41 : decode cX12_set 41 = .ok (.goto 5, 3) := by decide +kernel
theorem dX12_set_44 : decode cX12_set 44 = .ok (.bipush 20, 2) := by decide +kernel
theorem dX12_set_46 : decode cX12_set 46 = .ok (.istore 4, 2) := by decide +kernel
theorem dX12_set_48 : decode cX12_set 48 = .ok (.iload_n 1, 1) := by decide +kernel
theorem dX12_set_49 : decode cX12_set 49 = .ok (.iconst 0, 1) := by decide +kernel
theorem dX12_set_50 : decode cX12_set 50 = .ok (.iconst 2, 1) := by decide +kernel
theorem dX12_set_51 : decode cX12_set 51 = .ok (.invokestatic 42, 3) := by decide +kernel
theorem dX12_set_54 : decode cX12_set 54 = .ok (.ifCond .eq 13, 3) := by decide +kernel
theorem dX12_set_57 : decode cX12_set 57 = .ok (.iload_n 2, 1) := by decide +kernel
theorem dX12_set_58 : decode cX12_set 58 = .ok (.iload_n 3, 1) := by decide +kernel
theorem dX12_set_59 : decode cX12_set 59 = .ok (.iload 4, 2) := by decide +kernel
theorem dX12_set_61 : decode cX12_set 61 = .ok (.invokestatic 42, 3) := by decide +kernel
theorem dX12_set_64 : decode cX12_set 64 = .ok (.ifCond .ne 6, 3) := by decide +kernel
theorem dX12_set_67 : decode cX12_set 67 = .ok (.bipush (-2), 2) := by decide +kernel
theorem dX12_set_69 : decode cX12_set 69 = .ok (.ireturn, 1) := by decide +kernel
theorem dX12_set_70 : decode cX12_set 70 = .ok (.aload_n 0, 1) := by decide +kernel
theorem dX12_set_71 : decode cX12_set 71 = .ok (.invokevirtual 77, 3) := by decide +kernel
theorem dX12_set_74 : decode cX12_set 74 = .ok (.aload_n 0, 1) := by decide +kernel
theorem dX12_set_75 : decode cX12_set 75 = .ok (.getfield 7, 3) := by decide +kernel
theorem dX12_set_78 : decode cX12_set 78 = .ok (.iconst 0, 1) := by decide +kernel
theorem dX12_set_79 : decode cX12_set 79 = .ok (.iload_n 1, 1) := by decide +kernel
theorem dX12_set_80 : decode cX12_set 80 = .ok (.iadd, 1) := by decide +kernel
theorem dX12_set_81 : decode cX12_set 81 = .ok (.iaload, 1) := by decide +kernel
theorem dX12_set_82 : decode cX12_set 82 = .ok (.istore 5, 2) := by decide +kernel
theorem dX12_set_84 : decode cX12_set 84 = .ok (.aload_n 0, 1) := by decide +kernel
theorem dX12_set_85 : decode cX12_set 85 = .ok (.getfield 7, 3) := by decide +kernel
theorem dX12_set_88 : decode cX12_set 88 = .ok (.iconst 0, 1) := by decide +kernel
theorem dX12_set_89 : decode cX12_set 89 = .ok (.iload_n 1, 1) := by decide +kernel
theorem dX12_set_90 : decode cX12_set 90 = .ok (.iadd, 1) := by decide +kernel
theorem dX12_set_91 : decode cX12_set 91 = .ok (.iload_n 2, 1) := by decide +kernel
theorem dX12_set_92 : decode cX12_set 92 = .ok (.iastore, 1) := by decide +kernel
theorem dX12_set_93 : decode cX12_set 93 = .ok (.iload 5, 2) := by decide +kernel
theorem dX12_set_95 : decode cX12_set 95 = .ok (.ireturn, 1) := by decide +kernel
theorem dX12_type_0 : decode cX12_type 0 = .ok (.iload_n 1, 1) := by decide +kernel
theorem dX12_type_1 : decode cX12_type 1 = .ok (.bipush 100, 2) := by decide +kernel
theorem dX12_type_3 : decode cX12_type 3 = .ok (.sipush 2000, 3) := by decide +kernel
theorem dX12_type_6 : decode cX12_type 6 = .ok (.invokestatic 42, 3) := by decide +kernel
theorem dX12_type_9 : decode cX12_type 9 = .ok (.ifCond .eq 23, 3) := by decide +kernel
theorem dX12_type_12 : decode cX12_type 12 = .ok (.iload_n 2, 1) := by decide +kernel
theorem dX12_type_13 : decode cX12_type 13 = .ok (.iconst 0, 1) := by decide +kernel
theorem dX12_type_14 : decode cX12_type 14 = .ok (.bipush 20, 2) := by decide +kernel
theorem dX12_type_16 : decode cX12_type 16 = .ok (.invokestatic 42, 3) := by decide +kernel
theorem dX12_type_19 : decode cX12_type 19 = .ok (.ifCond .eq 13, 3) := by decide +kernel
theorem dX12_type_22 : decode cX12_type 22 = .ok (.iload_n 3, 1) := by decide +kernel
theorem dX12_type_23 : decode cX12_type 23 = .ok (.iconst 0, 1) := by decide +kernel
theorem dX12_type_24 : decode cX12_type 24 = .ok (.bipush 50, 2) := by decide +kernel
theorem dX12_type_26 : decode cX12_type 26 = .ok (.invokestatic 42, 3) := by decide +kernel
theorem dX12_type_29 : decode cX12_type 29 = .ok (.ifCond .ne 6, 3) := by decide +kernel
theorem dX12_type_32 : decode cX12_type 32 = .ok (.bipush (-2), 2) := by decide +kernel
theorem dX12_type_34 : decode cX12_type 34 = .ok (.ireturn, 1) := by decide +kernel
theorem dX12_type_35 : decode cX12_type 35 = .ok (.aload_n 0, 1) := by decide +kernel
theorem dX12_type_36 : decode cX12_type 36 = .ok (.getfield 7, 3) := by decide +kernel
theorem dX12_type_39 : decode cX12_type 39 = .ok (.iconst 3, 1) := by decide +kernel
theorem dX12_type_40 : decode cX12_type 40 = .ok (.iaload, 1) := by decide +kernel
theorem dX12_type_41 : decode cX12_type 41 = .ok (.bipush 6, 2) := by decide +kernel
theorem dX12_type_43 : decode cX12_type 43 = .ok (.if_icmp .ne 6, 3) := by decide +kernel
theorem dX12_type_46 : decode cX12_type 46 = .ok (.bipush (-4), 2) := by decide +kernel
theorem dX12_type_48 : decode cX12_type 48 = .ok (.ireturn, 1) := by decide +kernel
theorem dX12_type_49 : decode cX12_type 49 = .ok (.aload_n 0, 1) := by decide +kernel
theorem dX12_type_50 : decode cX12_type 50 = .ok (.invokevirtual 77, 3) := by decide +kernel
theorem dX12_type_53 : decode cX12_type 53 = .ok (.aload_n 0, 1) := by decide +kernel
theorem dX12_type_54 : decode cX12_type 54 = .ok (.getfield 7, 3) := by decide +kernel
theorem dX12_type_57 : decode cX12_type 57 = .ok (.iconst 3, 1) := by decide +kernel
theorem dX12_type_58 : decode cX12_type 58 = .ok (.iaload, 1) := by decide +kernel
theorem dX12_type_59 : decode cX12_type 59 = .ok (.istore 4, 2) := by decide +kernel
theorem dX12_type_61 : decode cX12_type 61 = .ok (.aload_n 0, 1) := by decide +kernel
theorem dX12_type_62 : decode cX12_type 62 = .ok (.getfield 7, 3) := by decide +kernel
theorem dX12_type_65 : decode cX12_type 65 = .ok (.iconst 4, 1) := by decide +kernel
theorem dX12_type_66 : decode cX12_type 66 = .ok (.iconst 3, 1) := by decide +kernel
theorem dX12_type_67 : decode cX12_type 67 = .ok (.iload 4, 2) := by decide +kernel
theorem dX12_type_69 : decode cX12_type 69 = .ok (.imul, 1) := by decide +kernel
theorem dX12_type_70 : decode cX12_type 70 = .ok (.iadd, 1) := by decide +kernel
theorem dX12_type_71 : decode cX12_type 71 = .ok (.iload_n 1, 1) := by decide +kernel
theorem dX12_type_72 : decode cX12_type 72 = .ok (.iastore, 1) := by decide +kernel
theorem dX12_type_73 : decode cX12_type 73 = .ok (.aload_n 0, 1) := by decide +kernel
theorem dX12_type_74 : decode cX12_type 74 = .ok (.getfield 7, 3) := by decide +kernel
theorem dX12_type_77 : decode cX12_type 77 = .ok (.iconst 4, 1) := by decide +kernel
theorem dX12_type_78 : decode cX12_type 78 = .ok (.iconst 3, 1) := by decide +kernel
theorem dX12_type_79 : decode cX12_type 79 = .ok (.iload 4, 2) := by decide +kernel
theorem dX12_type_81 : decode cX12_type 81 = .ok (.imul, 1) := by decide +kernel
theorem dX12_type_82 : decode cX12_type 82 = .ok (.iadd, 1) := by decide +kernel
theorem dX12_type_83 : decode cX12_type 83 = .ok (.iconst 1, 1) := by decide +kernel
theorem dX12_type_84 : decode cX12_type 84 = .ok (.iadd, 1) := by decide +kernel
theorem dX12_type_85 : decode cX12_type 85 = .ok (.iload_n 2, 1) := by decide +kernel
theorem dX12_type_86 : decode cX12_type 86 = .ok (.iastore, 1) := by decide +kernel
theorem dX12_type_87 : decode cX12_type 87 = .ok (.aload_n 0, 1) := by decide +kernel
theorem dX12_type_88 : decode cX12_type 88 = .ok (.getfield 7, 3) := by decide +kernel
theorem dX12_type_91 : decode cX12_type 91 = .ok (.iconst 4, 1) := by decide +kernel
theorem dX12_type_92 : decode cX12_type 92 = .ok (.iconst 3, 1) := by decide +kernel
theorem dX12_type_93 : decode cX12_type 93 = .ok (.iload 4, 2) := by decide +kernel
theorem dX12_type_95 : decode cX12_type 95 = .ok (.imul, 1) := by decide +kernel
theorem dX12_type_96 : decode cX12_type 96 = .ok (.iadd, 1) := by decide +kernel
theorem dX12_type_97 : decode cX12_type 97 = .ok (.iconst 2, 1) := by decide +kernel
theorem dX12_type_98 : decode cX12_type 98 = .ok (.iadd, 1) := by decide +kernel
theorem dX12_type_99 : decode cX12_type 99 = .ok (.iload_n 3, 1) := by decide +kernel
theorem dX12_type_100 : decode cX12_type 100 = .ok (.iastore, 1) := by decide +kernel
theorem dX12_type_101 : decode cX12_type 101 = .ok (.aload_n 0, 1) := by decide +kernel
theorem dX12_type_102 : decode cX12_type 102 = .ok (.getfield 7, 3) := by decide +kernel
theorem dX12_type_105 : decode cX12_type 105 = .ok (.iconst 3, 1) := by decide +kernel
theorem dX12_type_106 : decode cX12_type 106 = .ok (.dup2, 1) := by decide +kernel
theorem dX12_type_107 : decode cX12_type 107 = .ok (.iaload, 1) := by decide +kernel
theorem dX12_type_108 : decode cX12_type 108 = .ok (.iconst 1, 1) := by decide +kernel
theorem dX12_type_109 : decode cX12_type 109 = .ok (.iadd, 1) := by decide +kernel
theorem dX12_type_110 : decode cX12_type 110 = .ok (.iastore, 1) := by decide +kernel
theorem dX12_type_111 : decode cX12_type 111 = .ok (.iload 4, 2) := by decide +kernel
theorem dX12_type_113 : decode cX12_type 113 = .ok (.ireturn, 1) := by decide +kernel
theorem dX12_days_0 : decode cX12_days 0 = .ok (.iload_n 1, 1) := by decide +kernel
theorem dX12_days_1 : decode cX12_days 1 = .ok (.invokestatic 46, 3) := by decide +kernel
theorem dX12_days_4 : decode cX12_days 4 = .ok (.ifCond .ne 5, 3) := by decide +kernel
theorem dX12_days_7 : decode cX12_days 7 = .ok (.iconst (-1), 1) := by decide +kernel
theorem dX12_days_8 : decode cX12_days 8 = .ok (.ireturn, 1) := by decide +kernel
theorem dX12_days_9 : decode cX12_days 9 = .ok (.iload_n 2, 1) := by decide +kernel
theorem dX12_days_10 : decode cX12_days 10 = .ok (.iconst 0, 1) := by decide +kernel
theorem dX12_days_11 : decode cX12_days 11 = .ok (.bipush 6, 2) := by decide +kernel
theorem dX12_days_13 : decode cX12_days 13 = .ok (.invokestatic 42, 3) := by decide +kernel
theorem dX12_days_16 : decode cX12_days 16 = .ok (.ifCond .eq 13, 3) := by decide +kernel
theorem dX12_days_19 : decode cX12_days 19 = .ok (.iload_n 3, 1) := by decide +kernel
theorem dX12_days_20 : decode cX12_days 20 = .ok (.iload_n 2, 1) := by decide +kernel
theorem dX12_days_21 : decode cX12_days 21 = .ok (.bipush 6, 2) := by decide +kernel
theorem dX12_days_23 : decode cX12_days 23 = .ok (.invokestatic 42, 3) := by decide +kernel
theorem dX12_days_26 : decode cX12_days 26 = .ok (.ifCond .ne 6, 3) := by decide +kernel
theorem dX12_days_29 : decode cX12_days 29 = .ok (.bipush (-2), 2) := by decide +kernel
theorem dX12_days_31 : decode cX12_days 31 = .ok (.ireturn, 1) := by decide +kernel
theorem dX12_days_32 : decode cX12_days 32 = .ok (.aload_n 0, 1) := by decide +kernel
theorem dX12_days_33 : decode cX12_days 33 = .ok (.invokevirtual 77, 3) := by decide +kernel
theorem dX12_days_36 : decode cX12_days 36 = .ok (.aload_n 0, 1) := by decide +kernel
theorem dX12_days_37 : decode cX12_days 37 = .ok (.getfield 7, 3) := by decide +kernel
theorem dX12_days_40 : decode cX12_days 40 = .ok (.iload_n 1, 1) := by decide +kernel
theorem dX12_days_41 : decode cX12_days 41 = .ok (.iconst 1, 1) := by decide +kernel
theorem dX12_days_42 : decode cX12_days 42 = .ok (.invokestatic 38, 3) := by decide +kernel
theorem dX12_days_45 : decode cX12_days 45 = .ok (.iaload, 1) := by decide +kernel
theorem dX12_days_46 : decode cX12_days 46 = .ok (.aload_n 0, 1) := by decide +kernel
theorem dX12_days_47 : decode cX12_days 47 = .ok (.getfield 7, 3) := by decide +kernel
theorem dX12_days_50 : decode cX12_days 50 = .ok (.iload_n 1, 1) := by decide +kernel
theorem dX12_days_51 : decode cX12_days 51 = .ok (.iconst 0, 1) := by decide +kernel
theorem dX12_days_52 : decode cX12_days 52 = .ok (.invokestatic 38, 3) := by decide +kernel
theorem dX12_days_55 : decode cX12_days 55 = .ok (.iaload, 1) := by decide +kernel
theorem dX12_days_56 : decode cX12_days 56 = .ok (.isub, 1) := by decide +kernel
theorem dX12_days_57 : decode cX12_days 57 = .ok (.iconst 1, 1) := by decide +kernel
theorem dX12_days_58 : decode cX12_days 58 = .ok (.iadd, 1) := by decide +kernel
theorem dX12_days_59 : decode cX12_days 59 = .ok (.istore 4, 2) := by decide +kernel
theorem dX12_days_61 : decode cX12_days 61 = .ok (.aload_n 0, 1) := by decide +kernel
theorem dX12_days_62 : decode cX12_days 62 = .ok (.getfield 7, 3) := by decide +kernel
theorem dX12_days_65 : decode cX12_days 65 = .ok (.iload_n 1, 1) := by decide +kernel
theorem dX12_days_66 : decode cX12_days 66 = .ok (.iconst 0, 1) := by decide +kernel
theorem dX12_days_67 : decode cX12_days 67 = .ok (.invokestatic 38, 3) := by decide +kernel
theorem dX12_days_70 : decode cX12_days 70 = .ok (.iload_n 2, 1) := by decide +kernel
theorem dX12_days_71 : decode cX12_days 71 = .ok (.iastore, 1) := by decide +kernel
theorem dX12_days_72 : decode cX12_days 72 = .ok (.aload_n 0, 1) := by decide +kernel
theorem dX12_days_73 : decode cX12_days 73 = .ok (.getfield 7, 3) := by decide +kernel
theorem dX12_days_76 : decode cX12_days 76 = .ok (.iload_n 1, 1) := by decide +kernel
theorem dX12_days_77 : decode cX12_days 77 = .ok (.iconst 1, 1) := by decide +kernel
theorem dX12_days_78 : decode cX12_days 78 = .ok (.invokestatic 38, 3) := by decide +kernel
theorem dX12_days_81 : decode cX12_days 81 = .ok (.iload_n 3, 1) := by decide +kernel
theorem dX12_days_82 : decode cX12_days 82 = .ok (.iastore, 1) := by decide +kernel
theorem dX12_days_83 : decode cX12_days 83 = .ok (.iload 4, 2) := by decide +kernel
theorem dX12_days_85 : decode cX12_days 85 = .ok (.ireturn, 1) := by decide +kernel
theorem dX12_hang_0 : decode cX12_hang 0 = .ok (.iload_n 1, 1) := by decide +kernel
theorem dX12_hang_1 : decode cX12_hang 1 = .ok (.invokestatic 46, 3) := by decide +kernel
theorem dX12_hang_4 : decode cX12_hang 4 = .ok (.ifCond .eq 32, 3) := by decide +kernel
theorem dX12_hang_7 : decode cX12_hang 7 = .ok (.iload_n 2, 1) := by decide +kernel
theorem dX12_hang_8 : decode cX12_hang 8 = .ok (.iconst 0, 1) := by decide +kernel
theorem dX12_hang_9 : decode cX12_hang 9 = .ok (.aload_n 0, 1) := by decide +kernel
theorem dX12_hang_10 : decode cX12_hang 10 = .ok (.getfield 7, 3) := by decide +kernel
theorem dX12_hang_13 : decode cX12_hang 13 = .ok (.iconst 3, 1) := by decide +kernel
theorem dX12_hang_14 : decode cX12_hang 14 = .ok (.iaload, 1) := by decide +kernel
theorem dX12_hang_15 : decode cX12_hang 15 = .ok (.iconst 1, 1) := by decide +kernel
theorem dX12_hang_16 : decode cX12_hang 16 = .ok (.isub, 1) := by decide +kernel
theorem dX12_hang_17 : decode cX12_hang 17 = .ok (.invokestatic 42, 3) := by decide +kernel
theorem dX12_hang_20 : decode cX12_hang 20 = .ok (.ifCond .eq 16, 3) := by decide +kernel
theorem dX12_hang_23 : decode cX12_hang 23 = .ok (.iload_n 3, 1) := by decide +kernel
theorem dX12_hang_24 : decode cX12_hang 24 = .ok (.bipush (-6), 2) := by decide +kernel
theorem dX12_hang_26 : decode cX12_hang 26 = .ok (.if_icmp .eq 12, 3) := by decide +kernel
theorem dX12_hang_29 : decode cX12_hang 29 = .ok (.iload_n 3, 1) := by decide +kernel
theorem dX12_hang_30 : decode cX12_hang 30 = .ok (.invokestatic 80, 3) := by decide +kernel
theorem dX12_hang_33 : decode cX12_hang 33 = .ok (.ifCond .ne 5, 3) := by decide +kernel
theorem dX12_hang_36 : decode cX12_hang 36 = .ok (.iconst (-1), 1) := by decide +kernel
theorem dX12_hang_37 : decode cX12_hang 37 = .ok (.ireturn, 1) := by decide +kernel
theorem dX12_hang_38 : decode cX12_hang 38 = .ok (.aload_n 0, 1) := by decide +kernel
theorem dX12_hang_39 : decode cX12_hang 39 = .ok (.getfield 7, 3) := by decide +kernel
theorem dX12_hang_42 : decode cX12_hang 42 = .ok (.iload_n 1, 1) := by decide +kernel
theorem dX12_hang_43 : decode cX12_hang 43 = .ok (.iconst 2, 1) := by decide +kernel
theorem dX12_hang_44 : decode cX12_hang 44 = .ok (.invokestatic 38, 3) := by decide +kernel
theorem dX12_hang_47 : decode cX12_hang 47 = .ok (.iaload, 1) := by decide +kernel
theorem dX12_hang_48 : decode cX12_hang 48 = .ok (.istore 4, 2) := by decide +kernel
theorem dX12_hang_50 : decode cX12_hang 50 = .ok (.iload 4, 2) := by decide +kernel
theorem dX12_hang_52 : decode cX12_hang 52 = .ok (.bipush 12, 2) := by decide +kernel
theorem dX12_hang_54 : decode cX12_hang 54 = .ok (.if_icmp .ne 6, 3) := by decide +kernel
theorem dX12_hang_57 : decode cX12_hang 57 = .ok (.bipush (-4), 2) := by decide +kernel
theorem dX12_hang_59 : decode cX12_hang 59 = .ok (.ireturn, 1) := by decide +kernel
theorem dX12_hang_60 : decode cX12_hang 60 = .ok (.aload_n 0, 1) := by decide +kernel
theorem dX12_hang_61 : decode cX12_hang 61 = .ok (.invokevirtual 77, 3) := by decide +kernel
theorem dX12_hang_64 : decode cX12_hang 64 = .ok (.iconst 0, 1) := by decide +kernel
theorem dX12_hang_65 : decode cX12_hang 65 = .ok (.istore 5, 2) := by decide +kernel
theorem dX12_hang_67 : decode cX12_hang 67 = .ok (.iload 5, 2) := by decide +kernel
theorem dX12_hang_69 : decode cX12_hang 69 = .ok (.bipush 6, 2) := by decide +kernel
theorem dX12_hang_71 : decode cX12_hang 71 = .ok (.if_icmp .ge 23, 3) := by decide +kernel
theorem dX12_hang_74 : decode cX12_hang 74 = .ok (.aload_n 0, 1) := by decide +kernel
theorem dX12_hang_75 : decode cX12_hang 75 = .ok (.getfield 7, 3) := by decide +kernel
theorem dX12_hang_78 : decode cX12_hang 78 = .ok (.iload_n 1, 1) := by decide +kernel
theorem dX12_hang_79 : decode cX12_hang 79 = .ok (.iload 4, 2) := by decide +kernel
theorem dX12_hang_81 : decode cX12_hang 81 = .ok (.iload 5, 2) := by decide +kernel
theorem dX12_hang_83 : decode cX12_hang 83 = .ok (.invokestatic 54, 3) := by decide +kernel
theorem dX12_hang_86 : decode cX12_hang 86 = .ok (.iconst 0, 1) := by decide +kernel
theorem dX12_hang_87 : decode cX12_hang 87 = .ok (.iastore, 1) := by decide +kernel
theorem dX12_hang_88 : decode cX12_hang 88 = .ok (.iinc 5 1, 3) := by decide +kernel
theorem dX12_hang_91 : decode cX12_hang 91 = .ok (.goto (-24), 3) := by decide +kernel
theorem dX12_hang_94 : decode cX12_hang 94 = .ok (.aload_n 0, 1) := by decide +kernel
theorem dX12_hang_95 : decode cX12_hang 95 = .ok (.getfield 7, 3) := by decide +kernel
theorem dX12_hang_98 : decode cX12_hang 98 = .ok (.iload_n 1, 1) := by decide +kernel
theorem dX12_hang_99 : decode cX12_hang 99 = .ok (.iload 4, 2) := by decide +kernel
theorem dX12_hang_101 : decode cX12_hang 101 = .ok (.iconst 0, 1) := by decide +kernel
theorem dX12_hang_102 : decode cX12_hang 102 = .ok (.invokestatic 54, 3) := by decide +kernel
theorem dX12_hang_105 : decode cX12_hang 105 = .ok (.iload_n 2, 1) := by decide +kernel
theorem dX12_hang_106 : decode cX12_hang 106 = .ok (.iastore, 1) := by decide +kernel
theorem dX12_hang_107 : decode cX12_hang 107 = .ok (.aload_n 0, 1) := by decide +kernel
theorem dX12_hang_108 : decode cX12_hang 108 = .ok (.getfield 7, 3) := by decide +kernel
theorem dX12_hang_111 : decode cX12_hang 111 = .ok (.iload_n 1, 1) := by decide +kernel
theorem dX12_hang_112 : decode cX12_hang 112 = .ok (.iload 4, 2) := by decide +kernel
theorem dX12_hang_114 : decode cX12_hang 114 = .ok (.iconst 1, 1) := by decide +kernel
theorem dX12_hang_115 : decode cX12_hang 115 = .ok (.invokestatic 54, 3) := by decide +kernel
theorem dX12_hang_118 : decode cX12_hang 118 = .ok (.iload_n 3, 1) := by decide +kernel
theorem dX12_hang_119 : decode cX12_hang 119 = .ok (.iastore, 1) := by decide +kernel
theorem dX12_hang_120 : decode cX12_hang 120 = .ok (.iconst 0, 1) := by decide +kernel
theorem dX12_hang_121 : decode cX12_hang 121 = .ok (.istore 5, 2) := by decide +kernel
theorem dX12_hang_123 : decode cX12_hang 123 = .ok (.iload 5, 2) := by decide +kernel
theorem dX12_hang_125 : decode cX12_hang 125 = .ok (.bipush 8, 2) := by decide +kernel
theorem dX12_hang_127 : decode cX12_hang 127 = .ok (.if_icmp .ge 26, 3) := by decide +kernel
theorem dX12_hang_130 : decode cX12_hang 130 = .ok (.aload_n 0, 1) := by decide +kernel
theorem dX12_hang_131 : decode cX12_hang 131 = .ok (.getfield 7, 3) := by decide +kernel
theorem dX12_hang_134 : decode cX12_hang 134 = .ok (.iload_n 1, 1) := by decide +kernel
theorem dX12_hang_135 : decode cX12_hang 135 = .ok (.iload 5, 2) := by decide +kernel
theorem dX12_hang_137 : decode cX12_hang 137 = .ok (.invokestatic 64, 3) := by decide +kernel
theorem dX12_hang_140 : decode cX12_hang 140 = .ok (.iconst 1, 1) := by decide +kernel
theorem dX12_hang_141 : decode cX12_hang 141 = .ok (.iadd, 1) := by decide +kernel
theorem dX12_hang_142 : decode cX12_hang 142 = .ok (.iload 4, 2) := by decide +kernel
theorem dX12_hang_144 : decode cX12_hang 144 = .ok (.iadd, 1) := by decide +kernel
theorem dX12_hang_145 : decode cX12_hang 145 = .ok (.iconst 0, 1) := by decide +kernel
theorem dX12_hang_146 : decode cX12_hang 146 = .ok (.iastore, 1) := by decide +kernel
theorem dX12_hang_147 : decode cX12_hang 147 = .ok (.iinc 5 1, 3) := by decide +kernel
theorem dX12_hang_150 : decode cX12_hang 150 = .ok (.goto (-27), 3) := by decide +kernel
theorem dX12_hang_153 : decode cX12_hang 153 = .ok (.aload_n 0, 1) := by decide +kernel
theorem dX12_hang_154 : decode cX12_hang 154 = .ok (.getfield 7, 3) := by decide +kernel
theorem dX12_hang_157 : decode cX12_hang 157 = .ok (.iload_n 1, 1) := by decide +kernel
theorem dX12_hang_158 : decode cX12_hang 158 = .ok (.iconst 2, 1) := by decide +kernel
theorem dX12_hang_159 : decode cX12_hang 159 = .ok (.invokestatic 38, 3) := by decide +kernel
theorem dX12_hang_162 : decode cX12_hang 162 = .ok (.dup2, 1) := by decide +kernel
theorem dX12_hang_163 : decode cX12_hang 163 = .ok (.iaload, 1) := by decide +kernel
theorem dX12_hang_164 : decode cX12_hang 164 = .ok (.iconst 1, 1) := by decide +kernel
theorem dX12_hang_165 : decode cX12_hang 165 = .ok (.iadd, 1) := by decide +kernel
theorem dX12_hang_166 : decode cX12_hang 166 = .ok (.iastore, 1) := by decide +kernel
theorem dX12_hang_167 : decode cX12_hang 167 = .ok (.iload 4, 2) := by decide +kernel
theorem dX12_hang_169 : decode cX12_hang 169 = .ok (.ireturn, 1) := by decide +kernel
theorem dX12_takeDown_0 : decode cX12_takeDown 0 = .ok (.aload_n 0, 1) := by decide +kernel
theorem dX12_takeDown_1 : decode cX12_takeDown 1 = .ok (.iload_n 1, 1) := by decide +kernel
theorem dX12_takeDown_2 : decode cX12_takeDown 2 = .ok (.iload_n 2, 1) := by decide +kernel
theorem dX12_takeDown_3 : decode cX12_takeDown 3 = .ok (.invokevirtual 83, 3) := by decide +kernel
theorem dX12_takeDown_6 : decode cX12_takeDown 6 = .ok (.ifCond .ne 5, 3) := by decide +kernel
theorem dX12_takeDown_9 : decode cX12_takeDown 9 = .ok (.iconst (-1), 1) := by decide +kernel
theorem dX12_takeDown_10 : decode cX12_takeDown 10 = .ok (.ireturn, 1) := by decide +kernel
theorem dX12_takeDown_11 : decode cX12_takeDown 11 = .ok (.aload_n 0, 1) := by decide +kernel
theorem dX12_takeDown_12 : decode cX12_takeDown 12 = .ok (.invokevirtual 77, 3) := by decide +kernel
theorem dX12_takeDown_15 : decode cX12_takeDown 15 = .ok (.aload_n 0, 1) := by decide +kernel
theorem dX12_takeDown_16 : decode cX12_takeDown 16 = .ok (.getfield 7, 3) := by decide +kernel
theorem dX12_takeDown_19 : decode cX12_takeDown 19 = .ok (.iload_n 1, 1) := by decide +kernel
theorem dX12_takeDown_20 : decode cX12_takeDown 20 = .ok (.iconst 2, 1) := by decide +kernel
theorem dX12_takeDown_21 : decode cX12_takeDown 21 = .ok (.invokestatic 38, 3) := by decide +kernel
theorem dX12_takeDown_24 : decode cX12_takeDown 24 = .ok (.dup2, 1) := by decide +kernel
theorem dX12_takeDown_25 : decode cX12_takeDown 25 = .ok (.iaload, 1) := by decide +kernel
theorem dX12_takeDown_26 : decode cX12_takeDown 26 = .ok (.iconst 1, 1) := by decide +kernel
theorem dX12_takeDown_27 : decode cX12_takeDown 27 = .ok (.isub, 1) := by decide +kernel
theorem dX12_takeDown_28 : decode cX12_takeDown 28 = .ok (.iastore, 1) := by decide +kernel
theorem dX12_takeDown_29 : decode cX12_takeDown 29 = .ok (.aload_n 0, 1) := by decide +kernel
theorem dX12_takeDown_30 : decode cX12_takeDown 30 = .ok (.getfield 7, 3) := by decide +kernel
theorem dX12_takeDown_33 : decode cX12_takeDown 33 = .ok (.iload_n 1, 1) := by decide +kernel
theorem dX12_takeDown_34 : decode cX12_takeDown 34 = .ok (.iconst 2, 1) := by decide +kernel
theorem dX12_takeDown_35 : decode cX12_takeDown 35 = .ok (.invokestatic 38, 3) := by decide +kernel
theorem dX12_takeDown_38 : decode cX12_takeDown 38 = .ok (.iaload, 1) := by decide +kernel
theorem dX12_takeDown_39 : decode cX12_takeDown 39 = .ok (.istore_n 3, 1) := by decide +kernel
theorem dX12_takeDown_40 : decode cX12_takeDown 40 = .ok (.iload_n 1, 1) := by decide +kernel
theorem dX12_takeDown_41 : decode cX12_takeDown 41 = .ok (.iload_n 2, 1) := by decide +kernel
theorem dX12_takeDown_42 : decode cX12_takeDown 42 = .ok (.iconst 0, 1) := by decide +kernel
theorem dX12_takeDown_43 : decode cX12_takeDown 43 = .ok (.invokestatic 54, 3) := by decide +kernel
theorem dX12_takeDown_46 : decode cX12_takeDown 46 = .ok (.istore 4, 2) := by decide +kernel
theorem dX12_takeDown_48 : decode cX12_takeDown 48 = .ok (.iload 4, 2) := by decide +kernel
theorem dX12_takeDown_50 : decode cX12_takeDown 50 = .ok (.iload_n 1, 1) := by decide +kernel
theorem dX12_takeDown_51 : decode cX12_takeDown 51 = .ok (.iload_n 3, 1) := by decide +kernel
theorem dX12_takeDown_52 : decode cX12_takeDown 52 = .ok (.iconst 0, 1) := by decide +kernel
theorem dX12_takeDown_53 : decode cX12_takeDown 53 = .ok (.invokestatic 54, 3) := by decide +kernel
theorem dX12_takeDown_56 : decode cX12_takeDown 56 = .ok (.if_icmp .ge 26, 3) := by decide +kernel
theorem dX12_takeDown_59 : decode cX12_takeDown 59 = .ok (.aload_n 0, 1) := by decide +kernel
theorem dX12_takeDown_60 : decode cX12_takeDown 60 = .ok (.getfield 7, 3) := by decide +kernel
theorem dX12_takeDown_63 : decode cX12_takeDown 63 = .ok (.iload 4, 2) := by decide +kernel
theorem dX12_takeDown_65 : decode cX12_takeDown 65 = .ok (.aload_n 0, 1) := by decide +kernel
theorem dX12_takeDown_66 : decode cX12_takeDown 66 = .ok (.getfield 7, 3) := by decide +kernel
theorem dX12_takeDown_69 : decode cX12_takeDown 69 = .ok (.iload 4, 2) := by decide +kernel
theorem dX12_takeDown_71 : decode cX12_takeDown 71 = .ok (.bipush 6, 2) := by decide +kernel
theorem dX12_takeDown_73 : decode cX12_takeDown 73 = .ok (.iadd, 1) := by decide +kernel
theorem dX12_takeDown_74 : decode cX12_takeDown 74 = .ok (.iaload, 1) := by decide +kernel
theorem dX12_takeDown_75 : decode cX12_takeDown 75 = .ok (.iastore, 1) := by decide +kernel
theorem dX12_takeDown_76 : decode cX12_takeDown 76 = .ok (.iinc 4 1, 3) := by decide +kernel
theorem dX12_takeDown_79 : decode cX12_takeDown 79 = .ok (.goto (-31), 3) := by decide +kernel
theorem dX12_takeDown_82 : decode cX12_takeDown 82 = .ok (.iconst 0, 1) := by decide +kernel
theorem dX12_takeDown_83 : decode cX12_takeDown 83 = .ok (.istore 4, 2) := by decide +kernel
theorem dX12_takeDown_85 : decode cX12_takeDown 85 = .ok (.iload 4, 2) := by decide +kernel
theorem dX12_takeDown_87 : decode cX12_takeDown 87 = .ok (.bipush 8, 2) := by decide +kernel
theorem dX12_takeDown_89 : decode cX12_takeDown 89 = .ok (.if_icmp .ge 56, 3) := by decide +kernel
theorem dX12_takeDown_92 : decode cX12_takeDown 92 = .ok (.iload_n 2, 1) := by decide +kernel
theorem dX12_takeDown_93 : decode cX12_takeDown 93 = .ok (.istore 5, 2) := by decide +kernel
theorem dX12_takeDown_95 : decode cX12_takeDown 95 = .ok (.iload 5, 2) := by decide +kernel
theorem dX12_takeDown_97 : decode cX12_takeDown 97 = .ok (.iload_n 3, 1) := by decide +kernel
theorem dX12_takeDown_98 : decode cX12_takeDown 98 = .ok (.if_icmp .ge 41, 3) := by decide +kernel
theorem dX12_takeDown_101 : decode cX12_takeDown 101 = .ok (.aload_n 0, 1) := by decide +kernel
theorem dX12_takeDown_102 : decode cX12_takeDown 102 = .ok (.getfield 7, 3) := by decide +kernel
theorem dX12_takeDown_105 : decode cX12_takeDown 105 = .ok (.iload_n 1, 1) := by decide +kernel
theorem dX12_takeDown_106 : decode cX12_takeDown 106 = .ok (.iload 4, 2) := by decide +kernel
theorem dX12_takeDown_108 : decode cX12_takeDown 108 = .ok (.invokestatic 64, 3) := by decide +kernel
theorem dX12_takeDown_111 : decode cX12_takeDown 111 = .ok (.iconst 1, 1) := by decide +kernel
theorem dX12_takeDown_112 : decode cX12_takeDown 112 = .ok (.iadd, 1) := by decide +kernel
theorem dX12_takeDown_113 : decode cX12_takeDown 113 = .ok (.iload 5, 2) := by decide +kernel
theorem dX12_takeDown_115 : decode cX12_takeDown 115 = .ok (.iadd, 1) := by decide +kernel
theorem dX12_takeDown_116 : decode cX12_takeDown 116 = .ok (.aload_n 0, 1) := by decide +kernel
theorem dX12_takeDown_117 : decode cX12_takeDown 117 = .ok (.getfield 7, 3) := by decide +kernel
theorem dX12_takeDown_120 : decode cX12_takeDown 120 = .ok (.iload_n 1, 1) := by decide +kernel
theorem dX12_takeDown_121 : decode cX12_takeDown 121 = .ok (.iload 4, 2) := by decide +kernel
theorem dX12_takeDown_123 : decode cX12_takeDown 123 = .ok (.invokestatic 64, 3) := by decide +kernel
theorem dX12_takeDown_126 : decode cX12_takeDown 126 = .ok (.iconst 2, 1) := by decide +kernel
theorem dX12_takeDown_127 : decode cX12_takeDown 127 = .ok (.iadd, 1) := by decide +kernel
theorem dX12_takeDown_128 : decode cX12_takeDown 128 = .ok (.iload 5, 2) := by decide +kernel
theorem dX12_takeDown_130 : decode cX12_takeDown 130 = .ok (.iadd, 1) := by decide +kernel
theorem dX12_takeDown_131 : decode cX12_takeDown 131 = .ok (.iaload, 1) := by decide +kernel
theorem dX12_takeDown_132 : decode cX12_takeDown 132 = .ok (.iastore, 1) := by decide +kernel
theorem dX12_takeDown_133 : decode cX12_takeDown 133 = .ok (.iinc 5 1, 3) := by decide +kernel
theorem dX12_takeDown_136 : decode cX12_takeDown 136 = .ok (.goto (-41), 3) := by decide +kernel
theorem dX12_takeDown_139 : decode cX12_takeDown 139 = .ok (.iinc 4 1, 3) := by decide +kernel
theorem dX12_takeDown_142 : decode cX12_takeDown 142 = .ok (.goto (-57), 3) := by decide +kernel
theorem dX12_takeDown_145 : decode cX12_takeDown 145 = .ok (.iload_n 3, 1) := by decide +kernel
theorem dX12_takeDown_146 : decode cX12_takeDown 146 = .ok (.ireturn, 1) := by decide +kernel
theorem dX12_patch_0 : decode cX12_patch 0 = .ok (.aload_n 0, 1) := by decide +kernel
theorem dX12_patch_1 : decode cX12_patch 1 = .ok (.iload_n 1, 1) := by decide +kernel
theorem dX12_patch_2 : decode cX12_patch 2 = .ok (.iload_n 2, 1) := by decide +kernel
theorem dX12_patch_3 : decode cX12_patch 3 = .ok (.invokevirtual 83, 3) := by decide +kernel
theorem dX12_patch_6 : decode cX12_patch 6 = .ok (.ifCond .eq 16, 3) := by decide +kernel
theorem dX12_patch_9 : decode cX12_patch 9 = .ok (.iload_n 3, 1) := by decide +kernel
theorem dX12_patch_10 : decode cX12_patch 10 = .ok (.bipush (-6), 2) := by decide +kernel
theorem dX12_patch_12 : decode cX12_patch 12 = .ok (.if_icmp .eq 12, 3) := by decide +kernel
theorem dX12_patch_15 : decode cX12_patch 15 = .ok (.iload_n 3, 1) := by decide +kernel
theorem dX12_patch_16 : decode cX12_patch 16 = .ok (.invokestatic 80, 3) := by decide +kernel
theorem dX12_patch_19 : decode cX12_patch 19 = .ok (.ifCond .ne 5, 3) := by decide +kernel
theorem dX12_patch_22 : decode cX12_patch 22 = .ok (.iconst (-1), 1) := by decide +kernel
theorem dX12_patch_23 : decode cX12_patch 23 = .ok (.ireturn, 1) := by decide +kernel
theorem dX12_patch_24 : decode cX12_patch 24 = .ok (.aload_n 0, 1) := by decide +kernel
theorem dX12_patch_25 : decode cX12_patch 25 = .ok (.invokevirtual 77, 3) := by decide +kernel
theorem dX12_patch_28 : decode cX12_patch 28 = .ok (.aload_n 0, 1) := by decide +kernel
theorem dX12_patch_29 : decode cX12_patch 29 = .ok (.getfield 7, 3) := by decide +kernel
theorem dX12_patch_32 : decode cX12_patch 32 = .ok (.iload_n 1, 1) := by decide +kernel
theorem dX12_patch_33 : decode cX12_patch 33 = .ok (.iload_n 2, 1) := by decide +kernel
theorem dX12_patch_34 : decode cX12_patch 34 = .ok (.iconst 1, 1) := by decide +kernel
theorem dX12_patch_35 : decode cX12_patch 35 = .ok (.invokestatic 54, 3) := by decide +kernel
theorem dX12_patch_38 : decode cX12_patch 38 = .ok (.iaload, 1) := by decide +kernel
theorem dX12_patch_39 : decode cX12_patch 39 = .ok (.istore 4, 2) := by decide +kernel
theorem dX12_patch_41 : decode cX12_patch 41 = .ok (.aload_n 0, 1) := by decide +kernel
theorem dX12_patch_42 : decode cX12_patch 42 = .ok (.getfield 7, 3) := by decide +kernel
theorem dX12_patch_45 : decode cX12_patch 45 = .ok (.iload_n 1, 1) := by decide +kernel
theorem dX12_patch_46 : decode cX12_patch 46 = .ok (.iload_n 2, 1) := by decide +kernel
theorem dX12_patch_47 : decode cX12_patch 47 = .ok (.iconst 1, 1) := by decide +kernel
theorem dX12_patch_48 : decode cX12_patch 48 = .ok (.invokestatic 54, 3) := by decide +kernel
theorem dX12_patch_51 : decode cX12_patch 51 = .ok (.iload_n 3, 1) := by decide +kernel
theorem dX12_patch_52 : decode cX12_patch 52 = .ok (.iastore, 1) := by decide +kernel
theorem dX12_patch_53 : decode cX12_patch 53 = .ok (.iload 4, 2) := by decide +kernel
theorem dX12_patch_55 : decode cX12_patch 55 = .ok (.ireturn, 1) := by decide +kernel
theorem dX12_feed_0 : decode cX12_feed 0 = .ok (.iload_n 1, 1) := by decide +kernel
theorem dX12_feed_1 : decode cX12_feed 1 = .ok (.invokestatic 46, 3) := by decide +kernel
theorem dX12_feed_4 : decode cX12_feed 4 = .ok (.ifCond .eq 19, 3) := by decide +kernel
theorem dX12_feed_7 : decode cX12_feed 7 = .ok (.iload_n 2, 1) := by decide +kernel
theorem dX12_feed_8 : decode cX12_feed 8 = .ok (.invokestatic 80, 3) := by decide +kernel
theorem dX12_feed_11 : decode cX12_feed 11 = .ok (.ifCond .eq 12, 3) := by decide +kernel
theorem dX12_feed_14 : decode cX12_feed 14 = .ok (.iload_n 3, 1) := by decide +kernel
theorem dX12_feed_15 : decode cX12_feed 15 = .ok (.iconst 0, 1) := by decide +kernel
theorem dX12_feed_16 : decode cX12_feed 16 = .ok (.iconst 2, 1) := by decide +kernel
theorem dX12_feed_17 : decode cX12_feed 17 = .ok (.invokestatic 42, 3) := by decide +kernel
theorem dX12_feed_20 : decode cX12_feed 20 = .ok (.ifCond .ne 5, 3) := by decide +kernel
theorem dX12_feed_23 : decode cX12_feed 23 = .ok (.iconst (-1), 1) := by decide +kernel
theorem dX12_feed_24 : decode cX12_feed 24 = .ok (.ireturn, 1) := by decide +kernel
theorem dX12_feed_25 : decode cX12_feed 25 = .ok (.aload_n 0, 1) := by decide +kernel
theorem dX12_feed_26 : decode cX12_feed 26 = .ok (.invokevirtual 77, 3) := by decide +kernel
theorem dX12_feed_29 : decode cX12_feed 29 = .ok (.aload_n 0, 1) := by decide +kernel
theorem dX12_feed_30 : decode cX12_feed 30 = .ok (.getfield 7, 3) := by decide +kernel
theorem dX12_feed_33 : decode cX12_feed 33 = .ok (.iload_n 1, 1) := by decide +kernel
theorem dX12_feed_34 : decode cX12_feed 34 = .ok (.bipush 75, 2) := by decide +kernel
theorem dX12_feed_36 : decode cX12_feed 36 = .ok (.iload_n 2, 1) := by decide +kernel
theorem dX12_feed_37 : decode cX12_feed 37 = .ok (.iadd, 1) := by decide +kernel
theorem dX12_feed_38 : decode cX12_feed 38 = .ok (.invokestatic 38, 3) := by decide +kernel
theorem dX12_feed_41 : decode cX12_feed 41 = .ok (.iaload, 1) := by decide +kernel
theorem dX12_feed_42 : decode cX12_feed 42 = .ok (.istore 4, 2) := by decide +kernel
theorem dX12_feed_44 : decode cX12_feed 44 = .ok (.aload_n 0, 1) := by decide +kernel
theorem dX12_feed_45 : decode cX12_feed 45 = .ok (.getfield 7, 3) := by decide +kernel
theorem dX12_feed_48 : decode cX12_feed 48 = .ok (.iload_n 1, 1) := by decide +kernel
theorem dX12_feed_49 : decode cX12_feed 49 = .ok (.bipush 75, 2) := by decide +kernel
theorem dX12_feed_51 : decode cX12_feed 51 = .ok (.iload_n 2, 1) := by decide +kernel
theorem dX12_feed_52 : decode cX12_feed 52 = .ok (.iadd, 1) := by decide +kernel
theorem dX12_feed_53 : decode cX12_feed 53 = .ok (.invokestatic 38, 3) := by decide +kernel
theorem dX12_feed_56 : decode cX12_feed 56 = .ok (.iload_n 3, 1) := by decide +kernel
theorem dX12_feed_57 : decode cX12_feed 57 = .ok (.iastore, 1) := by decide +kernel
theorem dX12_feed_58 : decode cX12_feed 58 = .ok (.iload 4, 2) := by decide +kernel
theorem dX12_feed_60 : decode cX12_feed 60 = .ok (.ireturn, 1) := by decide +kernel
theorem dX12_spread_0 : decode cX12_spread 0 = .ok (.iload_n 1, 1) := by decide +kernel
theorem dX12_spread_1 : decode cX12_spread 1 = .ok (.invokestatic 46, 3) := by decide +kernel
theorem dX12_spread_4 : decode cX12_spread 4 = .ok (.ifCond .ne 5, 3) := by decide +kernel
theorem dX12_spread_7 : decode cX12_spread 7 = .ok (.iconst (-1), 1) := by decide +kernel
theorem dX12_spread_8 : decode cX12_spread 8 = .ok (.ireturn, 1) := by decide +kernel
theorem dX12_spread_9 : decode cX12_spread 9 = .ok (.aload_n 0, 1) := by decide +kernel
theorem dX12_spread_10 : decode cX12_spread 10 = .ok (.invokevirtual 77, 3) := by decide +kernel
theorem dX12_spread_13 : decode cX12_spread 13 = .ok (.iconst 0, 1) := by decide +kernel
theorem dX12_spread_14 : decode cX12_spread 14 = .ok (.istore_n 2, 1) := by decide +kernel
theorem dX12_spread_15 : decode cX12_spread 15 = .ok (.iload_n 2, 1) := by decide +kernel
theorem dX12_spread_16 : decode cX12_spread 16 = .ok (.bipush 12, 2) := by decide +kernel
theorem dX12_spread_18 : decode cX12_spread 18 = .ok (.if_icmp .ge 21, 3) := by decide +kernel
theorem dX12_spread_21 : decode cX12_spread 21 = .ok (.aload_n 0, 1) := by decide +kernel
theorem dX12_spread_22 : decode cX12_spread 22 = .ok (.getfield 29, 3) := by decide +kernel
theorem dX12_spread_25 : decode cX12_spread 25 = .ok (.iload_n 2, 1) := by decide +kernel
theorem dX12_spread_26 : decode cX12_spread 26 = .ok (.aload_n 0, 1) := by decide +kernel
theorem dX12_spread_27 : decode cX12_spread 27 = .ok (.iload_n 1, 1) := by decide +kernel
theorem dX12_spread_28 : decode cX12_spread 28 = .ok (.iload_n 2, 1) := by decide +kernel
theorem dX12_spread_29 : decode cX12_spread 29 = .ok (.invokevirtual 87, 3) := by decide +kernel
theorem dX12_spread_32 : decode cX12_spread 32 = .ok (.iastore, 1) := by decide +kernel
theorem dX12_spread_33 : decode cX12_spread 33 = .ok (.iinc 2 1, 3) := by decide +kernel
theorem dX12_spread_36 : decode cX12_spread 36 = .ok (.goto (-21), 3) := by decide +kernel
theorem dX12_spread_39 : decode cX12_spread 39 = .ok (.aload_n 0, 1) := by decide +kernel
theorem dX12_spread_40 : decode cX12_spread 40 = .ok (.getfield 32, 3) := by decide +kernel
theorem dX12_spread_43 : decode cX12_spread 43 = .ok (.iconst 0, 1) := by decide +kernel
theorem dX12_spread_44 : decode cX12_spread 44 = .ok (.iconst 0, 1) := by decide +kernel
theorem dX12_spread_45 : decode cX12_spread 45 = .ok (.iastore, 1) := by decide +kernel
theorem dX12_spread_46 : decode cX12_spread 46 = .ok (.aload_n 0, 1) := by decide +kernel
theorem dX12_spread_47 : decode cX12_spread 47 = .ok (.getfield 32, 3) := by decide +kernel
theorem dX12_spread_50 : decode cX12_spread 50 = .ok (.iconst 1, 1) := by decide +kernel
theorem dX12_spread_51 : decode cX12_spread 51 = .ok (.iconst 0, 1) := by decide +kernel
theorem dX12_spread_52 : decode cX12_spread 52 = .ok (.iastore, 1) := by decide +kernel
theorem dX12_spread_53 : decode cX12_spread 53 = .ok (.aload_n 0, 1) := by decide +kernel
theorem dX12_spread_54 : decode cX12_spread 54 = .ok (.getfield 32, 3) := by decide +kernel
theorem dX12_spread_57 : decode cX12_spread 57 = .ok (.iconst 2, 1) := by decide +kernel
theorem dX12_spread_58 : decode cX12_spread 58 = .ok (.iconst 0, 1) := by decide +kernel
theorem dX12_spread_59 : decode cX12_spread 59 = .ok (.iastore, 1) := by decide +kernel
theorem dX12_spread_60 : decode cX12_spread 60 = .ok (.iconst 0, 1) := by decide +kernel
theorem dX12_spread_61 : decode cX12_spread 61 = .ok (.istore_n 2, 1) := by decide +kernel
theorem dX12_spread_62 : decode cX12_spread 62 = .ok (.iconst 0, 1) := by decide +kernel
theorem dX12_spread_63 : decode cX12_spread 63 = .ok (.istore_n 3, 1) := by decide +kernel
theorem dX12_spread_64 : decode cX12_spread 64 = .ok (.iload_n 3, 1) := by decide +kernel
theorem dX12_spread_65 : decode cX12_spread 65 = .ok (.bipush 12, 2) := by decide +kernel
theorem dX12_spread_67 : decode cX12_spread 67 = .ok (.if_icmp .ge 168, 3) := by decide +kernel
theorem dX12_spread_70 : decode cX12_spread 70 = .ok (.iconst 0, 1) := by decide +kernel
theorem dX12_spread_71 : decode cX12_spread 71 = .ok (.istore 4, 2) := by decide +kernel
theorem dX12_spread_73 : decode cX12_spread 73 = .ok (.iconst 1, 1) := by decide +kernel
theorem dX12_spread_74 : decode cX12_spread 74 = .ok (.istore 5, 2) := by decide +kernel
theorem dX12_spread_76 : decode cX12_spread 76 = .ok (.iload 5, 2) := by decide +kernel
theorem dX12_spread_78 : decode cX12_spread 78 = .ok (.bipush 12, 2) := by decide +kernel
theorem dX12_spread_80 : decode cX12_spread 80 = .ok (.if_icmp .ge 35, 3) := by decide +kernel
theorem dX12_spread_83 : decode cX12_spread 83 = .ok (.aload_n 0, 1) := by decide +kernel
theorem dX12_spread_84 : decode cX12_spread 84 = .ok (.getfield 29, 3) := by decide +kernel
theorem dX12_spread_87 : decode cX12_spread 87 = .ok (.iload 5, 2) := by decide +kernel
theorem dX12_spread_89 : decode cX12_spread 89 = .ok (.iaload, 1) := by decide +kernel
theorem dX12_spread_90 : decode cX12_spread 90 = .ok (.aload_n 0, 1) := by decide +kernel
theorem dX12_spread_91 : decode cX12_spread 91 = .ok (.getfield 29, 3) := by decide +kernel
theorem dX12_spread_94 : decode cX12_spread 94 = .ok (.iload 4, 2) := by decide +kernel
theorem dX12_spread_96 : decode cX12_spread 96 = .ok (.iaload, 1) := by decide +kernel
theorem dX12_spread_97 : decode cX12_spread 97 = .ok (.if_icmp .le 8, 3) := by decide +kernel
theorem dX12_spread_100 : decode cX12_spread 100 = .ok (.iload 5, 2) := by decide +kernel
theorem dX12_spread_102 : decode cX12_spread 102 = .ok (.goto 5, 3) := by decide +kernel
theorem dX12_spread_105 : decode cX12_spread 105 = .ok (.iload 4, 2) := by decide +kernel
theorem dX12_spread_107 : decode cX12_spread 107 = .ok (.istore 4, 2) := by decide +kernel
theorem dX12_spread_109 : decode cX12_spread 109 = .ok (.iinc 5 1, 3) := by decide +kernel
theorem dX12_spread_112 : decode cX12_spread 112 = .ok (.goto (-36), 3) := by decide +kernel
theorem dX12_spread_115 : decode cX12_spread 115 = .ok (.aload_n 0, 1) := by decide +kernel
theorem dX12_spread_116 : decode cX12_spread 116 = .ok (.getfield 32, 3) := by decide +kernel
theorem dX12_spread_119 : decode cX12_spread 119 = .ok (.iconst 1, 1) := by decide +kernel
theorem dX12_spread_120 : decode cX12_spread 120 = .ok (.iaload, 1) := by decide +kernel
theorem dX12_spread_121 : decode cX12_spread 121 = .ok (.aload_n 0, 1) := by decide +kernel
theorem dX12_spread_122 : decode cX12_spread 122 = .ok (.getfield 32, 3) := by decide +kernel
theorem dX12_spread_125 : decode cX12_spread 125 = .ok (.iconst 0, 1) := by decide +kernel
theorem dX12_spread_126 : decode cX12_spread 126 = .ok (.iaload, 1) := by decide +kernel
theorem dX12_spread_127 : decode cX12_spread 127 = .ok (.if_icmp .ge 7, 3) := by decide +kernel
theorem dX12_spread_130 : decode cX12_spread 130 = .ok (.iconst 1, 1) := by decide +kernel
theorem dX12_spread_131 : decode cX12_spread 131 = .ok (.goto 4, 3) := by decide +kernel
theorem dX12_spread_134 : decode cX12_spread 134 = .ok (.iconst 0, 1) := by decide +kernel
theorem dX12_spread_135 : decode cX12_spread 135 = .ok (.istore 5, 2) := by decide +kernel
theorem dX12_spread_137 : decode cX12_spread 137 = .ok (.aload_n 0, 1) := by decide +kernel
theorem dX12_spread_138 : decode cX12_spread 138 = .ok (.getfield 32, 3) := by decide +kernel
theorem dX12_spread_141 : decode cX12_spread 141 = .ok (.iconst 2, 1) := by decide +kernel
theorem dX12_spread_142 : decode cX12_spread 142 = .ok (.iaload, 1) := by decide +kernel
theorem dX12_spread_143 : decode cX12_spread 143 = .ok (.aload_n 0, 1) := by decide +kernel
theorem dX12_spread_144 : decode cX12_spread 144 = .ok (.getfield 32, 3) := by decide +kernel
theorem dX12_spread_147 : decode cX12_spread 147 = .ok (.iload 5, 2) := by decide +kernel
theorem dX12_spread_149 : decode cX12_spread 149 = .ok (.iaload, 1) := by decide +kernel
theorem dX12_spread_150 : decode cX12_spread 150 = .ok (.if_icmp .ge 7, 3) := by decide +kernel
theorem dX12_spread_153 : decode cX12_spread 153 = .ok (.iconst 2, 1) := by decide +kernel
theorem dX12_spread_154 : decode cX12_spread 154 = .ok (.goto 5, 3) := by decide +kernel
theorem dX12_spread_157 : decode cX12_spread 157 = .ok (.iload 5, 2) := by decide +kernel
theorem dX12_spread_159 : decode cX12_spread 159 = .ok (.istore 5, 2) := by decide +kernel
theorem dX12_spread_161 : decode cX12_spread 161 = .ok (.aload_n 0, 1) := by decide +kernel
theorem dX12_spread_162 : decode cX12_spread 162 = .ok (.getfield 32, 3) := by decide +kernel
theorem dX12_spread_165 : decode cX12_spread 165 = .ok (.iload 5, 2) := by decide +kernel
theorem dX12_spread_167 : decode cX12_spread 167 = .ok (.dup2, 1) := by decide +kernel
theorem dX12_spread_168 : decode cX12_spread 168 = .ok (.iaload, 1) := by decide +kernel
theorem dX12_spread_169 : decode cX12_spread 169 = .ok (.aload_n 0, 1) := by decide +kernel
theorem dX12_spread_170 : decode cX12_spread 170 = .ok (.getfield 29, 3) := by decide +kernel
theorem dX12_spread_173 : decode cX12_spread 173 = .ok (.iload 4, 2) := by decide +kernel
theorem dX12_spread_175 : decode cX12_spread 175 = .ok (.iaload, 1) := by decide +kernel
theorem dX12_spread_176 : decode cX12_spread 176 = .ok (.iadd, 1) := by decide +kernel
theorem dX12_spread_177 : decode cX12_spread 177 = .ok (.iastore, 1) := by decide +kernel
theorem dX12_spread_178 : decode cX12_spread 178 = .ok (.iload_n 2, 1) := by decide +kernel
theorem dX12_spread_179 : decode cX12_spread 179 = .ok (.aload_n 0, 1) := by decide +kernel
theorem dX12_spread_180 : decode cX12_spread 180 = .ok (.getfield 7, 3) := by decide +kernel
theorem dX12_spread_183 : decode cX12_spread 183 = .ok (.iload_n 1, 1) := by decide +kernel
theorem dX12_spread_184 : decode cX12_spread 184 = .ok (.bipush 75, 2) := by decide +kernel
theorem dX12_spread_186 : decode cX12_spread 186 = .ok (.iload 4, 2) := by decide +kernel
theorem dX12_spread_188 : decode cX12_spread 188 = .ok (.iadd, 1) := by decide +kernel
theorem dX12_spread_189 : decode cX12_spread 189 = .ok (.invokestatic 38, 3) := by decide +kernel
theorem dX12_spread_192 : decode cX12_spread 192 = .ok (.iaload, 1) := by decide +kernel
theorem dX12_spread_193 : decode cX12_spread 193 = .ok (.iload 5, 2) := by decide +kernel
theorem dX12_spread_195 : decode cX12_spread 195 = .ok (.if_icmp .ne 7, 3) := by decide +kernel
theorem dX12_spread_198 : decode cX12_spread 198 = .ok (.iconst 0, 1) := by decide +kernel
theorem dX12_spread_199 : decode cX12_spread 199 = .ok (.goto 4, 3) := by decide +kernel
theorem dX12_spread_202 : decode cX12_spread 202 = .ok (.iconst 1, 1) := by decide +kernel
theorem dX12_spread_203 : decode cX12_spread 203 = .ok (.iadd, 1) := by decide +kernel
theorem dX12_spread_204 : decode cX12_spread 204 = .ok (.istore_n 2, 1) := by decide +kernel
theorem dX12_spread_205 : decode cX12_spread 205 = .ok (.aload_n 0, 1) := by decide +kernel
theorem dX12_spread_206 : decode cX12_spread 206 = .ok (.getfield 7, 3) := by decide +kernel
theorem dX12_spread_209 : decode cX12_spread 209 = .ok (.iload_n 1, 1) := by decide +kernel
theorem dX12_spread_210 : decode cX12_spread 210 = .ok (.bipush 75, 2) := by decide +kernel
theorem dX12_spread_212 : decode cX12_spread 212 = .ok (.iload 4, 2) := by decide +kernel
theorem dX12_spread_214 : decode cX12_spread 214 = .ok (.iadd, 1) := by decide +kernel
theorem dX12_spread_215 : decode cX12_spread 215 = .ok (.invokestatic 38, 3) := by decide +kernel
theorem dX12_spread_218 : decode cX12_spread 218 = .ok (.iload 5, 2) := by decide +kernel
theorem dX12_spread_220 : decode cX12_spread 220 = .ok (.iastore, 1) := by decide +kernel
theorem dX12_spread_221 : decode cX12_spread 221 = .ok (.aload_n 0, 1) := by decide +kernel
theorem dX12_spread_222 : decode cX12_spread 222 = .ok (.getfield 29, 3) := by decide +kernel
theorem dX12_spread_225 : decode cX12_spread 225 = .ok (.iload 4, 2) := by decide +kernel
theorem dX12_spread_227 : decode cX12_spread 227 = .ok (.iconst (-1), 1) := by decide +kernel
theorem dX12_spread_228 : decode cX12_spread 228 = .ok (.iastore, 1) := by decide +kernel
theorem dX12_spread_229 : decode cX12_spread 229 = .ok (.iinc 3 1, 3) := by decide +kernel
theorem dX12_spread_232 : decode cX12_spread 232 = .ok (.goto (-168), 3) := by decide +kernel
theorem dX12_spread_235 : decode cX12_spread 235 = .ok (.iload_n 2, 1) := by decide +kernel
theorem dX12_spread_236 : decode cX12_spread 236 = .ok (.ireturn, 1) := by decide +kernel
theorem dX12_atFault_0 : decode cX12_atFault 0 = .ok (.aload_n 0, 1) := by decide +kernel
theorem dX12_atFault_1 : decode cX12_atFault 1 = .ok (.iload_n 1, 1) := by decide +kernel
theorem dX12_atFault_2 : decode cX12_atFault 2 = .ok (.iload_n 2, 1) := by decide +kernel
theorem dX12_atFault_3 : decode cX12_atFault 3 = .ok (.invokevirtual 83, 3) := by decide +kernel
theorem dX12_atFault_6 : decode cX12_atFault 6 = .ok (.ifCond .ne 7, 3) := by decide +kernel
theorem dX12_atFault_9 : decode cX12_atFault 9 = .ok (.iconst (-1), 1) := by decide +kernel
theorem dX12_atFault_10 : decode cX12_atFault 10 = .ok (.goto 19, 3) := by decide +kernel
theorem dX12_atFault_13 : decode cX12_atFault 13 = .ok (.iload_n 3, 1) := by decide +kernel
theorem dX12_atFault_14 : decode cX12_atFault 14 = .ok (.iconst 0, 1) := by decide +kernel
theorem dX12_atFault_15 : decode cX12_atFault 15 = .ok (.bipush 100, 2) := by decide +kernel
theorem dX12_atFault_17 : decode cX12_atFault 17 = .ok (.invokestatic 42, 3) := by decide +kernel
theorem dX12_atFault_20 : decode cX12_atFault 20 = .ok (.ifCond .eq 7, 3) := by decide +kernel
theorem dX12_atFault_23 : decode cX12_atFault 23 = .ok (.iconst 0, 1) := by decide +kernel
theorem dX12_atFault_24 : decode cX12_atFault 24 = .ok (.goto 5, 3) := by decide +kernel
theorem dX12_atFault_27 : decode cX12_atFault 27 = .ok (.bipush (-2), 2) := by decide +kernel
theorem dX12_atFault_29 : decode cX12_atFault 29 = .ok (.ireturn, 1) := by decide +kernel
theorem dX12_at_0 : decode cX12_at 0 = .ok (.aload_n 0, 1) := by decide +kernel
theorem dX12_at_1 : decode cX12_at 1 = .ok (.iload_n 1, 1) := by decide +kernel
theorem dX12_at_2 : decode cX12_at 2 = .ok (.iload_n 2, 1) := by decide +kernel
theorem dX12_at_3 : decode cX12_at 3 = .ok (.iload_n 3, 1) := by decide +kernel
theorem dX12_at_4 : decode cX12_at 4 = .ok (.invokevirtual 90, 3) := by decide +kernel
theorem dX12_at_7 : decode cX12_at 7 = .ok (.istore 4, 2) := by decide +kernel
theorem dX12_at_9 : decode cX12_at 9 = .ok (.iload 4, 2) := by decide +kernel
theorem dX12_at_11 : decode cX12_at 11 = .ok (.ifCond .ge 6, 3) := by decide +kernel
theorem dX12_at_14 : decode cX12_at 14 = .ok (.iload 4, 2) := by decide +kernel
theorem dX12_at_16 : decode cX12_at 16 = .ok (.ireturn, 1) := by decide +kernel
theorem dX12_at_17 : decode cX12_at 17 = .ok (.aload_n 0, 1) := by decide +kernel
theorem dX12_at_18 : decode cX12_at 18 = .ok (.invokevirtual 77, 3) := by decide +kernel
theorem dX12_at_21 : decode cX12_at 21 = .ok (.aload_n 0, 1) := by decide +kernel
theorem dX12_at_22 : decode cX12_at 22 = .ok (.getfield 7, 3) := by decide +kernel
theorem dX12_at_25 : decode cX12_at 25 = .ok (.iload_n 1, 1) := by decide +kernel
theorem dX12_at_26 : decode cX12_at 26 = .ok (.iload_n 2, 1) := by decide +kernel
theorem dX12_at_27 : decode cX12_at 27 = .ok (.iconst 2, 1) := by decide +kernel
theorem dX12_at_28 : decode cX12_at 28 = .ok (.invokestatic 54, 3) := by decide +kernel
theorem dX12_at_31 : decode cX12_at 31 = .ok (.iaload, 1) := by decide +kernel
theorem dX12_at_32 : decode cX12_at 32 = .ok (.istore 5, 2) := by decide +kernel
theorem dX12_at_34 : decode cX12_at 34 = .ok (.aload_n 0, 1) := by decide +kernel
theorem dX12_at_35 : decode cX12_at 35 = .ok (.getfield 7, 3) := by decide +kernel
theorem dX12_at_38 : decode cX12_at 38 = .ok (.iload_n 1, 1) := by decide +kernel
theorem dX12_at_39 : decode cX12_at 39 = .ok (.iload_n 2, 1) := by decide +kernel
theorem dX12_at_40 : decode cX12_at 40 = .ok (.iconst 2, 1) := by decide +kernel
theorem dX12_at_41 : decode cX12_at 41 = .ok (.invokestatic 54, 3) := by decide +kernel
theorem dX12_at_44 : decode cX12_at 44 = .ok (.iload_n 3, 1) := by decide +kernel
theorem dX12_at_45 : decode cX12_at 45 = .ok (.iastore, 1) := by decide +kernel
theorem dX12_at_46 : decode cX12_at 46 = .ok (.iload 5, 2) := by decide +kernel
theorem dX12_at_48 : decode cX12_at 48 = .ok (.ireturn, 1) := by decide +kernel
theorem dX12_isCue_0 : decode cX12_isCue 0 = .ok (.iload_n 0, 1) := by decide +kernel
theorem dX12_isCue_1 : decode cX12_isCue 1 = .ok (.invokestatic 46, 3) := by decide +kernel
theorem dX12_isCue_4 : decode cX12_isCue 4 = .ok (.ifCond .eq 17, 3) := by decide +kernel
theorem dX12_isCue_7 : decode cX12_isCue 7 = .ok (.iload_n 1, 1) := by decide +kernel
theorem dX12_isCue_8 : decode cX12_isCue 8 = .ok (.iconst 0, 1) := by decide +kernel
theorem dX12_isCue_9 : decode cX12_isCue 9 = .ok (.bipush 7, 2) := by decide +kernel
theorem dX12_isCue_11 : decode cX12_isCue 11 = .ok (.invokestatic 42, 3) := by decide +kernel
theorem dX12_isCue_14 : decode cX12_isCue 14 = .ok (.ifCond .eq 7, 3) := by decide +kernel
theorem dX12_isCue_17 : decode cX12_isCue 17 = .ok (.iconst 1, 1) := by decide +kernel
theorem dX12_isCue_18 : decode cX12_isCue 18 = .ok (.goto 4, 3) := by decide +kernel
theorem dX12_isCue_21 : decode cX12_isCue 21 = .ok (.iconst 0, 1) := by decide +kernel
theorem dX12_isCue_22 : decode cX12_isCue 22 = .ok (.ireturn, 1) := by decide +kernel
theorem dX12_recordFault_0 : decode cX12_recordFault 0 = .ok (.iload_n 1, 1) := by decide +kernel
theorem dX12_recordFault_1 : decode cX12_recordFault 1 = .ok (.iload_n 2, 1) := by decide +kernel
theorem dX12_recordFault_2 : decode cX12_recordFault 2 = .ok (.invokestatic 93, 3) := by decide +kernel
theorem dX12_recordFault_5 : decode cX12_recordFault 5 = .ok (.ifCond .ne 7, 3) := by decide +kernel
theorem dX12_recordFault_8 : decode cX12_recordFault 8 = .ok (.iconst (-1), 1) := by decide +kernel
theorem dX12_recordFault_9 : decode cX12_recordFault 9 = .ok (.goto 19, 3) := by decide +kernel
theorem dX12_recordFault_12 : decode cX12_recordFault 12 = .ok (.iload_n 3, 1) := by decide +kernel
theorem dX12_recordFault_13 : decode cX12_recordFault 13 = .ok (.iconst 1, 1) := by decide +kernel
theorem dX12_recordFault_14 : decode cX12_recordFault 14 = .ok (.bipush 50, 2) := by decide +kernel
theorem dX12_recordFault_16 : decode cX12_recordFault 16 = .ok (.invokestatic 42, 3) := by decide +kernel
theorem dX12_recordFault_19 : decode cX12_recordFault 19 = .ok (.ifCond .eq 7, 3) := by decide +kernel
theorem dX12_recordFault_22 : decode cX12_recordFault 22 = .ok (.iconst 0, 1) := by decide +kernel
theorem dX12_recordFault_23 : decode cX12_recordFault 23 = .ok (.goto 5, 3) := by decide +kernel
theorem dX12_recordFault_26 : decode cX12_recordFault 26 = .ok (.bipush (-2), 2) := by decide +kernel
theorem dX12_recordFault_28 : decode cX12_recordFault 28 = .ok (.ireturn, 1) := by decide +kernel
theorem dX12_records_0 : decode cX12_records 0 = .ok (.aload_n 0, 1) := by decide +kernel
theorem dX12_records_1 : decode cX12_records 1 = .ok (.getfield 7, 3) := by decide +kernel
theorem dX12_records_4 : decode cX12_records 4 = .ok (.iload_n 1, 1) := by decide +kernel
theorem dX12_records_5 : decode cX12_records 5 = .ok (.iload_n 2, 1) := by decide +kernel
theorem dX12_records_6 : decode cX12_records 6 = .ok (.invokestatic 64, 3) := by decide +kernel
theorem dX12_records_9 : decode cX12_records 9 = .ok (.iload_n 3, 1) := by decide +kernel
theorem dX12_records_10 : decode cX12_records 10 = .ok (.iastore, 1) := by decide +kernel
theorem dX12_records_11 : decode cX12_records 11 = .ok (.iconst 0, 1) := by decide +kernel
theorem dX12_records_12 : decode cX12_records 12 = .ok (.istore 4, 2) := by decide +kernel
theorem dX12_records_14 : decode cX12_records 14 = .ok (.iload 4, 2) := by decide +kernel
theorem dX12_records_16 : decode cX12_records 16 = .ok (.aload_n 0, 1) := by decide +kernel
theorem dX12_records_17 : decode cX12_records 17 = .ok (.getfield 7, 3) := by decide +kernel
theorem dX12_records_20 : decode cX12_records 20 = .ok (.iload_n 1, 1) := by decide +kernel
theorem dX12_records_21 : decode cX12_records 21 = .ok (.iconst 2, 1) := by decide +kernel
theorem dX12_records_22 : decode cX12_records 22 = .ok (.invokestatic 38, 3) := by decide +kernel
theorem dX12_records_25 : decode cX12_records 25 = .ok (.iaload, 1) := by decide +kernel
theorem dX12_records_26 : decode cX12_records 26 = .ok (.if_icmp .ge 36, 3) := by decide +kernel
theorem dX12_records_29 : decode cX12_records 29 = .ok (.aload_n 0, 1) := by decide +kernel
theorem dX12_records_30 : decode cX12_records 30 = .ok (.getfield 7, 3) := by decide +kernel
theorem dX12_records_33 : decode cX12_records 33 = .ok (.iload_n 1, 1) := by decide +kernel
theorem dX12_records_34 : decode cX12_records 34 = .ok (.iload_n 2, 1) := by decide +kernel
theorem dX12_records_35 : decode cX12_records 35 = .ok (.invokestatic 64, 3) := by decide +kernel
theorem dX12_records_38 : decode cX12_records 38 = .ok (.iconst 1, 1) := by decide +kernel
theorem dX12_records_39 : decode cX12_records 39 = .ok (.iadd, 1) := by decide +kernel
theorem dX12_records_40 : decode cX12_records 40 = .ok (.iload 4, 2) := by decide +kernel
theorem dX12_records_42 : decode cX12_records 42 = .ok (.iadd, 1) := by decide +kernel
theorem dX12_records_43 : decode cX12_records 43 = .ok (.aload_n 0, 1) := by decide +kernel
theorem dX12_records_44 : decode cX12_records 44 = .ok (.getfield 7, 3) := by decide +kernel
theorem dX12_records_47 : decode cX12_records 47 = .ok (.iload_n 1, 1) := by decide +kernel
theorem dX12_records_48 : decode cX12_records 48 = .ok (.iload 4, 2) := by decide +kernel
theorem dX12_records_50 : decode cX12_records 50 = .ok (.iconst 2, 1) := by decide +kernel
theorem dX12_records_51 : decode cX12_records 51 = .ok (.invokestatic 54, 3) := by decide +kernel
theorem dX12_records_54 : decode cX12_records 54 = .ok (.iaload, 1) := by decide +kernel
theorem dX12_records_55 : decode cX12_records 55 = .ok (.iastore, 1) := by decide +kernel
theorem dX12_records_56 : decode cX12_records 56 = .ok (.iinc 4 1, 3) := by decide +kernel
theorem dX12_records_59 : decode cX12_records 59 = .ok (.goto (-45), 3) := by decide +kernel
theorem dX12_records_62 : decode cX12_records 62 = .ok (.iconst 0, 1) := by decide +kernel
theorem dX12_records_63 : decode cX12_records 63 = .ok (.istore 4, 2) := by decide +kernel
theorem dX12_records_65 : decode cX12_records 65 = .ok (.iconst 0, 1) := by decide +kernel
theorem dX12_records_66 : decode cX12_records 66 = .ok (.istore 5, 2) := by decide +kernel
theorem dX12_records_68 : decode cX12_records 68 = .ok (.iload 5, 2) := by decide +kernel
theorem dX12_records_70 : decode cX12_records 70 = .ok (.bipush 8, 2) := by decide +kernel
theorem dX12_records_72 : decode cX12_records 72 = .ok (.if_icmp .ge 33, 3) := by decide +kernel
theorem dX12_records_75 : decode cX12_records 75 = .ok (.iload 4, 2) := by decide +kernel
theorem dX12_records_77 : decode cX12_records 77 = .ok (.aload_n 0, 1) := by decide +kernel
theorem dX12_records_78 : decode cX12_records 78 = .ok (.getfield 7, 3) := by decide +kernel
theorem dX12_records_81 : decode cX12_records 81 = .ok (.iload_n 1, 1) := by decide +kernel
theorem dX12_records_82 : decode cX12_records 82 = .ok (.iload 5, 2) := by decide +kernel
theorem dX12_records_84 : decode cX12_records 84 = .ok (.invokestatic 64, 3) := by decide +kernel
theorem dX12_records_87 : decode cX12_records 87 = .ok (.iaload, 1) := by decide +kernel
theorem dX12_records_88 : decode cX12_records 88 = .ok (.ifCond .le 7, 3) := by decide +kernel
theorem dX12_records_91 : decode cX12_records 91 = .ok (.iconst 1, 1) := by decide +kernel
theorem dX12_records_92 : decode cX12_records 92 = .ok (.goto 4, 3) := by decide +kernel
theorem dX12_records_95 : decode cX12_records 95 = .ok (.iconst 0, 1) := by decide +kernel
theorem dX12_records_96 : decode cX12_records 96 = .ok (.iadd, 1) := by decide +kernel
theorem dX12_records_97 : decode cX12_records 97 = .ok (.istore 4, 2) := by decide +kernel
theorem dX12_records_99 : decode cX12_records 99 = .ok (.iinc 5 1, 3) := by decide +kernel
theorem dX12_records_102 : decode cX12_records 102 = .ok (.goto (-34), 3) := by decide +kernel
theorem dX12_records_105 : decode cX12_records 105 = .ok (.iload 4, 2) := by decide +kernel
theorem dX12_records_107 : decode cX12_records 107 = .ok (.ireturn, 1) := by decide +kernel
theorem dX12_record_0 : decode cX12_record 0 = .ok (.aload_n 0, 1) := by decide +kernel
theorem dX12_record_1 : decode cX12_record 1 = .ok (.iload_n 1, 1) := by decide +kernel
theorem dX12_record_2 : decode cX12_record 2 = .ok (.iload_n 2, 1) := by decide +kernel
theorem dX12_record_3 : decode cX12_record 3 = .ok (.iload_n 3, 1) := by decide +kernel
theorem dX12_record_4 : decode cX12_record 4 = .ok (.invokevirtual 96, 3) := by decide +kernel
theorem dX12_record_7 : decode cX12_record 7 = .ok (.istore 4, 2) := by decide +kernel
theorem dX12_record_9 : decode cX12_record 9 = .ok (.iload 4, 2) := by decide +kernel
theorem dX12_record_11 : decode cX12_record 11 = .ok (.ifCond .ge 6, 3) := by decide +kernel
theorem dX12_record_14 : decode cX12_record 14 = .ok (.iload 4, 2) := by decide +kernel
theorem dX12_record_16 : decode cX12_record 16 = .ok (.ireturn, 1) := by decide +kernel
theorem dX12_record_17 : decode cX12_record 17 = .ok (.aload_n 0, 1) := by decide +kernel
theorem dX12_record_18 : decode cX12_record 18 = .ok (.invokevirtual 77, 3) := by decide +kernel
theorem dX12_record_21 : decode cX12_record 21 = .ok (.aload_n 0, 1) := by decide +kernel
theorem dX12_record_22 : decode cX12_record 22 = .ok (.iload_n 1, 1) := by decide +kernel
theorem dX12_record_23 : decode cX12_record 23 = .ok (.iload_n 2, 1) := by decide +kernel
theorem dX12_record_24 : decode cX12_record 24 = .ok (.iload_n 3, 1) := by decide +kernel
theorem dX12_record_25 : decode cX12_record 25 = .ok (.invokevirtual 99, 3) := by decide +kernel
theorem dX12_record_28 : decode cX12_record 28 = .ok (.ireturn, 1) := by decide +kernel
theorem dX12_goFault_0 : decode cX12_goFault 0 = .ok (.iload_n 1, 1) := by decide +kernel
theorem dX12_goFault_1 : decode cX12_goFault 1 = .ok (.iload_n 2, 1) := by decide +kernel
theorem dX12_goFault_2 : decode cX12_goFault 2 = .ok (.invokestatic 93, 3) := by decide +kernel
theorem dX12_goFault_5 : decode cX12_goFault 5 = .ok (.ifCond .ne 7, 3) := by decide +kernel
theorem dX12_goFault_8 : decode cX12_goFault 8 = .ok (.iconst (-1), 1) := by decide +kernel
theorem dX12_goFault_9 : decode cX12_goFault 9 = .ok (.goto 22, 3) := by decide +kernel
theorem dX12_goFault_12 : decode cX12_goFault 12 = .ok (.aload_n 0, 1) := by decide +kernel
theorem dX12_goFault_13 : decode cX12_goFault 13 = .ok (.getfield 7, 3) := by decide +kernel
theorem dX12_goFault_16 : decode cX12_goFault 16 = .ok (.iload_n 1, 1) := by decide +kernel
theorem dX12_goFault_17 : decode cX12_goFault 17 = .ok (.iload_n 2, 1) := by decide +kernel
theorem dX12_goFault_18 : decode cX12_goFault 18 = .ok (.invokestatic 64, 3) := by decide +kernel
theorem dX12_goFault_21 : decode cX12_goFault 21 = .ok (.iaload, 1) := by decide +kernel
theorem dX12_goFault_22 : decode cX12_goFault 22 = .ok (.ifCond .ne 8, 3) := by decide +kernel
theorem dX12_goFault_25 : decode cX12_goFault 25 = .ok (.bipush (-5), 2) := by decide +kernel
theorem dX12_goFault_27 : decode cX12_goFault 27 = .ok (.goto 4, 3) := by decide +kernel
theorem dX12_goFault_30 : decode cX12_goFault 30 = .ok (.iconst 0, 1) := by decide +kernel
theorem dX12_goFault_31 : decode cX12_goFault 31 = .ok (.ireturn, 1) := by decide +kernel
theorem dX12_go_0 : decode cX12_go 0 = .ok (.aload_n 0, 1) := by decide +kernel
theorem dX12_go_1 : decode cX12_go 1 = .ok (.iload_n 1, 1) := by decide +kernel
theorem dX12_go_2 : decode cX12_go 2 = .ok (.iload_n 2, 1) := by decide +kernel
theorem dX12_go_3 : decode cX12_go 3 = .ok (.invokevirtual 102, 3) := by decide +kernel
theorem dX12_go_6 : decode cX12_go 6 = .ok (.istore_n 3, 1) := by decide +kernel
theorem dX12_go_7 : decode cX12_go 7 = .ok (.iload_n 3, 1) := by decide +kernel
theorem dX12_go_8 : decode cX12_go 8 = .ok (.ifCond .ge 5, 3) := by decide +kernel
theorem dX12_go_11 : decode cX12_go 11 = .ok (.iload_n 3, 1) := by decide +kernel
theorem dX12_go_12 : decode cX12_go 12 = .ok (.ireturn, 1) := by decide +kernel
theorem dX12_go_13 : decode cX12_go 13 = .ok (.aload_n 0, 1) := by decide +kernel
theorem dX12_go_14 : decode cX12_go 14 = .ok (.invokevirtual 77, 3) := by decide +kernel
theorem dX12_go_17 : decode cX12_go 17 = .ok (.aload_n 0, 1) := by decide +kernel
theorem dX12_go_18 : decode cX12_go 18 = .ok (.iload_n 1, 1) := by decide +kernel
theorem dX12_go_19 : decode cX12_go 19 = .ok (.iload_n 2, 1) := by decide +kernel
theorem dX12_go_20 : decode cX12_go 20 = .ok (.aload_n 0, 1) := by decide +kernel
theorem dX12_go_21 : decode cX12_go 21 = .ok (.getfield 7, 3) := by decide +kernel
theorem dX12_go_24 : decode cX12_go 24 = .ok (.iload_n 1, 1) := by decide +kernel
theorem dX12_go_25 : decode cX12_go 25 = .ok (.iload_n 2, 1) := by decide +kernel
theorem dX12_go_26 : decode cX12_go 26 = .ok (.invokestatic 64, 3) := by decide +kernel
theorem dX12_go_29 : decode cX12_go 29 = .ok (.iaload, 1) := by decide +kernel
theorem dX12_go_30 : decode cX12_go 30 = .ok (.invokevirtual 105, 3) := by decide +kernel
theorem dX12_go_33 : decode cX12_go 33 = .ok (.aload_n 0, 1) := by decide +kernel
theorem dX12_go_34 : decode cX12_go 34 = .ok (.getfield 7, 3) := by decide +kernel
theorem dX12_go_37 : decode cX12_go 37 = .ok (.iload_n 1, 1) := by decide +kernel
theorem dX12_go_38 : decode cX12_go 38 = .ok (.iload_n 2, 1) := by decide +kernel
theorem dX12_go_39 : decode cX12_go 39 = .ok (.invokestatic 64, 3) := by decide +kernel
theorem dX12_go_42 : decode cX12_go 42 = .ok (.iaload, 1) := by decide +kernel
theorem dX12_go_43 : decode cX12_go 43 = .ok (.ireturn, 1) := by decide +kernel
theorem dX12_resets_0 : decode cX12_resets 0 = .ok (.iconst 0, 1) := by decide +kernel
theorem dX12_resets_1 : decode cX12_resets 1 = .ok (.istore_n 2, 1) := by decide +kernel
theorem dX12_resets_2 : decode cX12_resets 2 = .ok (.iconst 0, 1) := by decide +kernel
theorem dX12_resets_3 : decode cX12_resets 3 = .ok (.istore_n 3, 1) := by decide +kernel
theorem dX12_resets_4 : decode cX12_resets 4 = .ok (.iload_n 3, 1) := by decide +kernel
theorem dX12_resets_5 : decode cX12_resets 5 = .ok (.bipush 15, 2) := by decide +kernel
theorem dX12_resets_7 : decode cX12_resets 7 = .ok (.if_icmp .ge 53, 3) := by decide +kernel
theorem dX12_resets_10 : decode cX12_resets 10 = .ok (.iload_n 2, 1) := by decide +kernel
theorem dX12_resets_11 : decode cX12_resets 11 = .ok (.aload_n 0, 1) := by decide +kernel
theorem dX12_resets_12 : decode cX12_resets 12 = .ok (.getfield 7, 3) := by decide +kernel
theorem dX12_resets_15 : decode cX12_resets 15 = .ok (.iload_n 1, 1) := by decide +kernel
theorem dX12_resets_16 : decode cX12_resets 16 = .ok (.bipush 87, 2) := by decide +kernel
theorem dX12_resets_18 : decode cX12_resets 18 = .ok (.iload_n 3, 1) := by decide +kernel
theorem dX12_resets_19 : decode cX12_resets 19 = .ok (.iadd, 1) := by decide +kernel
theorem dX12_resets_20 : decode cX12_resets 20 = .ok (.invokestatic 38, 3) := by decide +kernel
theorem dX12_resets_23 : decode cX12_resets 23 = .ok (.iaload, 1) := by decide +kernel
theorem dX12_resets_24 : decode cX12_resets 24 = .ok (.iadd, 1) := by decide +kernel
theorem dX12_resets_25 : decode cX12_resets 25 = .ok (.istore_n 2, 1) := by decide +kernel
theorem dX12_resets_26 : decode cX12_resets 26 = .ok (.aload_n 0, 1) := by decide +kernel
theorem dX12_resets_27 : decode cX12_resets 27 = .ok (.getfield 7, 3) := by decide +kernel
theorem dX12_resets_30 : decode cX12_resets 30 = .ok (.iload_n 1, 1) := by decide +kernel
theorem dX12_resets_31 : decode cX12_resets 31 = .ok (.bipush 87, 2) := by decide +kernel
theorem dX12_resets_33 : decode cX12_resets 33 = .ok (.iload_n 3, 1) := by decide +kernel
theorem dX12_resets_34 : decode cX12_resets 34 = .ok (.iadd, 1) := by decide +kernel
theorem dX12_resets_35 : decode cX12_resets 35 = .ok (.invokestatic 38, 3) := by decide +kernel
theorem dX12_resets_38 : decode cX12_resets 38 = .ok (.iconst 0, 1) := by decide +kernel
theorem dX12_resets_39 : decode cX12_resets 39 = .ok (.iastore, 1) := by decide +kernel
theorem dX12_resets_40 : decode cX12_resets 40 = .ok (.aload_n 0, 1) := by decide +kernel
theorem dX12_resets_41 : decode cX12_resets 41 = .ok (.getfield 7, 3) := by decide +kernel
theorem dX12_resets_44 : decode cX12_resets 44 = .ok (.iload_n 1, 1) := by decide +kernel
theorem dX12_resets_45 : decode cX12_resets 45 = .ok (.bipush 102, 2) := by decide +kernel
theorem dX12_resets_47 : decode cX12_resets 47 = .ok (.iload_n 3, 1) := by decide +kernel
theorem dX12_resets_48 : decode cX12_resets 48 = .ok (.iadd, 1) := by decide +kernel
theorem dX12_resets_49 : decode cX12_resets 49 = .ok (.invokestatic 38, 3) := by decide +kernel
theorem dX12_resets_52 : decode cX12_resets 52 = .ok (.iconst 0, 1) := by decide +kernel
theorem dX12_resets_53 : decode cX12_resets 53 = .ok (.iastore, 1) := by decide +kernel
theorem dX12_resets_54 : decode cX12_resets 54 = .ok (.iinc 3 1, 3) := by decide +kernel
theorem dX12_resets_57 : decode cX12_resets 57 = .ok (.goto (-53), 3) := by decide +kernel
theorem dX12_resets_60 : decode cX12_resets 60 = .ok (.iload_n 2, 1) := by decide +kernel
theorem dX12_resets_61 : decode cX12_resets 61 = .ok (.ireturn, 1) := by decide +kernel
theorem dX12_reset_0 : decode cX12_reset 0 = .ok (.iload_n 1, 1) := by decide +kernel
theorem dX12_reset_1 : decode cX12_reset 1 = .ok (.invokestatic 46, 3) := by decide +kernel
theorem dX12_reset_4 : decode cX12_reset 4 = .ok (.ifCond .ne 5, 3) := by decide +kernel
theorem dX12_reset_7 : decode cX12_reset 7 = .ok (.iconst (-1), 1) := by decide +kernel
theorem dX12_reset_8 : decode cX12_reset 8 = .ok (.ireturn, 1) := by decide +kernel
theorem dX12_reset_9 : decode cX12_reset 9 = .ok (.aload_n 0, 1) := by decide +kernel
theorem dX12_reset_10 : decode cX12_reset 10 = .ok (.invokevirtual 77, 3) := by decide +kernel
theorem dX12_reset_13 : decode cX12_reset 13 = .ok (.aload_n 0, 1) := by decide +kernel
theorem dX12_reset_14 : decode cX12_reset 14 = .ok (.iload_n 1, 1) := by decide +kernel
theorem dX12_reset_15 : decode cX12_reset 15 = .ok (.invokevirtual 109, 3) := by decide +kernel
theorem dX12_reset_18 : decode cX12_reset 18 = .ok (.ireturn, 1) := by decide +kernel
theorem dX12_tick_0 : decode cX12_tick 0 = .ok (.iload_n 1, 1) := by decide +kernel
theorem dX12_tick_1 : decode cX12_tick 1 = .ok (.iconst 1, 1) := by decide +kernel
theorem dX12_tick_2 : decode cX12_tick 2 = .ok (.bipush 100, 2) := by decide +kernel
theorem dX12_tick_4 : decode cX12_tick 4 = .ok (.invokestatic 42, 3) := by decide +kernel
theorem dX12_tick_7 : decode cX12_tick 7 = .ok (.ifCond .ne 6, 3) := by decide +kernel
theorem dX12_tick_10 : decode cX12_tick 10 = .ok (.bipush (-2), 2) := by decide +kernel
theorem dX12_tick_12 : decode cX12_tick 12 = .ok (.ireturn, 1) := by decide +kernel
theorem dX12_tick_13 : decode cX12_tick 13 = .ok (.aload_n 0, 1) := by decide +kernel
theorem dX12_tick_14 : decode cX12_tick 14 = .ok (.invokevirtual 77, 3) := by decide +kernel
theorem dX12_tick_17 : decode cX12_tick 17 = .ok (.iconst 0, 1) := by decide +kernel
theorem dX12_tick_18 : decode cX12_tick 18 = .ok (.istore_n 2, 1) := by decide +kernel
theorem dX12_tick_19 : decode cX12_tick 19 = .ok (.iconst 0, 1) := by decide +kernel
theorem dX12_tick_20 : decode cX12_tick 20 = .ok (.istore_n 3, 1) := by decide +kernel
theorem dX12_tick_21 : decode cX12_tick 21 = .ok (.iload_n 3, 1) := by decide +kernel
theorem dX12_tick_22 : decode cX12_tick 22 = .ok (.iload_n 1, 1) := by decide +kernel
theorem dX12_tick_23 : decode cX12_tick 23 = .ok (.if_icmp .ge 33, 3) := by decide +kernel
theorem dX12_tick_26 : decode cX12_tick 26 = .ok (.iconst 0, 1) := by decide +kernel
theorem dX12_tick_27 : decode cX12_tick 27 = .ok (.istore 4, 2) := by decide +kernel
theorem dX12_tick_29 : decode cX12_tick 29 = .ok (.iload 4, 2) := by decide +kernel
theorem dX12_tick_31 : decode cX12_tick 31 = .ok (.iconst 3, 1) := by decide +kernel
theorem dX12_tick_32 : decode cX12_tick 32 = .ok (.if_icmp .ge 18, 3) := by decide +kernel
theorem dX12_tick_35 : decode cX12_tick 35 = .ok (.iload_n 2, 1) := by decide +kernel
theorem dX12_tick_36 : decode cX12_tick 36 = .ok (.aload_n 0, 1) := by decide +kernel
theorem dX12_tick_37 : decode cX12_tick 37 = .ok (.iload 4, 2) := by decide +kernel
theorem dX12_tick_39 : decode cX12_tick 39 = .ok (.invokevirtual 113, 3) := by decide +kernel
theorem dX12_tick_42 : decode cX12_tick 42 = .ok (.iadd, 1) := by decide +kernel
theorem dX12_tick_43 : decode cX12_tick 43 = .ok (.istore_n 2, 1) := by decide +kernel
theorem dX12_tick_44 : decode cX12_tick 44 = .ok (.iinc 4 1, 3) := by decide +kernel
theorem dX12_tick_47 : decode cX12_tick 47 = .ok (.goto (-18), 3) := by decide +kernel
theorem dX12_tick_50 : decode cX12_tick 50 = .ok (.iinc 3 1, 3) := by decide +kernel
theorem dX12_tick_53 : decode cX12_tick 53 = .ok (.goto (-32), 3) := by decide +kernel
theorem dX12_tick_56 : decode cX12_tick 56 = .ok (.iload_n 2, 1) := by decide +kernel
theorem dX12_tick_57 : decode cX12_tick 57 = .ok (.ireturn, 1) := by decide +kernel
theorem dX12_put_0 : decode cX12_put 0 = .ok (.iconst 0, 1) := by decide +kernel
theorem dX12_put_1 : decode cX12_put 1 = .ok (.istore_n 3, 1) := by decide +kernel
theorem dX12_put_2 : decode cX12_put 2 = .ok (.iconst 0, 1) := by decide +kernel
theorem dX12_put_3 : decode cX12_put 3 = .ok (.istore 4, 2) := by decide +kernel
theorem dX12_put_5 : decode cX12_put 5 = .ok (.iconst 0, 1) := by decide +kernel
theorem dX12_put_6 : decode cX12_put 6 = .ok (.istore 5, 2) := by decide +kernel
theorem dX12_put_8 : decode cX12_put 8 = .ok (.iload 5, 2) := by decide +kernel
theorem dX12_put_10 : decode cX12_put 10 = .ok (.bipush 8, 2) := by decide +kernel
theorem dX12_put_12 : decode cX12_put 12 = .ok (.if_icmp .ge 89, 3) := by decide +kernel
theorem dX12_put_15 : decode cX12_put 15 = .ok (.lload_n 1, 1) := by decide +kernel
theorem dX12_put_16 : decode cX12_put 16 = .ok (.bipush 8, 2) := by decide +kernel
theorem dX12_put_18 : decode cX12_put 18 = .ok (.iload 5, 2) := by decide +kernel
theorem dX12_put_20 : decode cX12_put 20 = .ok (.imul, 1) := by decide +kernel
theorem dX12_put_21 : decode cX12_put 21 = .ok (.lushr, 1) := by decide +kernel
theorem dX12_put_22 : decode cX12_put 22 = .ok (.ldc2_w 116, 3) := by decide +kernel
theorem dX12_put_25 : decode cX12_put 25 = .ok (.land, 1) := by decide +kernel
theorem dX12_put_26 : decode cX12_put 26 = .ok (.l2i, 1) := by decide +kernel
theorem dX12_put_27 : decode cX12_put 27 = .ok (.istore 6, 2) := by decide +kernel
theorem dX12_put_29 : decode cX12_put 29 = .ok (.iload 5, 2) := by decide +kernel
theorem dX12_put_31 : decode cX12_put 31 = .ok (.ifCond .le 19, 3) := by decide +kernel
theorem dX12_put_34 : decode cX12_put 34 = .ok (.lload_n 1, 1) := by decide +kernel
theorem dX12_put_35 : decode cX12_put 35 = .ok (.bipush 8, 2) := by decide +kernel
theorem dX12_put_37 : decode cX12_put 37 = .ok (.iload 5, 2) := by decide +kernel
theorem dX12_put_39 : decode cX12_put 39 = .ok (.imul, 1) := by decide +kernel
theorem dX12_put_40 : decode cX12_put 40 = .ok (.lushr, 1) := by decide +kernel
theorem dX12_put_41 : decode cX12_put 41 = .ok (.lconst 0, 1) := by decide +kernel
theorem dX12_put_42 : decode cX12_put 42 = .ok (.lcmp, 1) := by decide +kernel
theorem dX12_put_43 : decode cX12_put 43 = .ok (.ifCond .ne 7, 3) := by decide +kernel
theorem dX12_put_46 : decode cX12_put 46 = .ok (.iconst 1, 1) := by decide +kernel
theorem dX12_put_47 : decode cX12_put 47 = .ok (.goto 4, 3) := by decide +kernel
theorem dX12_put_50 : decode cX12_put 50 = .ok (.iconst 0, 1) := by decide +kernel
theorem dX12_put_51 : decode cX12_put 51 = .ok (.istore 7, 2) := by decide +kernel
theorem dX12_put_53 : decode cX12_put 53 = .ok (.iload 4, 2) := by decide +kernel
theorem dX12_put_55 : decode cX12_put 55 = .ok (.ifCond .ne 20, 3) := by decide +kernel
theorem dX12_put_58 : decode cX12_put 58 = .ok (.iload 7, 2) := by decide +kernel
theorem dX12_put_60 : decode cX12_put 60 = .ok (.ifCond .ne 19, 3) := by decide +kernel
theorem dX12_put_63 : decode cX12_put 63 = .ok (.iload 6, 2) := by decide +kernel
theorem dX12_put_65 : decode cX12_put 65 = .ok (.bipush 33, 2) := by decide +kernel
theorem dX12_put_67 : decode cX12_put 67 = .ok (.bipush 126, 2) := by decide +kernel
theorem dX12_put_69 : decode cX12_put 69 = .ok (.invokestatic 42, 3) := by decide +kernel
theorem dX12_put_72 : decode cX12_put 72 = .ok (.ifCond .ne 7, 3) := by decide +kernel
theorem dX12_put_75 : decode cX12_put 75 = .ok (.iconst 1, 1) := by decide +kernel
theorem dX12_put_76 : decode cX12_put 76 = .ok (.goto 4, 3) := by decide +kernel
theorem dX12_put_79 : decode cX12_put 79 = .ok (.iconst 0, 1) := by decide +kernel
theorem dX12_put_80 : decode cX12_put 80 = .ok (.istore 4, 2) := by decide +kernel
theorem dX12_put_82 : decode cX12_put 82 = .ok (.iload_n 3, 1) := by decide +kernel
theorem dX12_put_83 : decode cX12_put 83 = .ok (.iload 7, 2) := by decide +kernel
theorem dX12_put_85 : decode cX12_put 85 = .ok (.ifCond .eq 7, 3) := by decide +kernel
theorem dX12_put_88 : decode cX12_put 88 = .ok (.iconst 0, 1) := by decide +kernel
theorem dX12_put_89 : decode cX12_put 89 = .ok (.goto 4, 3) := by decide +kernel
theorem dX12_put_92 : decode cX12_put 92 = .ok (.iconst 1, 1) := by decide +kernel
theorem dX12_put_93 : decode cX12_put 93 = .ok (.iadd, 1) := by decide +kernel
theorem dX12_put_94 : decode cX12_put 94 = .ok (.istore_n 3, 1) := by decide +kernel
theorem dX12_put_95 : decode cX12_put 95 = .ok (.iinc 5 1, 3) := by decide +kernel
theorem dX12_put_98 : decode cX12_put 98 = .ok (.goto (-90), 3) := by decide +kernel
theorem dX12_put_101 : decode cX12_put 101 = .ok (.iload 4, 2) := by decide +kernel
theorem dX12_put_103 : decode cX12_put 103 = .ok (.ifCond .eq 6, 3) := by decide +kernel
theorem dX12_put_106 : decode cX12_put 106 = .ok (.bipush (-2), 2) := by decide +kernel
theorem dX12_put_108 : decode cX12_put 108 = .ok (.ireturn, 1) := by decide +kernel
theorem dX12_put_109 : decode cX12_put 109 = .ok (.aload_n 0, 1) := by decide +kernel
theorem dX12_put_110 : decode cX12_put 110 = .ok (.getfield 118, 3) := by decide +kernel
theorem dX12_put_113 : decode cX12_put 113 = .ok (.iload_n 3, 1) := by decide +kernel
theorem dX12_put_114 : decode cX12_put 114 = .ok (.iadd, 1) := by decide +kernel
theorem dX12_put_115 : decode cX12_put 115 = .ok (.bipush 60, 2) := by decide +kernel
theorem dX12_put_117 : decode cX12_put 117 = .ok (.if_icmp .le 6, 3) := by decide +kernel
theorem dX12_put_120 : decode cX12_put 120 = .ok (.bipush (-4), 2) := by decide +kernel
theorem dX12_put_122 : decode cX12_put 122 = .ok (.ireturn, 1) := by decide +kernel
theorem dX12_put_123 : decode cX12_put 123 = .ok (.iconst 0, 1) := by decide +kernel
theorem dX12_put_124 : decode cX12_put 124 = .ok (.istore 5, 2) := by decide +kernel
theorem dX12_put_126 : decode cX12_put 126 = .ok (.iload 5, 2) := by decide +kernel
theorem dX12_put_128 : decode cX12_put 128 = .ok (.iload_n 3, 1) := by decide +kernel
theorem dX12_put_129 : decode cX12_put 129 = .ok (.if_icmp .ge 37, 3) := by decide +kernel
theorem dX12_put_132 : decode cX12_put 132 = .ok (.aload_n 0, 1) := by decide +kernel
theorem dX12_put_133 : decode cX12_put 133 = .ok (.getfield 26, 3) := by decide +kernel
theorem dX12_put_136 : decode cX12_put 136 = .ok (.aload_n 0, 1) := by decide +kernel
theorem dX12_put_137 : decode cX12_put 137 = .ok (.getfield 118, 3) := by decide +kernel
theorem dX12_put_140 : decode cX12_put 140 = .ok (.iload_n 3, 1) := by decide +kernel
theorem dX12_put_141 : decode cX12_put 141 = .ok (.iadd, 1) := by decide +kernel
theorem dX12_put_142 : decode cX12_put 142 = .ok (.iconst 1, 1) := by decide +kernel
theorem dX12_put_143 : decode cX12_put 143 = .ok (.isub, 1) := by decide +kernel
theorem dX12_put_144 : decode cX12_put 144 = .ok (.iload 5, 2) := by decide +kernel
theorem dX12_put_146 : decode cX12_put 146 = .ok (.isub, 1) := by decide +kernel
theorem dX12_put_147 : decode cX12_put 147 = .ok (.lload_n 1, 1) := by decide +kernel
theorem dX12_put_148 : decode cX12_put 148 = .ok (.bipush 8, 2) := by decide +kernel
theorem dX12_put_150 : decode cX12_put 150 = .ok (.iload 5, 2) := by decide +kernel
theorem dX12_put_152 : decode cX12_put 152 = .ok (.imul, 1) := by decide +kernel
theorem dX12_put_153 : decode cX12_put 153 = .ok (.lushr, 1) := by decide +kernel
theorem dX12_put_154 : decode cX12_put 154 = .ok (.ldc2_w 116, 3) := by decide +kernel
theorem dX12_put_157 : decode cX12_put 157 = .ok (.land, 1) := by decide +kernel
theorem dX12_put_158 : decode cX12_put 158 = .ok (.l2i, 1) := by decide +kernel
theorem dX12_put_159 : decode cX12_put 159 = .ok (.iastore, 1) := by decide +kernel
theorem dX12_put_160 : decode cX12_put 160 = .ok (.iinc 5 1, 3) := by decide +kernel
theorem dX12_put_163 : decode cX12_put 163 = .ok (.goto (-37), 3) := by decide +kernel
theorem dX12_put_166 : decode cX12_put 166 = .ok (.aload_n 0, 1) := by decide +kernel
theorem dX12_put_167 : decode cX12_put 167 = .ok (.dup, 1) := by decide +kernel
theorem dX12_put_168 : decode cX12_put 168 = .ok (.getfield 118, 3) := by decide +kernel
theorem dX12_put_171 : decode cX12_put 171 = .ok (.iload_n 3, 1) := by decide +kernel
theorem dX12_put_172 : decode cX12_put 172 = .ok (.iadd, 1) := by decide +kernel
theorem dX12_put_173 : decode cX12_put 173 = .ok (.putfield 118, 3) := by decide +kernel
theorem dX12_put_176 : decode cX12_put 176 = .ok (.aload_n 0, 1) := by decide +kernel
theorem dX12_put_177 : decode cX12_put 177 = .ok (.getfield 118, 3) := by decide +kernel
theorem dX12_put_180 : decode cX12_put 180 = .ok (.ireturn, 1) := by decide +kernel
theorem dX12_wipe_0 : decode cX12_wipe 0 = .ok (.aload_n 0, 1) := by decide +kernel
theorem dX12_wipe_1 : decode cX12_wipe 1 = .ok (.getfield 118, 3) := by decide +kernel
theorem dX12_wipe_4 : decode cX12_wipe 4 = .ok (.istore_n 1, 1) := by decide +kernel
theorem dX12_wipe_5 : decode cX12_wipe 5 = .ok (.aload_n 0, 1) := by decide +kernel
theorem dX12_wipe_6 : decode cX12_wipe 6 = .ok (.iconst 0, 1) := by decide +kernel
theorem dX12_wipe_7 : decode cX12_wipe 7 = .ok (.putfield 118, 3) := by decide +kernel
theorem dX12_wipe_10 : decode cX12_wipe 10 = .ok (.iload_n 1, 1) := by decide +kernel
theorem dX12_wipe_11 : decode cX12_wipe 11 = .ok (.ireturn, 1) := by decide +kernel
theorem dX12_sign_0 : decode cX12_sign 0 = .ok (.aload_n 0, 1) := by decide +kernel
theorem dX12_sign_1 : decode cX12_sign 1 = .ok (.getfield 121, 3) := by decide +kernel
theorem dX12_sign_4 : decode cX12_sign 4 = .ok (.aload_n 0, 1) := by decide +kernel
theorem dX12_sign_5 : decode cX12_sign 5 = .ok (.getfield 118, 3) := by decide +kernel
theorem dX12_sign_8 : decode cX12_sign 8 = .ok (.if_icmp .ge 15, 3) := by decide +kernel
theorem dX12_sign_11 : decode cX12_sign 11 = .ok (.aload_n 0, 1) := by decide +kernel
theorem dX12_sign_12 : decode cX12_sign 12 = .ok (.getfield 26, 3) := by decide +kernel
theorem dX12_sign_15 : decode cX12_sign 15 = .ok (.aload_n 0, 1) := by decide +kernel
theorem dX12_sign_16 : decode cX12_sign 16 = .ok (.getfield 121, 3) := by decide +kernel
theorem dX12_sign_19 : decode cX12_sign 19 = .ok (.iaload, 1) := by decide +kernel
theorem dX12_sign_20 : decode cX12_sign 20 = .ok (.goto 4, 3) := by decide +kernel
theorem dX12_sign_23 : decode cX12_sign 23 = .ok (.iconst 0, 1) := by decide +kernel
theorem dX12_sign_24 : decode cX12_sign 24 = .ok (.istore_n 3, 1) := by decide +kernel
theorem dX12_sign_25 : decode cX12_sign 25 = .ok (.aload_n 0, 1) := by decide +kernel
theorem dX12_sign_26 : decode cX12_sign 26 = .ok (.aload_n 0, 1) := by decide +kernel
theorem dX12_sign_27 : decode cX12_sign 27 = .ok (.getfield 124, 3) := by decide +kernel
theorem dX12_sign_30 : decode cX12_sign 30 = .ok (.ifCond .ne 12, 3) := by decide +kernel
theorem dX12_sign_33 : decode cX12_sign 33 = .ok (.iload_n 3, 1) := by decide +kernel
theorem dX12_sign_34 : decode cX12_sign 34 = .ok (.iload_n 1, 1) := by decide +kernel
theorem dX12_sign_35 : decode cX12_sign 35 = .ok (.iload_n 2, 1) := by decide +kernel
theorem dX12_sign_36 : decode cX12_sign 36 = .ok (.invokestatic 42, 3) := by decide +kernel
theorem dX12_sign_39 : decode cX12_sign 39 = .ok (.ifCond .ne 7, 3) := by decide +kernel
theorem dX12_sign_42 : decode cX12_sign 42 = .ok (.iconst 1, 1) := by decide +kernel
theorem dX12_sign_43 : decode cX12_sign 43 = .ok (.goto 4, 3) := by decide +kernel
theorem dX12_sign_46 : decode cX12_sign 46 = .ok (.iconst 0, 1) := by decide +kernel
theorem dX12_sign_47 : decode cX12_sign 47 = .ok (.putfield 124, 3) := by decide +kernel
theorem dX12_sign_50 : decode cX12_sign 50 = .ok (.aload_n 0, 1) := by decide +kernel
theorem dX12_sign_51 : decode cX12_sign 51 = .ok (.dup, 1) := by decide +kernel
theorem dX12_sign_52 : decode cX12_sign 52 = .ok (.getfield 121, 3) := by decide +kernel
theorem dX12_sign_55 : decode cX12_sign 55 = .ok (.aload_n 0, 1) := by decide +kernel
theorem dX12_sign_56 : decode cX12_sign 56 = .ok (.getfield 124, 3) := by decide +kernel
theorem dX12_sign_59 : decode cX12_sign 59 = .ok (.ifCond .eq 7, 3) := by decide +kernel
theorem dX12_sign_62 : decode cX12_sign 62 = .ok (.iconst 0, 1) := by decide +kernel
theorem dX12_sign_63 : decode cX12_sign 63 = .ok (.goto 4, 3) := by decide +kernel
theorem dX12_sign_66 : decode cX12_sign 66 = .ok (.iconst 1, 1) := by decide +kernel
theorem dX12_sign_67 : decode cX12_sign 67 = .ok (.iadd, 1) := by decide +kernel
theorem dX12_sign_68 : decode cX12_sign 68 = .ok (.putfield 121, 3) := by decide +kernel
theorem dX12_sign_71 : decode cX12_sign 71 = .ok (.iload_n 3, 1) := by decide +kernel
theorem dX12_sign_72 : decode cX12_sign 72 = .ok (.ireturn, 1) := by decide +kernel
theorem dX12_isNext_0 : decode cX12_isNext 0 = .ok (.aload_n 0, 1) := by decide +kernel
theorem dX12_isNext_1 : decode cX12_isNext 1 = .ok (.getfield 124, 3) := by decide +kernel
theorem dX12_isNext_4 : decode cX12_isNext 4 = .ok (.ifCond .ne 35, 3) := by decide +kernel
theorem dX12_isNext_7 : decode cX12_isNext 7 = .ok (.aload_n 0, 1) := by decide +kernel
theorem dX12_isNext_8 : decode cX12_isNext 8 = .ok (.getfield 121, 3) := by decide +kernel
theorem dX12_isNext_11 : decode cX12_isNext 11 = .ok (.aload_n 0, 1) := by decide +kernel
theorem dX12_isNext_12 : decode cX12_isNext 12 = .ok (.getfield 118, 3) := by decide +kernel
theorem dX12_isNext_15 : decode cX12_isNext 15 = .ok (.if_icmp .ge 24, 3) := by decide +kernel
theorem dX12_isNext_18 : decode cX12_isNext 18 = .ok (.aload_n 0, 1) := by decide +kernel
theorem dX12_isNext_19 : decode cX12_isNext 19 = .ok (.getfield 26, 3) := by decide +kernel
theorem dX12_isNext_22 : decode cX12_isNext 22 = .ok (.aload_n 0, 1) := by decide +kernel
theorem dX12_isNext_23 : decode cX12_isNext 23 = .ok (.getfield 121, 3) := by decide +kernel
theorem dX12_isNext_26 : decode cX12_isNext 26 = .ok (.iaload, 1) := by decide +kernel
theorem dX12_isNext_27 : decode cX12_isNext 27 = .ok (.iload_n 1, 1) := by decide +kernel
theorem dX12_isNext_28 : decode cX12_isNext 28 = .ok (.iload_n 2, 1) := by decide +kernel
theorem dX12_isNext_29 : decode cX12_isNext 29 = .ok (.invokestatic 42, 3) := by decide +kernel
theorem dX12_isNext_32 : decode cX12_isNext 32 = .ok (.ifCond .eq 7, 3) := by decide +kernel
theorem dX12_isNext_35 : decode cX12_isNext 35 = .ok (.iconst 1, 1) := by decide +kernel
theorem dX12_isNext_36 : decode cX12_isNext 36 = .ok (.goto 4, 3) := by decide +kernel
theorem dX12_isNext_39 : decode cX12_isNext 39 = .ok (.iconst 0, 1) := by decide +kernel
theorem dX12_isNext_40 : decode cX12_isNext 40 = .ok (.ireturn, 1) := by decide +kernel
theorem dX12_number_0 : decode cX12_number 0 = .ok (.aload_n 0, 1) := by decide +kernel
theorem dX12_number_1 : decode cX12_number 1 = .ok (.bipush 48, 2) := by decide +kernel
theorem dX12_number_3 : decode cX12_number 3 = .ok (.iload_n 1, 1) := by decide +kernel
theorem dX12_number_4 : decode cX12_number 4 = .ok (.iadd, 1) := by decide +kernel
theorem dX12_number_5 : decode cX12_number 5 = .ok (.bipush 57, 2) := by decide +kernel
theorem dX12_number_7 : decode cX12_number 7 = .ok (.invokevirtual 128, 3) := by decide +kernel
theorem dX12_number_10 : decode cX12_number 10 = .ok (.bipush 48, 2) := by decide +kernel
theorem dX12_number_12 : decode cX12_number 12 = .ok (.isub, 1) := by decide +kernel
theorem dX12_number_13 : decode cX12_number 13 = .ok (.istore_n 3, 1) := by decide +kernel
theorem dX12_number_14 : decode cX12_number 14 = .ok (.iload_n 3, 1) := by decide +kernel
theorem dX12_number_15 : decode cX12_number 15 = .ok (.ifCond .le 55, 3) := by decide +kernel
theorem dX12_number_18 : decode cX12_number 18 = .ok (.aload_n 0, 1) := by decide +kernel
theorem dX12_number_19 : decode cX12_number 19 = .ok (.bipush 48, 2) := by decide +kernel
theorem dX12_number_21 : decode cX12_number 21 = .ok (.bipush 57, 2) := by decide +kernel
theorem dX12_number_23 : decode cX12_number 23 = .ok (.invokevirtual 131, 3) := by decide +kernel
theorem dX12_number_26 : decode cX12_number 26 = .ok (.ifCond .eq 44, 3) := by decide +kernel
theorem dX12_number_29 : decode cX12_number 29 = .ok (.bipush 10, 2) := by decide +kernel
theorem dX12_number_31 : decode cX12_number 31 = .ok (.iload_n 3, 1) := by decide +kernel
theorem dX12_number_32 : decode cX12_number 32 = .ok (.imul, 1) := by decide +kernel
theorem dX12_number_33 : decode cX12_number 33 = .ok (.aload_n 0, 1) := by decide +kernel
theorem dX12_number_34 : decode cX12_number 34 = .ok (.getfield 26, 3) := by decide +kernel
theorem dX12_number_37 : decode cX12_number 37 = .ok (.aload_n 0, 1) := by decide +kernel
theorem dX12_number_38 : decode cX12_number 38 = .ok (.getfield 121, 3) := by decide +kernel
theorem dX12_number_41 : decode cX12_number 41 = .ok (.iaload, 1) := by decide +kernel
theorem dX12_number_42 : decode cX12_number 42 = .ok (.iadd, 1) := by decide +kernel
theorem dX12_number_43 : decode cX12_number 43 = .ok (.bipush 48, 2) := by decide +kernel
theorem dX12_number_45 : decode cX12_number 45 = .ok (.isub, 1) := by decide +kernel
theorem dX12_number_46 : decode cX12_number 46 = .ok (.iload_n 2, 1) := by decide +kernel
theorem dX12_number_47 : decode cX12_number 47 = .ok (.if_icmp .gt 23, 3) := by decide +kernel
theorem dX12_number_50 : decode cX12_number 50 = .ok (.bipush 10, 2) := by decide +kernel
theorem dX12_number_52 : decode cX12_number 52 = .ok (.iload_n 3, 1) := by decide +kernel
theorem dX12_number_53 : decode cX12_number 53 = .ok (.imul, 1) := by decide +kernel
theorem dX12_number_54 : decode cX12_number 54 = .ok (.aload_n 0, 1) := by decide +kernel
theorem dX12_number_55 : decode cX12_number 55 = .ok (.bipush 48, 2) := by decide +kernel
theorem dX12_number_57 : decode cX12_number 57 = .ok (.bipush 57, 2) := by decide +kernel
theorem dX12_number_59 : decode cX12_number 59 = .ok (.invokevirtual 128, 3) := by decide +kernel
theorem dX12_number_62 : decode cX12_number 62 = .ok (.iadd, 1) := by decide +kernel
theorem dX12_number_63 : decode cX12_number 63 = .ok (.bipush 48, 2) := by decide +kernel
theorem dX12_number_65 : decode cX12_number 65 = .ok (.isub, 1) := by decide +kernel
theorem dX12_number_66 : decode cX12_number 66 = .ok (.istore_n 3, 1) := by decide +kernel
theorem dX12_number_67 : decode cX12_number 67 = .ok (.goto (-53), 3) := by decide +kernel
theorem dX12_number_70 : decode cX12_number 70 = .ok (.iload_n 3, 1) := by decide +kernel
theorem dX12_number_71 : decode cX12_number 71 = .ok (.ireturn, 1) := by decide +kernel
theorem dX12_readLamps_0 : decode cX12_readLamps 0 = .ok (.aload_n 0, 1) := by decide +kernel
theorem dX12_readLamps_1 : decode cX12_readLamps 1 = .ok (.iconst 0, 1) := by decide +kernel
theorem dX12_readLamps_2 : decode cX12_readLamps 2 = .ok (.putfield 134, 3) := by decide +kernel
theorem dX12_readLamps_5 : decode cX12_readLamps 5 = .ok (.iconst 1, 1) := by decide +kernel
theorem dX12_readLamps_6 : decode cX12_readLamps 6 = .ok (.istore_n 1, 1) := by decide +kernel
theorem dX12_readLamps_7 : decode cX12_readLamps 7 = .ok (.iload_n 1, 1) := by decide +kernel
theorem dX12_readLamps_8 : decode cX12_readLamps 8 = .ok (.ifCond .eq 122, 3) := by decide +kernel
theorem dX12_readLamps_11 : decode cX12_readLamps 11 = .ok (.aload_n 0, 1) := by decide +kernel
theorem dX12_readLamps_12 : decode cX12_readLamps 12 = .ok (.iconst 0, 1) := by decide +kernel
theorem dX12_readLamps_13 : decode cX12_readLamps 13 = .ok (.bipush 11, 2) := by decide +kernel
theorem dX12_readLamps_15 : decode cX12_readLamps 15 = .ok (.invokevirtual 137, 3) := by decide +kernel
theorem dX12_readLamps_18 : decode cX12_readLamps 18 = .ok (.istore_n 2, 1) := by decide +kernel
theorem dX12_readLamps_19 : decode cX12_readLamps 19 = .ok (.aload_n 0, 1) := by decide +kernel
theorem dX12_readLamps_20 : decode cX12_readLamps 20 = .ok (.bipush 62, 2) := by decide +kernel
theorem dX12_readLamps_22 : decode cX12_readLamps 22 = .ok (.bipush 62, 2) := by decide +kernel
theorem dX12_readLamps_24 : decode cX12_readLamps 24 = .ok (.invokevirtual 131, 3) := by decide +kernel
theorem dX12_readLamps_27 : decode cX12_readLamps 27 = .ok (.istore_n 3, 1) := by decide +kernel
theorem dX12_readLamps_28 : decode cX12_readLamps 28 = .ok (.iload_n 3, 1) := by decide +kernel
theorem dX12_readLamps_29 : decode cX12_readLamps 29 = .ok (.ifCond .eq 14, 3) := by decide +kernel
theorem dX12_readLamps_32 : decode cX12_readLamps 32 = .ok (.aload_n 0, 1) := by decide +kernel
theorem dX12_readLamps_33 : decode cX12_readLamps 33 = .ok (.bipush 62, 2) := by decide +kernel
theorem dX12_readLamps_35 : decode cX12_readLamps 35 = .ok (.bipush 62, 2) := by decide +kernel
theorem dX12_readLamps_37 : decode cX12_readLamps 37 = .ok (.invokevirtual 128, 3) := by decide +kernel
theorem dX12_readLamps_40 : decode cX12_readLamps 40 = .ok (.goto 4, 3) := by decide +kernel
theorem dX12_readLamps_43 : decode cX12_readLamps 43 = .ok (.iconst 0, 1) := by decide +kernel
theorem dX12_readLamps_44 : decode cX12_readLamps 44 = .ok (.istore 4, 2) := by decide +kernel
theorem dX12_readLamps_46 : decode cX12_readLamps 46 = .ok (.iload_n 3, 1) := by decide +kernel
theorem dX12_readLamps_47 : decode cX12_readLamps 47 = .ok (.ifCond .eq 13, 3) := by decide +kernel
theorem dX12_readLamps_50 : decode cX12_readLamps 50 = .ok (.aload_n 0, 1) := by decide +kernel
theorem dX12_readLamps_51 : decode cX12_readLamps 51 = .ok (.iconst 0, 1) := by decide +kernel
theorem dX12_readLamps_52 : decode cX12_readLamps 52 = .ok (.bipush 11, 2) := by decide +kernel
theorem dX12_readLamps_54 : decode cX12_readLamps 54 = .ok (.invokevirtual 137, 3) := by decide +kernel
theorem dX12_readLamps_57 : decode cX12_readLamps 57 = .ok (.goto 4, 3) := by decide +kernel
theorem dX12_readLamps_60 : decode cX12_readLamps 60 = .ok (.iload_n 2, 1) := by decide +kernel
theorem dX12_readLamps_61 : decode cX12_readLamps 61 = .ok (.istore 4, 2) := by decide +kernel
theorem dX12_readLamps_63 : decode cX12_readLamps 63 = .ok (.aload_n 0, 1) := by decide +kernel
theorem dX12_readLamps_64 : decode cX12_readLamps 64 = .ok (.getfield 35, 3) := by decide +kernel
theorem dX12_readLamps_67 : decode cX12_readLamps 67 = .ok (.iconst 2, 1) := by decide +kernel
theorem dX12_readLamps_68 : decode cX12_readLamps 68 = .ok (.aload_n 0, 1) := by decide +kernel
theorem dX12_readLamps_69 : decode cX12_readLamps 69 = .ok (.getfield 134, 3) := by decide +kernel
theorem dX12_readLamps_72 : decode cX12_readLamps 72 = .ok (.imul, 1) := by decide +kernel
theorem dX12_readLamps_73 : decode cX12_readLamps 73 = .ok (.iload_n 2, 1) := by decide +kernel
theorem dX12_readLamps_74 : decode cX12_readLamps 74 = .ok (.iastore, 1) := by decide +kernel
theorem dX12_readLamps_75 : decode cX12_readLamps 75 = .ok (.aload_n 0, 1) := by decide +kernel
theorem dX12_readLamps_76 : decode cX12_readLamps 76 = .ok (.getfield 35, 3) := by decide +kernel
theorem dX12_readLamps_79 : decode cX12_readLamps 79 = .ok (.iconst 2, 1) := by decide +kernel
theorem dX12_readLamps_80 : decode cX12_readLamps 80 = .ok (.aload_n 0, 1) := by decide +kernel
theorem dX12_readLamps_81 : decode cX12_readLamps 81 = .ok (.getfield 134, 3) := by decide +kernel
theorem dX12_readLamps_84 : decode cX12_readLamps 84 = .ok (.imul, 1) := by decide +kernel
theorem dX12_readLamps_85 : decode cX12_readLamps 85 = .ok (.iconst 1, 1) := by decide +kernel
theorem dX12_readLamps_86 : decode cX12_readLamps 86 = .ok (.iadd, 1) := by decide +kernel
theorem dX12_readLamps_87 : decode cX12_readLamps 87 = .ok (.iload 4, 2) := by decide +kernel
theorem dX12_readLamps_89 : decode cX12_readLamps 89 = .ok (.iastore, 1) := by decide +kernel
theorem dX12_readLamps_90 : decode cX12_readLamps 90 = .ok (.aload_n 0, 1) := by decide +kernel
theorem dX12_readLamps_91 : decode cX12_readLamps 91 = .ok (.dup, 1) := by decide +kernel
theorem dX12_readLamps_92 : decode cX12_readLamps 92 = .ok (.getfield 134, 3) := by decide +kernel
theorem dX12_readLamps_95 : decode cX12_readLamps 95 = .ok (.iconst 1, 1) := by decide +kernel
theorem dX12_readLamps_96 : decode cX12_readLamps 96 = .ok (.iadd, 1) := by decide +kernel
theorem dX12_readLamps_97 : decode cX12_readLamps 97 = .ok (.putfield 134, 3) := by decide +kernel
theorem dX12_readLamps_100 : decode cX12_readLamps 100 = .ok (.aload_n 0, 1) := by decide +kernel
theorem dX12_readLamps_101 : decode cX12_readLamps 101 = .ok (.bipush 43, 2) := by decide +kernel
theorem dX12_readLamps_103 : decode cX12_readLamps 103 = .ok (.bipush 43, 2) := by decide +kernel
theorem dX12_readLamps_105 : decode cX12_readLamps 105 = .ok (.invokevirtual 131, 3) := by decide +kernel
theorem dX12_readLamps_108 : decode cX12_readLamps 108 = .ok (.istore_n 1, 1) := by decide +kernel
theorem dX12_readLamps_109 : decode cX12_readLamps 109 = .ok (.iload_n 1, 1) := by decide +kernel
theorem dX12_readLamps_110 : decode cX12_readLamps 110 = .ok (.ifCond .eq 14, 3) := by decide +kernel
theorem dX12_readLamps_113 : decode cX12_readLamps 113 = .ok (.aload_n 0, 1) := by decide +kernel
theorem dX12_readLamps_114 : decode cX12_readLamps 114 = .ok (.bipush 43, 2) := by decide +kernel
theorem dX12_readLamps_116 : decode cX12_readLamps 116 = .ok (.bipush 43, 2) := by decide +kernel
theorem dX12_readLamps_118 : decode cX12_readLamps 118 = .ok (.invokevirtual 128, 3) := by decide +kernel
theorem dX12_readLamps_121 : decode cX12_readLamps 121 = .ok (.goto 4, 3) := by decide +kernel
theorem dX12_readLamps_124 : decode cX12_readLamps 124 = .ok (.iconst 0, 1) := by decide +kernel
theorem dX12_readLamps_125 : decode cX12_readLamps 125 = .ok (.istore 5, 2) := by decide +kernel
theorem dX12_readLamps_127 : decode cX12_readLamps 127 = .ok (.goto (-120), 3) := by decide +kernel
theorem dX12_readLamps_130 : decode cX12_readLamps 130 = .ok (.aload_n 0, 1) := by decide +kernel
theorem dX12_readLamps_131 : decode cX12_readLamps 131 = .ok (.bipush 64, 2) := by decide +kernel
theorem dX12_readLamps_133 : decode cX12_readLamps 133 = .ok (.bipush 64, 2) := by decide +kernel
theorem dX12_readLamps_135 : decode cX12_readLamps 135 = .ok (.invokevirtual 128, 3) := by decide +kernel
theorem dX12_readLamps_138 : decode cX12_readLamps 138 = .ok (.istore_n 2, 1) := by decide +kernel
theorem dX12_readLamps_139 : decode cX12_readLamps 139 = .ok (.aload_n 0, 1) := by decide +kernel
theorem dX12_readLamps_140 : decode cX12_readLamps 140 = .ok (.aload_n 0, 1) := by decide +kernel
theorem dX12_readLamps_141 : decode cX12_readLamps 141 = .ok (.iconst 0, 1) := by decide +kernel
theorem dX12_readLamps_142 : decode cX12_readLamps 142 = .ok (.bipush 100, 2) := by decide +kernel
theorem dX12_readLamps_144 : decode cX12_readLamps 144 = .ok (.invokevirtual 137, 3) := by decide +kernel
theorem dX12_readLamps_147 : decode cX12_readLamps 147 = .ok (.putfield 140, 3) := by decide +kernel
theorem dX12_readLamps_150 : decode cX12_readLamps 150 = .ok (.return_, 1) := by decide +kernel
theorem dX12_order_0 : decode cX12_order 0 = .ok (.aload_n 0, 1) := by decide +kernel
theorem dX12_order_1 : decode cX12_order 1 = .ok (.getfield 121, 3) := by decide +kernel
theorem dX12_order_4 : decode cX12_order 4 = .ok (.aload_n 0, 1) := by decide +kernel
theorem dX12_order_5 : decode cX12_order 5 = .ok (.getfield 118, 3) := by decide +kernel
theorem dX12_order_8 : decode cX12_order 8 = .ok (.if_icmp .ge 15, 3) := by decide +kernel
theorem dX12_order_11 : decode cX12_order 11 = .ok (.aload_n 0, 1) := by decide +kernel
theorem dX12_order_12 : decode cX12_order 12 = .ok (.getfield 26, 3) := by decide +kernel
theorem dX12_order_15 : decode cX12_order 15 = .ok (.aload_n 0, 1) := by decide +kernel
theorem dX12_order_16 : decode cX12_order 16 = .ok (.getfield 121, 3) := by decide +kernel
theorem dX12_order_19 : decode cX12_order 19 = .ok (.iaload, 1) := by decide +kernel
theorem dX12_order_20 : decode cX12_order 20 = .ok (.goto 4, 3) := by decide +kernel
theorem dX12_order_23 : decode cX12_order 23 = .ok (.iconst 0, 1) := by decide +kernel
theorem dX12_order_24 : decode cX12_order 24 = .ok (.istore_n 1, 1) := by decide +kernel
theorem dX12_order_25 : decode cX12_order 25 = .ok (.iload_n 1, 1) := by decide +kernel
theorem dX12_order_26 : decode cX12_order 26 = .ok (.bipush 48, 2) := by decide +kernel
theorem dX12_order_28 : decode cX12_order 28 = .ok (.bipush 57, 2) := by decide +kernel
theorem dX12_order_30 : decode cX12_order 30 = .ok (.invokestatic 42, 3) := by decide +kernel
theorem dX12_order_33 : decode cX12_order 33 = .ok (.ifCond .eq 14, 3) := by decide +kernel
theorem dX12_order_36 : decode cX12_order 36 = .ok (.aload_n 0, 1) := by decide +kernel
theorem dX12_order_37 : decode cX12_order 37 = .ok (.bipush 64, 2) := by decide +kernel
theorem dX12_order_39 : decode cX12_order 39 = .ok (.putfield 143, 3) := by decide +kernel
theorem dX12_order_42 : decode cX12_order 42 = .ok (.aload_n 0, 1) := by decide +kernel
theorem dX12_order_43 : decode cX12_order 43 = .ok (.invokevirtual 146, 3) := by decide +kernel
theorem dX12_order_46 : decode cX12_order 46 = .ok (.return_, 1) := by decide +kernel
theorem dX12_order_47 : decode cX12_order 47 = .ok (.aload_n 0, 1) := by decide +kernel
theorem dX12_order_48 : decode cX12_order 48 = .ok (.iload_n 1, 1) := by decide +kernel
theorem dX12_order_49 : decode cX12_order 49 = .ok (.putfield 143, 3) := by decide +kernel
theorem dX12_order_52 : decode cX12_order 52 = .ok (.aload_n 0, 1) := by decide +kernel
theorem dX12_order_53 : decode cX12_order 53 = .ok (.aload_n 0, 1) := by decide +kernel
theorem dX12_order_54 : decode cX12_order 54 = .ok (.getfield 124, 3) := by decide +kernel
theorem dX12_order_57 : decode cX12_order 57 = .ok (.ifCond .ne 21, 3) := by decide +kernel
theorem dX12_order_60 : decode cX12_order 60 = .ok (.iload_n 1, 1) := by decide +kernel
theorem dX12_order_61 : decode cX12_order 61 = .ok (.bipush 114, 2) := by decide +kernel
theorem dX12_order_63 : decode cX12_order 63 = .ok (.if_icmp .eq 19, 3) := by decide +kernel
theorem dX12_order_66 : decode cX12_order 66 = .ok (.iload_n 1, 1) := by decide +kernel
theorem dX12_order_67 : decode cX12_order 67 = .ok (.bipush 103, 2) := by decide +kernel
theorem dX12_order_69 : decode cX12_order 69 = .ok (.if_icmp .eq 13, 3) := by decide +kernel
theorem dX12_order_72 : decode cX12_order 72 = .ok (.iload_n 1, 1) := by decide +kernel
theorem dX12_order_73 : decode cX12_order 73 = .ok (.bipush 120, 2) := by decide +kernel
theorem dX12_order_75 : decode cX12_order 75 = .ok (.if_icmp .eq 7, 3) := by decide +kernel
theorem dX12_order_78 : decode cX12_order 78 = .ok (.iconst 1, 1) := by decide +kernel
theorem dX12_order_79 : decode cX12_order 79 = .ok (.goto 4, 3) := by decide +kernel
theorem dX12_order_82 : decode cX12_order 82 = .ok (.iconst 0, 1) := by decide +kernel
theorem dX12_order_83 : decode cX12_order 83 = .ok (.putfield 124, 3) := by decide +kernel
theorem dX12_order_86 : decode cX12_order 86 = .ok (.aload_n 0, 1) := by decide +kernel
theorem dX12_order_87 : decode cX12_order 87 = .ok (.dup, 1) := by decide +kernel
theorem dX12_order_88 : decode cX12_order 88 = .ok (.getfield 121, 3) := by decide +kernel
theorem dX12_order_91 : decode cX12_order 91 = .ok (.aload_n 0, 1) := by decide +kernel
theorem dX12_order_92 : decode cX12_order 92 = .ok (.getfield 124, 3) := by decide +kernel
theorem dX12_order_95 : decode cX12_order 95 = .ok (.ifCond .eq 7, 3) := by decide +kernel
theorem dX12_order_98 : decode cX12_order 98 = .ok (.iconst 0, 1) := by decide +kernel
theorem dX12_order_99 : decode cX12_order 99 = .ok (.goto 4, 3) := by decide +kernel
theorem dX12_order_102 : decode cX12_order 102 = .ok (.iconst 1, 1) := by decide +kernel
theorem dX12_order_103 : decode cX12_order 103 = .ok (.iadd, 1) := by decide +kernel
theorem dX12_order_104 : decode cX12_order 104 = .ok (.putfield 121, 3) := by decide +kernel
theorem dX12_order_107 : decode cX12_order 107 = .ok (.aload_n 0, 1) := by decide +kernel
theorem dX12_order_108 : decode cX12_order 108 = .ok (.iload_n 1, 1) := by decide +kernel
theorem dX12_order_109 : decode cX12_order 109 = .ok (.bipush 114, 2) := by decide +kernel
theorem dX12_order_111 : decode cX12_order 111 = .ok (.if_icmp .eq 9, 3) := by decide +kernel
theorem dX12_order_114 : decode cX12_order 114 = .ok (.iload_n 1, 1) := by decide +kernel
theorem dX12_order_115 : decode cX12_order 115 = .ok (.bipush 103, 2) := by decide +kernel
theorem dX12_order_117 : decode cX12_order 117 = .ok (.if_icmp .ne 17, 3) := by decide +kernel
theorem dX12_order_120 : decode cX12_order 120 = .ok (.aload_n 0, 1) := by decide +kernel
theorem dX12_order_121 : decode cX12_order 121 = .ok (.bipush 48, 2) := by decide +kernel
theorem dX12_order_123 : decode cX12_order 123 = .ok (.bipush 55, 2) := by decide +kernel
theorem dX12_order_125 : decode cX12_order 125 = .ok (.invokevirtual 128, 3) := by decide +kernel
theorem dX12_order_128 : decode cX12_order 128 = .ok (.bipush 48, 2) := by decide +kernel
theorem dX12_order_130 : decode cX12_order 130 = .ok (.isub, 1) := by decide +kernel
theorem dX12_order_131 : decode cX12_order 131 = .ok (.goto 4, 3) := by decide +kernel
theorem dX12_order_134 : decode cX12_order 134 = .ok (.iconst 0, 1) := by decide +kernel
theorem dX12_order_135 : decode cX12_order 135 = .ok (.putfield 140, 3) := by decide +kernel
theorem dX12_order_138 : decode cX12_order 138 = .ok (.iload_n 1, 1) := by decide +kernel
theorem dX12_order_139 : decode cX12_order 139 = .ok (.bipush 114, 2) := by decide +kernel
theorem dX12_order_141 : decode cX12_order 141 = .ok (.if_icmp .ne 14, 3) := by decide +kernel
theorem dX12_order_144 : decode cX12_order 144 = .ok (.aload_n 0, 1) := by decide +kernel
theorem dX12_order_145 : decode cX12_order 145 = .ok (.bipush 47, 2) := by decide +kernel
theorem dX12_order_147 : decode cX12_order 147 = .ok (.bipush 47, 2) := by decide +kernel
theorem dX12_order_149 : decode cX12_order 149 = .ok (.invokevirtual 128, 3) := by decide +kernel
theorem dX12_order_152 : decode cX12_order 152 = .ok (.goto 4, 3) := by decide +kernel
theorem dX12_order_155 : decode cX12_order 155 = .ok (.iconst 0, 1) := by decide +kernel
theorem dX12_order_156 : decode cX12_order 156 = .ok (.istore_n 2, 1) := by decide +kernel
theorem dX12_order_157 : decode cX12_order 157 = .ok (.aload_n 0, 1) := by decide +kernel
theorem dX12_order_158 : decode cX12_order 158 = .ok (.iload_n 1, 1) := by decide +kernel
theorem dX12_order_159 : decode cX12_order 159 = .ok (.bipush 114, 2) := by decide +kernel
theorem dX12_order_161 : decode cX12_order 161 = .ok (.if_icmp .ne 13, 3) := by decide +kernel
theorem dX12_order_164 : decode cX12_order 164 = .ok (.aload_n 0, 1) := by decide +kernel
theorem dX12_order_165 : decode cX12_order 165 = .ok (.iconst 1, 1) := by decide +kernel
theorem dX12_order_166 : decode cX12_order 166 = .ok (.bipush 50, 2) := by decide +kernel
theorem dX12_order_168 : decode cX12_order 168 = .ok (.invokevirtual 137, 3) := by decide +kernel
theorem dX12_order_171 : decode cX12_order 171 = .ok (.goto 4, 3) := by decide +kernel
theorem dX12_order_174 : decode cX12_order 174 = .ok (.iconst 0, 1) := by decide +kernel
theorem dX12_order_175 : decode cX12_order 175 = .ok (.putfield 149, 3) := by decide +kernel
theorem dX12_order_178 : decode cX12_order 178 = .ok (.return_, 1) := by decide +kernel
theorem dX12_wants_0 : decode cX12_wants 0 = .ok (.iconst 0, 1) := by decide +kernel
theorem dX12_wants_1 : decode cX12_wants 1 = .ok (.istore_n 2, 1) := by decide +kernel
theorem dX12_wants_2 : decode cX12_wants 2 = .ok (.iload_n 2, 1) := by decide +kernel
theorem dX12_wants_3 : decode cX12_wants 3 = .ok (.aload_n 0, 1) := by decide +kernel
theorem dX12_wants_4 : decode cX12_wants 4 = .ok (.getfield 134, 3) := by decide +kernel
theorem dX12_wants_7 : decode cX12_wants 7 = .ok (.if_icmp .ge 96, 3) := by decide +kernel
theorem dX12_wants_10 : decode cX12_wants 10 = .ok (.aload_n 0, 1) := by decide +kernel
theorem dX12_wants_11 : decode cX12_wants 11 = .ok (.getfield 35, 3) := by decide +kernel
theorem dX12_wants_14 : decode cX12_wants 14 = .ok (.iconst 2, 1) := by decide +kernel
theorem dX12_wants_15 : decode cX12_wants 15 = .ok (.iload_n 2, 1) := by decide +kernel
theorem dX12_wants_16 : decode cX12_wants 16 = .ok (.imul, 1) := by decide +kernel
theorem dX12_wants_17 : decode cX12_wants 17 = .ok (.iconst 1, 1) := by decide +kernel
theorem dX12_wants_18 : decode cX12_wants 18 = .ok (.iadd, 1) := by decide +kernel
theorem dX12_wants_19 : decode cX12_wants 19 = .ok (.iaload, 1) := by decide +kernel
theorem dX12_wants_20 : decode cX12_wants 20 = .ok (.istore_n 3, 1) := by decide +kernel
theorem dX12_wants_21 : decode cX12_wants 21 = .ok (.iload_n 3, 1) := by decide +kernel
theorem dX12_wants_22 : decode cX12_wants 22 = .ok (.aload_n 0, 1) := by decide +kernel
theorem dX12_wants_23 : decode cX12_wants 23 = .ok (.getfield 35, 3) := by decide +kernel
theorem dX12_wants_26 : decode cX12_wants 26 = .ok (.iconst 2, 1) := by decide +kernel
theorem dX12_wants_27 : decode cX12_wants 27 = .ok (.iload_n 2, 1) := by decide +kernel
theorem dX12_wants_28 : decode cX12_wants 28 = .ok (.imul, 1) := by decide +kernel
theorem dX12_wants_29 : decode cX12_wants 29 = .ok (.iaload, 1) := by decide +kernel
theorem dX12_wants_30 : decode cX12_wants 30 = .ok (.if_icmp .ge 7, 3) := by decide +kernel
theorem dX12_wants_33 : decode cX12_wants 33 = .ok (.iconst (-1), 1) := by decide +kernel
theorem dX12_wants_34 : decode cX12_wants 34 = .ok (.goto 4, 3) := by decide +kernel
theorem dX12_wants_37 : decode cX12_wants 37 = .ok (.iconst 1, 1) := by decide +kernel
theorem dX12_wants_38 : decode cX12_wants 38 = .ok (.istore 4, 2) := by decide +kernel
theorem dX12_wants_40 : decode cX12_wants 40 = .ok (.aload_n 0, 1) := by decide +kernel
theorem dX12_wants_41 : decode cX12_wants 41 = .ok (.getfield 35, 3) := by decide +kernel
theorem dX12_wants_44 : decode cX12_wants 44 = .ok (.iconst 2, 1) := by decide +kernel
theorem dX12_wants_45 : decode cX12_wants 45 = .ok (.iload_n 2, 1) := by decide +kernel
theorem dX12_wants_46 : decode cX12_wants 46 = .ok (.imul, 1) := by decide +kernel
theorem dX12_wants_47 : decode cX12_wants 47 = .ok (.iaload, 1) := by decide +kernel
theorem dX12_wants_48 : decode cX12_wants 48 = .ok (.istore 5, 2) := by decide +kernel
theorem dX12_wants_50 : decode cX12_wants 50 = .ok (.iload 5, 2) := by decide +kernel
theorem dX12_wants_52 : decode cX12_wants 52 = .ok (.iload_n 3, 1) := by decide +kernel
theorem dX12_wants_53 : decode cX12_wants 53 = .ok (.iload 4, 2) := by decide +kernel
theorem dX12_wants_55 : decode cX12_wants 55 = .ok (.iadd, 1) := by decide +kernel
theorem dX12_wants_56 : decode cX12_wants 56 = .ok (.if_icmp .eq 41, 3) := by decide +kernel
theorem dX12_wants_59 : decode cX12_wants 59 = .ok (.aload_n 0, 1) := by decide +kernel
theorem dX12_wants_60 : decode cX12_wants 60 = .ok (.iload_n 1, 1) := by decide +kernel
theorem dX12_wants_61 : decode cX12_wants 61 = .ok (.iload 5, 2) := by decide +kernel
theorem dX12_wants_63 : decode cX12_wants 63 = .ok (.invokevirtual 83, 3) := by decide +kernel
theorem dX12_wants_66 : decode cX12_wants 66 = .ok (.ifCond .ne 5, 3) := by decide +kernel
theorem dX12_wants_69 : decode cX12_wants 69 = .ok (.iconst 0, 1) := by decide +kernel
theorem dX12_wants_70 : decode cX12_wants 70 = .ok (.ireturn, 1) := by decide +kernel
theorem dX12_wants_71 : decode cX12_wants 71 = .ok (.aload_n 0, 1) := by decide +kernel
theorem dX12_wants_72 : decode cX12_wants 72 = .ok (.getfield 7, 3) := by decide +kernel
theorem dX12_wants_75 : decode cX12_wants 75 = .ok (.iload_n 1, 1) := by decide +kernel
theorem dX12_wants_76 : decode cX12_wants 76 = .ok (.iload 5, 2) := by decide +kernel
theorem dX12_wants_78 : decode cX12_wants 78 = .ok (.iconst 2, 1) := by decide +kernel
theorem dX12_wants_79 : decode cX12_wants 79 = .ok (.invokestatic 54, 3) := by decide +kernel
theorem dX12_wants_82 : decode cX12_wants 82 = .ok (.aload_n 0, 1) := by decide +kernel
theorem dX12_wants_83 : decode cX12_wants 83 = .ok (.getfield 140, 3) := by decide +kernel
theorem dX12_wants_86 : decode cX12_wants 86 = .ok (.iastore, 1) := by decide +kernel
theorem dX12_wants_87 : decode cX12_wants 87 = .ok (.iload 5, 2) := by decide +kernel
theorem dX12_wants_89 : decode cX12_wants 89 = .ok (.iload 4, 2) := by decide +kernel
theorem dX12_wants_91 : decode cX12_wants 91 = .ok (.iadd, 1) := by decide +kernel
theorem dX12_wants_92 : decode cX12_wants 92 = .ok (.istore 5, 2) := by decide +kernel
theorem dX12_wants_94 : decode cX12_wants 94 = .ok (.goto (-44), 3) := by decide +kernel
theorem dX12_wants_97 : decode cX12_wants 97 = .ok (.iinc 2 1, 3) := by decide +kernel
theorem dX12_wants_100 : decode cX12_wants 100 = .ok (.goto (-98), 3) := by decide +kernel
theorem dX12_wants_103 : decode cX12_wants 103 = .ok (.iconst 1, 1) := by decide +kernel
theorem dX12_wants_104 : decode cX12_wants 104 = .ok (.ireturn, 1) := by decide +kernel
theorem dX12_does_0 : decode cX12_does 0 = .ok (.aload_n 0, 1) := by decide +kernel
theorem dX12_does_1 : decode cX12_does 1 = .ok (.getfield 143, 3) := by decide +kernel
theorem dX12_does_4 : decode cX12_does 4 = .ok (.lookupswitch 100 #[(64, 36), (103, 58), (114, 42)], 36) := by decide +kernel
theorem dX12_does_40 : decode cX12_does 40 = .ok (.aload_n 0, 1) := by decide +kernel
theorem dX12_does_41 : decode cX12_does 41 = .ok (.iload_n 1, 1) := by decide +kernel
theorem dX12_does_42 : decode cX12_does 42 = .ok (.invokevirtual 152, 3) := by decide +kernel
theorem dX12_does_45 : decode cX12_does 45 = .ok (.ireturn, 1) := by decide +kernel
theorem dX12_does_46 : decode cX12_does 46 = .ok (.aload_n 0, 1) := by decide +kernel
theorem dX12_does_47 : decode cX12_does 47 = .ok (.iload_n 1, 1) := by decide +kernel
theorem dX12_does_48 : decode cX12_does 48 = .ok (.aload_n 0, 1) := by decide +kernel
theorem dX12_does_49 : decode cX12_does 49 = .ok (.getfield 140, 3) := by decide +kernel
theorem dX12_does_52 : decode cX12_does 52 = .ok (.aload_n 0, 1) := by decide +kernel
theorem dX12_does_53 : decode cX12_does 53 = .ok (.getfield 149, 3) := by decide +kernel
theorem dX12_does_56 : decode cX12_does 56 = .ok (.invokevirtual 99, 3) := by decide +kernel
theorem dX12_does_59 : decode cX12_does 59 = .ok (.istore_n 2, 1) := by decide +kernel
theorem dX12_does_60 : decode cX12_does 60 = .ok (.iconst 1, 1) := by decide +kernel
theorem dX12_does_61 : decode cX12_does 61 = .ok (.ireturn, 1) := by decide +kernel
theorem dX12_does_62 : decode cX12_does 62 = .ok (.aload_n 0, 1) := by decide +kernel
theorem dX12_does_63 : decode cX12_does 63 = .ok (.getfield 7, 3) := by decide +kernel
theorem dX12_does_66 : decode cX12_does 66 = .ok (.iload_n 1, 1) := by decide +kernel
theorem dX12_does_67 : decode cX12_does 67 = .ok (.aload_n 0, 1) := by decide +kernel
theorem dX12_does_68 : decode cX12_does 68 = .ok (.getfield 140, 3) := by decide +kernel
theorem dX12_does_71 : decode cX12_does 71 = .ok (.invokestatic 64, 3) := by decide +kernel
theorem dX12_does_74 : decode cX12_does 74 = .ok (.iaload, 1) := by decide +kernel
theorem dX12_does_75 : decode cX12_does 75 = .ok (.ifCond .le 27, 3) := by decide +kernel
theorem dX12_does_78 : decode cX12_does 78 = .ok (.aload_n 0, 1) := by decide +kernel
theorem dX12_does_79 : decode cX12_does 79 = .ok (.iload_n 1, 1) := by decide +kernel
theorem dX12_does_80 : decode cX12_does 80 = .ok (.aload_n 0, 1) := by decide +kernel
theorem dX12_does_81 : decode cX12_does 81 = .ok (.getfield 140, 3) := by decide +kernel
theorem dX12_does_84 : decode cX12_does 84 = .ok (.aload_n 0, 1) := by decide +kernel
theorem dX12_does_85 : decode cX12_does 85 = .ok (.getfield 7, 3) := by decide +kernel
theorem dX12_does_88 : decode cX12_does 88 = .ok (.iload_n 1, 1) := by decide +kernel
theorem dX12_does_89 : decode cX12_does 89 = .ok (.aload_n 0, 1) := by decide +kernel
theorem dX12_does_90 : decode cX12_does 90 = .ok (.getfield 140, 3) := by decide +kernel
theorem dX12_does_93 : decode cX12_does 93 = .ok (.invokestatic 64, 3) := by decide +kernel
theorem dX12_does_96 : decode cX12_does 96 = .ok (.iaload, 1) := by decide +kernel
theorem dX12_does_97 : decode cX12_does 97 = .ok (.invokevirtual 105, 3) := by decide +kernel
theorem dX12_does_100 : decode cX12_does 100 = .ok (.iconst 1, 1) := by decide +kernel
theorem dX12_does_101 : decode cX12_does 101 = .ok (.ireturn, 1) := by decide +kernel
theorem dX12_does_102 : decode cX12_does 102 = .ok (.iconst 0, 1) := by decide +kernel
theorem dX12_does_103 : decode cX12_does 103 = .ok (.ireturn, 1) := by decide +kernel
theorem dX12_does_104 : decode cX12_does 104 = .ok (.aload_n 0, 1) := by decide +kernel
theorem dX12_does_105 : decode cX12_does 105 = .ok (.iload_n 1, 1) := by decide +kernel
theorem dX12_does_106 : decode cX12_does 106 = .ok (.invokevirtual 109, 3) := by decide +kernel
theorem dX12_does_109 : decode cX12_does 109 = .ok (.istore_n 3, 1) := by decide +kernel
theorem dX12_does_110 : decode cX12_does 110 = .ok (.iconst 1, 1) := by decide +kernel
theorem dX12_does_111 : decode cX12_does 111 = .ok (.ireturn, 1) := by decide +kernel
theorem dX12_goThrough_0 : decode cX12_goThrough 0 = .ok (.aload_n 0, 1) := by decide +kernel
theorem dX12_goThrough_1 : decode cX12_goThrough 1 = .ok (.iconst 0, 1) := by decide +kernel
theorem dX12_goThrough_2 : decode cX12_goThrough 2 = .ok (.putfield 121, 3) := by decide +kernel
theorem dX12_goThrough_5 : decode cX12_goThrough 5 = .ok (.aload_n 0, 1) := by decide +kernel
theorem dX12_goThrough_6 : decode cX12_goThrough 6 = .ok (.iconst 0, 1) := by decide +kernel
theorem dX12_goThrough_7 : decode cX12_goThrough 7 = .ok (.putfield 124, 3) := by decide +kernel
theorem dX12_goThrough_10 : decode cX12_goThrough 10 = .ok (.iconst 0, 1) := by decide +kernel
theorem dX12_goThrough_11 : decode cX12_goThrough 11 = .ok (.istore_n 3, 1) := by decide +kernel
theorem dX12_goThrough_12 : decode cX12_goThrough 12 = .ok (.iconst 1, 1) := by decide +kernel
theorem dX12_goThrough_13 : decode cX12_goThrough 13 = .ok (.istore 4, 2) := by decide +kernel
theorem dX12_goThrough_15 : decode cX12_goThrough 15 = .ok (.iload 4, 2) := by decide +kernel
theorem dX12_goThrough_17 : decode cX12_goThrough 17 = .ok (.ifCond .eq 105, 3) := by decide +kernel
theorem dX12_goThrough_20 : decode cX12_goThrough 20 = .ok (.aload_n 0, 1) := by decide +kernel
theorem dX12_goThrough_21 : decode cX12_goThrough 21 = .ok (.invokevirtual 155, 3) := by decide +kernel
theorem dX12_goThrough_24 : decode cX12_goThrough 24 = .ok (.iload_n 1, 1) := by decide +kernel
theorem dX12_goThrough_25 : decode cX12_goThrough 25 = .ok (.ifCond .eq 15, 3) := by decide +kernel
theorem dX12_goThrough_28 : decode cX12_goThrough 28 = .ok (.aload_n 0, 1) := by decide +kernel
theorem dX12_goThrough_29 : decode cX12_goThrough 29 = .ok (.iload_n 2, 1) := by decide +kernel
theorem dX12_goThrough_30 : decode cX12_goThrough 30 = .ok (.invokevirtual 158, 3) := by decide +kernel
theorem dX12_goThrough_33 : decode cX12_goThrough 33 = .ok (.ifCond .eq 7, 3) := by decide +kernel
theorem dX12_goThrough_36 : decode cX12_goThrough 36 = .ok (.iconst 1, 1) := by decide +kernel
theorem dX12_goThrough_37 : decode cX12_goThrough 37 = .ok (.goto 4, 3) := by decide +kernel
theorem dX12_goThrough_40 : decode cX12_goThrough 40 = .ok (.iconst 0, 1) := by decide +kernel
theorem dX12_goThrough_41 : decode cX12_goThrough 41 = .ok (.istore 5, 2) := by decide +kernel
theorem dX12_goThrough_43 : decode cX12_goThrough 43 = .ok (.iload_n 3, 1) := by decide +kernel
theorem dX12_goThrough_44 : decode cX12_goThrough 44 = .ok (.iload 5, 2) := by decide +kernel
theorem dX12_goThrough_46 : decode cX12_goThrough 46 = .ok (.ifCond .eq 7, 3) := by decide +kernel
theorem dX12_goThrough_49 : decode cX12_goThrough 49 = .ok (.iconst 1, 1) := by decide +kernel
theorem dX12_goThrough_50 : decode cX12_goThrough 50 = .ok (.goto 4, 3) := by decide +kernel
theorem dX12_goThrough_53 : decode cX12_goThrough 53 = .ok (.iconst 0, 1) := by decide +kernel
theorem dX12_goThrough_54 : decode cX12_goThrough 54 = .ok (.iadd, 1) := by decide +kernel
theorem dX12_goThrough_55 : decode cX12_goThrough 55 = .ok (.istore_n 3, 1) := by decide +kernel
theorem dX12_goThrough_56 : decode cX12_goThrough 56 = .ok (.aload_n 0, 1) := by decide +kernel
theorem dX12_goThrough_57 : decode cX12_goThrough 57 = .ok (.getfield 124, 3) := by decide +kernel
theorem dX12_goThrough_60 : decode cX12_goThrough 60 = .ok (.ifCond .ne 27, 3) := by decide +kernel
theorem dX12_goThrough_63 : decode cX12_goThrough 63 = .ok (.iload 5, 2) := by decide +kernel
theorem dX12_goThrough_65 : decode cX12_goThrough 65 = .ok (.ifCond .ne 7, 3) := by decide +kernel
theorem dX12_goThrough_68 : decode cX12_goThrough 68 = .ok (.iload_n 1, 1) := by decide +kernel
theorem dX12_goThrough_69 : decode cX12_goThrough 69 = .ok (.ifCond .ne 18, 3) := by decide +kernel
theorem dX12_goThrough_72 : decode cX12_goThrough 72 = .ok (.aload_n 0, 1) := by decide +kernel
theorem dX12_goThrough_73 : decode cX12_goThrough 73 = .ok (.getfield 121, 3) := by decide +kernel
theorem dX12_goThrough_76 : decode cX12_goThrough 76 = .ok (.aload_n 0, 1) := by decide +kernel
theorem dX12_goThrough_77 : decode cX12_goThrough 77 = .ok (.getfield 118, 3) := by decide +kernel
theorem dX12_goThrough_80 : decode cX12_goThrough 80 = .ok (.if_icmp .ge 7, 3) := by decide +kernel
theorem dX12_goThrough_83 : decode cX12_goThrough 83 = .ok (.iconst 1, 1) := by decide +kernel
theorem dX12_goThrough_84 : decode cX12_goThrough 84 = .ok (.goto 4, 3) := by decide +kernel
theorem dX12_goThrough_87 : decode cX12_goThrough 87 = .ok (.iconst 0, 1) := by decide +kernel
theorem dX12_goThrough_88 : decode cX12_goThrough 88 = .ok (.istore 4, 2) := by decide +kernel
theorem dX12_goThrough_90 : decode cX12_goThrough 90 = .ok (.iload 4, 2) := by decide +kernel
theorem dX12_goThrough_92 : decode cX12_goThrough 92 = .ok (.ifCond .eq 27, 3) := by decide +kernel
theorem dX12_goThrough_95 : decode cX12_goThrough 95 = .ok (.aload_n 0, 1) := by decide +kernel
theorem dX12_goThrough_96 : decode cX12_goThrough 96 = .ok (.bipush 59, 2) := by decide +kernel
theorem dX12_goThrough_98 : decode cX12_goThrough 98 = .ok (.bipush 59, 2) := by decide +kernel
theorem dX12_goThrough_100 : decode cX12_goThrough 100 = .ok (.invokevirtual 128, 3) := by decide +kernel
theorem dX12_goThrough_103 : decode cX12_goThrough 103 = .ok (.istore 6, 2) := by decide +kernel
theorem dX12_goThrough_105 : decode cX12_goThrough 105 = .ok (.aload_n 0, 1) := by decide +kernel
theorem dX12_goThrough_106 : decode cX12_goThrough 106 = .ok (.getfield 124, 3) := by decide +kernel
theorem dX12_goThrough_109 : decode cX12_goThrough 109 = .ok (.ifCond .ne 7, 3) := by decide +kernel
theorem dX12_goThrough_112 : decode cX12_goThrough 112 = .ok (.iconst 1, 1) := by decide +kernel
theorem dX12_goThrough_113 : decode cX12_goThrough 113 = .ok (.goto 4, 3) := by decide +kernel
theorem dX12_goThrough_116 : decode cX12_goThrough 116 = .ok (.iconst 0, 1) := by decide +kernel
theorem dX12_goThrough_117 : decode cX12_goThrough 117 = .ok (.istore 4, 2) := by decide +kernel
theorem dX12_goThrough_119 : decode cX12_goThrough 119 = .ok (.goto (-104), 3) := by decide +kernel
theorem dX12_goThrough_122 : decode cX12_goThrough 122 = .ok (.iload_n 3, 1) := by decide +kernel
theorem dX12_goThrough_123 : decode cX12_goThrough 123 = .ok (.ireturn, 1) := by decide +kernel
theorem dX12_fault_0 : decode cX12_fault 0 = .ok (.aload_n 0, 1) := by decide +kernel
theorem dX12_fault_1 : decode cX12_fault 1 = .ok (.iconst 0, 1) := by decide +kernel
theorem dX12_fault_2 : decode cX12_fault 2 = .ok (.iconst 0, 1) := by decide +kernel
theorem dX12_fault_3 : decode cX12_fault 3 = .ok (.invokevirtual 161, 3) := by decide +kernel
theorem dX12_fault_6 : decode cX12_fault 6 = .ok (.istore_n 1, 1) := by decide +kernel
theorem dX12_fault_7 : decode cX12_fault 7 = .ok (.aload_n 0, 1) := by decide +kernel
theorem dX12_fault_8 : decode cX12_fault 8 = .ok (.getfield 124, 3) := by decide +kernel
theorem dX12_fault_11 : decode cX12_fault 11 = .ok (.ifCond .eq 10, 3) := by decide +kernel
theorem dX12_fault_14 : decode cX12_fault 14 = .ok (.aload_n 0, 1) := by decide +kernel
theorem dX12_fault_15 : decode cX12_fault 15 = .ok (.getfield 121, 3) := by decide +kernel
theorem dX12_fault_18 : decode cX12_fault 18 = .ok (.goto 5, 3) := by decide +kernel
theorem dX12_fault_21 : decode cX12_fault 21 = .ok (.bipush (-6), 2) := by decide +kernel
theorem dX12_fault_23 : decode cX12_fault 23 = .ok (.ireturn, 1) := by decide +kernel
theorem dX12_carryOut_0 : decode cX12_carryOut 0 = .ok (.iload_n 1, 1) := by decide +kernel
theorem dX12_carryOut_1 : decode cX12_carryOut 1 = .ok (.invokestatic 46, 3) := by decide +kernel
theorem dX12_carryOut_4 : decode cX12_carryOut 4 = .ok (.ifCond .ne 5, 3) := by decide +kernel
theorem dX12_carryOut_7 : decode cX12_carryOut 7 = .ok (.iconst (-1), 1) := by decide +kernel
theorem dX12_carryOut_8 : decode cX12_carryOut 8 = .ok (.ireturn, 1) := by decide +kernel
theorem dX12_carryOut_9 : decode cX12_carryOut 9 = .ok (.aload_n 0, 1) := by decide +kernel
theorem dX12_carryOut_10 : decode cX12_carryOut 10 = .ok (.iconst 0, 1) := by decide +kernel
theorem dX12_carryOut_11 : decode cX12_carryOut 11 = .ok (.iconst 0, 1) := by decide +kernel
theorem dX12_carryOut_12 : decode cX12_carryOut 12 = .ok (.invokevirtual 161, 3) := by decide +kernel
theorem dX12_carryOut_15 : decode cX12_carryOut 15 = .ok (.istore_n 2, 1) := by decide +kernel
theorem dX12_carryOut_16 : decode cX12_carryOut 16 = .ok (.aload_n 0, 1) := by decide +kernel
theorem dX12_carryOut_17 : decode cX12_carryOut 17 = .ok (.getfield 124, 3) := by decide +kernel
theorem dX12_carryOut_20 : decode cX12_carryOut 20 = .ok (.ifCond .eq 6, 3) := by decide +kernel
theorem dX12_carryOut_23 : decode cX12_carryOut 23 = .ok (.bipush (-3), 2) := by decide +kernel
theorem dX12_carryOut_25 : decode cX12_carryOut 25 = .ok (.ireturn, 1) := by decide +kernel
theorem dX12_carryOut_26 : decode cX12_carryOut 26 = .ok (.aload_n 0, 1) := by decide +kernel
theorem dX12_carryOut_27 : decode cX12_carryOut 27 = .ok (.invokevirtual 77, 3) := by decide +kernel
theorem dX12_carryOut_30 : decode cX12_carryOut 30 = .ok (.aload_n 0, 1) := by decide +kernel
theorem dX12_carryOut_31 : decode cX12_carryOut 31 = .ok (.iconst 1, 1) := by decide +kernel
theorem dX12_carryOut_32 : decode cX12_carryOut 32 = .ok (.iload_n 1, 1) := by decide +kernel
theorem dX12_carryOut_33 : decode cX12_carryOut 33 = .ok (.invokevirtual 161, 3) := by decide +kernel
theorem dX12_carryOut_36 : decode cX12_carryOut 36 = .ok (.istore_n 3, 1) := by decide +kernel
theorem dX12_carryOut_37 : decode cX12_carryOut 37 = .ok (.aload_n 0, 1) := by decide +kernel
theorem dX12_carryOut_38 : decode cX12_carryOut 38 = .ok (.iconst 0, 1) := by decide +kernel
theorem dX12_carryOut_39 : decode cX12_carryOut 39 = .ok (.putfield 118, 3) := by decide +kernel
theorem dX12_carryOut_42 : decode cX12_carryOut 42 = .ok (.iload_n 3, 1) := by decide +kernel
theorem dX12_carryOut_43 : decode cX12_carryOut 43 = .ok (.ireturn, 1) := by decide +kernel
theorem dX12_lamp_0 : decode cX12_lamp 0 = .ok (.aload_n 0, 1) := by decide +kernel
theorem dX12_lamp_1 : decode cX12_lamp 1 = .ok (.iload_n 1, 1) := by decide +kernel
theorem dX12_lamp_2 : decode cX12_lamp 2 = .ok (.iload_n 2, 1) := by decide +kernel
theorem dX12_lamp_3 : decode cX12_lamp 3 = .ok (.invokevirtual 83, 3) := by decide +kernel
theorem dX12_lamp_6 : decode cX12_lamp 6 = .ok (.ifCond .ne 5, 3) := by decide +kernel
theorem dX12_lamp_9 : decode cX12_lamp 9 = .ok (.iconst (-1), 1) := by decide +kernel
theorem dX12_lamp_10 : decode cX12_lamp 10 = .ok (.ireturn, 1) := by decide +kernel
theorem dX12_lamp_11 : decode cX12_lamp 11 = .ok (.iload_n 3, 1) := by decide +kernel
theorem dX12_lamp_12 : decode cX12_lamp 12 = .ok (.iconst 4, 1) := by decide +kernel
theorem dX12_lamp_13 : decode cX12_lamp 13 = .ok (.if_icmp .ne 12, 3) := by decide +kernel
theorem dX12_lamp_16 : decode cX12_lamp 16 = .ok (.aload_n 0, 1) := by decide +kernel
theorem dX12_lamp_17 : decode cX12_lamp 17 = .ok (.iload_n 1, 1) := by decide +kernel
theorem dX12_lamp_18 : decode cX12_lamp 18 = .ok (.iload_n 2, 1) := by decide +kernel
theorem dX12_lamp_19 : decode cX12_lamp 19 = .ok (.invokevirtual 61, 3) := by decide +kernel
theorem dX12_lamp_22 : decode cX12_lamp 22 = .ok (.goto 28, 3) := by decide +kernel
theorem dX12_lamp_25 : decode cX12_lamp 25 = .ok (.iload_n 3, 1) := by decide +kernel
theorem dX12_lamp_26 : decode cX12_lamp 26 = .ok (.iconst 0, 1) := by decide +kernel
theorem dX12_lamp_27 : decode cX12_lamp 27 = .ok (.iconst 3, 1) := by decide +kernel
theorem dX12_lamp_28 : decode cX12_lamp 28 = .ok (.invokestatic 42, 3) := by decide +kernel
theorem dX12_lamp_31 : decode cX12_lamp 31 = .ok (.ifCond .eq 17, 3) := by decide +kernel
theorem dX12_lamp_34 : decode cX12_lamp 34 = .ok (.aload_n 0, 1) := by decide +kernel
theorem dX12_lamp_35 : decode cX12_lamp 35 = .ok (.getfield 7, 3) := by decide +kernel
theorem dX12_lamp_38 : decode cX12_lamp 38 = .ok (.iload_n 1, 1) := by decide +kernel
theorem dX12_lamp_39 : decode cX12_lamp 39 = .ok (.iload_n 2, 1) := by decide +kernel
theorem dX12_lamp_40 : decode cX12_lamp 40 = .ok (.iload_n 3, 1) := by decide +kernel
theorem dX12_lamp_41 : decode cX12_lamp 41 = .ok (.invokestatic 54, 3) := by decide +kernel
theorem dX12_lamp_44 : decode cX12_lamp 44 = .ok (.iaload, 1) := by decide +kernel
theorem dX12_lamp_45 : decode cX12_lamp 45 = .ok (.goto 5, 3) := by decide +kernel
theorem dX12_lamp_48 : decode cX12_lamp 48 = .ok (.bipush (-2), 2) := by decide +kernel
theorem dX12_lamp_50 : decode cX12_lamp 50 = .ok (.ireturn, 1) := by decide +kernel
theorem dX12_lampsOn_0 : decode cX12_lampsOn 0 = .ok (.iconst 0, 1) := by decide +kernel
theorem dX12_lampsOn_1 : decode cX12_lampsOn 1 = .ok (.istore_n 3, 1) := by decide +kernel
theorem dX12_lampsOn_2 : decode cX12_lampsOn 2 = .ok (.iconst 0, 1) := by decide +kernel
theorem dX12_lampsOn_3 : decode cX12_lampsOn 3 = .ok (.istore 4, 2) := by decide +kernel
theorem dX12_lampsOn_5 : decode cX12_lampsOn 5 = .ok (.iload 4, 2) := by decide +kernel
theorem dX12_lampsOn_7 : decode cX12_lampsOn 7 = .ok (.aload_n 0, 1) := by decide +kernel
theorem dX12_lampsOn_8 : decode cX12_lampsOn 8 = .ok (.getfield 7, 3) := by decide +kernel
theorem dX12_lampsOn_11 : decode cX12_lampsOn 11 = .ok (.iload_n 1, 1) := by decide +kernel
theorem dX12_lampsOn_12 : decode cX12_lampsOn 12 = .ok (.iconst 2, 1) := by decide +kernel
theorem dX12_lampsOn_13 : decode cX12_lampsOn 13 = .ok (.invokestatic 38, 3) := by decide +kernel
theorem dX12_lampsOn_16 : decode cX12_lampsOn 16 = .ok (.iaload, 1) := by decide +kernel
theorem dX12_lampsOn_17 : decode cX12_lampsOn 17 = .ok (.if_icmp .ge 33, 3) := by decide +kernel
theorem dX12_lampsOn_20 : decode cX12_lampsOn 20 = .ok (.iload_n 3, 1) := by decide +kernel
theorem dX12_lampsOn_21 : decode cX12_lampsOn 21 = .ok (.aload_n 0, 1) := by decide +kernel
theorem dX12_lampsOn_22 : decode cX12_lampsOn 22 = .ok (.getfield 7, 3) := by decide +kernel
theorem dX12_lampsOn_25 : decode cX12_lampsOn 25 = .ok (.iload_n 1, 1) := by decide +kernel
theorem dX12_lampsOn_26 : decode cX12_lampsOn 26 = .ok (.iload 4, 2) := by decide +kernel
theorem dX12_lampsOn_28 : decode cX12_lampsOn 28 = .ok (.iconst 1, 1) := by decide +kernel
theorem dX12_lampsOn_29 : decode cX12_lampsOn 29 = .ok (.invokestatic 54, 3) := by decide +kernel
theorem dX12_lampsOn_32 : decode cX12_lampsOn 32 = .ok (.iaload, 1) := by decide +kernel
theorem dX12_lampsOn_33 : decode cX12_lampsOn 33 = .ok (.iload_n 2, 1) := by decide +kernel
theorem dX12_lampsOn_34 : decode cX12_lampsOn 34 = .ok (.if_icmp .ne 7, 3) := by decide +kernel
theorem dX12_lampsOn_37 : decode cX12_lampsOn 37 = .ok (.iconst 1, 1) := by decide +kernel
theorem dX12_lampsOn_38 : decode cX12_lampsOn 38 = .ok (.goto 4, 3) := by decide +kernel
theorem dX12_lampsOn_41 : decode cX12_lampsOn 41 = .ok (.iconst 0, 1) := by decide +kernel
theorem dX12_lampsOn_42 : decode cX12_lampsOn 42 = .ok (.iadd, 1) := by decide +kernel
theorem dX12_lampsOn_43 : decode cX12_lampsOn 43 = .ok (.istore_n 3, 1) := by decide +kernel
theorem dX12_lampsOn_44 : decode cX12_lampsOn 44 = .ok (.iinc 4 1, 3) := by decide +kernel
theorem dX12_lampsOn_47 : decode cX12_lampsOn 47 = .ok (.goto (-42), 3) := by decide +kernel
theorem dX12_lampsOn_50 : decode cX12_lampsOn 50 = .ok (.iload_n 3, 1) := by decide +kernel
theorem dX12_lampsOn_51 : decode cX12_lampsOn 51 = .ok (.ireturn, 1) := by decide +kernel
theorem dX12_dimmer_0 : decode cX12_dimmer 0 = .ok (.iload_n 1, 1) := by decide +kernel
theorem dX12_dimmer_1 : decode cX12_dimmer 1 = .ok (.invokestatic 46, 3) := by decide +kernel
theorem dX12_dimmer_4 : decode cX12_dimmer 4 = .ok (.ifCond .eq 10, 3) := by decide +kernel
theorem dX12_dimmer_7 : decode cX12_dimmer 7 = .ok (.iload_n 2, 1) := by decide +kernel
theorem dX12_dimmer_8 : decode cX12_dimmer 8 = .ok (.invokestatic 80, 3) := by decide +kernel
theorem dX12_dimmer_11 : decode cX12_dimmer 11 = .ok (.ifCond .ne 5, 3) := by decide +kernel
theorem dX12_dimmer_14 : decode cX12_dimmer 14 = .ok (.iconst (-1), 1) := by decide +kernel
theorem dX12_dimmer_15 : decode cX12_dimmer 15 = .ok (.ireturn, 1) := by decide +kernel
theorem dX12_dimmer_16 : decode cX12_dimmer 16 = .ok (.iload_n 3, 1) := by decide +kernel
theorem dX12_dimmer_17 : decode cX12_dimmer 17 = .ok (.tableswitch 102 0 5 #[39, 53, 60, 74, 88, 95], 39) := by decide +kernel
theorem dX12_dimmer_56 : decode cX12_dimmer 56 = .ok (.aload_n 0, 1) := by decide +kernel
theorem dX12_dimmer_57 : decode cX12_dimmer 57 = .ok (.getfield 7, 3) := by decide +kernel
theorem dX12_dimmer_60 : decode cX12_dimmer 60 = .ok (.iload_n 1, 1) := by decide +kernel
theorem dX12_dimmer_61 : decode cX12_dimmer 61 = .ok (.bipush 75, 2) := by decide +kernel
theorem dX12_dimmer_63 : decode cX12_dimmer 63 = .ok (.iload_n 2, 1) := by decide +kernel
theorem dX12_dimmer_64 : decode cX12_dimmer 64 = .ok (.iadd, 1) := by decide +kernel
theorem dX12_dimmer_65 : decode cX12_dimmer 65 = .ok (.invokestatic 38, 3) := by decide +kernel
theorem dX12_dimmer_68 : decode cX12_dimmer 68 = .ok (.iaload, 1) := by decide +kernel
theorem dX12_dimmer_69 : decode cX12_dimmer 69 = .ok (.ireturn, 1) := by decide +kernel
theorem dX12_dimmer_70 : decode cX12_dimmer 70 = .ok (.aload_n 0, 1) := by decide +kernel
theorem dX12_dimmer_71 : decode cX12_dimmer 71 = .ok (.iload_n 1, 1) := by decide +kernel
theorem dX12_dimmer_72 : decode cX12_dimmer 72 = .ok (.iload_n 2, 1) := by decide +kernel
theorem dX12_dimmer_73 : decode cX12_dimmer 73 = .ok (.invokevirtual 70, 3) := by decide +kernel
theorem dX12_dimmer_76 : decode cX12_dimmer 76 = .ok (.ireturn, 1) := by decide +kernel
theorem dX12_dimmer_77 : decode cX12_dimmer 77 = .ok (.aload_n 0, 1) := by decide +kernel
theorem dX12_dimmer_78 : decode cX12_dimmer 78 = .ok (.getfield 7, 3) := by decide +kernel
theorem dX12_dimmer_81 : decode cX12_dimmer 81 = .ok (.iload_n 1, 1) := by decide +kernel
theorem dX12_dimmer_82 : decode cX12_dimmer 82 = .ok (.bipush 87, 2) := by decide +kernel
theorem dX12_dimmer_84 : decode cX12_dimmer 84 = .ok (.iload_n 2, 1) := by decide +kernel
theorem dX12_dimmer_85 : decode cX12_dimmer 85 = .ok (.iadd, 1) := by decide +kernel
theorem dX12_dimmer_86 : decode cX12_dimmer 86 = .ok (.invokestatic 38, 3) := by decide +kernel
theorem dX12_dimmer_89 : decode cX12_dimmer 89 = .ok (.iaload, 1) := by decide +kernel
theorem dX12_dimmer_90 : decode cX12_dimmer 90 = .ok (.ireturn, 1) := by decide +kernel
theorem dX12_dimmer_91 : decode cX12_dimmer 91 = .ok (.aload_n 0, 1) := by decide +kernel
theorem dX12_dimmer_92 : decode cX12_dimmer 92 = .ok (.getfield 7, 3) := by decide +kernel
theorem dX12_dimmer_95 : decode cX12_dimmer 95 = .ok (.iload_n 1, 1) := by decide +kernel
theorem dX12_dimmer_96 : decode cX12_dimmer 96 = .ok (.bipush 102, 2) := by decide +kernel
theorem dX12_dimmer_98 : decode cX12_dimmer 98 = .ok (.iload_n 2, 1) := by decide +kernel
theorem dX12_dimmer_99 : decode cX12_dimmer 99 = .ok (.iadd, 1) := by decide +kernel
theorem dX12_dimmer_100 : decode cX12_dimmer 100 = .ok (.invokestatic 38, 3) := by decide +kernel
theorem dX12_dimmer_103 : decode cX12_dimmer 103 = .ok (.iaload, 1) := by decide +kernel
theorem dX12_dimmer_104 : decode cX12_dimmer 104 = .ok (.ireturn, 1) := by decide +kernel
theorem dX12_dimmer_105 : decode cX12_dimmer 105 = .ok (.aload_n 0, 1) := by decide +kernel
theorem dX12_dimmer_106 : decode cX12_dimmer 106 = .ok (.iload_n 1, 1) := by decide +kernel
theorem dX12_dimmer_107 : decode cX12_dimmer 107 = .ok (.iload_n 2, 1) := by decide +kernel
theorem dX12_dimmer_108 : decode cX12_dimmer 108 = .ok (.invokevirtual 165, 3) := by decide +kernel
theorem dX12_dimmer_111 : decode cX12_dimmer 111 = .ok (.ireturn, 1) := by decide +kernel
theorem dX12_dimmer_112 : decode cX12_dimmer 112 = .ok (.aload_n 0, 1) := by decide +kernel
theorem dX12_dimmer_113 : decode cX12_dimmer 113 = .ok (.iload_n 1, 1) := by decide +kernel
theorem dX12_dimmer_114 : decode cX12_dimmer 114 = .ok (.iload_n 2, 1) := by decide +kernel
theorem dX12_dimmer_115 : decode cX12_dimmer 115 = .ok (.invokevirtual 87, 3) := by decide +kernel
theorem dX12_dimmer_118 : decode cX12_dimmer 118 = .ok (.ireturn, 1) := by decide +kernel
theorem dX12_dimmer_119 : decode cX12_dimmer 119 = .ok (.bipush (-2), 2) := by decide +kernel
theorem dX12_dimmer_121 : decode cX12_dimmer 121 = .ok (.ireturn, 1) := by decide +kernel
theorem dX12_dimmersOf_0 : decode cX12_dimmersOf 0 = .ok (.iconst 0, 1) := by decide +kernel
theorem dX12_dimmersOf_1 : decode cX12_dimmersOf 1 = .ok (.istore_n 3, 1) := by decide +kernel
theorem dX12_dimmersOf_2 : decode cX12_dimmersOf 2 = .ok (.iconst 0, 1) := by decide +kernel
theorem dX12_dimmersOf_3 : decode cX12_dimmersOf 3 = .ok (.istore 4, 2) := by decide +kernel
theorem dX12_dimmersOf_5 : decode cX12_dimmersOf 5 = .ok (.iload 4, 2) := by decide +kernel
theorem dX12_dimmersOf_7 : decode cX12_dimmersOf 7 = .ok (.bipush 12, 2) := by decide +kernel
theorem dX12_dimmersOf_9 : decode cX12_dimmersOf 9 = .ok (.if_icmp .ge 38, 3) := by decide +kernel
theorem dX12_dimmersOf_12 : decode cX12_dimmersOf 12 = .ok (.iload_n 3, 1) := by decide +kernel
theorem dX12_dimmersOf_13 : decode cX12_dimmersOf 13 = .ok (.aload_n 0, 1) := by decide +kernel
theorem dX12_dimmersOf_14 : decode cX12_dimmersOf 14 = .ok (.getfield 7, 3) := by decide +kernel
theorem dX12_dimmersOf_17 : decode cX12_dimmersOf 17 = .ok (.iload_n 1, 1) := by decide +kernel
theorem dX12_dimmersOf_18 : decode cX12_dimmersOf 18 = .ok (.bipush 75, 2) := by decide +kernel
theorem dX12_dimmersOf_20 : decode cX12_dimmersOf 20 = .ok (.iload 4, 2) := by decide +kernel
theorem dX12_dimmersOf_22 : decode cX12_dimmersOf 22 = .ok (.iadd, 1) := by decide +kernel
theorem dX12_dimmersOf_23 : decode cX12_dimmersOf 23 = .ok (.invokestatic 38, 3) := by decide +kernel
theorem dX12_dimmersOf_26 : decode cX12_dimmersOf 26 = .ok (.iaload, 1) := by decide +kernel
theorem dX12_dimmersOf_27 : decode cX12_dimmersOf 27 = .ok (.iload_n 2, 1) := by decide +kernel
theorem dX12_dimmersOf_28 : decode cX12_dimmersOf 28 = .ok (.if_icmp .ne 10, 3) := by decide +kernel
theorem dX12_dimmersOf_31 : decode cX12_dimmersOf 31 = .ok (.iconst 1, 1) := by decide +kernel
theorem dX12_dimmersOf_32 : decode cX12_dimmersOf 32 = .ok (.iload 4, 2) := by decide +kernel
theorem dX12_dimmersOf_34 : decode cX12_dimmersOf 34 = .ok (.ishl, 1) := by decide +kernel
theorem dX12_dimmersOf_35 : decode cX12_dimmersOf 35 = .ok (.goto 4, 3) := by decide +kernel
theorem dX12_dimmersOf_38 : decode cX12_dimmersOf 38 = .ok (.iconst 0, 1) := by decide +kernel
theorem dX12_dimmersOf_39 : decode cX12_dimmersOf 39 = .ok (.ior, 1) := by decide +kernel
theorem dX12_dimmersOf_40 : decode cX12_dimmersOf 40 = .ok (.istore_n 3, 1) := by decide +kernel
theorem dX12_dimmersOf_41 : decode cX12_dimmersOf 41 = .ok (.iinc 4 1, 3) := by decide +kernel
theorem dX12_dimmersOf_44 : decode cX12_dimmersOf 44 = .ok (.goto (-39), 3) := by decide +kernel
theorem dX12_dimmersOf_47 : decode cX12_dimmersOf 47 = .ok (.iload_n 3, 1) := by decide +kernel
theorem dX12_dimmersOf_48 : decode cX12_dimmersOf 48 = .ok (.ireturn, 1) := by decide +kernel
theorem dX12_phase_0 : decode cX12_phase 0 = .ok (.iload_n 1, 1) := by decide +kernel
theorem dX12_phase_1 : decode cX12_phase 1 = .ok (.invokestatic 46, 3) := by decide +kernel
theorem dX12_phase_4 : decode cX12_phase 4 = .ok (.ifCond .eq 12, 3) := by decide +kernel
theorem dX12_phase_7 : decode cX12_phase 7 = .ok (.iload_n 2, 1) := by decide +kernel
theorem dX12_phase_8 : decode cX12_phase 8 = .ok (.iconst 0, 1) := by decide +kernel
theorem dX12_phase_9 : decode cX12_phase 9 = .ok (.iconst 2, 1) := by decide +kernel
theorem dX12_phase_10 : decode cX12_phase 10 = .ok (.invokestatic 42, 3) := by decide +kernel
theorem dX12_phase_13 : decode cX12_phase 13 = .ok (.ifCond .ne 5, 3) := by decide +kernel
theorem dX12_phase_16 : decode cX12_phase 16 = .ok (.iconst (-1), 1) := by decide +kernel
theorem dX12_phase_17 : decode cX12_phase 17 = .ok (.ireturn, 1) := by decide +kernel
theorem dX12_phase_18 : decode cX12_phase 18 = .ok (.iload_n 3, 1) := by decide +kernel
theorem dX12_phase_19 : decode cX12_phase 19 = .ok (.tableswitch 88 0 4 #[33, 43, 57, 71, 78], 33) := by decide +kernel
theorem dX12_phase_52 : decode cX12_phase 52 = .ok (.aload_n 0, 1) := by decide +kernel
theorem dX12_phase_53 : decode cX12_phase 53 = .ok (.iload_n 1, 1) := by decide +kernel
theorem dX12_phase_54 : decode cX12_phase 54 = .ok (.bipush 12, 2) := by decide +kernel
theorem dX12_phase_56 : decode cX12_phase 56 = .ok (.iload_n 2, 1) := by decide +kernel
theorem dX12_phase_57 : decode cX12_phase 57 = .ok (.iadd, 1) := by decide +kernel
theorem dX12_phase_58 : decode cX12_phase 58 = .ok (.invokevirtual 70, 3) := by decide +kernel
theorem dX12_phase_61 : decode cX12_phase 61 = .ok (.ireturn, 1) := by decide +kernel
theorem dX12_phase_62 : decode cX12_phase 62 = .ok (.aload_n 0, 1) := by decide +kernel
theorem dX12_phase_63 : decode cX12_phase 63 = .ok (.getfield 7, 3) := by decide +kernel
theorem dX12_phase_66 : decode cX12_phase 66 = .ok (.iload_n 1, 1) := by decide +kernel
theorem dX12_phase_67 : decode cX12_phase 67 = .ok (.bipush 99, 2) := by decide +kernel
theorem dX12_phase_69 : decode cX12_phase 69 = .ok (.iload_n 2, 1) := by decide +kernel
theorem dX12_phase_70 : decode cX12_phase 70 = .ok (.iadd, 1) := by decide +kernel
theorem dX12_phase_71 : decode cX12_phase 71 = .ok (.invokestatic 38, 3) := by decide +kernel
theorem dX12_phase_74 : decode cX12_phase 74 = .ok (.iaload, 1) := by decide +kernel
theorem dX12_phase_75 : decode cX12_phase 75 = .ok (.ireturn, 1) := by decide +kernel
theorem dX12_phase_76 : decode cX12_phase 76 = .ok (.aload_n 0, 1) := by decide +kernel
theorem dX12_phase_77 : decode cX12_phase 77 = .ok (.getfield 7, 3) := by decide +kernel
theorem dX12_phase_80 : decode cX12_phase 80 = .ok (.iload_n 1, 1) := by decide +kernel
theorem dX12_phase_81 : decode cX12_phase 81 = .ok (.bipush 114, 2) := by decide +kernel
theorem dX12_phase_83 : decode cX12_phase 83 = .ok (.iload_n 2, 1) := by decide +kernel
theorem dX12_phase_84 : decode cX12_phase 84 = .ok (.iadd, 1) := by decide +kernel
theorem dX12_phase_85 : decode cX12_phase 85 = .ok (.invokestatic 38, 3) := by decide +kernel
theorem dX12_phase_88 : decode cX12_phase 88 = .ok (.iaload, 1) := by decide +kernel
theorem dX12_phase_89 : decode cX12_phase 89 = .ok (.ireturn, 1) := by decide +kernel
theorem dX12_phase_90 : decode cX12_phase 90 = .ok (.aload_n 0, 1) := by decide +kernel
theorem dX12_phase_91 : decode cX12_phase 91 = .ok (.iload_n 1, 1) := by decide +kernel
theorem dX12_phase_92 : decode cX12_phase 92 = .ok (.iload_n 2, 1) := by decide +kernel
theorem dX12_phase_93 : decode cX12_phase 93 = .ok (.invokevirtual 168, 3) := by decide +kernel
theorem dX12_phase_96 : decode cX12_phase 96 = .ok (.ireturn, 1) := by decide +kernel
end
section
theorem dX12_phase_97 : decode cX12_phase 97 = .ok (.aload_n 0, 1) := by decide +kernel
theorem dX12_phase_98 : decode cX12_phase 98 = .ok (.iload_n 1, 1) := by decide +kernel
theorem dX12_phase_99 : decode cX12_phase 99 = .ok (.bipush 12, 2) := by decide +kernel
theorem dX12_phase_101 : decode cX12_phase 101 = .ok (.iload_n 2, 1) := by decide +kernel
theorem dX12_phase_102 : decode cX12_phase 102 = .ok (.iadd, 1) := by decide +kernel
theorem dX12_phase_103 : decode cX12_phase 103 = .ok (.invokevirtual 87, 3) := by decide +kernel
theorem dX12_phase_106 : decode cX12_phase 106 = .ok (.ireturn, 1) := by decide +kernel
theorem dX12_phase_107 : decode cX12_phase 107 = .ok (.bipush (-2), 2) := by decide +kernel
theorem dX12_phase_109 : decode cX12_phase 109 = .ok (.ireturn, 1) := by decide +kernel
theorem dX12_cue_0 : decode cX12_cue 0 = .ok (.iload_n 1, 1) := by decide +kernel
theorem dX12_cue_1 : decode cX12_cue 1 = .ok (.iload_n 2, 1) := by decide +kernel
theorem dX12_cue_2 : decode cX12_cue 2 = .ok (.invokestatic 93, 3) := by decide +kernel
theorem dX12_cue_5 : decode cX12_cue 5 = .ok (.ifCond .ne 5, 3) := by decide +kernel
theorem dX12_cue_8 : decode cX12_cue 8 = .ok (.iconst (-1), 1) := by decide +kernel
theorem dX12_cue_9 : decode cX12_cue 9 = .ok (.ireturn, 1) := by decide +kernel
theorem dX12_cue_10 : decode cX12_cue 10 = .ok (.aload_n 0, 1) := by decide +kernel
theorem dX12_cue_11 : decode cX12_cue 11 = .ok (.getfield 7, 3) := by decide +kernel
theorem dX12_cue_14 : decode cX12_cue 14 = .ok (.iload_n 1, 1) := by decide +kernel
theorem dX12_cue_15 : decode cX12_cue 15 = .ok (.iload_n 2, 1) := by decide +kernel
theorem dX12_cue_16 : decode cX12_cue 16 = .ok (.invokestatic 64, 3) := by decide +kernel
theorem dX12_cue_19 : decode cX12_cue 19 = .ok (.iaload, 1) := by decide +kernel
theorem dX12_cue_20 : decode cX12_cue 20 = .ok (.istore 4, 2) := by decide +kernel
theorem dX12_cue_22 : decode cX12_cue 22 = .ok (.iload_n 3, 1) := by decide +kernel
theorem dX12_cue_23 : decode cX12_cue 23 = .ok (.ifCond .ne 16, 3) := by decide +kernel
theorem dX12_cue_26 : decode cX12_cue 26 = .ok (.iload 4, 2) := by decide +kernel
theorem dX12_cue_28 : decode cX12_cue 28 = .ok (.ifCond .le 7, 3) := by decide +kernel
theorem dX12_cue_31 : decode cX12_cue 31 = .ok (.iconst 1, 1) := by decide +kernel
theorem dX12_cue_32 : decode cX12_cue 32 = .ok (.goto 35, 3) := by decide +kernel
theorem dX12_cue_35 : decode cX12_cue 35 = .ok (.iconst 0, 1) := by decide +kernel
theorem dX12_cue_36 : decode cX12_cue 36 = .ok (.goto 31, 3) := by decide +kernel
theorem dX12_cue_39 : decode cX12_cue 39 = .ok (.iload_n 3, 1) := by decide +kernel
theorem dX12_cue_40 : decode cX12_cue 40 = .ok (.iconst 1, 1) := by decide +kernel
theorem dX12_cue_41 : decode cX12_cue 41 = .ok (.if_icmp .ne 8, 3) := by decide +kernel
theorem dX12_cue_44 : decode cX12_cue 44 = .ok (.iload 4, 2) := by decide +kernel
theorem dX12_cue_46 : decode cX12_cue 46 = .ok (.goto 21, 3) := by decide +kernel
theorem dX12_cue_49 : decode cX12_cue 49 = .ok (.iload_n 3, 1) := by decide +kernel
theorem dX12_cue_50 : decode cX12_cue 50 = .ok (.iconst 2, 1) := by decide +kernel
theorem dX12_cue_51 : decode cX12_cue 51 = .ok (.if_icmp .ne 14, 3) := by decide +kernel
theorem dX12_cue_54 : decode cX12_cue 54 = .ok (.aload_n 0, 1) := by decide +kernel
theorem dX12_cue_55 : decode cX12_cue 55 = .ok (.iload_n 1, 1) := by decide +kernel
theorem dX12_cue_56 : decode cX12_cue 56 = .ok (.bipush 15, 2) := by decide +kernel
theorem dX12_cue_58 : decode cX12_cue 58 = .ok (.iload_n 2, 1) := by decide +kernel
theorem dX12_cue_59 : decode cX12_cue 59 = .ok (.invokevirtual 67, 3) := by decide +kernel
theorem dX12_cue_62 : decode cX12_cue 62 = .ok (.goto 5, 3) := by decide +kernel
theorem dX12_cue_65 : decode cX12_cue 65 = .ok (.bipush (-2), 2) := by decide +kernel
theorem dX12_cue_67 : decode cX12_cue 67 = .ok (.ireturn, 1) := by decide +kernel
theorem dX12_inCue_0 : decode cX12_inCue 0 = .ok (.iload_n 1, 1) := by decide +kernel
theorem dX12_inCue_1 : decode cX12_inCue 1 = .ok (.iload_n 2, 1) := by decide +kernel
theorem dX12_inCue_2 : decode cX12_inCue 2 = .ok (.invokestatic 93, 3) := by decide +kernel
theorem dX12_inCue_5 : decode cX12_inCue 5 = .ok (.ifCond .eq 12, 3) := by decide +kernel
theorem dX12_inCue_8 : decode cX12_inCue 8 = .ok (.aload_n 0, 1) := by decide +kernel
theorem dX12_inCue_9 : decode cX12_inCue 9 = .ok (.iload_n 1, 1) := by decide +kernel
theorem dX12_inCue_10 : decode cX12_inCue 10 = .ok (.iload_n 3, 1) := by decide +kernel
theorem dX12_inCue_11 : decode cX12_inCue 11 = .ok (.invokevirtual 83, 3) := by decide +kernel
theorem dX12_inCue_14 : decode cX12_inCue 14 = .ok (.ifCond .ne 5, 3) := by decide +kernel
theorem dX12_inCue_17 : decode cX12_inCue 17 = .ok (.iconst (-1), 1) := by decide +kernel
theorem dX12_inCue_18 : decode cX12_inCue 18 = .ok (.ireturn, 1) := by decide +kernel
theorem dX12_inCue_19 : decode cX12_inCue 19 = .ok (.aload_n 0, 1) := by decide +kernel
theorem dX12_inCue_20 : decode cX12_inCue 20 = .ok (.getfield 7, 3) := by decide +kernel
theorem dX12_inCue_23 : decode cX12_inCue 23 = .ok (.iload_n 1, 1) := by decide +kernel
theorem dX12_inCue_24 : decode cX12_inCue 24 = .ok (.iload_n 2, 1) := by decide +kernel
theorem dX12_inCue_25 : decode cX12_inCue 25 = .ok (.invokestatic 64, 3) := by decide +kernel
theorem dX12_inCue_28 : decode cX12_inCue 28 = .ok (.iaload, 1) := by decide +kernel
theorem dX12_inCue_29 : decode cX12_inCue 29 = .ok (.ifCond .ne 8, 3) := by decide +kernel
theorem dX12_inCue_32 : decode cX12_inCue 32 = .ok (.bipush (-6), 2) := by decide +kernel
theorem dX12_inCue_34 : decode cX12_inCue 34 = .ok (.goto 17, 3) := by decide +kernel
theorem dX12_inCue_37 : decode cX12_inCue 37 = .ok (.aload_n 0, 1) := by decide +kernel
theorem dX12_inCue_38 : decode cX12_inCue 38 = .ok (.getfield 7, 3) := by decide +kernel
theorem dX12_inCue_41 : decode cX12_inCue 41 = .ok (.iload_n 1, 1) := by decide +kernel
theorem dX12_inCue_42 : decode cX12_inCue 42 = .ok (.iload_n 2, 1) := by decide +kernel
theorem dX12_inCue_43 : decode cX12_inCue 43 = .ok (.invokestatic 64, 3) := by decide +kernel
theorem dX12_inCue_46 : decode cX12_inCue 46 = .ok (.iconst 1, 1) := by decide +kernel
theorem dX12_inCue_47 : decode cX12_inCue 47 = .ok (.iadd, 1) := by decide +kernel
theorem dX12_inCue_48 : decode cX12_inCue 48 = .ok (.iload_n 3, 1) := by decide +kernel
theorem dX12_inCue_49 : decode cX12_inCue 49 = .ok (.iadd, 1) := by decide +kernel
theorem dX12_inCue_50 : decode cX12_inCue 50 = .ok (.iaload, 1) := by decide +kernel
theorem dX12_inCue_51 : decode cX12_inCue 51 = .ok (.ireturn, 1) := by decide +kernel
theorem dX12_loadOf_0 : decode cX12_loadOf 0 = .ok (.aload_n 0, 1) := by decide +kernel
theorem dX12_loadOf_1 : decode cX12_loadOf 1 = .ok (.iload_n 1, 1) := by decide +kernel
theorem dX12_loadOf_2 : decode cX12_loadOf 2 = .ok (.bipush 12, 2) := by decide +kernel
theorem dX12_loadOf_4 : decode cX12_loadOf 4 = .ok (.invokevirtual 70, 3) := by decide +kernel
theorem dX12_loadOf_7 : decode cX12_loadOf 7 = .ok (.aload_n 0, 1) := by decide +kernel
theorem dX12_loadOf_8 : decode cX12_loadOf 8 = .ok (.iload_n 1, 1) := by decide +kernel
theorem dX12_loadOf_9 : decode cX12_loadOf 9 = .ok (.bipush 13, 2) := by decide +kernel
theorem dX12_loadOf_11 : decode cX12_loadOf 11 = .ok (.invokevirtual 70, 3) := by decide +kernel
theorem dX12_loadOf_14 : decode cX12_loadOf 14 = .ok (.iadd, 1) := by decide +kernel
theorem dX12_loadOf_15 : decode cX12_loadOf 15 = .ok (.aload_n 0, 1) := by decide +kernel
theorem dX12_loadOf_16 : decode cX12_loadOf 16 = .ok (.iload_n 1, 1) := by decide +kernel
theorem dX12_loadOf_17 : decode cX12_loadOf 17 = .ok (.bipush 14, 2) := by decide +kernel
theorem dX12_loadOf_19 : decode cX12_loadOf 19 = .ok (.invokevirtual 70, 3) := by decide +kernel
theorem dX12_loadOf_22 : decode cX12_loadOf 22 = .ok (.iadd, 1) := by decide +kernel
theorem dX12_loadOf_23 : decode cX12_loadOf 23 = .ok (.ireturn, 1) := by decide +kernel
theorem dX12_apart_0 : decode cX12_apart 0 = .ok (.aload_n 0, 1) := by decide +kernel
theorem dX12_apart_1 : decode cX12_apart 1 = .ok (.iload_n 1, 1) := by decide +kernel
theorem dX12_apart_2 : decode cX12_apart 2 = .ok (.bipush 12, 2) := by decide +kernel
theorem dX12_apart_4 : decode cX12_apart 4 = .ok (.invokevirtual 70, 3) := by decide +kernel
theorem dX12_apart_7 : decode cX12_apart 7 = .ok (.istore_n 2, 1) := by decide +kernel
theorem dX12_apart_8 : decode cX12_apart 8 = .ok (.iload_n 2, 1) := by decide +kernel
theorem dX12_apart_9 : decode cX12_apart 9 = .ok (.istore_n 3, 1) := by decide +kernel
theorem dX12_apart_10 : decode cX12_apart 10 = .ok (.iconst 1, 1) := by decide +kernel
theorem dX12_apart_11 : decode cX12_apart 11 = .ok (.istore 4, 2) := by decide +kernel
theorem dX12_apart_13 : decode cX12_apart 13 = .ok (.iload 4, 2) := by decide +kernel
theorem dX12_apart_15 : decode cX12_apart 15 = .ok (.iconst 3, 1) := by decide +kernel
theorem dX12_apart_16 : decode cX12_apart 16 = .ok (.if_icmp .ge 47, 3) := by decide +kernel
theorem dX12_apart_19 : decode cX12_apart 19 = .ok (.aload_n 0, 1) := by decide +kernel
theorem dX12_apart_20 : decode cX12_apart 20 = .ok (.iload_n 1, 1) := by decide +kernel
theorem dX12_apart_21 : decode cX12_apart 21 = .ok (.bipush 12, 2) := by decide +kernel
theorem dX12_apart_23 : decode cX12_apart 23 = .ok (.iload 4, 2) := by decide +kernel
theorem dX12_apart_25 : decode cX12_apart 25 = .ok (.iadd, 1) := by decide +kernel
theorem dX12_apart_26 : decode cX12_apart 26 = .ok (.invokevirtual 70, 3) := by decide +kernel
theorem dX12_apart_29 : decode cX12_apart 29 = .ok (.istore 5, 2) := by decide +kernel
theorem dX12_apart_31 : decode cX12_apart 31 = .ok (.iload 5, 2) := by decide +kernel
theorem dX12_apart_33 : decode cX12_apart 33 = .ok (.iload_n 2, 1) := by decide +kernel
theorem dX12_apart_34 : decode cX12_apart 34 = .ok (.if_icmp .ge 8, 3) := by decide +kernel
theorem dX12_apart_37 : decode cX12_apart 37 = .ok (.iload 5, 2) := by decide +kernel
theorem dX12_apart_39 : decode cX12_apart 39 = .ok (.goto 4, 3) := by decide +kernel
theorem dX12_apart_42 : decode cX12_apart 42 = .ok (.iload_n 2, 1) := by decide +kernel
theorem dX12_apart_43 : decode cX12_apart 43 = .ok (.istore_n 2, 1) := by decide +kernel
theorem dX12_apart_44 : decode cX12_apart 44 = .ok (.iload 5, 2) := by decide +kernel
theorem dX12_apart_46 : decode cX12_apart 46 = .ok (.iload_n 3, 1) := by decide +kernel
theorem dX12_apart_47 : decode cX12_apart 47 = .ok (.if_icmp .le 8, 3) := by decide +kernel
theorem dX12_apart_50 : decode cX12_apart 50 = .ok (.iload 5, 2) := by decide +kernel
theorem dX12_apart_52 : decode cX12_apart 52 = .ok (.goto 4, 3) := by decide +kernel
theorem dX12_apart_55 : decode cX12_apart 55 = .ok (.iload_n 3, 1) := by decide +kernel
theorem dX12_apart_56 : decode cX12_apart 56 = .ok (.istore_n 3, 1) := by decide +kernel
theorem dX12_apart_57 : decode cX12_apart 57 = .ok (.iinc 4 1, 3) := by decide +kernel
theorem dX12_apart_60 : decode cX12_apart 60 = .ok (.goto (-47), 3) := by decide +kernel
theorem dX12_apart_63 : decode cX12_apart 63 = .ok (.iload_n 3, 1) := by decide +kernel
theorem dX12_apart_64 : decode cX12_apart 64 = .ok (.iload_n 2, 1) := by decide +kernel
theorem dX12_apart_65 : decode cX12_apart 65 = .ok (.isub, 1) := by decide +kernel
theorem dX12_apart_66 : decode cX12_apart 66 = .ok (.ireturn, 1) := by decide +kernel
theorem dX12_tripped_0 : decode cX12_tripped 0 = .ok (.iconst 0, 1) := by decide +kernel
theorem dX12_tripped_1 : decode cX12_tripped 1 = .ok (.istore 4, 2) := by decide +kernel
theorem dX12_tripped_3 : decode cX12_tripped 3 = .ok (.iconst 0, 1) := by decide +kernel
theorem dX12_tripped_4 : decode cX12_tripped 4 = .ok (.istore 5, 2) := by decide +kernel
theorem dX12_tripped_6 : decode cX12_tripped 6 = .ok (.iload 5, 2) := by decide +kernel
theorem dX12_tripped_8 : decode cX12_tripped 8 = .ok (.iload_n 3, 1) := by decide +kernel
theorem dX12_tripped_9 : decode cX12_tripped 9 = .ok (.if_icmp .ge 33, 3) := by decide +kernel
theorem dX12_tripped_12 : decode cX12_tripped 12 = .ok (.iload 4, 2) := by decide +kernel
theorem dX12_tripped_14 : decode cX12_tripped 14 = .ok (.aload_n 0, 1) := by decide +kernel
theorem dX12_tripped_15 : decode cX12_tripped 15 = .ok (.getfield 7, 3) := by decide +kernel
theorem dX12_tripped_18 : decode cX12_tripped 18 = .ok (.iload_n 1, 1) := by decide +kernel
theorem dX12_tripped_19 : decode cX12_tripped 19 = .ok (.bipush 87, 2) := by decide +kernel
theorem dX12_tripped_21 : decode cX12_tripped 21 = .ok (.iload_n 2, 1) := by decide +kernel
theorem dX12_tripped_22 : decode cX12_tripped 22 = .ok (.iadd, 1) := by decide +kernel
theorem dX12_tripped_23 : decode cX12_tripped 23 = .ok (.iload 5, 2) := by decide +kernel
theorem dX12_tripped_25 : decode cX12_tripped 25 = .ok (.iadd, 1) := by decide +kernel
theorem dX12_tripped_26 : decode cX12_tripped 26 = .ok (.invokestatic 38, 3) := by decide +kernel
theorem dX12_tripped_29 : decode cX12_tripped 29 = .ok (.iaload, 1) := by decide +kernel
theorem dX12_tripped_30 : decode cX12_tripped 30 = .ok (.iload 5, 2) := by decide +kernel
theorem dX12_tripped_32 : decode cX12_tripped 32 = .ok (.ishl, 1) := by decide +kernel
theorem dX12_tripped_33 : decode cX12_tripped 33 = .ok (.ior, 1) := by decide +kernel
theorem dX12_tripped_34 : decode cX12_tripped 34 = .ok (.istore 4, 2) := by decide +kernel
theorem dX12_tripped_36 : decode cX12_tripped 36 = .ok (.iinc 5 1, 3) := by decide +kernel
theorem dX12_tripped_39 : decode cX12_tripped 39 = .ok (.goto (-33), 3) := by decide +kernel
theorem dX12_tripped_42 : decode cX12_tripped 42 = .ok (.iload 4, 2) := by decide +kernel
theorem dX12_tripped_44 : decode cX12_tripped 44 = .ok (.ireturn, 1) := by decide +kernel
theorem dX12_recorded_0 : decode cX12_recorded 0 = .ok (.iconst 0, 1) := by decide +kernel
theorem dX12_recorded_1 : decode cX12_recorded 1 = .ok (.istore_n 2, 1) := by decide +kernel
theorem dX12_recorded_2 : decode cX12_recorded 2 = .ok (.iconst 0, 1) := by decide +kernel
theorem dX12_recorded_3 : decode cX12_recorded 3 = .ok (.istore_n 3, 1) := by decide +kernel
theorem dX12_recorded_4 : decode cX12_recorded 4 = .ok (.iload_n 3, 1) := by decide +kernel
theorem dX12_recorded_5 : decode cX12_recorded 5 = .ok (.bipush 8, 2) := by decide +kernel
theorem dX12_recorded_7 : decode cX12_recorded 7 = .ok (.if_icmp .ge 32, 3) := by decide +kernel
theorem dX12_recorded_10 : decode cX12_recorded 10 = .ok (.iload_n 2, 1) := by decide +kernel
theorem dX12_recorded_11 : decode cX12_recorded 11 = .ok (.aload_n 0, 1) := by decide +kernel
theorem dX12_recorded_12 : decode cX12_recorded 12 = .ok (.getfield 7, 3) := by decide +kernel
theorem dX12_recorded_15 : decode cX12_recorded 15 = .ok (.iload_n 1, 1) := by decide +kernel
theorem dX12_recorded_16 : decode cX12_recorded 16 = .ok (.iload_n 3, 1) := by decide +kernel
theorem dX12_recorded_17 : decode cX12_recorded 17 = .ok (.invokestatic 64, 3) := by decide +kernel
theorem dX12_recorded_20 : decode cX12_recorded 20 = .ok (.iaload, 1) := by decide +kernel
theorem dX12_recorded_21 : decode cX12_recorded 21 = .ok (.ifCond .le 9, 3) := by decide +kernel
theorem dX12_recorded_24 : decode cX12_recorded 24 = .ok (.iconst 1, 1) := by decide +kernel
theorem dX12_recorded_25 : decode cX12_recorded 25 = .ok (.iload_n 3, 1) := by decide +kernel
theorem dX12_recorded_26 : decode cX12_recorded 26 = .ok (.ishl, 1) := by decide +kernel
theorem dX12_recorded_27 : decode cX12_recorded 27 = .ok (.goto 4, 3) := by decide +kernel
theorem dX12_recorded_30 : decode cX12_recorded 30 = .ok (.iconst 0, 1) := by decide +kernel
theorem dX12_recorded_31 : decode cX12_recorded 31 = .ok (.ior, 1) := by decide +kernel
theorem dX12_recorded_32 : decode cX12_recorded 32 = .ok (.istore_n 2, 1) := by decide +kernel
theorem dX12_recorded_33 : decode cX12_recorded 33 = .ok (.iinc 3 1, 3) := by decide +kernel
theorem dX12_recorded_36 : decode cX12_recorded 36 = .ok (.goto (-32), 3) := by decide +kernel
theorem dX12_recorded_39 : decode cX12_recorded 39 = .ok (.iload_n 2, 1) := by decide +kernel
theorem dX12_recorded_40 : decode cX12_recorded 40 = .ok (.ireturn, 1) := by decide +kernel
theorem dX12_of_0 : decode cX12_of 0 = .ok (.iload_n 1, 1) := by decide +kernel
theorem dX12_of_1 : decode cX12_of 1 = .ok (.invokestatic 46, 3) := by decide +kernel
theorem dX12_of_4 : decode cX12_of 4 = .ok (.ifCond .ne 5, 3) := by decide +kernel
theorem dX12_of_7 : decode cX12_of 7 = .ok (.iconst (-1), 1) := by decide +kernel
theorem dX12_of_8 : decode cX12_of 8 = .ok (.ireturn, 1) := by decide +kernel
theorem dX12_of_9 : decode cX12_of 9 = .ok (.iload_n 2, 1) := by decide +kernel
theorem dX12_of_10 : decode cX12_of 10 = .ok (.tableswitch 142 0 8 #[50, 50, 50, 61, 67, 112, 118, 127, 136], 50) := by decide +kernel
theorem dX12_of_60 : decode cX12_of 60 = .ok (.aload_n 0, 1) := by decide +kernel
theorem dX12_of_61 : decode cX12_of 61 = .ok (.getfield 7, 3) := by decide +kernel
theorem dX12_of_64 : decode cX12_of 64 = .ok (.iload_n 1, 1) := by decide +kernel
theorem dX12_of_65 : decode cX12_of 65 = .ok (.iload_n 2, 1) := by decide +kernel
theorem dX12_of_66 : decode cX12_of 66 = .ok (.invokestatic 38, 3) := by decide +kernel
theorem dX12_of_69 : decode cX12_of 69 = .ok (.iaload, 1) := by decide +kernel
theorem dX12_of_70 : decode cX12_of 70 = .ok (.ireturn, 1) := by decide +kernel
theorem dX12_of_71 : decode cX12_of 71 = .ok (.aload_n 0, 1) := by decide +kernel
theorem dX12_of_72 : decode cX12_of 72 = .ok (.iload_n 1, 1) := by decide +kernel
theorem dX12_of_73 : decode cX12_of 73 = .ok (.invokevirtual 171, 3) := by decide +kernel
theorem dX12_of_76 : decode cX12_of 76 = .ok (.ireturn, 1) := by decide +kernel
theorem dX12_of_77 : decode cX12_of 77 = .ok (.aload_n 0, 1) := by decide +kernel
theorem dX12_of_78 : decode cX12_of 78 = .ok (.getfield 7, 3) := by decide +kernel
theorem dX12_of_81 : decode cX12_of 81 = .ok (.iload_n 1, 1) := by decide +kernel
theorem dX12_of_82 : decode cX12_of 82 = .ok (.sipush 221, 3) := by decide +kernel
theorem dX12_of_85 : decode cX12_of 85 = .ok (.invokestatic 38, 3) := by decide +kernel
theorem dX12_of_88 : decode cX12_of 88 = .ok (.iaload, 1) := by decide +kernel
theorem dX12_of_89 : decode cX12_of 89 = .ok (.ifCond .ne 7, 3) := by decide +kernel
theorem dX12_of_92 : decode cX12_of 92 = .ok (.iconst 0, 1) := by decide +kernel
theorem dX12_of_93 : decode cX12_of 93 = .ok (.goto 28, 3) := by decide +kernel
theorem dX12_of_96 : decode cX12_of 96 = .ok (.aload_n 0, 1) := by decide +kernel
theorem dX12_of_97 : decode cX12_of 97 = .ok (.getfield 7, 3) := by decide +kernel
theorem dX12_of_100 : decode cX12_of 100 = .ok (.iload_n 1, 1) := by decide +kernel
theorem dX12_of_101 : decode cX12_of 101 = .ok (.sipush 221, 3) := by decide +kernel
theorem dX12_of_104 : decode cX12_of 104 = .ok (.invokestatic 38, 3) := by decide +kernel
theorem dX12_of_107 : decode cX12_of 107 = .ok (.iaload, 1) := by decide +kernel
theorem dX12_of_108 : decode cX12_of 108 = .ok (.aload_n 0, 1) := by decide +kernel
theorem dX12_of_109 : decode cX12_of 109 = .ok (.getfield 7, 3) := by decide +kernel
theorem dX12_of_112 : decode cX12_of 112 = .ok (.iload_n 1, 1) := by decide +kernel
theorem dX12_of_113 : decode cX12_of 113 = .ok (.sipush 222, 3) := by decide +kernel
theorem dX12_of_116 : decode cX12_of 116 = .ok (.invokestatic 38, 3) := by decide +kernel
theorem dX12_of_119 : decode cX12_of 119 = .ok (.iaload, 1) := by decide +kernel
theorem dX12_of_120 : decode cX12_of 120 = .ok (.isub, 1) := by decide +kernel
theorem dX12_of_121 : decode cX12_of 121 = .ok (.ireturn, 1) := by decide +kernel
theorem dX12_of_122 : decode cX12_of 122 = .ok (.aload_n 0, 1) := by decide +kernel
theorem dX12_of_123 : decode cX12_of 123 = .ok (.iload_n 1, 1) := by decide +kernel
theorem dX12_of_124 : decode cX12_of 124 = .ok (.invokevirtual 174, 3) := by decide +kernel
theorem dX12_of_127 : decode cX12_of 127 = .ok (.ireturn, 1) := by decide +kernel
theorem dX12_of_128 : decode cX12_of 128 = .ok (.aload_n 0, 1) := by decide +kernel
theorem dX12_of_129 : decode cX12_of 129 = .ok (.iload_n 1, 1) := by decide +kernel
theorem dX12_of_130 : decode cX12_of 130 = .ok (.iconst 0, 1) := by decide +kernel
theorem dX12_of_131 : decode cX12_of 131 = .ok (.bipush 12, 2) := by decide +kernel
theorem dX12_of_133 : decode cX12_of 133 = .ok (.invokevirtual 177, 3) := by decide +kernel
theorem dX12_of_136 : decode cX12_of 136 = .ok (.ireturn, 1) := by decide +kernel
theorem dX12_of_137 : decode cX12_of 137 = .ok (.aload_n 0, 1) := by decide +kernel
theorem dX12_of_138 : decode cX12_of 138 = .ok (.iload_n 1, 1) := by decide +kernel
theorem dX12_of_139 : decode cX12_of 139 = .ok (.bipush 12, 2) := by decide +kernel
theorem dX12_of_141 : decode cX12_of 141 = .ok (.iconst 3, 1) := by decide +kernel
theorem dX12_of_142 : decode cX12_of 142 = .ok (.invokevirtual 177, 3) := by decide +kernel
theorem dX12_of_145 : decode cX12_of 145 = .ok (.ireturn, 1) := by decide +kernel
theorem dX12_of_146 : decode cX12_of 146 = .ok (.aload_n 0, 1) := by decide +kernel
theorem dX12_of_147 : decode cX12_of 147 = .ok (.iload_n 1, 1) := by decide +kernel
theorem dX12_of_148 : decode cX12_of 148 = .ok (.invokevirtual 180, 3) := by decide +kernel
theorem dX12_of_151 : decode cX12_of 151 = .ok (.ireturn, 1) := by decide +kernel
theorem dX12_of_152 : decode cX12_of 152 = .ok (.bipush (-2), 2) := by decide +kernel
theorem dX12_of_154 : decode cX12_of 154 = .ok (.ireturn, 1) := by decide +kernel
theorem dX12_needed_0 : decode cX12_needed 0 = .ok (.iconst 0, 1) := by decide +kernel
theorem dX12_needed_1 : decode cX12_needed 1 = .ok (.istore_n 3, 1) := by decide +kernel
theorem dX12_needed_2 : decode cX12_needed 2 = .ok (.iconst 0, 1) := by decide +kernel
theorem dX12_needed_3 : decode cX12_needed 3 = .ok (.istore 4, 2) := by decide +kernel
theorem dX12_needed_5 : decode cX12_needed 5 = .ok (.iload 4, 2) := by decide +kernel
theorem dX12_needed_7 : decode cX12_needed 7 = .ok (.iconst 3, 1) := by decide +kernel
theorem dX12_needed_8 : decode cX12_needed 8 = .ok (.if_icmp .ge 88, 3) := by decide +kernel
theorem dX12_needed_11 : decode cX12_needed 11 = .ok (.iconst 0, 1) := by decide +kernel
theorem dX12_needed_12 : decode cX12_needed 12 = .ok (.istore 5, 2) := by decide +kernel
theorem dX12_needed_14 : decode cX12_needed 14 = .ok (.iload 5, 2) := by decide +kernel
theorem dX12_needed_16 : decode cX12_needed 16 = .ok (.aload_n 0, 1) := by decide +kernel
theorem dX12_needed_17 : decode cX12_needed 17 = .ok (.getfield 7, 3) := by decide +kernel
theorem dX12_needed_20 : decode cX12_needed 20 = .ok (.iload 4, 2) := by decide +kernel
theorem dX12_needed_22 : decode cX12_needed 22 = .ok (.iconst 2, 1) := by decide +kernel
theorem dX12_needed_23 : decode cX12_needed 23 = .ok (.invokestatic 38, 3) := by decide +kernel
theorem dX12_needed_26 : decode cX12_needed 26 = .ok (.iaload, 1) := by decide +kernel
theorem dX12_needed_27 : decode cX12_needed 27 = .ok (.if_icmp .ge 63, 3) := by decide +kernel
theorem dX12_needed_30 : decode cX12_needed 30 = .ok (.iload_n 2, 1) := by decide +kernel
theorem dX12_needed_31 : decode cX12_needed 31 = .ok (.aload_n 0, 1) := by decide +kernel
theorem dX12_needed_32 : decode cX12_needed 32 = .ok (.getfield 7, 3) := by decide +kernel
theorem dX12_needed_35 : decode cX12_needed 35 = .ok (.iload 4, 2) := by decide +kernel
theorem dX12_needed_37 : decode cX12_needed 37 = .ok (.iconst 0, 1) := by decide +kernel
theorem dX12_needed_38 : decode cX12_needed 38 = .ok (.invokestatic 38, 3) := by decide +kernel
theorem dX12_needed_41 : decode cX12_needed 41 = .ok (.iaload, 1) := by decide +kernel
theorem dX12_needed_42 : decode cX12_needed 42 = .ok (.aload_n 0, 1) := by decide +kernel
theorem dX12_needed_43 : decode cX12_needed 43 = .ok (.getfield 7, 3) := by decide +kernel
theorem dX12_needed_46 : decode cX12_needed 46 = .ok (.iload 4, 2) := by decide +kernel
theorem dX12_needed_48 : decode cX12_needed 48 = .ok (.iconst 1, 1) := by decide +kernel
theorem dX12_needed_49 : decode cX12_needed 49 = .ok (.invokestatic 38, 3) := by decide +kernel
theorem dX12_needed_52 : decode cX12_needed 52 = .ok (.iaload, 1) := by decide +kernel
theorem dX12_needed_53 : decode cX12_needed 53 = .ok (.invokestatic 42, 3) := by decide +kernel
theorem dX12_needed_56 : decode cX12_needed 56 = .ok (.ifCond .eq 34, 3) := by decide +kernel
theorem dX12_needed_59 : decode cX12_needed 59 = .ok (.iload_n 3, 1) := by decide +kernel
theorem dX12_needed_60 : decode cX12_needed 60 = .ok (.aload_n 0, 1) := by decide +kernel
theorem dX12_needed_61 : decode cX12_needed 61 = .ok (.getfield 7, 3) := by decide +kernel
theorem dX12_needed_64 : decode cX12_needed 64 = .ok (.iload 4, 2) := by decide +kernel
theorem dX12_needed_66 : decode cX12_needed 66 = .ok (.iload 5, 2) := by decide +kernel
theorem dX12_needed_68 : decode cX12_needed 68 = .ok (.iconst 0, 1) := by decide +kernel
theorem dX12_needed_69 : decode cX12_needed 69 = .ok (.invokestatic 54, 3) := by decide +kernel
theorem dX12_needed_72 : decode cX12_needed 72 = .ok (.iaload, 1) := by decide +kernel
theorem dX12_needed_73 : decode cX12_needed 73 = .ok (.iload_n 1, 1) := by decide +kernel
theorem dX12_needed_74 : decode cX12_needed 74 = .ok (.if_icmp .ne 7, 3) := by decide +kernel
theorem dX12_needed_77 : decode cX12_needed 77 = .ok (.iconst 1, 1) := by decide +kernel
theorem dX12_needed_78 : decode cX12_needed 78 = .ok (.goto 4, 3) := by decide +kernel
theorem dX12_needed_81 : decode cX12_needed 81 = .ok (.iconst 0, 1) := by decide +kernel
theorem dX12_needed_82 : decode cX12_needed 82 = .ok (.iadd, 1) := by decide +kernel
theorem dX12_needed_83 : decode cX12_needed 83 = .ok (.istore_n 3, 1) := by decide +kernel
theorem dX12_needed_84 : decode cX12_needed 84 = .ok (.iinc 5 1, 3) := by decide +kernel
theorem dX12_needed_87 : decode cX12_needed 87 = .ok (.goto (-73), 3) := by decide +kernel
theorem dX12_needed_90 : decode cX12_needed 90 = .ok (.iinc 4 1, 3) := by decide +kernel
theorem dX12_needed_93 : decode cX12_needed 93 = .ok (.goto (-88), 3) := by decide +kernel
theorem dX12_needed_96 : decode cX12_needed 96 = .ok (.iload_n 3, 1) := by decide +kernel
theorem dX12_needed_97 : decode cX12_needed 97 = .ok (.ireturn, 1) := by decide +kernel
theorem dX12_hired_0 : decode cX12_hired 0 = .ok (.aload_n 0, 1) := by decide +kernel
theorem dX12_hired_1 : decode cX12_hired 1 = .ok (.iload_n 1, 1) := by decide +kernel
theorem dX12_hired_2 : decode cX12_hired 2 = .ok (.iload_n 2, 1) := by decide +kernel
theorem dX12_hired_3 : decode cX12_hired 3 = .ok (.invokevirtual 183, 3) := by decide +kernel
theorem dX12_hired_6 : decode cX12_hired 6 = .ok (.istore 4, 2) := by decide +kernel
theorem dX12_hired_8 : decode cX12_hired 8 = .ok (.aload_n 0, 1) := by decide +kernel
theorem dX12_hired_9 : decode cX12_hired 9 = .ok (.getfield 7, 3) := by decide +kernel
theorem dX12_hired_12 : decode cX12_hired 12 = .ok (.iconst 4, 1) := by decide +kernel
theorem dX12_hired_13 : decode cX12_hired 13 = .ok (.iconst 3, 1) := by decide +kernel
theorem dX12_hired_14 : decode cX12_hired 14 = .ok (.iload_n 1, 1) := by decide +kernel
theorem dX12_hired_15 : decode cX12_hired 15 = .ok (.imul, 1) := by decide +kernel
theorem dX12_hired_16 : decode cX12_hired 16 = .ok (.iadd, 1) := by decide +kernel
theorem dX12_hired_17 : decode cX12_hired 17 = .ok (.iconst 1, 1) := by decide +kernel
theorem dX12_hired_18 : decode cX12_hired 18 = .ok (.iadd, 1) := by decide +kernel
theorem dX12_hired_19 : decode cX12_hired 19 = .ok (.iaload, 1) := by decide +kernel
theorem dX12_hired_20 : decode cX12_hired 20 = .ok (.istore 5, 2) := by decide +kernel
theorem dX12_hired_22 : decode cX12_hired 22 = .ok (.iload 4, 2) := by decide +kernel
theorem dX12_hired_24 : decode cX12_hired 24 = .ok (.iload 5, 2) := by decide +kernel
theorem dX12_hired_26 : decode cX12_hired 26 = .ok (.if_icmp .le 11, 3) := by decide +kernel
theorem dX12_hired_29 : decode cX12_hired 29 = .ok (.iload 4, 2) := by decide +kernel
theorem dX12_hired_31 : decode cX12_hired 31 = .ok (.iload 5, 2) := by decide +kernel
theorem dX12_hired_33 : decode cX12_hired 33 = .ok (.isub, 1) := by decide +kernel
theorem dX12_hired_34 : decode cX12_hired 34 = .ok (.goto 4, 3) := by decide +kernel
theorem dX12_hired_37 : decode cX12_hired 37 = .ok (.iconst 0, 1) := by decide +kernel
theorem dX12_hired_38 : decode cX12_hired 38 = .ok (.istore 6, 2) := by decide +kernel
theorem dX12_hired_40 : decode cX12_hired 40 = .ok (.iload_n 3, 1) := by decide +kernel
theorem dX12_hired_41 : decode cX12_hired 41 = .ok (.ifCond .ne 8, 3) := by decide +kernel
theorem dX12_hired_44 : decode cX12_hired 44 = .ok (.iload 4, 2) := by decide +kernel
theorem dX12_hired_46 : decode cX12_hired 46 = .ok (.goto 31, 3) := by decide +kernel
theorem dX12_hired_49 : decode cX12_hired 49 = .ok (.iload_n 3, 1) := by decide +kernel
theorem dX12_hired_50 : decode cX12_hired 50 = .ok (.iconst 1, 1) := by decide +kernel
theorem dX12_hired_51 : decode cX12_hired 51 = .ok (.if_icmp .ne 8, 3) := by decide +kernel
theorem dX12_hired_54 : decode cX12_hired 54 = .ok (.iload 6, 2) := by decide +kernel
theorem dX12_hired_56 : decode cX12_hired 56 = .ok (.goto 21, 3) := by decide +kernel
theorem dX12_hired_59 : decode cX12_hired 59 = .ok (.aload_n 0, 1) := by decide +kernel
theorem dX12_hired_60 : decode cX12_hired 60 = .ok (.getfield 7, 3) := by decide +kernel
theorem dX12_hired_63 : decode cX12_hired 63 = .ok (.iconst 4, 1) := by decide +kernel
theorem dX12_hired_64 : decode cX12_hired 64 = .ok (.iconst 3, 1) := by decide +kernel
theorem dX12_hired_65 : decode cX12_hired 65 = .ok (.iload_n 1, 1) := by decide +kernel
theorem dX12_hired_66 : decode cX12_hired 66 = .ok (.imul, 1) := by decide +kernel
theorem dX12_hired_67 : decode cX12_hired 67 = .ok (.iadd, 1) := by decide +kernel
theorem dX12_hired_68 : decode cX12_hired 68 = .ok (.iconst 2, 1) := by decide +kernel
theorem dX12_hired_69 : decode cX12_hired 69 = .ok (.iadd, 1) := by decide +kernel
theorem dX12_hired_70 : decode cX12_hired 70 = .ok (.iaload, 1) := by decide +kernel
theorem dX12_hired_71 : decode cX12_hired 71 = .ok (.iload 4, 2) := by decide +kernel
theorem dX12_hired_73 : decode cX12_hired 73 = .ok (.iload 6, 2) := by decide +kernel
theorem dX12_hired_75 : decode cX12_hired 75 = .ok (.isub, 1) := by decide +kernel
theorem dX12_hired_76 : decode cX12_hired 76 = .ok (.imul, 1) := by decide +kernel
theorem dX12_hired_77 : decode cX12_hired 77 = .ok (.ireturn, 1) := by decide +kernel
theorem dX12_hire_0 : decode cX12_hire 0 = .ok (.iload_n 1, 1) := by decide +kernel
theorem dX12_hire_1 : decode cX12_hire 1 = .ok (.iconst 0, 1) := by decide +kernel
theorem dX12_hire_2 : decode cX12_hire 2 = .ok (.aload_n 0, 1) := by decide +kernel
theorem dX12_hire_3 : decode cX12_hire 3 = .ok (.getfield 7, 3) := by decide +kernel
theorem dX12_hire_6 : decode cX12_hire 6 = .ok (.iconst 3, 1) := by decide +kernel
theorem dX12_hire_7 : decode cX12_hire 7 = .ok (.iaload, 1) := by decide +kernel
theorem dX12_hire_8 : decode cX12_hire 8 = .ok (.iconst 1, 1) := by decide +kernel
theorem dX12_hire_9 : decode cX12_hire 9 = .ok (.isub, 1) := by decide +kernel
theorem dX12_hire_10 : decode cX12_hire 10 = .ok (.invokestatic 42, 3) := by decide +kernel
theorem dX12_hire_13 : decode cX12_hire 13 = .ok (.ifCond .ne 5, 3) := by decide +kernel
theorem dX12_hire_16 : decode cX12_hire 16 = .ok (.iconst (-1), 1) := by decide +kernel
theorem dX12_hire_17 : decode cX12_hire 17 = .ok (.ireturn, 1) := by decide +kernel
theorem dX12_hire_18 : decode cX12_hire 18 = .ok (.iload_n 2, 1) := by decide +kernel
theorem dX12_hire_19 : decode cX12_hire 19 = .ok (.iconst 0, 1) := by decide +kernel
theorem dX12_hire_20 : decode cX12_hire 20 = .ok (.bipush 6, 2) := by decide +kernel
theorem dX12_hire_22 : decode cX12_hire 22 = .ok (.invokestatic 42, 3) := by decide +kernel
theorem dX12_hire_25 : decode cX12_hire 25 = .ok (.ifCond .eq 22, 3) := by decide +kernel
theorem dX12_hire_28 : decode cX12_hire 28 = .ok (.iload_n 3, 1) := by decide +kernel
theorem dX12_hire_29 : decode cX12_hire 29 = .ok (.iconst 0, 1) := by decide +kernel
theorem dX12_hire_30 : decode cX12_hire 30 = .ok (.iconst 2, 1) := by decide +kernel
theorem dX12_hire_31 : decode cX12_hire 31 = .ok (.invokestatic 42, 3) := by decide +kernel
theorem dX12_hire_34 : decode cX12_hire 34 = .ok (.ifCond .eq 13, 3) := by decide +kernel
theorem dX12_hire_37 : decode cX12_hire 37 = .ok (.aload_n 0, 1) := by decide +kernel
theorem dX12_hire_38 : decode cX12_hire 38 = .ok (.iload_n 1, 1) := by decide +kernel
theorem dX12_hire_39 : decode cX12_hire 39 = .ok (.iload_n 2, 1) := by decide +kernel
theorem dX12_hire_40 : decode cX12_hire 40 = .ok (.iload_n 3, 1) := by decide +kernel
theorem dX12_hire_41 : decode cX12_hire 41 = .ok (.invokevirtual 186, 3) := by decide +kernel
theorem dX12_hire_44 : decode cX12_hire 44 = .ok (.goto 5, 3) := by decide +kernel
theorem dX12_hire_47 : decode cX12_hire 47 = .ok (.bipush (-2), 2) := by decide +kernel
theorem dX12_hire_49 : decode cX12_hire 49 = .ok (.ireturn, 1) := by decide +kernel
theorem dX12_sum_0 : decode cX12_sum 0 = .ok (.iconst 0, 1) := by decide +kernel
theorem dX12_sum_1 : decode cX12_sum 1 = .ok (.istore_n 2, 1) := by decide +kernel
theorem dX12_sum_2 : decode cX12_sum 2 = .ok (.iconst 0, 1) := by decide +kernel
theorem dX12_sum_3 : decode cX12_sum 3 = .ok (.istore_n 3, 1) := by decide +kernel
theorem dX12_sum_4 : decode cX12_sum 4 = .ok (.iload_n 3, 1) := by decide +kernel
theorem dX12_sum_5 : decode cX12_sum 5 = .ok (.bipush 7, 2) := by decide +kernel
theorem dX12_sum_7 : decode cX12_sum 7 = .ok (.aload_n 0, 1) := by decide +kernel
theorem dX12_sum_8 : decode cX12_sum 8 = .ok (.getfield 7, 3) := by decide +kernel
theorem dX12_sum_11 : decode cX12_sum 11 = .ok (.iconst 3, 1) := by decide +kernel
theorem dX12_sum_12 : decode cX12_sum 12 = .ok (.iaload, 1) := by decide +kernel
theorem dX12_sum_13 : decode cX12_sum 13 = .ok (.imul, 1) := by decide +kernel
theorem dX12_sum_14 : decode cX12_sum 14 = .ok (.if_icmp .ge 25, 3) := by decide +kernel
theorem dX12_sum_17 : decode cX12_sum 17 = .ok (.iload_n 2, 1) := by decide +kernel
theorem dX12_sum_18 : decode cX12_sum 18 = .ok (.aload_n 0, 1) := by decide +kernel
theorem dX12_sum_19 : decode cX12_sum 19 = .ok (.iload_n 3, 1) := by decide +kernel
theorem dX12_sum_20 : decode cX12_sum 20 = .ok (.bipush 7, 2) := by decide +kernel
theorem dX12_sum_22 : decode cX12_sum 22 = .ok (.idiv, 1) := by decide +kernel
theorem dX12_sum_23 : decode cX12_sum 23 = .ok (.iload_n 3, 1) := by decide +kernel
theorem dX12_sum_24 : decode cX12_sum 24 = .ok (.bipush 7, 2) := by decide +kernel
theorem dX12_sum_26 : decode cX12_sum 26 = .ok (.irem, 1) := by decide +kernel
theorem dX12_sum_27 : decode cX12_sum 27 = .ok (.iload_n 1, 1) := by decide +kernel
theorem dX12_sum_28 : decode cX12_sum 28 = .ok (.invokevirtual 186, 3) := by decide +kernel
theorem dX12_sum_31 : decode cX12_sum 31 = .ok (.iadd, 1) := by decide +kernel
theorem dX12_sum_32 : decode cX12_sum 32 = .ok (.istore_n 2, 1) := by decide +kernel
theorem dX12_sum_33 : decode cX12_sum 33 = .ok (.iinc 3 1, 3) := by decide +kernel
theorem dX12_sum_36 : decode cX12_sum 36 = .ok (.goto (-32), 3) := by decide +kernel
theorem dX12_sum_39 : decode cX12_sum 39 = .ok (.iload_n 2, 1) := by decide +kernel
theorem dX12_sum_40 : decode cX12_sum 40 = .ok (.ireturn, 1) := by decide +kernel
theorem dX12_fullest_0 : decode cX12_fullest 0 = .ok (.iconst 0, 1) := by decide +kernel
theorem dX12_fullest_1 : decode cX12_fullest 1 = .ok (.istore_n 1, 1) := by decide +kernel
theorem dX12_fullest_2 : decode cX12_fullest 2 = .ok (.iconst (-1), 1) := by decide +kernel
theorem dX12_fullest_3 : decode cX12_fullest 3 = .ok (.istore_n 2, 1) := by decide +kernel
theorem dX12_fullest_4 : decode cX12_fullest 4 = .ok (.iconst 0, 1) := by decide +kernel
theorem dX12_fullest_5 : decode cX12_fullest 5 = .ok (.istore_n 3, 1) := by decide +kernel
theorem dX12_fullest_6 : decode cX12_fullest 6 = .ok (.iload_n 3, 1) := by decide +kernel
theorem dX12_fullest_7 : decode cX12_fullest 7 = .ok (.bipush 7, 2) := by decide +kernel
theorem dX12_fullest_9 : decode cX12_fullest 9 = .ok (.if_icmp .ge 69, 3) := by decide +kernel
theorem dX12_fullest_12 : decode cX12_fullest 12 = .ok (.iconst 0, 1) := by decide +kernel
theorem dX12_fullest_13 : decode cX12_fullest 13 = .ok (.istore 4, 2) := by decide +kernel
theorem dX12_fullest_15 : decode cX12_fullest 15 = .ok (.iconst 0, 1) := by decide +kernel
theorem dX12_fullest_16 : decode cX12_fullest 16 = .ok (.istore 5, 2) := by decide +kernel
theorem dX12_fullest_18 : decode cX12_fullest 18 = .ok (.iload 5, 2) := by decide +kernel
theorem dX12_fullest_20 : decode cX12_fullest 20 = .ok (.aload_n 0, 1) := by decide +kernel
theorem dX12_fullest_21 : decode cX12_fullest 21 = .ok (.getfield 7, 3) := by decide +kernel
theorem dX12_fullest_24 : decode cX12_fullest 24 = .ok (.iconst 3, 1) := by decide +kernel
theorem dX12_fullest_25 : decode cX12_fullest 25 = .ok (.iaload, 1) := by decide +kernel
theorem dX12_fullest_26 : decode cX12_fullest 26 = .ok (.if_icmp .ge 21, 3) := by decide +kernel
theorem dX12_fullest_29 : decode cX12_fullest 29 = .ok (.iload 4, 2) := by decide +kernel
theorem dX12_fullest_31 : decode cX12_fullest 31 = .ok (.aload_n 0, 1) := by decide +kernel
theorem dX12_fullest_32 : decode cX12_fullest 32 = .ok (.iload 5, 2) := by decide +kernel
theorem dX12_fullest_34 : decode cX12_fullest 34 = .ok (.iload_n 3, 1) := by decide +kernel
theorem dX12_fullest_35 : decode cX12_fullest 35 = .ok (.invokevirtual 183, 3) := by decide +kernel
theorem dX12_fullest_38 : decode cX12_fullest 38 = .ok (.iadd, 1) := by decide +kernel
theorem dX12_fullest_39 : decode cX12_fullest 39 = .ok (.istore 4, 2) := by decide +kernel
theorem dX12_fullest_41 : decode cX12_fullest 41 = .ok (.iinc 5 1, 3) := by decide +kernel
theorem dX12_fullest_44 : decode cX12_fullest 44 = .ok (.goto (-26), 3) := by decide +kernel
theorem dX12_fullest_47 : decode cX12_fullest 47 = .ok (.iload 4, 2) := by decide +kernel
theorem dX12_fullest_49 : decode cX12_fullest 49 = .ok (.iload_n 2, 1) := by decide +kernel
theorem dX12_fullest_50 : decode cX12_fullest 50 = .ok (.if_icmp .le 7, 3) := by decide +kernel
theorem dX12_fullest_53 : decode cX12_fullest 53 = .ok (.iload_n 3, 1) := by decide +kernel
theorem dX12_fullest_54 : decode cX12_fullest 54 = .ok (.goto 4, 3) := by decide +kernel
theorem dX12_fullest_57 : decode cX12_fullest 57 = .ok (.iload_n 1, 1) := by decide +kernel
theorem dX12_fullest_58 : decode cX12_fullest 58 = .ok (.istore_n 1, 1) := by decide +kernel
theorem dX12_fullest_59 : decode cX12_fullest 59 = .ok (.iload 4, 2) := by decide +kernel
theorem dX12_fullest_61 : decode cX12_fullest 61 = .ok (.iload_n 2, 1) := by decide +kernel
theorem dX12_fullest_62 : decode cX12_fullest 62 = .ok (.if_icmp .le 8, 3) := by decide +kernel
theorem dX12_fullest_65 : decode cX12_fullest 65 = .ok (.iload 4, 2) := by decide +kernel
theorem dX12_fullest_67 : decode cX12_fullest 67 = .ok (.goto 4, 3) := by decide +kernel
theorem dX12_fullest_70 : decode cX12_fullest 70 = .ok (.iload_n 2, 1) := by decide +kernel
theorem dX12_fullest_71 : decode cX12_fullest 71 = .ok (.istore_n 2, 1) := by decide +kernel
theorem dX12_fullest_72 : decode cX12_fullest 72 = .ok (.iinc 3 1, 3) := by decide +kernel
theorem dX12_fullest_75 : decode cX12_fullest 75 = .ok (.goto (-69), 3) := by decide +kernel
theorem dX12_fullest_78 : decode cX12_fullest 78 = .ok (.iload_n 1, 1) := by decide +kernel
theorem dX12_fullest_79 : decode cX12_fullest 79 = .ok (.ireturn, 1) := by decide +kernel
theorem dX12_count_0 : decode cX12_count 0 = .ok (.iload_n 1, 1) := by decide +kernel
theorem dX12_count_1 : decode cX12_count 1 = .ok (.tableswitch 96 0 8 #[51, 58, 64, 70, 75, 75, 75, 86, 91], 51) := by decide +kernel
theorem dX12_count_52 : decode cX12_count 52 = .ok (.aload_n 0, 1) := by decide +kernel
theorem dX12_count_53 : decode cX12_count 53 = .ok (.getfield 7, 3) := by decide +kernel
theorem dX12_count_56 : decode cX12_count 56 = .ok (.iconst 3, 1) := by decide +kernel
theorem dX12_count_57 : decode cX12_count 57 = .ok (.iaload, 1) := by decide +kernel
theorem dX12_count_58 : decode cX12_count 58 = .ok (.ireturn, 1) := by decide +kernel
theorem dX12_count_59 : decode cX12_count 59 = .ok (.aload_n 0, 1) := by decide +kernel
theorem dX12_count_60 : decode cX12_count 60 = .ok (.iconst 2, 1) := by decide +kernel
theorem dX12_count_61 : decode cX12_count 61 = .ok (.invokevirtual 189, 3) := by decide +kernel
theorem dX12_count_64 : decode cX12_count 64 = .ok (.ireturn, 1) := by decide +kernel
theorem dX12_count_65 : decode cX12_count 65 = .ok (.aload_n 0, 1) := by decide +kernel
theorem dX12_count_66 : decode cX12_count 66 = .ok (.iconst 1, 1) := by decide +kernel
theorem dX12_count_67 : decode cX12_count 67 = .ok (.invokevirtual 189, 3) := by decide +kernel
theorem dX12_count_70 : decode cX12_count 70 = .ok (.ireturn, 1) := by decide +kernel
theorem dX12_count_71 : decode cX12_count 71 = .ok (.aload_n 0, 1) := by decide +kernel
theorem dX12_count_72 : decode cX12_count 72 = .ok (.invokevirtual 192, 3) := by decide +kernel
theorem dX12_count_75 : decode cX12_count 75 = .ok (.ireturn, 1) := by decide +kernel
theorem dX12_count_76 : decode cX12_count 76 = .ok (.aload_n 0, 1) := by decide +kernel
theorem dX12_count_77 : decode cX12_count 77 = .ok (.getfield 7, 3) := by decide +kernel
theorem dX12_count_80 : decode cX12_count 80 = .ok (.iconst 0, 1) := by decide +kernel
theorem dX12_count_81 : decode cX12_count 81 = .ok (.iload_n 1, 1) := by decide +kernel
theorem dX12_count_82 : decode cX12_count 82 = .ok (.iadd, 1) := by decide +kernel
theorem dX12_count_83 : decode cX12_count 83 = .ok (.iconst 4, 1) := by decide +kernel
theorem dX12_count_84 : decode cX12_count 84 = .ok (.isub, 1) := by decide +kernel
theorem dX12_count_85 : decode cX12_count 85 = .ok (.iaload, 1) := by decide +kernel
theorem dX12_count_86 : decode cX12_count 86 = .ok (.ireturn, 1) := by decide +kernel
theorem dX12_count_87 : decode cX12_count 87 = .ok (.aload_n 0, 1) := by decide +kernel
theorem dX12_count_88 : decode cX12_count 88 = .ok (.getfield 118, 3) := by decide +kernel
theorem dX12_count_91 : decode cX12_count 91 = .ok (.ireturn, 1) := by decide +kernel
theorem dX12_count_92 : decode cX12_count 92 = .ok (.aload_n 0, 1) := by decide +kernel
theorem dX12_count_93 : decode cX12_count 93 = .ok (.getfield 50, 3) := by decide +kernel
theorem dX12_count_96 : decode cX12_count 96 = .ok (.ireturn, 1) := by decide +kernel
theorem dX12_count_97 : decode cX12_count 97 = .ok (.bipush (-2), 2) := by decide +kernel
theorem dX12_count_99 : decode cX12_count 99 = .ok (.ireturn, 1) := by decide +kernel
theorem dX12_tryOut_0 : decode cX12_tryOut 0 = .ok (.aload_n 0, 1) := by decide +kernel
theorem dX12_tryOut_1 : decode cX12_tryOut 1 = .ok (.invokevirtual 196, 3) := by decide +kernel
theorem dX12_tryOut_4 : decode cX12_tryOut 4 = .ok (.aload_n 0, 1) := by decide +kernel
theorem dX12_tryOut_5 : decode cX12_tryOut 5 = .ok (.iconst 0, 1) := by decide +kernel
theorem dX12_tryOut_6 : decode cX12_tryOut 6 = .ok (.putfield 199, 3) := by decide +kernel
theorem dX12_tryOut_9 : decode cX12_tryOut 9 = .ok (.aload_n 0, 1) := by decide +kernel
theorem dX12_tryOut_10 : decode cX12_tryOut 10 = .ok (.bipush (-6), 2) := by decide +kernel
theorem dX12_tryOut_12 : decode cX12_tryOut 12 = .ok (.putfield 202, 3) := by decide +kernel
theorem dX12_tryOut_15 : decode cX12_tryOut 15 = .ok (.aload_n 0, 1) := by decide +kernel
theorem dX12_tryOut_16 : decode cX12_tryOut 16 = .ok (.iconst 0, 1) := by decide +kernel
theorem dX12_tryOut_17 : decode cX12_tryOut 17 = .ok (.putfield 205, 3) := by decide +kernel
theorem dX12_tryOut_20 : decode cX12_tryOut 20 = .ok (.aload_n 0, 1) := by decide +kernel
theorem dX12_tryOut_21 : decode cX12_tryOut 21 = .ok (.iconst 0, 1) := by decide +kernel
theorem dX12_tryOut_22 : decode cX12_tryOut 22 = .ok (.putfield 208, 3) := by decide +kernel
theorem dX12_tryOut_25 : decode cX12_tryOut 25 = .ok (.aload_n 0, 1) := by decide +kernel
theorem dX12_tryOut_26 : decode cX12_tryOut 26 = .ok (.iload_n 1, 1) := by decide +kernel
theorem dX12_tryOut_27 : decode cX12_tryOut 27 = .ok (.iload_n 2, 1) := by decide +kernel
theorem dX12_tryOut_28 : decode cX12_tryOut 28 = .ok (.iload_n 3, 1) := by decide +kernel
theorem dX12_tryOut_29 : decode cX12_tryOut 29 = .ok (.invokevirtual 105, 3) := by decide +kernel
theorem dX12_tryOut_32 : decode cX12_tryOut 32 = .ok (.iconst 1, 1) := by decide +kernel
theorem dX12_tryOut_33 : decode cX12_tryOut 33 = .ok (.istore 4, 2) := by decide +kernel
theorem dX12_tryOut_35 : decode cX12_tryOut 35 = .ok (.iload 4, 2) := by decide +kernel
theorem dX12_tryOut_37 : decode cX12_tryOut 37 = .ok (.iload_n 3, 1) := by decide +kernel
theorem dX12_tryOut_38 : decode cX12_tryOut 38 = .ok (.aload_n 0, 1) := by decide +kernel
theorem dX12_tryOut_39 : decode cX12_tryOut 39 = .ok (.getfield 7, 3) := by decide +kernel
theorem dX12_tryOut_42 : decode cX12_tryOut 42 = .ok (.iconst 2, 1) := by decide +kernel
theorem dX12_tryOut_43 : decode cX12_tryOut 43 = .ok (.iaload, 1) := by decide +kernel
theorem dX12_tryOut_44 : decode cX12_tryOut 44 = .ok (.iadd, 1) := by decide +kernel
theorem dX12_tryOut_45 : decode cX12_tryOut 45 = .ok (.if_icmp .gt 135, 3) := by decide +kernel
theorem dX12_tryOut_48 : decode cX12_tryOut 48 = .ok (.aload_n 0, 1) := by decide +kernel
theorem dX12_tryOut_49 : decode cX12_tryOut 49 = .ok (.iload_n 1, 1) := by decide +kernel
theorem dX12_tryOut_50 : decode cX12_tryOut 50 = .ok (.invokevirtual 113, 3) := by decide +kernel
theorem dX12_tryOut_53 : decode cX12_tryOut 53 = .ok (.istore 5, 2) := by decide +kernel
theorem dX12_tryOut_55 : decode cX12_tryOut 55 = .ok (.aload_n 0, 1) := by decide +kernel
theorem dX12_tryOut_56 : decode cX12_tryOut 56 = .ok (.iload 5, 2) := by decide +kernel
theorem dX12_tryOut_58 : decode cX12_tryOut 58 = .ok (.ifCond .le 15, 3) := by decide +kernel
theorem dX12_tryOut_61 : decode cX12_tryOut 61 = .ok (.aload_n 0, 1) := by decide +kernel
theorem dX12_tryOut_62 : decode cX12_tryOut 62 = .ok (.getfield 199, 3) := by decide +kernel
theorem dX12_tryOut_65 : decode cX12_tryOut 65 = .ok (.ifCond .ne 8, 3) := by decide +kernel
theorem dX12_tryOut_68 : decode cX12_tryOut 68 = .ok (.iload 4, 2) := by decide +kernel
theorem dX12_tryOut_70 : decode cX12_tryOut 70 = .ok (.goto 7, 3) := by decide +kernel
theorem dX12_tryOut_73 : decode cX12_tryOut 73 = .ok (.aload_n 0, 1) := by decide +kernel
theorem dX12_tryOut_74 : decode cX12_tryOut 74 = .ok (.getfield 202, 3) := by decide +kernel
theorem dX12_tryOut_77 : decode cX12_tryOut 77 = .ok (.putfield 202, 3) := by decide +kernel
theorem dX12_tryOut_80 : decode cX12_tryOut 80 = .ok (.aload_n 0, 1) := by decide +kernel
theorem dX12_tryOut_81 : decode cX12_tryOut 81 = .ok (.dup, 1) := by decide +kernel
theorem dX12_tryOut_82 : decode cX12_tryOut 82 = .ok (.getfield 199, 3) := by decide +kernel
theorem dX12_tryOut_85 : decode cX12_tryOut 85 = .ok (.iload 5, 2) := by decide +kernel
theorem dX12_tryOut_87 : decode cX12_tryOut 87 = .ok (.iadd, 1) := by decide +kernel
theorem dX12_tryOut_88 : decode cX12_tryOut 88 = .ok (.putfield 199, 3) := by decide +kernel
theorem dX12_tryOut_91 : decode cX12_tryOut 91 = .ok (.iconst 0, 1) := by decide +kernel
theorem dX12_tryOut_92 : decode cX12_tryOut 92 = .ok (.istore 6, 2) := by decide +kernel
theorem dX12_tryOut_94 : decode cX12_tryOut 94 = .ok (.iload 6, 2) := by decide +kernel
theorem dX12_tryOut_96 : decode cX12_tryOut 96 = .ok (.bipush 15, 2) := by decide +kernel
theorem dX12_tryOut_98 : decode cX12_tryOut 98 = .ok (.if_icmp .ge 76, 3) := by decide +kernel
theorem dX12_tryOut_101 : decode cX12_tryOut 101 = .ok (.aload_n 0, 1) := by decide +kernel
theorem dX12_tryOut_102 : decode cX12_tryOut 102 = .ok (.iload_n 1, 1) := by decide +kernel
theorem dX12_tryOut_103 : decode cX12_tryOut 103 = .ok (.iload 6, 2) := by decide +kernel
theorem dX12_tryOut_105 : decode cX12_tryOut 105 = .ok (.invokevirtual 70, 3) := by decide +kernel
theorem dX12_tryOut_108 : decode cX12_tryOut 108 = .ok (.istore 7, 2) := by decide +kernel
theorem dX12_tryOut_110 : decode cX12_tryOut 110 = .ok (.aload_n 0, 1) := by decide +kernel
theorem dX12_tryOut_111 : decode cX12_tryOut 111 = .ok (.iload 6, 2) := by decide +kernel
theorem dX12_tryOut_113 : decode cX12_tryOut 113 = .ok (.bipush 12, 2) := by decide +kernel
theorem dX12_tryOut_115 : decode cX12_tryOut 115 = .ok (.if_icmp .ge 17, 3) := by decide +kernel
theorem dX12_tryOut_118 : decode cX12_tryOut 118 = .ok (.iload 7, 2) := by decide +kernel
theorem dX12_tryOut_120 : decode cX12_tryOut 120 = .ok (.aload_n 0, 1) := by decide +kernel
theorem dX12_tryOut_121 : decode cX12_tryOut 121 = .ok (.getfield 205, 3) := by decide +kernel
theorem dX12_tryOut_124 : decode cX12_tryOut 124 = .ok (.if_icmp .le 8, 3) := by decide +kernel
theorem dX12_tryOut_127 : decode cX12_tryOut 127 = .ok (.iload 7, 2) := by decide +kernel
theorem dX12_tryOut_129 : decode cX12_tryOut 129 = .ok (.goto 7, 3) := by decide +kernel
theorem dX12_tryOut_132 : decode cX12_tryOut 132 = .ok (.aload_n 0, 1) := by decide +kernel
theorem dX12_tryOut_133 : decode cX12_tryOut 133 = .ok (.getfield 205, 3) := by decide +kernel
theorem dX12_tryOut_136 : decode cX12_tryOut 136 = .ok (.putfield 205, 3) := by decide +kernel
theorem dX12_tryOut_139 : decode cX12_tryOut 139 = .ok (.aload_n 0, 1) := by decide +kernel
theorem dX12_tryOut_140 : decode cX12_tryOut 140 = .ok (.iload 6, 2) := by decide +kernel
theorem dX12_tryOut_142 : decode cX12_tryOut 142 = .ok (.bipush 12, 2) := by decide +kernel
theorem dX12_tryOut_144 : decode cX12_tryOut 144 = .ok (.if_icmp .lt 17, 3) := by decide +kernel
theorem dX12_tryOut_147 : decode cX12_tryOut 147 = .ok (.iload 7, 2) := by decide +kernel
theorem dX12_tryOut_149 : decode cX12_tryOut 149 = .ok (.aload_n 0, 1) := by decide +kernel
theorem dX12_tryOut_150 : decode cX12_tryOut 150 = .ok (.getfield 208, 3) := by decide +kernel
theorem dX12_tryOut_153 : decode cX12_tryOut 153 = .ok (.if_icmp .le 8, 3) := by decide +kernel
theorem dX12_tryOut_156 : decode cX12_tryOut 156 = .ok (.iload 7, 2) := by decide +kernel
theorem dX12_tryOut_158 : decode cX12_tryOut 158 = .ok (.goto 7, 3) := by decide +kernel
theorem dX12_tryOut_161 : decode cX12_tryOut 161 = .ok (.aload_n 0, 1) := by decide +kernel
theorem dX12_tryOut_162 : decode cX12_tryOut 162 = .ok (.getfield 208, 3) := by decide +kernel
theorem dX12_tryOut_165 : decode cX12_tryOut 165 = .ok (.putfield 208, 3) := by decide +kernel
theorem dX12_tryOut_168 : decode cX12_tryOut 168 = .ok (.iinc 6 1, 3) := by decide +kernel
theorem dX12_tryOut_171 : decode cX12_tryOut 171 = .ok (.goto (-77), 3) := by decide +kernel
theorem dX12_tryOut_174 : decode cX12_tryOut 174 = .ok (.iinc 4 1, 3) := by decide +kernel
theorem dX12_tryOut_177 : decode cX12_tryOut 177 = .ok (.goto (-142), 3) := by decide +kernel
theorem dX12_tryOut_180 : decode cX12_tryOut 180 = .ok (.aload_n 0, 1) := by decide +kernel
theorem dX12_tryOut_181 : decode cX12_tryOut 181 = .ok (.invokevirtual 211, 3) := by decide +kernel
theorem dX12_tryOut_184 : decode cX12_tryOut 184 = .ok (.return_, 1) := by decide +kernel
theorem dX12_ifGo_0 : decode cX12_ifGo 0 = .ok (.iload_n 1, 1) := by decide +kernel
theorem dX12_ifGo_1 : decode cX12_ifGo 1 = .ok (.iload_n 2, 1) := by decide +kernel
theorem dX12_ifGo_2 : decode cX12_ifGo 2 = .ok (.invokestatic 93, 3) := by decide +kernel
theorem dX12_ifGo_5 : decode cX12_ifGo 5 = .ok (.ifCond .ne 5, 3) := by decide +kernel
theorem dX12_ifGo_8 : decode cX12_ifGo 8 = .ok (.iconst (-1), 1) := by decide +kernel
theorem dX12_ifGo_9 : decode cX12_ifGo 9 = .ok (.ireturn, 1) := by decide +kernel
theorem dX12_ifGo_10 : decode cX12_ifGo 10 = .ok (.iload_n 3, 1) := by decide +kernel
theorem dX12_ifGo_11 : decode cX12_ifGo 11 = .ok (.iconst 0, 1) := by decide +kernel
theorem dX12_ifGo_12 : decode cX12_ifGo 12 = .ok (.iconst 3, 1) := by decide +kernel
theorem dX12_ifGo_13 : decode cX12_ifGo 13 = .ok (.invokestatic 42, 3) := by decide +kernel
theorem dX12_ifGo_16 : decode cX12_ifGo 16 = .ok (.ifCond .ne 6, 3) := by decide +kernel
theorem dX12_ifGo_19 : decode cX12_ifGo 19 = .ok (.bipush (-2), 2) := by decide +kernel
theorem dX12_ifGo_21 : decode cX12_ifGo 21 = .ok (.ireturn, 1) := by decide +kernel
theorem dX12_ifGo_22 : decode cX12_ifGo 22 = .ok (.aload_n 0, 1) := by decide +kernel
theorem dX12_ifGo_23 : decode cX12_ifGo 23 = .ok (.getfield 7, 3) := by decide +kernel
theorem dX12_ifGo_26 : decode cX12_ifGo 26 = .ok (.iload_n 1, 1) := by decide +kernel
theorem dX12_ifGo_27 : decode cX12_ifGo 27 = .ok (.iload_n 2, 1) := by decide +kernel
theorem dX12_ifGo_28 : decode cX12_ifGo 28 = .ok (.invokestatic 64, 3) := by decide +kernel
theorem dX12_ifGo_31 : decode cX12_ifGo 31 = .ok (.iaload, 1) := by decide +kernel
theorem dX12_ifGo_32 : decode cX12_ifGo 32 = .ok (.ifCond .ne 6, 3) := by decide +kernel
theorem dX12_ifGo_35 : decode cX12_ifGo 35 = .ok (.bipush (-5), 2) := by decide +kernel
theorem dX12_ifGo_37 : decode cX12_ifGo 37 = .ok (.ireturn, 1) := by decide +kernel
theorem dX12_ifGo_38 : decode cX12_ifGo 38 = .ok (.aload_n 0, 1) := by decide +kernel
theorem dX12_ifGo_39 : decode cX12_ifGo 39 = .ok (.iload_n 1, 1) := by decide +kernel
theorem dX12_ifGo_40 : decode cX12_ifGo 40 = .ok (.iload_n 2, 1) := by decide +kernel
theorem dX12_ifGo_41 : decode cX12_ifGo 41 = .ok (.aload_n 0, 1) := by decide +kernel
theorem dX12_ifGo_42 : decode cX12_ifGo 42 = .ok (.getfield 7, 3) := by decide +kernel
theorem dX12_ifGo_45 : decode cX12_ifGo 45 = .ok (.iload_n 1, 1) := by decide +kernel
theorem dX12_ifGo_46 : decode cX12_ifGo 46 = .ok (.iload_n 2, 1) := by decide +kernel
theorem dX12_ifGo_47 : decode cX12_ifGo 47 = .ok (.invokestatic 64, 3) := by decide +kernel
theorem dX12_ifGo_50 : decode cX12_ifGo 50 = .ok (.iaload, 1) := by decide +kernel
theorem dX12_ifGo_51 : decode cX12_ifGo 51 = .ok (.invokevirtual 214, 3) := by decide +kernel
theorem dX12_ifGo_54 : decode cX12_ifGo 54 = .ok (.iload_n 3, 1) := by decide +kernel
theorem dX12_ifGo_55 : decode cX12_ifGo 55 = .ok (.ifCond .ne 10, 3) := by decide +kernel
theorem dX12_ifGo_58 : decode cX12_ifGo 58 = .ok (.aload_n 0, 1) := by decide +kernel
theorem dX12_ifGo_59 : decode cX12_ifGo 59 = .ok (.getfield 199, 3) := by decide +kernel
theorem dX12_ifGo_62 : decode cX12_ifGo 62 = .ok (.goto 31, 3) := by decide +kernel
theorem dX12_ifGo_65 : decode cX12_ifGo 65 = .ok (.iload_n 3, 1) := by decide +kernel
theorem dX12_ifGo_66 : decode cX12_ifGo 66 = .ok (.iconst 1, 1) := by decide +kernel
theorem dX12_ifGo_67 : decode cX12_ifGo 67 = .ok (.if_icmp .ne 10, 3) := by decide +kernel
theorem dX12_ifGo_70 : decode cX12_ifGo 70 = .ok (.aload_n 0, 1) := by decide +kernel
theorem dX12_ifGo_71 : decode cX12_ifGo 71 = .ok (.getfield 202, 3) := by decide +kernel
theorem dX12_ifGo_74 : decode cX12_ifGo 74 = .ok (.goto 19, 3) := by decide +kernel
theorem dX12_ifGo_77 : decode cX12_ifGo 77 = .ok (.iload_n 3, 1) := by decide +kernel
theorem dX12_ifGo_78 : decode cX12_ifGo 78 = .ok (.iconst 2, 1) := by decide +kernel
theorem dX12_ifGo_79 : decode cX12_ifGo 79 = .ok (.if_icmp .ne 10, 3) := by decide +kernel
theorem dX12_ifGo_82 : decode cX12_ifGo 82 = .ok (.aload_n 0, 1) := by decide +kernel
theorem dX12_ifGo_83 : decode cX12_ifGo 83 = .ok (.getfield 205, 3) := by decide +kernel
theorem dX12_ifGo_86 : decode cX12_ifGo 86 = .ok (.goto 7, 3) := by decide +kernel
theorem dX12_ifGo_89 : decode cX12_ifGo 89 = .ok (.aload_n 0, 1) := by decide +kernel
theorem dX12_ifGo_90 : decode cX12_ifGo 90 = .ok (.getfield 208, 3) := by decide +kernel
theorem dX12_ifGo_93 : decode cX12_ifGo 93 = .ok (.ireturn, 1) := by decide +kernel
theorem dX12_safeTicks_0 : decode cX12_safeTicks 0 = .ok (.aload_n 0, 1) := by decide +kernel
theorem dX12_safeTicks_1 : decode cX12_safeTicks 1 = .ok (.iload_n 1, 1) := by decide +kernel
theorem dX12_safeTicks_2 : decode cX12_safeTicks 2 = .ok (.iload_n 2, 1) := by decide +kernel
theorem dX12_safeTicks_3 : decode cX12_safeTicks 3 = .ok (.invokevirtual 102, 3) := by decide +kernel
theorem dX12_safeTicks_6 : decode cX12_safeTicks 6 = .ok (.istore_n 3, 1) := by decide +kernel
theorem dX12_safeTicks_7 : decode cX12_safeTicks 7 = .ok (.iload_n 3, 1) := by decide +kernel
theorem dX12_safeTicks_8 : decode cX12_safeTicks 8 = .ok (.ifCond .ge 5, 3) := by decide +kernel
theorem dX12_safeTicks_11 : decode cX12_safeTicks 11 = .ok (.iload_n 3, 1) := by decide +kernel
theorem dX12_safeTicks_12 : decode cX12_safeTicks 12 = .ok (.ireturn, 1) := by decide +kernel
theorem dX12_safeTicks_13 : decode cX12_safeTicks 13 = .ok (.iconst 1, 1) := by decide +kernel
theorem dX12_safeTicks_14 : decode cX12_safeTicks 14 = .ok (.istore 4, 2) := by decide +kernel
theorem dX12_safeTicks_16 : decode cX12_safeTicks 16 = .ok (.iload 4, 2) := by decide +kernel
theorem dX12_safeTicks_18 : decode cX12_safeTicks 18 = .ok (.bipush 50, 2) := by decide +kernel
theorem dX12_safeTicks_20 : decode cX12_safeTicks 20 = .ok (.if_icmp .gt 27, 3) := by decide +kernel
theorem dX12_safeTicks_23 : decode cX12_safeTicks 23 = .ok (.aload_n 0, 1) := by decide +kernel
theorem dX12_safeTicks_24 : decode cX12_safeTicks 24 = .ok (.iload_n 1, 1) := by decide +kernel
theorem dX12_safeTicks_25 : decode cX12_safeTicks 25 = .ok (.iload_n 2, 1) := by decide +kernel
theorem dX12_safeTicks_26 : decode cX12_safeTicks 26 = .ok (.iload 4, 2) := by decide +kernel
theorem dX12_safeTicks_28 : decode cX12_safeTicks 28 = .ok (.invokevirtual 214, 3) := by decide +kernel
theorem dX12_safeTicks_31 : decode cX12_safeTicks 31 = .ok (.aload_n 0, 1) := by decide +kernel
theorem dX12_safeTicks_32 : decode cX12_safeTicks 32 = .ok (.getfield 199, 3) := by decide +kernel
theorem dX12_safeTicks_35 : decode cX12_safeTicks 35 = .ok (.ifCond .ne 6, 3) := by decide +kernel
theorem dX12_safeTicks_38 : decode cX12_safeTicks 38 = .ok (.iload 4, 2) := by decide +kernel
theorem dX12_safeTicks_40 : decode cX12_safeTicks 40 = .ok (.ireturn, 1) := by decide +kernel
theorem dX12_safeTicks_41 : decode cX12_safeTicks 41 = .ok (.iinc 4 1, 3) := by decide +kernel
theorem dX12_safeTicks_44 : decode cX12_safeTicks 44 = .ok (.goto (-28), 3) := by decide +kernel
theorem dX12_safeTicks_47 : decode cX12_safeTicks 47 = .ok (.bipush (-6), 2) := by decide +kernel
theorem dX12_safeTicks_49 : decode cX12_safeTicks 49 = .ok (.ireturn, 1) := by decide +kernel
theorem dX12_bestFeed_0 : decode cX12_bestFeed 0 = .ok (.iload_n 1, 1) := by decide +kernel
theorem dX12_bestFeed_1 : decode cX12_bestFeed 1 = .ok (.invokestatic 46, 3) := by decide +kernel
theorem dX12_bestFeed_4 : decode cX12_bestFeed 4 = .ok (.ifCond .eq 10, 3) := by decide +kernel
theorem dX12_bestFeed_7 : decode cX12_bestFeed 7 = .ok (.iload_n 2, 1) := by decide +kernel
theorem dX12_bestFeed_8 : decode cX12_bestFeed 8 = .ok (.invokestatic 80, 3) := by decide +kernel
theorem dX12_bestFeed_11 : decode cX12_bestFeed 11 = .ok (.ifCond .ne 5, 3) := by decide +kernel
theorem dX12_bestFeed_14 : decode cX12_bestFeed 14 = .ok (.iconst (-1), 1) := by decide +kernel
theorem dX12_bestFeed_15 : decode cX12_bestFeed 15 = .ok (.ireturn, 1) := by decide +kernel
theorem dX12_bestFeed_16 : decode cX12_bestFeed 16 = .ok (.aload_n 0, 1) := by decide +kernel
theorem dX12_bestFeed_17 : decode cX12_bestFeed 17 = .ok (.getfield 7, 3) := by decide +kernel
theorem dX12_bestFeed_20 : decode cX12_bestFeed 20 = .ok (.iload_n 1, 1) := by decide +kernel
theorem dX12_bestFeed_21 : decode cX12_bestFeed 21 = .ok (.bipush 75, 2) := by decide +kernel
theorem dX12_bestFeed_23 : decode cX12_bestFeed 23 = .ok (.iload_n 2, 1) := by decide +kernel
theorem dX12_bestFeed_24 : decode cX12_bestFeed 24 = .ok (.iadd, 1) := by decide +kernel
theorem dX12_bestFeed_25 : decode cX12_bestFeed 25 = .ok (.invokestatic 38, 3) := by decide +kernel
theorem dX12_bestFeed_28 : decode cX12_bestFeed 28 = .ok (.iaload, 1) := by decide +kernel
theorem dX12_bestFeed_29 : decode cX12_bestFeed 29 = .ok (.istore_n 3, 1) := by decide +kernel
theorem dX12_bestFeed_30 : decode cX12_bestFeed 30 = .ok (.bipush (-6), 2) := by decide +kernel
theorem dX12_bestFeed_32 : decode cX12_bestFeed 32 = .ok (.istore 4, 2) := by decide +kernel
theorem dX12_bestFeed_34 : decode cX12_bestFeed 34 = .ok (.iconst 0, 1) := by decide +kernel
theorem dX12_bestFeed_35 : decode cX12_bestFeed 35 = .ok (.istore 5, 2) := by decide +kernel
theorem dX12_bestFeed_37 : decode cX12_bestFeed 37 = .ok (.iconst 0, 1) := by decide +kernel
theorem dX12_bestFeed_38 : decode cX12_bestFeed 38 = .ok (.istore 6, 2) := by decide +kernel
theorem dX12_bestFeed_40 : decode cX12_bestFeed 40 = .ok (.iload 6, 2) := by decide +kernel
theorem dX12_bestFeed_42 : decode cX12_bestFeed 42 = .ok (.iconst 3, 1) := by decide +kernel
theorem dX12_bestFeed_43 : decode cX12_bestFeed 43 = .ok (.if_icmp .ge 119, 3) := by decide +kernel
theorem dX12_bestFeed_46 : decode cX12_bestFeed 46 = .ok (.aload_n 0, 1) := by decide +kernel
theorem dX12_bestFeed_47 : decode cX12_bestFeed 47 = .ok (.getfield 7, 3) := by decide +kernel
theorem dX12_bestFeed_50 : decode cX12_bestFeed 50 = .ok (.iload_n 1, 1) := by decide +kernel
theorem dX12_bestFeed_51 : decode cX12_bestFeed 51 = .ok (.bipush 75, 2) := by decide +kernel
theorem dX12_bestFeed_53 : decode cX12_bestFeed 53 = .ok (.iload_n 2, 1) := by decide +kernel
theorem dX12_bestFeed_54 : decode cX12_bestFeed 54 = .ok (.iadd, 1) := by decide +kernel
theorem dX12_bestFeed_55 : decode cX12_bestFeed 55 = .ok (.invokestatic 38, 3) := by decide +kernel
theorem dX12_bestFeed_58 : decode cX12_bestFeed 58 = .ok (.iload 6, 2) := by decide +kernel
theorem dX12_bestFeed_60 : decode cX12_bestFeed 60 = .ok (.iastore, 1) := by decide +kernel
theorem dX12_bestFeed_61 : decode cX12_bestFeed 61 = .ok (.iconst 0, 1) := by decide +kernel
theorem dX12_bestFeed_62 : decode cX12_bestFeed 62 = .ok (.istore 7, 2) := by decide +kernel
theorem dX12_bestFeed_64 : decode cX12_bestFeed 64 = .ok (.iconst 0, 1) := by decide +kernel
theorem dX12_bestFeed_65 : decode cX12_bestFeed 65 = .ok (.istore 8, 2) := by decide +kernel
theorem dX12_bestFeed_67 : decode cX12_bestFeed 67 = .ok (.iload 8, 2) := by decide +kernel
theorem dX12_bestFeed_69 : decode cX12_bestFeed 69 = .ok (.iconst 3, 1) := by decide +kernel
theorem dX12_bestFeed_70 : decode cX12_bestFeed 70 = .ok (.if_icmp .ge 37, 3) := by decide +kernel
theorem dX12_bestFeed_73 : decode cX12_bestFeed 73 = .ok (.aload_n 0, 1) := by decide +kernel
theorem dX12_bestFeed_74 : decode cX12_bestFeed 74 = .ok (.iload_n 1, 1) := by decide +kernel
theorem dX12_bestFeed_75 : decode cX12_bestFeed 75 = .ok (.bipush 12, 2) := by decide +kernel
theorem dX12_bestFeed_77 : decode cX12_bestFeed 77 = .ok (.iload 8, 2) := by decide +kernel
theorem dX12_bestFeed_79 : decode cX12_bestFeed 79 = .ok (.iadd, 1) := by decide +kernel
theorem dX12_bestFeed_80 : decode cX12_bestFeed 80 = .ok (.invokevirtual 87, 3) := by decide +kernel
theorem dX12_bestFeed_83 : decode cX12_bestFeed 83 = .ok (.istore 9, 2) := by decide +kernel
theorem dX12_bestFeed_85 : decode cX12_bestFeed 85 = .ok (.iload 9, 2) := by decide +kernel
theorem dX12_bestFeed_87 : decode cX12_bestFeed 87 = .ok (.iload 7, 2) := by decide +kernel
theorem dX12_bestFeed_89 : decode cX12_bestFeed 89 = .ok (.if_icmp .le 8, 3) := by decide +kernel
theorem dX12_bestFeed_92 : decode cX12_bestFeed 92 = .ok (.iload 9, 2) := by decide +kernel
theorem dX12_bestFeed_94 : decode cX12_bestFeed 94 = .ok (.goto 5, 3) := by decide +kernel
theorem dX12_bestFeed_97 : decode cX12_bestFeed 97 = .ok (.iload 7, 2) := by decide +kernel
theorem dX12_bestFeed_99 : decode cX12_bestFeed 99 = .ok (.istore 7, 2) := by decide +kernel
theorem dX12_bestFeed_101 : decode cX12_bestFeed 101 = .ok (.iinc 8 1, 3) := by decide +kernel
theorem dX12_bestFeed_104 : decode cX12_bestFeed 104 = .ok (.goto (-37), 3) := by decide +kernel
theorem dX12_bestFeed_107 : decode cX12_bestFeed 107 = .ok (.iload 4, 2) := by decide +kernel
theorem dX12_bestFeed_109 : decode cX12_bestFeed 109 = .ok (.bipush (-6), 2) := by decide +kernel
theorem dX12_bestFeed_111 : decode cX12_bestFeed 111 = .ok (.if_icmp .eq 10, 3) := by decide +kernel
theorem dX12_bestFeed_114 : decode cX12_bestFeed 114 = .ok (.iload 7, 2) := by decide +kernel
theorem dX12_bestFeed_116 : decode cX12_bestFeed 116 = .ok (.iload 5, 2) := by decide +kernel
theorem dX12_bestFeed_118 : decode cX12_bestFeed 118 = .ok (.if_icmp .ge 7, 3) := by decide +kernel
theorem dX12_bestFeed_121 : decode cX12_bestFeed 121 = .ok (.iconst 1, 1) := by decide +kernel
theorem dX12_bestFeed_122 : decode cX12_bestFeed 122 = .ok (.goto 4, 3) := by decide +kernel
theorem dX12_bestFeed_125 : decode cX12_bestFeed 125 = .ok (.iconst 0, 1) := by decide +kernel
theorem dX12_bestFeed_126 : decode cX12_bestFeed 126 = .ok (.istore 8, 2) := by decide +kernel
theorem dX12_bestFeed_128 : decode cX12_bestFeed 128 = .ok (.iload 8, 2) := by decide +kernel
theorem dX12_bestFeed_130 : decode cX12_bestFeed 130 = .ok (.ifCond .eq 8, 3) := by decide +kernel
theorem dX12_bestFeed_133 : decode cX12_bestFeed 133 = .ok (.iload 6, 2) := by decide +kernel
theorem dX12_bestFeed_135 : decode cX12_bestFeed 135 = .ok (.goto 5, 3) := by decide +kernel
theorem dX12_bestFeed_138 : decode cX12_bestFeed 138 = .ok (.iload 4, 2) := by decide +kernel
theorem dX12_bestFeed_140 : decode cX12_bestFeed 140 = .ok (.istore 4, 2) := by decide +kernel
theorem dX12_bestFeed_142 : decode cX12_bestFeed 142 = .ok (.iload 8, 2) := by decide +kernel
theorem dX12_bestFeed_144 : decode cX12_bestFeed 144 = .ok (.ifCond .eq 8, 3) := by decide +kernel
theorem dX12_bestFeed_147 : decode cX12_bestFeed 147 = .ok (.iload 7, 2) := by decide +kernel
theorem dX12_bestFeed_149 : decode cX12_bestFeed 149 = .ok (.goto 5, 3) := by decide +kernel
theorem dX12_bestFeed_152 : decode cX12_bestFeed 152 = .ok (.iload 5, 2) := by decide +kernel
theorem dX12_bestFeed_154 : decode cX12_bestFeed 154 = .ok (.istore 5, 2) := by decide +kernel
theorem dX12_bestFeed_156 : decode cX12_bestFeed 156 = .ok (.iinc 6 1, 3) := by decide +kernel
theorem dX12_bestFeed_159 : decode cX12_bestFeed 159 = .ok (.goto (-119), 3) := by decide +kernel
theorem dX12_bestFeed_162 : decode cX12_bestFeed 162 = .ok (.aload_n 0, 1) := by decide +kernel
theorem dX12_bestFeed_163 : decode cX12_bestFeed 163 = .ok (.getfield 7, 3) := by decide +kernel
theorem dX12_bestFeed_166 : decode cX12_bestFeed 166 = .ok (.iload_n 1, 1) := by decide +kernel
theorem dX12_bestFeed_167 : decode cX12_bestFeed 167 = .ok (.bipush 75, 2) := by decide +kernel
theorem dX12_bestFeed_169 : decode cX12_bestFeed 169 = .ok (.iload_n 2, 1) := by decide +kernel
theorem dX12_bestFeed_170 : decode cX12_bestFeed 170 = .ok (.iadd, 1) := by decide +kernel
theorem dX12_bestFeed_171 : decode cX12_bestFeed 171 = .ok (.invokestatic 38, 3) := by decide +kernel
theorem dX12_bestFeed_174 : decode cX12_bestFeed 174 = .ok (.iload_n 3, 1) := by decide +kernel
theorem dX12_bestFeed_175 : decode cX12_bestFeed 175 = .ok (.iastore, 1) := by decide +kernel
theorem dX12_bestFeed_176 : decode cX12_bestFeed 176 = .ok (.iload 4, 2) := by decide +kernel
theorem dX12_bestFeed_178 : decode cX12_bestFeed 178 = .ok (.ireturn, 1) := by decide +kernel
theorem dX12_ifDays_0 : decode cX12_ifDays 0 = .ok (.iload_n 1, 1) := by decide +kernel
theorem dX12_ifDays_1 : decode cX12_ifDays 1 = .ok (.invokestatic 46, 3) := by decide +kernel
theorem dX12_ifDays_4 : decode cX12_ifDays 4 = .ok (.ifCond .ne 5, 3) := by decide +kernel
theorem dX12_ifDays_7 : decode cX12_ifDays 7 = .ok (.iconst (-1), 1) := by decide +kernel
theorem dX12_ifDays_8 : decode cX12_ifDays 8 = .ok (.ireturn, 1) := by decide +kernel
theorem dX12_ifDays_9 : decode cX12_ifDays 9 = .ok (.iload_n 2, 1) := by decide +kernel
theorem dX12_ifDays_10 : decode cX12_ifDays 10 = .ok (.iconst 0, 1) := by decide +kernel
theorem dX12_ifDays_11 : decode cX12_ifDays 11 = .ok (.bipush 6, 2) := by decide +kernel
theorem dX12_ifDays_13 : decode cX12_ifDays 13 = .ok (.invokestatic 42, 3) := by decide +kernel
theorem dX12_ifDays_16 : decode cX12_ifDays 16 = .ok (.ifCond .eq 13, 3) := by decide +kernel
theorem dX12_ifDays_19 : decode cX12_ifDays 19 = .ok (.iload_n 3, 1) := by decide +kernel
theorem dX12_ifDays_20 : decode cX12_ifDays 20 = .ok (.iload_n 2, 1) := by decide +kernel
theorem dX12_ifDays_21 : decode cX12_ifDays 21 = .ok (.bipush 6, 2) := by decide +kernel
theorem dX12_ifDays_23 : decode cX12_ifDays 23 = .ok (.invokestatic 42, 3) := by decide +kernel
theorem dX12_ifDays_26 : decode cX12_ifDays 26 = .ok (.ifCond .ne 6, 3) := by decide +kernel
theorem dX12_ifDays_29 : decode cX12_ifDays 29 = .ok (.bipush (-2), 2) := by decide +kernel
theorem dX12_ifDays_31 : decode cX12_ifDays 31 = .ok (.ireturn, 1) := by decide +kernel
theorem dX12_ifDays_32 : decode cX12_ifDays 32 = .ok (.aload_n 0, 1) := by decide +kernel
theorem dX12_ifDays_33 : decode cX12_ifDays 33 = .ok (.getfield 7, 3) := by decide +kernel
theorem dX12_ifDays_36 : decode cX12_ifDays 36 = .ok (.iload_n 1, 1) := by decide +kernel
theorem dX12_ifDays_37 : decode cX12_ifDays 37 = .ok (.iconst 0, 1) := by decide +kernel
theorem dX12_ifDays_38 : decode cX12_ifDays 38 = .ok (.invokestatic 38, 3) := by decide +kernel
theorem dX12_ifDays_41 : decode cX12_ifDays 41 = .ok (.iaload, 1) := by decide +kernel
theorem dX12_ifDays_42 : decode cX12_ifDays 42 = .ok (.istore 4, 2) := by decide +kernel
theorem dX12_ifDays_44 : decode cX12_ifDays 44 = .ok (.aload_n 0, 1) := by decide +kernel
theorem dX12_ifDays_45 : decode cX12_ifDays 45 = .ok (.getfield 7, 3) := by decide +kernel
theorem dX12_ifDays_48 : decode cX12_ifDays 48 = .ok (.iload_n 1, 1) := by decide +kernel
theorem dX12_ifDays_49 : decode cX12_ifDays 49 = .ok (.iconst 1, 1) := by decide +kernel
theorem dX12_ifDays_50 : decode cX12_ifDays 50 = .ok (.invokestatic 38, 3) := by decide +kernel
theorem dX12_ifDays_53 : decode cX12_ifDays 53 = .ok (.iaload, 1) := by decide +kernel
theorem dX12_ifDays_54 : decode cX12_ifDays 54 = .ok (.istore 5, 2) := by decide +kernel
theorem dX12_ifDays_56 : decode cX12_ifDays 56 = .ok (.aload_n 0, 1) := by decide +kernel
theorem dX12_ifDays_57 : decode cX12_ifDays 57 = .ok (.getfield 7, 3) := by decide +kernel
theorem dX12_ifDays_60 : decode cX12_ifDays 60 = .ok (.iload_n 1, 1) := by decide +kernel
theorem dX12_ifDays_61 : decode cX12_ifDays 61 = .ok (.iconst 0, 1) := by decide +kernel
theorem dX12_ifDays_62 : decode cX12_ifDays 62 = .ok (.invokestatic 38, 3) := by decide +kernel
theorem dX12_ifDays_65 : decode cX12_ifDays 65 = .ok (.iload_n 2, 1) := by decide +kernel
theorem dX12_ifDays_66 : decode cX12_ifDays 66 = .ok (.iastore, 1) := by decide +kernel
theorem dX12_ifDays_67 : decode cX12_ifDays 67 = .ok (.aload_n 0, 1) := by decide +kernel
theorem dX12_ifDays_68 : decode cX12_ifDays 68 = .ok (.getfield 7, 3) := by decide +kernel
theorem dX12_ifDays_71 : decode cX12_ifDays 71 = .ok (.iload_n 1, 1) := by decide +kernel
theorem dX12_ifDays_72 : decode cX12_ifDays 72 = .ok (.iconst 1, 1) := by decide +kernel
theorem dX12_ifDays_73 : decode cX12_ifDays 73 = .ok (.invokestatic 38, 3) := by decide +kernel
theorem dX12_ifDays_76 : decode cX12_ifDays 76 = .ok (.iload_n 3, 1) := by decide +kernel
theorem dX12_ifDays_77 : decode cX12_ifDays 77 = .ok (.iastore, 1) := by decide +kernel
theorem dX12_ifDays_78 : decode cX12_ifDays 78 = .ok (.aload_n 0, 1) := by decide +kernel
theorem dX12_ifDays_79 : decode cX12_ifDays 79 = .ok (.iconst 1, 1) := by decide +kernel
theorem dX12_ifDays_80 : decode cX12_ifDays 80 = .ok (.invokevirtual 189, 3) := by decide +kernel
theorem dX12_ifDays_83 : decode cX12_ifDays 83 = .ok (.istore 6, 2) := by decide +kernel
theorem dX12_ifDays_85 : decode cX12_ifDays 85 = .ok (.aload_n 0, 1) := by decide +kernel
theorem dX12_ifDays_86 : decode cX12_ifDays 86 = .ok (.getfield 7, 3) := by decide +kernel
theorem dX12_ifDays_89 : decode cX12_ifDays 89 = .ok (.iload_n 1, 1) := by decide +kernel
theorem dX12_ifDays_90 : decode cX12_ifDays 90 = .ok (.iconst 0, 1) := by decide +kernel
theorem dX12_ifDays_91 : decode cX12_ifDays 91 = .ok (.invokestatic 38, 3) := by decide +kernel
theorem dX12_ifDays_94 : decode cX12_ifDays 94 = .ok (.iload 4, 2) := by decide +kernel
theorem dX12_ifDays_96 : decode cX12_ifDays 96 = .ok (.iastore, 1) := by decide +kernel
theorem dX12_ifDays_97 : decode cX12_ifDays 97 = .ok (.aload_n 0, 1) := by decide +kernel
theorem dX12_ifDays_98 : decode cX12_ifDays 98 = .ok (.getfield 7, 3) := by decide +kernel
theorem dX12_ifDays_101 : decode cX12_ifDays 101 = .ok (.iload_n 1, 1) := by decide +kernel
theorem dX12_ifDays_102 : decode cX12_ifDays 102 = .ok (.iconst 1, 1) := by decide +kernel
theorem dX12_ifDays_103 : decode cX12_ifDays 103 = .ok (.invokestatic 38, 3) := by decide +kernel
theorem dX12_ifDays_106 : decode cX12_ifDays 106 = .ok (.iload 5, 2) := by decide +kernel
theorem dX12_ifDays_108 : decode cX12_ifDays 108 = .ok (.iastore, 1) := by decide +kernel
theorem dX12_ifDays_109 : decode cX12_ifDays 109 = .ok (.iload 6, 2) := by decide +kernel
theorem dX12_ifDays_111 : decode cX12_ifDays 111 = .ok (.ireturn, 1) := by decide +kernel
theorem dX12_lamps_0 : decode cX12_lamps 0 = .ok (.aload_n 0, 1) := by decide +kernel
theorem dX12_lamps_1 : decode cX12_lamps 1 = .ok (.getfield 7, 3) := by decide +kernel
theorem dX12_lamps_4 : decode cX12_lamps 4 = .ok (.iconst 0, 1) := by decide +kernel
theorem dX12_lamps_5 : decode cX12_lamps 5 = .ok (.iconst 2, 1) := by decide +kernel
theorem dX12_lamps_6 : decode cX12_lamps 6 = .ok (.invokestatic 38, 3) := by decide +kernel
theorem dX12_lamps_9 : decode cX12_lamps 9 = .ok (.iaload, 1) := by decide +kernel
theorem dX12_lamps_10 : decode cX12_lamps 10 = .ok (.aload_n 0, 1) := by decide +kernel
theorem dX12_lamps_11 : decode cX12_lamps 11 = .ok (.getfield 7, 3) := by decide +kernel
theorem dX12_lamps_14 : decode cX12_lamps 14 = .ok (.iconst 1, 1) := by decide +kernel
theorem dX12_lamps_15 : decode cX12_lamps 15 = .ok (.iconst 2, 1) := by decide +kernel
theorem dX12_lamps_16 : decode cX12_lamps 16 = .ok (.invokestatic 38, 3) := by decide +kernel
theorem dX12_lamps_19 : decode cX12_lamps 19 = .ok (.iaload, 1) := by decide +kernel
theorem dX12_lamps_20 : decode cX12_lamps 20 = .ok (.iadd, 1) := by decide +kernel
theorem dX12_lamps_21 : decode cX12_lamps 21 = .ok (.aload_n 0, 1) := by decide +kernel
theorem dX12_lamps_22 : decode cX12_lamps 22 = .ok (.getfield 7, 3) := by decide +kernel
theorem dX12_lamps_25 : decode cX12_lamps 25 = .ok (.iconst 2, 1) := by decide +kernel
theorem dX12_lamps_26 : decode cX12_lamps 26 = .ok (.iconst 2, 1) := by decide +kernel
theorem dX12_lamps_27 : decode cX12_lamps 27 = .ok (.invokestatic 38, 3) := by decide +kernel
theorem dX12_lamps_30 : decode cX12_lamps 30 = .ok (.iaload, 1) := by decide +kernel
theorem dX12_lamps_31 : decode cX12_lamps 31 = .ok (.iadd, 1) := by decide +kernel
theorem dX12_lamps_32 : decode cX12_lamps 32 = .ok (.ireturn, 1) := by decide +kernel
theorem dX12_undo_0 : decode cX12_undo 0 = .ok (.aload_n 0, 1) := by decide +kernel
theorem dX12_undo_1 : decode cX12_undo 1 = .ok (.getfield 50, 3) := by decide +kernel
theorem dX12_undo_4 : decode cX12_undo 4 = .ok (.ifCond .ne 6, 3) := by decide +kernel
theorem dX12_undo_7 : decode cX12_undo 7 = .ok (.bipush (-5), 2) := by decide +kernel
theorem dX12_undo_9 : decode cX12_undo 9 = .ok (.ireturn, 1) := by decide +kernel
theorem dX12_undo_10 : decode cX12_undo 10 = .ok (.aload_n 0, 1) := by decide +kernel
theorem dX12_undo_11 : decode cX12_undo 11 = .ok (.dup, 1) := by decide +kernel
theorem dX12_undo_12 : decode cX12_undo 12 = .ok (.getfield 50, 3) := by decide +kernel
theorem dX12_undo_15 : decode cX12_undo 15 = .ok (.iconst 1, 1) := by decide +kernel
theorem dX12_undo_16 : decode cX12_undo 16 = .ok (.isub, 1) := by decide +kernel
theorem dX12_undo_17 : decode cX12_undo 17 = .ok (.putfield 50, 3) := by decide +kernel
theorem dX12_undo_20 : decode cX12_undo 20 = .ok (.iconst 0, 1) := by decide +kernel
theorem dX12_undo_21 : decode cX12_undo 21 = .ok (.istore_n 1, 1) := by decide +kernel
theorem dX12_undo_22 : decode cX12_undo 22 = .ok (.iload_n 1, 1) := by decide +kernel
theorem dX12_undo_23 : decode cX12_undo 23 = .ok (.sipush 691, 3) := by decide +kernel
theorem dX12_undo_26 : decode cX12_undo 26 = .ok (.if_icmp .ge 30, 3) := by decide +kernel
theorem dX12_undo_29 : decode cX12_undo 29 = .ok (.aload_n 0, 1) := by decide +kernel
theorem dX12_undo_30 : decode cX12_undo 30 = .ok (.getfield 7, 3) := by decide +kernel
theorem dX12_undo_33 : decode cX12_undo 33 = .ok (.iload_n 1, 1) := by decide +kernel
theorem dX12_undo_34 : decode cX12_undo 34 = .ok (.aload_n 0, 1) := by decide +kernel
theorem dX12_undo_35 : decode cX12_undo 35 = .ok (.getfield 16, 3) := by decide +kernel
theorem dX12_undo_38 : decode cX12_undo 38 = .ok (.sipush 691, 3) := by decide +kernel
theorem dX12_undo_41 : decode cX12_undo 41 = .ok (.aload_n 0, 1) := by decide +kernel
theorem dX12_undo_42 : decode cX12_undo 42 = .ok (.getfield 50, 3) := by decide +kernel
theorem dX12_undo_45 : decode cX12_undo 45 = .ok (.imul, 1) := by decide +kernel
theorem dX12_undo_46 : decode cX12_undo 46 = .ok (.iload_n 1, 1) := by decide +kernel
theorem dX12_undo_47 : decode cX12_undo 47 = .ok (.iadd, 1) := by decide +kernel
theorem dX12_undo_48 : decode cX12_undo 48 = .ok (.iaload, 1) := by decide +kernel
theorem dX12_undo_49 : decode cX12_undo 49 = .ok (.iastore, 1) := by decide +kernel
theorem dX12_undo_50 : decode cX12_undo 50 = .ok (.iinc 1 1, 3) := by decide +kernel
theorem dX12_undo_53 : decode cX12_undo 53 = .ok (.goto (-31), 3) := by decide +kernel
theorem dX12_undo_56 : decode cX12_undo 56 = .ok (.aload_n 0, 1) := by decide +kernel
theorem dX12_undo_57 : decode cX12_undo 57 = .ok (.getfield 50, 3) := by decide +kernel
theorem dX12_undo_60 : decode cX12_undo 60 = .ok (.ireturn, 1) := by decide +kernel
theorem dX12_save_0 : decode cX12_save 0 = .ok (.iload_n 1, 1) := by decide +kernel
theorem dX12_save_1 : decode cX12_save 1 = .ok (.iconst 0, 1) := by decide +kernel
theorem dX12_save_2 : decode cX12_save 2 = .ok (.iconst 1, 1) := by decide +kernel
theorem dX12_save_3 : decode cX12_save 3 = .ok (.invokestatic 42, 3) := by decide +kernel
theorem dX12_save_6 : decode cX12_save 6 = .ok (.ifCond .ne 6, 3) := by decide +kernel
theorem dX12_save_9 : decode cX12_save 9 = .ok (.bipush (-2), 2) := by decide +kernel
theorem dX12_save_11 : decode cX12_save 11 = .ok (.ireturn, 1) := by decide +kernel
theorem dX12_save_12 : decode cX12_save 12 = .ok (.iconst 0, 1) := by decide +kernel
theorem dX12_save_13 : decode cX12_save 13 = .ok (.istore_n 2, 1) := by decide +kernel
theorem dX12_save_14 : decode cX12_save 14 = .ok (.iload_n 2, 1) := by decide +kernel
theorem dX12_save_15 : decode cX12_save 15 = .ok (.sipush 691, 3) := by decide +kernel
theorem dX12_save_18 : decode cX12_save 18 = .ok (.if_icmp .ge 27, 3) := by decide +kernel
theorem dX12_save_21 : decode cX12_save 21 = .ok (.aload_n 0, 1) := by decide +kernel
theorem dX12_save_22 : decode cX12_save 22 = .ok (.getfield 19, 3) := by decide +kernel
theorem dX12_save_25 : decode cX12_save 25 = .ok (.sipush 691, 3) := by decide +kernel
theorem dX12_save_28 : decode cX12_save 28 = .ok (.iload_n 1, 1) := by decide +kernel
theorem dX12_save_29 : decode cX12_save 29 = .ok (.imul, 1) := by decide +kernel
theorem dX12_save_30 : decode cX12_save 30 = .ok (.iload_n 2, 1) := by decide +kernel
theorem dX12_save_31 : decode cX12_save 31 = .ok (.iadd, 1) := by decide +kernel
theorem dX12_save_32 : decode cX12_save 32 = .ok (.aload_n 0, 1) := by decide +kernel
theorem dX12_save_33 : decode cX12_save 33 = .ok (.getfield 7, 3) := by decide +kernel
theorem dX12_save_36 : decode cX12_save 36 = .ok (.iload_n 2, 1) := by decide +kernel
theorem dX12_save_37 : decode cX12_save 37 = .ok (.iaload, 1) := by decide +kernel
theorem dX12_save_38 : decode cX12_save 38 = .ok (.iastore, 1) := by decide +kernel
theorem dX12_save_39 : decode cX12_save 39 = .ok (.iinc 2 1, 3) := by decide +kernel
theorem dX12_save_42 : decode cX12_save 42 = .ok (.goto (-28), 3) := by decide +kernel
theorem dX12_save_45 : decode cX12_save 45 = .ok (.aload_n 0, 1) := by decide +kernel
theorem dX12_save_46 : decode cX12_save 46 = .ok (.getfield 22, 3) := by decide +kernel
theorem dX12_save_49 : decode cX12_save 49 = .ok (.iload_n 1, 1) := by decide +kernel
theorem dX12_save_50 : decode cX12_save 50 = .ok (.iconst 1, 1) := by decide +kernel
theorem dX12_save_51 : decode cX12_save 51 = .ok (.bastore, 1) := by decide +kernel
theorem dX12_save_52 : decode cX12_save 52 = .ok (.aload_n 0, 1) := by decide +kernel
theorem dX12_save_53 : decode cX12_save 53 = .ok (.invokevirtual 217, 3) := by decide +kernel
theorem dX12_save_56 : decode cX12_save 56 = .ok (.ireturn, 1) := by decide +kernel
theorem dX12_restore_0 : decode cX12_restore 0 = .ok (.iload_n 1, 1) := by decide +kernel
theorem dX12_restore_1 : decode cX12_restore 1 = .ok (.iconst 0, 1) := by decide +kernel
theorem dX12_restore_2 : decode cX12_restore 2 = .ok (.iconst 1, 1) := by decide +kernel
theorem dX12_restore_3 : decode cX12_restore 3 = .ok (.invokestatic 42, 3) := by decide +kernel
theorem dX12_restore_6 : decode cX12_restore 6 = .ok (.ifCond .ne 6, 3) := by decide +kernel
theorem dX12_restore_9 : decode cX12_restore 9 = .ok (.bipush (-2), 2) := by decide +kernel
theorem dX12_restore_11 : decode cX12_restore 11 = .ok (.ireturn, 1) := by decide +kernel
theorem dX12_restore_12 : decode cX12_restore 12 = .ok (.aload_n 0, 1) := by decide +kernel
theorem dX12_restore_13 : decode cX12_restore 13 = .ok (.getfield 22, 3) := by decide +kernel
theorem dX12_restore_16 : decode cX12_restore 16 = .ok (.iload_n 1, 1) := by decide +kernel
theorem dX12_restore_17 : decode cX12_restore 17 = .ok (.baload, 1) := by decide +kernel
theorem dX12_restore_18 : decode cX12_restore 18 = .ok (.ifCond .ne 6, 3) := by decide +kernel
theorem dX12_restore_21 : decode cX12_restore 21 = .ok (.bipush (-5), 2) := by decide +kernel
theorem dX12_restore_23 : decode cX12_restore 23 = .ok (.ireturn, 1) := by decide +kernel
theorem dX12_restore_24 : decode cX12_restore 24 = .ok (.aload_n 0, 1) := by decide +kernel
theorem dX12_restore_25 : decode cX12_restore 25 = .ok (.invokevirtual 77, 3) := by decide +kernel
theorem dX12_restore_28 : decode cX12_restore 28 = .ok (.iconst 0, 1) := by decide +kernel
theorem dX12_restore_29 : decode cX12_restore 29 = .ok (.istore_n 2, 1) := by decide +kernel
theorem dX12_restore_30 : decode cX12_restore 30 = .ok (.iload_n 2, 1) := by decide +kernel
theorem dX12_restore_31 : decode cX12_restore 31 = .ok (.sipush 691, 3) := by decide +kernel
theorem dX12_restore_34 : decode cX12_restore 34 = .ok (.if_icmp .ge 27, 3) := by decide +kernel
theorem dX12_restore_37 : decode cX12_restore 37 = .ok (.aload_n 0, 1) := by decide +kernel
theorem dX12_restore_38 : decode cX12_restore 38 = .ok (.getfield 7, 3) := by decide +kernel
theorem dX12_restore_41 : decode cX12_restore 41 = .ok (.iload_n 2, 1) := by decide +kernel
theorem dX12_restore_42 : decode cX12_restore 42 = .ok (.aload_n 0, 1) := by decide +kernel
theorem dX12_restore_43 : decode cX12_restore 43 = .ok (.getfield 19, 3) := by decide +kernel
theorem dX12_restore_46 : decode cX12_restore 46 = .ok (.sipush 691, 3) := by decide +kernel
theorem dX12_restore_49 : decode cX12_restore 49 = .ok (.iload_n 1, 1) := by decide +kernel
theorem dX12_restore_50 : decode cX12_restore 50 = .ok (.imul, 1) := by decide +kernel
theorem dX12_restore_51 : decode cX12_restore 51 = .ok (.iload_n 2, 1) := by decide +kernel
theorem dX12_restore_52 : decode cX12_restore 52 = .ok (.iadd, 1) := by decide +kernel
theorem dX12_restore_53 : decode cX12_restore 53 = .ok (.iaload, 1) := by decide +kernel
theorem dX12_restore_54 : decode cX12_restore 54 = .ok (.iastore, 1) := by decide +kernel
theorem dX12_restore_55 : decode cX12_restore 55 = .ok (.iinc 2 1, 3) := by decide +kernel
theorem dX12_restore_58 : decode cX12_restore 58 = .ok (.goto (-28), 3) := by decide +kernel
theorem dX12_restore_61 : decode cX12_restore 61 = .ok (.aload_n 0, 1) := by decide +kernel
theorem dX12_restore_62 : decode cX12_restore 62 = .ok (.invokevirtual 217, 3) := by decide +kernel
theorem dX12_restore_65 : decode cX12_restore 65 = .ok (.ireturn, 1) := by decide +kernel
theorem dJ6_bitCount_0f7a4_0 : decode cJ6_bitCount_0f7a4 0 = .ok (.iload_n 0, 1) := by decide +kernel
theorem dJ6_bitCount_0f7a4_1 : decode cJ6_bitCount_0f7a4 1 = .ok (.iload_n 0, 1) := by decide +kernel
theorem dJ6_bitCount_0f7a4_2 : decode cJ6_bitCount_0f7a4 2 = .ok (.iconst 1, 1) := by decide +kernel
theorem dJ6_bitCount_0f7a4_3 : decode cJ6_bitCount_0f7a4 3 = .ok (.iushr, 1) := by decide +kernel
theorem dJ6_bitCount_0f7a4_4 : decode cJ6_bitCount_0f7a4 4 = .ok (.ldc_w 265, 3) := by decide +kernel
theorem dJ6_bitCount_0f7a4_7 : decode cJ6_bitCount_0f7a4 7 = .ok (.iand, 1) := by decide +kernel
theorem dJ6_bitCount_0f7a4_8 : decode cJ6_bitCount_0f7a4 8 = .ok (.isub, 1) := by decide +kernel
theorem dJ6_bitCount_0f7a4_9 : decode cJ6_bitCount_0f7a4 9 = .ok (.istore_n 0, 1) := by decide +kernel
theorem dJ6_bitCount_0f7a4_10 : decode cJ6_bitCount_0f7a4 10 = .ok (.iload_n 0, 1) := by decide +kernel
theorem dJ6_bitCount_0f7a4_11 : decode cJ6_bitCount_0f7a4 11 = .ok (.ldc_w 266, 3) := by decide +kernel
theorem dJ6_bitCount_0f7a4_14 : decode cJ6_bitCount_0f7a4 14 = .ok (.iand, 1) := by decide +kernel
theorem dJ6_bitCount_0f7a4_15 : decode cJ6_bitCount_0f7a4 15 = .ok (.iload_n 0, 1) := by decide +kernel
theorem dJ6_bitCount_0f7a4_16 : decode cJ6_bitCount_0f7a4 16 = .ok (.iconst 2, 1) := by decide +kernel
theorem dJ6_bitCount_0f7a4_17 : decode cJ6_bitCount_0f7a4 17 = .ok (.iushr, 1) := by decide +kernel
theorem dJ6_bitCount_0f7a4_18 : decode cJ6_bitCount_0f7a4 18 = .ok (.ldc_w 266, 3) := by decide +kernel
theorem dJ6_bitCount_0f7a4_21 : decode cJ6_bitCount_0f7a4 21 = .ok (.iand, 1) := by decide +kernel
theorem dJ6_bitCount_0f7a4_22 : decode cJ6_bitCount_0f7a4 22 = .ok (.iadd, 1) := by decide +kernel
theorem dJ6_bitCount_0f7a4_23 : decode cJ6_bitCount_0f7a4 23 = .ok (.istore_n 0, 1) := by decide +kernel
theorem dJ6_bitCount_0f7a4_24 : decode cJ6_bitCount_0f7a4 24 = .ok (.iload_n 0, 1) := by decide +kernel
theorem dJ6_bitCount_0f7a4_25 : decode cJ6_bitCount_0f7a4 25 = .ok (.iload_n 0, 1) := by decide +kernel
theorem dJ6_bitCount_0f7a4_26 : decode cJ6_bitCount_0f7a4 26 = .ok (.iconst 4, 1) := by decide +kernel
theorem dJ6_bitCount_0f7a4_27 : decode cJ6_bitCount_0f7a4 27 = .ok (.iushr, 1) := by decide +kernel
theorem dJ6_bitCount_0f7a4_28 : decode cJ6_bitCount_0f7a4 28 = .ok (.iadd, 1) := by decide +kernel
theorem dJ6_bitCount_0f7a4_29 : decode cJ6_bitCount_0f7a4 29 = .ok (.ldc_w 267, 3) := by decide +kernel
theorem dJ6_bitCount_0f7a4_32 : decode cJ6_bitCount_0f7a4 32 = .ok (.iand, 1) := by decide +kernel
theorem dJ6_bitCount_0f7a4_33 : decode cJ6_bitCount_0f7a4 33 = .ok (.istore_n 0, 1) := by decide +kernel
theorem dJ6_bitCount_0f7a4_34 : decode cJ6_bitCount_0f7a4 34 = .ok (.iload_n 0, 1) := by decide +kernel
theorem dJ6_bitCount_0f7a4_35 : decode cJ6_bitCount_0f7a4 35 = .ok (.iload_n 0, 1) := by decide +kernel
theorem dJ6_bitCount_0f7a4_36 : decode cJ6_bitCount_0f7a4 36 = .ok (.bipush 8, 2) := by decide +kernel
theorem dJ6_bitCount_0f7a4_38 : decode cJ6_bitCount_0f7a4 38 = .ok (.iushr, 1) := by decide +kernel
theorem dJ6_bitCount_0f7a4_39 : decode cJ6_bitCount_0f7a4 39 = .ok (.iadd, 1) := by decide +kernel
theorem dJ6_bitCount_0f7a4_40 : decode cJ6_bitCount_0f7a4 40 = .ok (.istore_n 0, 1) := by decide +kernel
theorem dJ6_bitCount_0f7a4_41 : decode cJ6_bitCount_0f7a4 41 = .ok (.iload_n 0, 1) := by decide +kernel
theorem dJ6_bitCount_0f7a4_42 : decode cJ6_bitCount_0f7a4 42 = .ok (.iload_n 0, 1) := by decide +kernel
theorem dJ6_bitCount_0f7a4_43 : decode cJ6_bitCount_0f7a4 43 = .ok (.bipush 16, 2) := by decide +kernel
theorem dJ6_bitCount_0f7a4_45 : decode cJ6_bitCount_0f7a4 45 = .ok (.iushr, 1) := by decide +kernel
theorem dJ6_bitCount_0f7a4_46 : decode cJ6_bitCount_0f7a4 46 = .ok (.iadd, 1) := by decide +kernel
theorem dJ6_bitCount_0f7a4_47 : decode cJ6_bitCount_0f7a4 47 = .ok (.istore_n 0, 1) := by decide +kernel
theorem dJ6_bitCount_0f7a4_48 : decode cJ6_bitCount_0f7a4 48 = .ok (.iload_n 0, 1) := by decide +kernel
theorem dJ6_bitCount_0f7a4_49 : decode cJ6_bitCount_0f7a4 49 = .ok (.bipush 63, 2) := by decide +kernel
theorem dJ6_bitCount_0f7a4_51 : decode cJ6_bitCount_0f7a4 51 = .ok (.iand, 1) := by decide +kernel
theorem dJ6_bitCount_0f7a4_52 : decode cJ6_bitCount_0f7a4 52 = .ok (.ireturn, 1) := by decide +kernel
theorem dJ9_abs_0f7a4_0 : decode cJ9_abs_0f7a4 0 = .ok (.iload_n 0, 1) := by decide +kernel
theorem dJ9_abs_0f7a4_1 : decode cJ9_abs_0f7a4 1 = .ok (.ifCond .ge 8, 3) := by decide +kernel
theorem dJ9_abs_0f7a4_4 : decode cJ9_abs_0f7a4 4 = .ok (.iload_n 0, 1) := by decide +kernel
theorem dJ9_abs_0f7a4_5 : decode cJ9_abs_0f7a4 5 = .ok (.ineg, 1) := by decide +kernel
theorem dJ9_abs_0f7a4_6 : decode cJ9_abs_0f7a4 6 = .ok (.goto 4, 3) := by decide +kernel
theorem dJ9_abs_0f7a4_9 : decode cJ9_abs_0f7a4 9 = .ok (.iload_n 0, 1) := by decide +kernel
theorem dJ9_abs_0f7a4_10 : decode cJ9_abs_0f7a4 10 = .ok (.ireturn, 1) := by decide +kernel
theorem dJ9_max_7cf53_0 : decode cJ9_max_7cf53 0 = .ok (.iload_n 0, 1) := by decide +kernel
theorem dJ9_max_7cf53_1 : decode cJ9_max_7cf53 1 = .ok (.iload_n 1, 1) := by decide +kernel
theorem dJ9_max_7cf53_2 : decode cJ9_max_7cf53 2 = .ok (.if_icmp .lt 7, 3) := by decide +kernel
theorem dJ9_max_7cf53_5 : decode cJ9_max_7cf53 5 = .ok (.iload_n 0, 1) := by decide +kernel
theorem dJ9_max_7cf53_6 : decode cJ9_max_7cf53 6 = .ok (.goto 4, 3) := by decide +kernel
theorem dJ9_max_7cf53_9 : decode cJ9_max_7cf53 9 = .ok (.iload_n 1, 1) := by decide +kernel
theorem dJ9_max_7cf53_10 : decode cJ9_max_7cf53 10 = .ok (.ireturn, 1) := by decide +kernel
theorem dJ9_min_7cf53_0 : decode cJ9_min_7cf53 0 = .ok (.iload_n 0, 1) := by decide +kernel
theorem dJ9_min_7cf53_1 : decode cJ9_min_7cf53 1 = .ok (.iload_n 1, 1) := by decide +kernel
theorem dJ9_min_7cf53_2 : decode cJ9_min_7cf53 2 = .ok (.if_icmp .gt 7, 3) := by decide +kernel
theorem dJ9_min_7cf53_5 : decode cJ9_min_7cf53 5 = .ok (.iload_n 0, 1) := by decide +kernel
theorem dJ9_min_7cf53_6 : decode cJ9_min_7cf53 6 = .ok (.goto 4, 3) := by decide +kernel
theorem dJ9_min_7cf53_9 : decode cJ9_min_7cf53 9 = .ok (.iload_n 1, 1) := by decide +kernel
theorem dJ9_min_7cf53_10 : decode cJ9_min_7cf53 10 = .ok (.ireturn, 1) := by decide +kernel
theorem dL_law_0 : decode cL_law 0 = .ok (.new 7, 3) := by decide +kernel
theorem dL_law_3 : decode cL_law 3 = .ok (.dup, 1) := by decide +kernel
theorem dL_law_4 : decode cL_law 4 = .ok (.invokespecial 9, 3) := by decide +kernel
theorem dL_law_7 : decode cL_law 7 = .ok (.astore_n 1, 1) := by decide +kernel
theorem dL_law_8 : decode cL_law 8 = .ok (.new 10, 3) := by decide +kernel
theorem dL_law_11 : decode cL_law 11 = .ok (.dup, 1) := by decide +kernel
theorem dL_law_12 : decode cL_law 12 = .ok (.invokespecial 12, 3) := by decide +kernel
theorem dL_law_15 : decode cL_law 15 = .ok (.astore_n 2, 1) := by decide +kernel
theorem dL_law_16 : decode cL_law 16 = .ok (.iconst 0, 1) := by decide +kernel
theorem dL_law_17 : decode cL_law 17 = .ok (.istore_n 3, 1) := by decide +kernel
theorem dL_law_18 : decode cL_law 18 = .ok (.iload_n 3, 1) := by decide +kernel
theorem dL_law_19 : decode cL_law 19 = .ok (.aload_n 0, 1) := by decide +kernel
theorem dL_law_20 : decode cL_law 20 = .ok (.arraylength, 1) := by decide +kernel
theorem dL_law_21 : decode cL_law 21 = .ok (.iconst 4, 1) := by decide +kernel
theorem dL_law_22 : decode cL_law 22 = .ok (.isub, 1) := by decide +kernel
theorem dL_law_23 : decode cL_law 23 = .ok (.if_icmp .gt 1255, 3) := by decide +kernel
theorem dL_law_26 : decode cL_law 26 = .ok (.aload_n 0, 1) := by decide +kernel
theorem dL_law_27 : decode cL_law 27 = .ok (.iload_n 3, 1) := by decide +kernel
theorem dL_law_28 : decode cL_law 28 = .ok (.iaload, 1) := by decide +kernel
theorem dL_law_29 : decode cL_law 29 = .ok (.bipush 31, 2) := by decide +kernel
theorem dL_law_31 : decode cL_law 31 = .ok (.iand, 1) := by decide +kernel
theorem dL_law_32 : decode cL_law 32 = .ok (.tableswitch 1240 0 31 #[144, 177, 220, 263, 306, 339, 382, 425, 448, 491, 534, 567, 590, 613, 636, 679, 722, 765, 808, 851, 884, 927, 950, 993, 1026, 1059, 1102, 1155, 1168, 1181, 1194, 1217], 144) := by decide +kernel
theorem dL_law_176 : decode cL_law 176 = .ok (.aload_n 1, 1) := by decide +kernel
theorem dL_law_177 : decode cL_law 177 = .ok (.aload_n 0, 1) := by decide +kernel
theorem dL_law_178 : decode cL_law 178 = .ok (.iload_n 3, 1) := by decide +kernel
theorem dL_law_179 : decode cL_law 179 = .ok (.iconst 1, 1) := by decide +kernel
theorem dL_law_180 : decode cL_law 180 = .ok (.iadd, 1) := by decide +kernel
theorem dL_law_181 : decode cL_law 181 = .ok (.iaload, 1) := by decide +kernel
theorem dL_law_182 : decode cL_law 182 = .ok (.aload_n 0, 1) := by decide +kernel
theorem dL_law_183 : decode cL_law 183 = .ok (.iload_n 3, 1) := by decide +kernel
theorem dL_law_184 : decode cL_law 184 = .ok (.iconst 2, 1) := by decide +kernel
theorem dL_law_185 : decode cL_law 185 = .ok (.iadd, 1) := by decide +kernel
theorem dL_law_186 : decode cL_law 186 = .ok (.iaload, 1) := by decide +kernel
theorem dL_law_187 : decode cL_law 187 = .ok (.invokevirtual 13, 3) := by decide +kernel
theorem dL_law_190 : decode cL_law 190 = .ok (.aload_n 2, 1) := by decide +kernel
theorem dL_law_191 : decode cL_law 191 = .ok (.aload_n 0, 1) := by decide +kernel
theorem dL_law_192 : decode cL_law 192 = .ok (.iload_n 3, 1) := by decide +kernel
theorem dL_law_193 : decode cL_law 193 = .ok (.iconst 1, 1) := by decide +kernel
theorem dL_law_194 : decode cL_law 194 = .ok (.iadd, 1) := by decide +kernel
theorem dL_law_195 : decode cL_law 195 = .ok (.iaload, 1) := by decide +kernel
theorem dL_law_196 : decode cL_law 196 = .ok (.aload_n 0, 1) := by decide +kernel
theorem dL_law_197 : decode cL_law 197 = .ok (.iload_n 3, 1) := by decide +kernel
theorem dL_law_198 : decode cL_law 198 = .ok (.iconst 2, 1) := by decide +kernel
theorem dL_law_199 : decode cL_law 199 = .ok (.iadd, 1) := by decide +kernel
theorem dL_law_200 : decode cL_law 200 = .ok (.iaload, 1) := by decide +kernel
theorem dL_law_201 : decode cL_law 201 = .ok (.invokevirtual 17, 3) := by decide +kernel
theorem dL_law_204 : decode cL_law 204 = .ok (.if_icmp .eq 1068, 3) := by decide +kernel
theorem dL_law_207 : decode cL_law 207 = .ok (.iconst 0, 1) := by decide +kernel
theorem dL_law_208 : decode cL_law 208 = .ok (.ireturn, 1) := by decide +kernel
theorem dL_law_209 : decode cL_law 209 = .ok (.aload_n 1, 1) := by decide +kernel
theorem dL_law_210 : decode cL_law 210 = .ok (.aload_n 0, 1) := by decide +kernel
theorem dL_law_211 : decode cL_law 211 = .ok (.iload_n 3, 1) := by decide +kernel
theorem dL_law_212 : decode cL_law 212 = .ok (.iconst 1, 1) := by decide +kernel
theorem dL_law_213 : decode cL_law 213 = .ok (.iadd, 1) := by decide +kernel
theorem dL_law_214 : decode cL_law 214 = .ok (.iaload, 1) := by decide +kernel
theorem dL_law_215 : decode cL_law 215 = .ok (.aload_n 0, 1) := by decide +kernel
theorem dL_law_216 : decode cL_law 216 = .ok (.iload_n 3, 1) := by decide +kernel
theorem dL_law_217 : decode cL_law 217 = .ok (.iconst 2, 1) := by decide +kernel
theorem dL_law_218 : decode cL_law 218 = .ok (.iadd, 1) := by decide +kernel
theorem dL_law_219 : decode cL_law 219 = .ok (.iaload, 1) := by decide +kernel
theorem dL_law_220 : decode cL_law 220 = .ok (.aload_n 0, 1) := by decide +kernel
theorem dL_law_221 : decode cL_law 221 = .ok (.iload_n 3, 1) := by decide +kernel
theorem dL_law_222 : decode cL_law 222 = .ok (.iconst 3, 1) := by decide +kernel
theorem dL_law_223 : decode cL_law 223 = .ok (.iadd, 1) := by decide +kernel
theorem dL_law_224 : decode cL_law 224 = .ok (.iaload, 1) := by decide +kernel
theorem dL_law_225 : decode cL_law 225 = .ok (.invokevirtual 18, 3) := by decide +kernel
theorem dL_law_228 : decode cL_law 228 = .ok (.aload_n 2, 1) := by decide +kernel
theorem dL_law_229 : decode cL_law 229 = .ok (.aload_n 0, 1) := by decide +kernel
theorem dL_law_230 : decode cL_law 230 = .ok (.iload_n 3, 1) := by decide +kernel
theorem dL_law_231 : decode cL_law 231 = .ok (.iconst 1, 1) := by decide +kernel
theorem dL_law_232 : decode cL_law 232 = .ok (.iadd, 1) := by decide +kernel
theorem dL_law_233 : decode cL_law 233 = .ok (.iaload, 1) := by decide +kernel
theorem dL_law_234 : decode cL_law 234 = .ok (.aload_n 0, 1) := by decide +kernel
theorem dL_law_235 : decode cL_law 235 = .ok (.iload_n 3, 1) := by decide +kernel
theorem dL_law_236 : decode cL_law 236 = .ok (.iconst 2, 1) := by decide +kernel
theorem dL_law_237 : decode cL_law 237 = .ok (.iadd, 1) := by decide +kernel
theorem dL_law_238 : decode cL_law 238 = .ok (.iaload, 1) := by decide +kernel
theorem dL_law_239 : decode cL_law 239 = .ok (.aload_n 0, 1) := by decide +kernel
theorem dL_law_240 : decode cL_law 240 = .ok (.iload_n 3, 1) := by decide +kernel
theorem dL_law_241 : decode cL_law 241 = .ok (.iconst 3, 1) := by decide +kernel
theorem dL_law_242 : decode cL_law 242 = .ok (.iadd, 1) := by decide +kernel
theorem dL_law_243 : decode cL_law 243 = .ok (.iaload, 1) := by decide +kernel
theorem dL_law_244 : decode cL_law 244 = .ok (.invokevirtual 22, 3) := by decide +kernel
theorem dL_law_247 : decode cL_law 247 = .ok (.if_icmp .eq 1025, 3) := by decide +kernel
theorem dL_law_250 : decode cL_law 250 = .ok (.iconst 0, 1) := by decide +kernel
theorem dL_law_251 : decode cL_law 251 = .ok (.ireturn, 1) := by decide +kernel
theorem dL_law_252 : decode cL_law 252 = .ok (.aload_n 1, 1) := by decide +kernel
theorem dL_law_253 : decode cL_law 253 = .ok (.aload_n 0, 1) := by decide +kernel
theorem dL_law_254 : decode cL_law 254 = .ok (.iload_n 3, 1) := by decide +kernel
theorem dL_law_255 : decode cL_law 255 = .ok (.iconst 1, 1) := by decide +kernel
theorem dL_law_256 : decode cL_law 256 = .ok (.iadd, 1) := by decide +kernel
theorem dL_law_257 : decode cL_law 257 = .ok (.iaload, 1) := by decide +kernel
theorem dL_law_258 : decode cL_law 258 = .ok (.aload_n 0, 1) := by decide +kernel
theorem dL_law_259 : decode cL_law 259 = .ok (.iload_n 3, 1) := by decide +kernel
theorem dL_law_260 : decode cL_law 260 = .ok (.iconst 2, 1) := by decide +kernel
theorem dL_law_261 : decode cL_law 261 = .ok (.iadd, 1) := by decide +kernel
theorem dL_law_262 : decode cL_law 262 = .ok (.iaload, 1) := by decide +kernel
theorem dL_law_263 : decode cL_law 263 = .ok (.aload_n 0, 1) := by decide +kernel
theorem dL_law_264 : decode cL_law 264 = .ok (.iload_n 3, 1) := by decide +kernel
theorem dL_law_265 : decode cL_law 265 = .ok (.iconst 3, 1) := by decide +kernel
theorem dL_law_266 : decode cL_law 266 = .ok (.iadd, 1) := by decide +kernel
theorem dL_law_267 : decode cL_law 267 = .ok (.iaload, 1) := by decide +kernel
theorem dL_law_268 : decode cL_law 268 = .ok (.invokevirtual 23, 3) := by decide +kernel
theorem dL_law_271 : decode cL_law 271 = .ok (.aload_n 2, 1) := by decide +kernel
theorem dL_law_272 : decode cL_law 272 = .ok (.aload_n 0, 1) := by decide +kernel
theorem dL_law_273 : decode cL_law 273 = .ok (.iload_n 3, 1) := by decide +kernel
theorem dL_law_274 : decode cL_law 274 = .ok (.iconst 1, 1) := by decide +kernel
theorem dL_law_275 : decode cL_law 275 = .ok (.iadd, 1) := by decide +kernel
theorem dL_law_276 : decode cL_law 276 = .ok (.iaload, 1) := by decide +kernel
theorem dL_law_277 : decode cL_law 277 = .ok (.aload_n 0, 1) := by decide +kernel
theorem dL_law_278 : decode cL_law 278 = .ok (.iload_n 3, 1) := by decide +kernel
theorem dL_law_279 : decode cL_law 279 = .ok (.iconst 2, 1) := by decide +kernel
theorem dL_law_280 : decode cL_law 280 = .ok (.iadd, 1) := by decide +kernel
theorem dL_law_281 : decode cL_law 281 = .ok (.iaload, 1) := by decide +kernel
theorem dL_law_282 : decode cL_law 282 = .ok (.aload_n 0, 1) := by decide +kernel
theorem dL_law_283 : decode cL_law 283 = .ok (.iload_n 3, 1) := by decide +kernel
theorem dL_law_284 : decode cL_law 284 = .ok (.iconst 3, 1) := by decide +kernel
theorem dL_law_285 : decode cL_law 285 = .ok (.iadd, 1) := by decide +kernel
theorem dL_law_286 : decode cL_law 286 = .ok (.iaload, 1) := by decide +kernel
theorem dL_law_287 : decode cL_law 287 = .ok (.invokevirtual 26, 3) := by decide +kernel
theorem dL_law_290 : decode cL_law 290 = .ok (.if_icmp .eq 982, 3) := by decide +kernel
theorem dL_law_293 : decode cL_law 293 = .ok (.iconst 0, 1) := by decide +kernel
theorem dL_law_294 : decode cL_law 294 = .ok (.ireturn, 1) := by decide +kernel
theorem dL_law_295 : decode cL_law 295 = .ok (.aload_n 1, 1) := by decide +kernel
theorem dL_law_296 : decode cL_law 296 = .ok (.aload_n 0, 1) := by decide +kernel
theorem dL_law_297 : decode cL_law 297 = .ok (.iload_n 3, 1) := by decide +kernel
theorem dL_law_298 : decode cL_law 298 = .ok (.iconst 1, 1) := by decide +kernel
theorem dL_law_299 : decode cL_law 299 = .ok (.iadd, 1) := by decide +kernel
theorem dL_law_300 : decode cL_law 300 = .ok (.iaload, 1) := by decide +kernel
theorem dL_law_301 : decode cL_law 301 = .ok (.aload_n 0, 1) := by decide +kernel
theorem dL_law_302 : decode cL_law 302 = .ok (.iload_n 3, 1) := by decide +kernel
theorem dL_law_303 : decode cL_law 303 = .ok (.iconst 2, 1) := by decide +kernel
theorem dL_law_304 : decode cL_law 304 = .ok (.iadd, 1) := by decide +kernel
theorem dL_law_305 : decode cL_law 305 = .ok (.iaload, 1) := by decide +kernel
theorem dL_law_306 : decode cL_law 306 = .ok (.aload_n 0, 1) := by decide +kernel
theorem dL_law_307 : decode cL_law 307 = .ok (.iload_n 3, 1) := by decide +kernel
theorem dL_law_308 : decode cL_law 308 = .ok (.iconst 3, 1) := by decide +kernel
theorem dL_law_309 : decode cL_law 309 = .ok (.iadd, 1) := by decide +kernel
theorem dL_law_310 : decode cL_law 310 = .ok (.iaload, 1) := by decide +kernel
theorem dL_law_311 : decode cL_law 311 = .ok (.invokevirtual 27, 3) := by decide +kernel
theorem dL_law_314 : decode cL_law 314 = .ok (.aload_n 2, 1) := by decide +kernel
theorem dL_law_315 : decode cL_law 315 = .ok (.aload_n 0, 1) := by decide +kernel
theorem dL_law_316 : decode cL_law 316 = .ok (.iload_n 3, 1) := by decide +kernel
theorem dL_law_317 : decode cL_law 317 = .ok (.iconst 1, 1) := by decide +kernel
theorem dL_law_318 : decode cL_law 318 = .ok (.iadd, 1) := by decide +kernel
theorem dL_law_319 : decode cL_law 319 = .ok (.iaload, 1) := by decide +kernel
theorem dL_law_320 : decode cL_law 320 = .ok (.aload_n 0, 1) := by decide +kernel
theorem dL_law_321 : decode cL_law 321 = .ok (.iload_n 3, 1) := by decide +kernel
theorem dL_law_322 : decode cL_law 322 = .ok (.iconst 2, 1) := by decide +kernel
theorem dL_law_323 : decode cL_law 323 = .ok (.iadd, 1) := by decide +kernel
theorem dL_law_324 : decode cL_law 324 = .ok (.iaload, 1) := by decide +kernel
theorem dL_law_325 : decode cL_law 325 = .ok (.aload_n 0, 1) := by decide +kernel
theorem dL_law_326 : decode cL_law 326 = .ok (.iload_n 3, 1) := by decide +kernel
theorem dL_law_327 : decode cL_law 327 = .ok (.iconst 3, 1) := by decide +kernel
theorem dL_law_328 : decode cL_law 328 = .ok (.iadd, 1) := by decide +kernel
theorem dL_law_329 : decode cL_law 329 = .ok (.iaload, 1) := by decide +kernel
theorem dL_law_330 : decode cL_law 330 = .ok (.invokevirtual 30, 3) := by decide +kernel
theorem dL_law_333 : decode cL_law 333 = .ok (.if_icmp .eq 939, 3) := by decide +kernel
theorem dL_law_336 : decode cL_law 336 = .ok (.iconst 0, 1) := by decide +kernel
theorem dL_law_337 : decode cL_law 337 = .ok (.ireturn, 1) := by decide +kernel
theorem dL_law_338 : decode cL_law 338 = .ok (.aload_n 1, 1) := by decide +kernel
theorem dL_law_339 : decode cL_law 339 = .ok (.aload_n 0, 1) := by decide +kernel
theorem dL_law_340 : decode cL_law 340 = .ok (.iload_n 3, 1) := by decide +kernel
theorem dL_law_341 : decode cL_law 341 = .ok (.iconst 1, 1) := by decide +kernel
theorem dL_law_342 : decode cL_law 342 = .ok (.iadd, 1) := by decide +kernel
theorem dL_law_343 : decode cL_law 343 = .ok (.iaload, 1) := by decide +kernel
theorem dL_law_344 : decode cL_law 344 = .ok (.aload_n 0, 1) := by decide +kernel
theorem dL_law_345 : decode cL_law 345 = .ok (.iload_n 3, 1) := by decide +kernel
theorem dL_law_346 : decode cL_law 346 = .ok (.iconst 2, 1) := by decide +kernel
theorem dL_law_347 : decode cL_law 347 = .ok (.iadd, 1) := by decide +kernel
theorem dL_law_348 : decode cL_law 348 = .ok (.iaload, 1) := by decide +kernel
theorem dL_law_349 : decode cL_law 349 = .ok (.invokevirtual 31, 3) := by decide +kernel
theorem dL_law_352 : decode cL_law 352 = .ok (.aload_n 2, 1) := by decide +kernel
theorem dL_law_353 : decode cL_law 353 = .ok (.aload_n 0, 1) := by decide +kernel
theorem dL_law_354 : decode cL_law 354 = .ok (.iload_n 3, 1) := by decide +kernel
theorem dL_law_355 : decode cL_law 355 = .ok (.iconst 1, 1) := by decide +kernel
theorem dL_law_356 : decode cL_law 356 = .ok (.iadd, 1) := by decide +kernel
theorem dL_law_357 : decode cL_law 357 = .ok (.iaload, 1) := by decide +kernel
theorem dL_law_358 : decode cL_law 358 = .ok (.aload_n 0, 1) := by decide +kernel
theorem dL_law_359 : decode cL_law 359 = .ok (.iload_n 3, 1) := by decide +kernel
theorem dL_law_360 : decode cL_law 360 = .ok (.iconst 2, 1) := by decide +kernel
theorem dL_law_361 : decode cL_law 361 = .ok (.iadd, 1) := by decide +kernel
theorem dL_law_362 : decode cL_law 362 = .ok (.iaload, 1) := by decide +kernel
theorem dL_law_363 : decode cL_law 363 = .ok (.invokevirtual 34, 3) := by decide +kernel
theorem dL_law_366 : decode cL_law 366 = .ok (.if_icmp .eq 906, 3) := by decide +kernel
theorem dL_law_369 : decode cL_law 369 = .ok (.iconst 0, 1) := by decide +kernel
theorem dL_law_370 : decode cL_law 370 = .ok (.ireturn, 1) := by decide +kernel
theorem dL_law_371 : decode cL_law 371 = .ok (.aload_n 1, 1) := by decide +kernel
theorem dL_law_372 : decode cL_law 372 = .ok (.aload_n 0, 1) := by decide +kernel
theorem dL_law_373 : decode cL_law 373 = .ok (.iload_n 3, 1) := by decide +kernel
theorem dL_law_374 : decode cL_law 374 = .ok (.iconst 1, 1) := by decide +kernel
theorem dL_law_375 : decode cL_law 375 = .ok (.iadd, 1) := by decide +kernel
theorem dL_law_376 : decode cL_law 376 = .ok (.iaload, 1) := by decide +kernel
theorem dL_law_377 : decode cL_law 377 = .ok (.aload_n 0, 1) := by decide +kernel
theorem dL_law_378 : decode cL_law 378 = .ok (.iload_n 3, 1) := by decide +kernel
theorem dL_law_379 : decode cL_law 379 = .ok (.iconst 2, 1) := by decide +kernel
theorem dL_law_380 : decode cL_law 380 = .ok (.iadd, 1) := by decide +kernel
theorem dL_law_381 : decode cL_law 381 = .ok (.iaload, 1) := by decide +kernel
theorem dL_law_382 : decode cL_law 382 = .ok (.aload_n 0, 1) := by decide +kernel
theorem dL_law_383 : decode cL_law 383 = .ok (.iload_n 3, 1) := by decide +kernel
theorem dL_law_384 : decode cL_law 384 = .ok (.iconst 3, 1) := by decide +kernel
theorem dL_law_385 : decode cL_law 385 = .ok (.iadd, 1) := by decide +kernel
theorem dL_law_386 : decode cL_law 386 = .ok (.iaload, 1) := by decide +kernel
theorem dL_law_387 : decode cL_law 387 = .ok (.invokevirtual 35, 3) := by decide +kernel
theorem dL_law_390 : decode cL_law 390 = .ok (.aload_n 2, 1) := by decide +kernel
theorem dL_law_391 : decode cL_law 391 = .ok (.aload_n 0, 1) := by decide +kernel
theorem dL_law_392 : decode cL_law 392 = .ok (.iload_n 3, 1) := by decide +kernel
theorem dL_law_393 : decode cL_law 393 = .ok (.iconst 1, 1) := by decide +kernel
theorem dL_law_394 : decode cL_law 394 = .ok (.iadd, 1) := by decide +kernel
theorem dL_law_395 : decode cL_law 395 = .ok (.iaload, 1) := by decide +kernel
theorem dL_law_396 : decode cL_law 396 = .ok (.aload_n 0, 1) := by decide +kernel
theorem dL_law_397 : decode cL_law 397 = .ok (.iload_n 3, 1) := by decide +kernel
theorem dL_law_398 : decode cL_law 398 = .ok (.iconst 2, 1) := by decide +kernel
theorem dL_law_399 : decode cL_law 399 = .ok (.iadd, 1) := by decide +kernel
theorem dL_law_400 : decode cL_law 400 = .ok (.iaload, 1) := by decide +kernel
theorem dL_law_401 : decode cL_law 401 = .ok (.aload_n 0, 1) := by decide +kernel
theorem dL_law_402 : decode cL_law 402 = .ok (.iload_n 3, 1) := by decide +kernel
theorem dL_law_403 : decode cL_law 403 = .ok (.iconst 3, 1) := by decide +kernel
theorem dL_law_404 : decode cL_law 404 = .ok (.iadd, 1) := by decide +kernel
theorem dL_law_405 : decode cL_law 405 = .ok (.iaload, 1) := by decide +kernel
theorem dL_law_406 : decode cL_law 406 = .ok (.invokevirtual 38, 3) := by decide +kernel
theorem dL_law_409 : decode cL_law 409 = .ok (.if_icmp .eq 863, 3) := by decide +kernel
theorem dL_law_412 : decode cL_law 412 = .ok (.iconst 0, 1) := by decide +kernel
theorem dL_law_413 : decode cL_law 413 = .ok (.ireturn, 1) := by decide +kernel
theorem dL_law_414 : decode cL_law 414 = .ok (.aload_n 1, 1) := by decide +kernel
theorem dL_law_415 : decode cL_law 415 = .ok (.aload_n 0, 1) := by decide +kernel
theorem dL_law_416 : decode cL_law 416 = .ok (.iload_n 3, 1) := by decide +kernel
theorem dL_law_417 : decode cL_law 417 = .ok (.iconst 1, 1) := by decide +kernel
theorem dL_law_418 : decode cL_law 418 = .ok (.iadd, 1) := by decide +kernel
theorem dL_law_419 : decode cL_law 419 = .ok (.iaload, 1) := by decide +kernel
theorem dL_law_420 : decode cL_law 420 = .ok (.aload_n 0, 1) := by decide +kernel
theorem dL_law_421 : decode cL_law 421 = .ok (.iload_n 3, 1) := by decide +kernel
theorem dL_law_422 : decode cL_law 422 = .ok (.iconst 2, 1) := by decide +kernel
theorem dL_law_423 : decode cL_law 423 = .ok (.iadd, 1) := by decide +kernel
theorem dL_law_424 : decode cL_law 424 = .ok (.iaload, 1) := by decide +kernel
theorem dL_law_425 : decode cL_law 425 = .ok (.aload_n 0, 1) := by decide +kernel
theorem dL_law_426 : decode cL_law 426 = .ok (.iload_n 3, 1) := by decide +kernel
theorem dL_law_427 : decode cL_law 427 = .ok (.iconst 3, 1) := by decide +kernel
theorem dL_law_428 : decode cL_law 428 = .ok (.iadd, 1) := by decide +kernel
theorem dL_law_429 : decode cL_law 429 = .ok (.iaload, 1) := by decide +kernel
theorem dL_law_430 : decode cL_law 430 = .ok (.invokevirtual 39, 3) := by decide +kernel
theorem dL_law_433 : decode cL_law 433 = .ok (.aload_n 2, 1) := by decide +kernel
theorem dL_law_434 : decode cL_law 434 = .ok (.aload_n 0, 1) := by decide +kernel
theorem dL_law_435 : decode cL_law 435 = .ok (.iload_n 3, 1) := by decide +kernel
theorem dL_law_436 : decode cL_law 436 = .ok (.iconst 1, 1) := by decide +kernel
theorem dL_law_437 : decode cL_law 437 = .ok (.iadd, 1) := by decide +kernel
theorem dL_law_438 : decode cL_law 438 = .ok (.iaload, 1) := by decide +kernel
theorem dL_law_439 : decode cL_law 439 = .ok (.aload_n 0, 1) := by decide +kernel
theorem dL_law_440 : decode cL_law 440 = .ok (.iload_n 3, 1) := by decide +kernel
theorem dL_law_441 : decode cL_law 441 = .ok (.iconst 2, 1) := by decide +kernel
theorem dL_law_442 : decode cL_law 442 = .ok (.iadd, 1) := by decide +kernel
theorem dL_law_443 : decode cL_law 443 = .ok (.iaload, 1) := by decide +kernel
theorem dL_law_444 : decode cL_law 444 = .ok (.aload_n 0, 1) := by decide +kernel
theorem dL_law_445 : decode cL_law 445 = .ok (.iload_n 3, 1) := by decide +kernel
theorem dL_law_446 : decode cL_law 446 = .ok (.iconst 3, 1) := by decide +kernel
theorem dL_law_447 : decode cL_law 447 = .ok (.iadd, 1) := by decide +kernel
theorem dL_law_448 : decode cL_law 448 = .ok (.iaload, 1) := by decide +kernel
theorem dL_law_449 : decode cL_law 449 = .ok (.invokevirtual 42, 3) := by decide +kernel
theorem dL_law_452 : decode cL_law 452 = .ok (.if_icmp .eq 820, 3) := by decide +kernel
theorem dL_law_455 : decode cL_law 455 = .ok (.iconst 0, 1) := by decide +kernel
theorem dL_law_456 : decode cL_law 456 = .ok (.ireturn, 1) := by decide +kernel
theorem dL_law_457 : decode cL_law 457 = .ok (.aload_n 1, 1) := by decide +kernel
theorem dL_law_458 : decode cL_law 458 = .ok (.aload_n 0, 1) := by decide +kernel
theorem dL_law_459 : decode cL_law 459 = .ok (.iload_n 3, 1) := by decide +kernel
theorem dL_law_460 : decode cL_law 460 = .ok (.iconst 1, 1) := by decide +kernel
theorem dL_law_461 : decode cL_law 461 = .ok (.iadd, 1) := by decide +kernel
theorem dL_law_462 : decode cL_law 462 = .ok (.iaload, 1) := by decide +kernel
theorem dL_law_463 : decode cL_law 463 = .ok (.invokevirtual 43, 3) := by decide +kernel
theorem dL_law_466 : decode cL_law 466 = .ok (.aload_n 2, 1) := by decide +kernel
theorem dL_law_467 : decode cL_law 467 = .ok (.aload_n 0, 1) := by decide +kernel
theorem dL_law_468 : decode cL_law 468 = .ok (.iload_n 3, 1) := by decide +kernel
theorem dL_law_469 : decode cL_law 469 = .ok (.iconst 1, 1) := by decide +kernel
theorem dL_law_470 : decode cL_law 470 = .ok (.iadd, 1) := by decide +kernel
theorem dL_law_471 : decode cL_law 471 = .ok (.iaload, 1) := by decide +kernel
theorem dL_law_472 : decode cL_law 472 = .ok (.invokevirtual 47, 3) := by decide +kernel
theorem dL_law_475 : decode cL_law 475 = .ok (.if_icmp .eq 797, 3) := by decide +kernel
theorem dL_law_478 : decode cL_law 478 = .ok (.iconst 0, 1) := by decide +kernel
theorem dL_law_479 : decode cL_law 479 = .ok (.ireturn, 1) := by decide +kernel
theorem dL_law_480 : decode cL_law 480 = .ok (.aload_n 1, 1) := by decide +kernel
theorem dL_law_481 : decode cL_law 481 = .ok (.aload_n 0, 1) := by decide +kernel
theorem dL_law_482 : decode cL_law 482 = .ok (.iload_n 3, 1) := by decide +kernel
theorem dL_law_483 : decode cL_law 483 = .ok (.iconst 1, 1) := by decide +kernel
theorem dL_law_484 : decode cL_law 484 = .ok (.iadd, 1) := by decide +kernel
theorem dL_law_485 : decode cL_law 485 = .ok (.iaload, 1) := by decide +kernel
theorem dL_law_486 : decode cL_law 486 = .ok (.aload_n 0, 1) := by decide +kernel
theorem dL_law_487 : decode cL_law 487 = .ok (.iload_n 3, 1) := by decide +kernel
theorem dL_law_488 : decode cL_law 488 = .ok (.iconst 2, 1) := by decide +kernel
theorem dL_law_489 : decode cL_law 489 = .ok (.iadd, 1) := by decide +kernel
theorem dL_law_490 : decode cL_law 490 = .ok (.iaload, 1) := by decide +kernel
theorem dL_law_491 : decode cL_law 491 = .ok (.aload_n 0, 1) := by decide +kernel
theorem dL_law_492 : decode cL_law 492 = .ok (.iload_n 3, 1) := by decide +kernel
theorem dL_law_493 : decode cL_law 493 = .ok (.iconst 3, 1) := by decide +kernel
theorem dL_law_494 : decode cL_law 494 = .ok (.iadd, 1) := by decide +kernel
theorem dL_law_495 : decode cL_law 495 = .ok (.iaload, 1) := by decide +kernel
theorem dL_law_496 : decode cL_law 496 = .ok (.invokevirtual 48, 3) := by decide +kernel
theorem dL_law_499 : decode cL_law 499 = .ok (.aload_n 2, 1) := by decide +kernel
theorem dL_law_500 : decode cL_law 500 = .ok (.aload_n 0, 1) := by decide +kernel
theorem dL_law_501 : decode cL_law 501 = .ok (.iload_n 3, 1) := by decide +kernel
theorem dL_law_502 : decode cL_law 502 = .ok (.iconst 1, 1) := by decide +kernel
theorem dL_law_503 : decode cL_law 503 = .ok (.iadd, 1) := by decide +kernel
theorem dL_law_504 : decode cL_law 504 = .ok (.iaload, 1) := by decide +kernel
theorem dL_law_505 : decode cL_law 505 = .ok (.aload_n 0, 1) := by decide +kernel
theorem dL_law_506 : decode cL_law 506 = .ok (.iload_n 3, 1) := by decide +kernel
theorem dL_law_507 : decode cL_law 507 = .ok (.iconst 2, 1) := by decide +kernel
theorem dL_law_508 : decode cL_law 508 = .ok (.iadd, 1) := by decide +kernel
theorem dL_law_509 : decode cL_law 509 = .ok (.iaload, 1) := by decide +kernel
theorem dL_law_510 : decode cL_law 510 = .ok (.aload_n 0, 1) := by decide +kernel
theorem dL_law_511 : decode cL_law 511 = .ok (.iload_n 3, 1) := by decide +kernel
theorem dL_law_512 : decode cL_law 512 = .ok (.iconst 3, 1) := by decide +kernel
theorem dL_law_513 : decode cL_law 513 = .ok (.iadd, 1) := by decide +kernel
theorem dL_law_514 : decode cL_law 514 = .ok (.iaload, 1) := by decide +kernel
theorem dL_law_515 : decode cL_law 515 = .ok (.invokevirtual 51, 3) := by decide +kernel
theorem dL_law_518 : decode cL_law 518 = .ok (.if_icmp .eq 754, 3) := by decide +kernel
theorem dL_law_521 : decode cL_law 521 = .ok (.iconst 0, 1) := by decide +kernel
theorem dL_law_522 : decode cL_law 522 = .ok (.ireturn, 1) := by decide +kernel
theorem dL_law_523 : decode cL_law 523 = .ok (.aload_n 1, 1) := by decide +kernel
theorem dL_law_524 : decode cL_law 524 = .ok (.aload_n 0, 1) := by decide +kernel
theorem dL_law_525 : decode cL_law 525 = .ok (.iload_n 3, 1) := by decide +kernel
theorem dL_law_526 : decode cL_law 526 = .ok (.iconst 1, 1) := by decide +kernel
theorem dL_law_527 : decode cL_law 527 = .ok (.iadd, 1) := by decide +kernel
theorem dL_law_528 : decode cL_law 528 = .ok (.iaload, 1) := by decide +kernel
theorem dL_law_529 : decode cL_law 529 = .ok (.aload_n 0, 1) := by decide +kernel
theorem dL_law_530 : decode cL_law 530 = .ok (.iload_n 3, 1) := by decide +kernel
theorem dL_law_531 : decode cL_law 531 = .ok (.iconst 2, 1) := by decide +kernel
theorem dL_law_532 : decode cL_law 532 = .ok (.iadd, 1) := by decide +kernel
theorem dL_law_533 : decode cL_law 533 = .ok (.iaload, 1) := by decide +kernel
theorem dL_law_534 : decode cL_law 534 = .ok (.aload_n 0, 1) := by decide +kernel
theorem dL_law_535 : decode cL_law 535 = .ok (.iload_n 3, 1) := by decide +kernel
theorem dL_law_536 : decode cL_law 536 = .ok (.iconst 3, 1) := by decide +kernel
theorem dL_law_537 : decode cL_law 537 = .ok (.iadd, 1) := by decide +kernel
theorem dL_law_538 : decode cL_law 538 = .ok (.iaload, 1) := by decide +kernel
theorem dL_law_539 : decode cL_law 539 = .ok (.invokevirtual 52, 3) := by decide +kernel
theorem dL_law_542 : decode cL_law 542 = .ok (.aload_n 2, 1) := by decide +kernel
theorem dL_law_543 : decode cL_law 543 = .ok (.aload_n 0, 1) := by decide +kernel
theorem dL_law_544 : decode cL_law 544 = .ok (.iload_n 3, 1) := by decide +kernel
theorem dL_law_545 : decode cL_law 545 = .ok (.iconst 1, 1) := by decide +kernel
theorem dL_law_546 : decode cL_law 546 = .ok (.iadd, 1) := by decide +kernel
theorem dL_law_547 : decode cL_law 547 = .ok (.iaload, 1) := by decide +kernel
theorem dL_law_548 : decode cL_law 548 = .ok (.aload_n 0, 1) := by decide +kernel
theorem dL_law_549 : decode cL_law 549 = .ok (.iload_n 3, 1) := by decide +kernel
theorem dL_law_550 : decode cL_law 550 = .ok (.iconst 2, 1) := by decide +kernel
theorem dL_law_551 : decode cL_law 551 = .ok (.iadd, 1) := by decide +kernel
theorem dL_law_552 : decode cL_law 552 = .ok (.iaload, 1) := by decide +kernel
theorem dL_law_553 : decode cL_law 553 = .ok (.aload_n 0, 1) := by decide +kernel
theorem dL_law_554 : decode cL_law 554 = .ok (.iload_n 3, 1) := by decide +kernel
theorem dL_law_555 : decode cL_law 555 = .ok (.iconst 3, 1) := by decide +kernel
theorem dL_law_556 : decode cL_law 556 = .ok (.iadd, 1) := by decide +kernel
theorem dL_law_557 : decode cL_law 557 = .ok (.iaload, 1) := by decide +kernel
theorem dL_law_558 : decode cL_law 558 = .ok (.invokevirtual 55, 3) := by decide +kernel
theorem dL_law_561 : decode cL_law 561 = .ok (.if_icmp .eq 711, 3) := by decide +kernel
theorem dL_law_564 : decode cL_law 564 = .ok (.iconst 0, 1) := by decide +kernel
theorem dL_law_565 : decode cL_law 565 = .ok (.ireturn, 1) := by decide +kernel
theorem dL_law_566 : decode cL_law 566 = .ok (.aload_n 1, 1) := by decide +kernel
theorem dL_law_567 : decode cL_law 567 = .ok (.aload_n 0, 1) := by decide +kernel
theorem dL_law_568 : decode cL_law 568 = .ok (.iload_n 3, 1) := by decide +kernel
theorem dL_law_569 : decode cL_law 569 = .ok (.iconst 1, 1) := by decide +kernel
theorem dL_law_570 : decode cL_law 570 = .ok (.iadd, 1) := by decide +kernel
theorem dL_law_571 : decode cL_law 571 = .ok (.iaload, 1) := by decide +kernel
theorem dL_law_572 : decode cL_law 572 = .ok (.aload_n 0, 1) := by decide +kernel
theorem dL_law_573 : decode cL_law 573 = .ok (.iload_n 3, 1) := by decide +kernel
theorem dL_law_574 : decode cL_law 574 = .ok (.iconst 2, 1) := by decide +kernel
theorem dL_law_575 : decode cL_law 575 = .ok (.iadd, 1) := by decide +kernel
theorem dL_law_576 : decode cL_law 576 = .ok (.iaload, 1) := by decide +kernel
theorem dL_law_577 : decode cL_law 577 = .ok (.invokevirtual 56, 3) := by decide +kernel
theorem dL_law_580 : decode cL_law 580 = .ok (.aload_n 2, 1) := by decide +kernel
theorem dL_law_581 : decode cL_law 581 = .ok (.aload_n 0, 1) := by decide +kernel
theorem dL_law_582 : decode cL_law 582 = .ok (.iload_n 3, 1) := by decide +kernel
theorem dL_law_583 : decode cL_law 583 = .ok (.iconst 1, 1) := by decide +kernel
theorem dL_law_584 : decode cL_law 584 = .ok (.iadd, 1) := by decide +kernel
theorem dL_law_585 : decode cL_law 585 = .ok (.iaload, 1) := by decide +kernel
theorem dL_law_586 : decode cL_law 586 = .ok (.aload_n 0, 1) := by decide +kernel
theorem dL_law_587 : decode cL_law 587 = .ok (.iload_n 3, 1) := by decide +kernel
theorem dL_law_588 : decode cL_law 588 = .ok (.iconst 2, 1) := by decide +kernel
theorem dL_law_589 : decode cL_law 589 = .ok (.iadd, 1) := by decide +kernel
theorem dL_law_590 : decode cL_law 590 = .ok (.iaload, 1) := by decide +kernel
theorem dL_law_591 : decode cL_law 591 = .ok (.invokevirtual 59, 3) := by decide +kernel
theorem dL_law_594 : decode cL_law 594 = .ok (.if_icmp .eq 678, 3) := by decide +kernel
theorem dL_law_597 : decode cL_law 597 = .ok (.iconst 0, 1) := by decide +kernel
theorem dL_law_598 : decode cL_law 598 = .ok (.ireturn, 1) := by decide +kernel
theorem dL_law_599 : decode cL_law 599 = .ok (.aload_n 1, 1) := by decide +kernel
theorem dL_law_600 : decode cL_law 600 = .ok (.aload_n 0, 1) := by decide +kernel
theorem dL_law_601 : decode cL_law 601 = .ok (.iload_n 3, 1) := by decide +kernel
theorem dL_law_602 : decode cL_law 602 = .ok (.iconst 1, 1) := by decide +kernel
theorem dL_law_603 : decode cL_law 603 = .ok (.iadd, 1) := by decide +kernel
theorem dL_law_604 : decode cL_law 604 = .ok (.iaload, 1) := by decide +kernel
theorem dL_law_605 : decode cL_law 605 = .ok (.invokevirtual 60, 3) := by decide +kernel
theorem dL_law_608 : decode cL_law 608 = .ok (.aload_n 2, 1) := by decide +kernel
theorem dL_law_609 : decode cL_law 609 = .ok (.aload_n 0, 1) := by decide +kernel
theorem dL_law_610 : decode cL_law 610 = .ok (.iload_n 3, 1) := by decide +kernel
theorem dL_law_611 : decode cL_law 611 = .ok (.iconst 1, 1) := by decide +kernel
theorem dL_law_612 : decode cL_law 612 = .ok (.iadd, 1) := by decide +kernel
theorem dL_law_613 : decode cL_law 613 = .ok (.iaload, 1) := by decide +kernel
theorem dL_law_614 : decode cL_law 614 = .ok (.invokevirtual 63, 3) := by decide +kernel
theorem dL_law_617 : decode cL_law 617 = .ok (.if_icmp .eq 655, 3) := by decide +kernel
theorem dL_law_620 : decode cL_law 620 = .ok (.iconst 0, 1) := by decide +kernel
theorem dL_law_621 : decode cL_law 621 = .ok (.ireturn, 1) := by decide +kernel
theorem dL_law_622 : decode cL_law 622 = .ok (.aload_n 1, 1) := by decide +kernel
theorem dL_law_623 : decode cL_law 623 = .ok (.aload_n 0, 1) := by decide +kernel
theorem dL_law_624 : decode cL_law 624 = .ok (.iload_n 3, 1) := by decide +kernel
theorem dL_law_625 : decode cL_law 625 = .ok (.iconst 1, 1) := by decide +kernel
theorem dL_law_626 : decode cL_law 626 = .ok (.iadd, 1) := by decide +kernel
theorem dL_law_627 : decode cL_law 627 = .ok (.iaload, 1) := by decide +kernel
theorem dL_law_628 : decode cL_law 628 = .ok (.invokevirtual 64, 3) := by decide +kernel
theorem dL_law_631 : decode cL_law 631 = .ok (.aload_n 2, 1) := by decide +kernel
theorem dL_law_632 : decode cL_law 632 = .ok (.aload_n 0, 1) := by decide +kernel
theorem dL_law_633 : decode cL_law 633 = .ok (.iload_n 3, 1) := by decide +kernel
theorem dL_law_634 : decode cL_law 634 = .ok (.iconst 1, 1) := by decide +kernel
theorem dL_law_635 : decode cL_law 635 = .ok (.iadd, 1) := by decide +kernel
theorem dL_law_636 : decode cL_law 636 = .ok (.iaload, 1) := by decide +kernel
theorem dL_law_637 : decode cL_law 637 = .ok (.invokevirtual 67, 3) := by decide +kernel
theorem dL_law_640 : decode cL_law 640 = .ok (.if_icmp .eq 632, 3) := by decide +kernel
theorem dL_law_643 : decode cL_law 643 = .ok (.iconst 0, 1) := by decide +kernel
theorem dL_law_644 : decode cL_law 644 = .ok (.ireturn, 1) := by decide +kernel
theorem dL_law_645 : decode cL_law 645 = .ok (.aload_n 1, 1) := by decide +kernel
theorem dL_law_646 : decode cL_law 646 = .ok (.aload_n 0, 1) := by decide +kernel
theorem dL_law_647 : decode cL_law 647 = .ok (.iload_n 3, 1) := by decide +kernel
theorem dL_law_648 : decode cL_law 648 = .ok (.iconst 1, 1) := by decide +kernel
theorem dL_law_649 : decode cL_law 649 = .ok (.iadd, 1) := by decide +kernel
theorem dL_law_650 : decode cL_law 650 = .ok (.iaload, 1) := by decide +kernel
theorem dL_law_651 : decode cL_law 651 = .ok (.invokevirtual 68, 3) := by decide +kernel
theorem dL_law_654 : decode cL_law 654 = .ok (.aload_n 2, 1) := by decide +kernel
theorem dL_law_655 : decode cL_law 655 = .ok (.aload_n 0, 1) := by decide +kernel
theorem dL_law_656 : decode cL_law 656 = .ok (.iload_n 3, 1) := by decide +kernel
theorem dL_law_657 : decode cL_law 657 = .ok (.iconst 1, 1) := by decide +kernel
theorem dL_law_658 : decode cL_law 658 = .ok (.iadd, 1) := by decide +kernel
theorem dL_law_659 : decode cL_law 659 = .ok (.iaload, 1) := by decide +kernel
theorem dL_law_660 : decode cL_law 660 = .ok (.invokevirtual 71, 3) := by decide +kernel
theorem dL_law_663 : decode cL_law 663 = .ok (.if_icmp .eq 609, 3) := by decide +kernel
theorem dL_law_666 : decode cL_law 666 = .ok (.iconst 0, 1) := by decide +kernel
theorem dL_law_667 : decode cL_law 667 = .ok (.ireturn, 1) := by decide +kernel
theorem dL_law_668 : decode cL_law 668 = .ok (.aload_n 1, 1) := by decide +kernel
theorem dL_law_669 : decode cL_law 669 = .ok (.aload_n 0, 1) := by decide +kernel
theorem dL_law_670 : decode cL_law 670 = .ok (.iload_n 3, 1) := by decide +kernel
theorem dL_law_671 : decode cL_law 671 = .ok (.iconst 1, 1) := by decide +kernel
theorem dL_law_672 : decode cL_law 672 = .ok (.iadd, 1) := by decide +kernel
theorem dL_law_673 : decode cL_law 673 = .ok (.iaload, 1) := by decide +kernel
theorem dL_law_674 : decode cL_law 674 = .ok (.aload_n 0, 1) := by decide +kernel
theorem dL_law_675 : decode cL_law 675 = .ok (.iload_n 3, 1) := by decide +kernel
theorem dL_law_676 : decode cL_law 676 = .ok (.iconst 2, 1) := by decide +kernel
theorem dL_law_677 : decode cL_law 677 = .ok (.iadd, 1) := by decide +kernel
theorem dL_law_678 : decode cL_law 678 = .ok (.iaload, 1) := by decide +kernel
theorem dL_law_679 : decode cL_law 679 = .ok (.aload_n 0, 1) := by decide +kernel
theorem dL_law_680 : decode cL_law 680 = .ok (.iload_n 3, 1) := by decide +kernel
theorem dL_law_681 : decode cL_law 681 = .ok (.iconst 3, 1) := by decide +kernel
theorem dL_law_682 : decode cL_law 682 = .ok (.iadd, 1) := by decide +kernel
theorem dL_law_683 : decode cL_law 683 = .ok (.iaload, 1) := by decide +kernel
theorem dL_law_684 : decode cL_law 684 = .ok (.invokevirtual 72, 3) := by decide +kernel
theorem dL_law_687 : decode cL_law 687 = .ok (.aload_n 2, 1) := by decide +kernel
theorem dL_law_688 : decode cL_law 688 = .ok (.aload_n 0, 1) := by decide +kernel
theorem dL_law_689 : decode cL_law 689 = .ok (.iload_n 3, 1) := by decide +kernel
theorem dL_law_690 : decode cL_law 690 = .ok (.iconst 1, 1) := by decide +kernel
theorem dL_law_691 : decode cL_law 691 = .ok (.iadd, 1) := by decide +kernel
theorem dL_law_692 : decode cL_law 692 = .ok (.iaload, 1) := by decide +kernel
theorem dL_law_693 : decode cL_law 693 = .ok (.aload_n 0, 1) := by decide +kernel
theorem dL_law_694 : decode cL_law 694 = .ok (.iload_n 3, 1) := by decide +kernel
theorem dL_law_695 : decode cL_law 695 = .ok (.iconst 2, 1) := by decide +kernel
theorem dL_law_696 : decode cL_law 696 = .ok (.iadd, 1) := by decide +kernel
theorem dL_law_697 : decode cL_law 697 = .ok (.iaload, 1) := by decide +kernel
theorem dL_law_698 : decode cL_law 698 = .ok (.aload_n 0, 1) := by decide +kernel
theorem dL_law_699 : decode cL_law 699 = .ok (.iload_n 3, 1) := by decide +kernel
theorem dL_law_700 : decode cL_law 700 = .ok (.iconst 3, 1) := by decide +kernel
theorem dL_law_701 : decode cL_law 701 = .ok (.iadd, 1) := by decide +kernel
theorem dL_law_702 : decode cL_law 702 = .ok (.iaload, 1) := by decide +kernel
theorem dL_law_703 : decode cL_law 703 = .ok (.invokevirtual 75, 3) := by decide +kernel
theorem dL_law_706 : decode cL_law 706 = .ok (.if_icmp .eq 566, 3) := by decide +kernel
theorem dL_law_709 : decode cL_law 709 = .ok (.iconst 0, 1) := by decide +kernel
theorem dL_law_710 : decode cL_law 710 = .ok (.ireturn, 1) := by decide +kernel
theorem dL_law_711 : decode cL_law 711 = .ok (.aload_n 1, 1) := by decide +kernel
theorem dL_law_712 : decode cL_law 712 = .ok (.aload_n 0, 1) := by decide +kernel
theorem dL_law_713 : decode cL_law 713 = .ok (.iload_n 3, 1) := by decide +kernel
theorem dL_law_714 : decode cL_law 714 = .ok (.iconst 1, 1) := by decide +kernel
theorem dL_law_715 : decode cL_law 715 = .ok (.iadd, 1) := by decide +kernel
theorem dL_law_716 : decode cL_law 716 = .ok (.iaload, 1) := by decide +kernel
theorem dL_law_717 : decode cL_law 717 = .ok (.aload_n 0, 1) := by decide +kernel
theorem dL_law_718 : decode cL_law 718 = .ok (.iload_n 3, 1) := by decide +kernel
theorem dL_law_719 : decode cL_law 719 = .ok (.iconst 2, 1) := by decide +kernel
theorem dL_law_720 : decode cL_law 720 = .ok (.iadd, 1) := by decide +kernel
theorem dL_law_721 : decode cL_law 721 = .ok (.iaload, 1) := by decide +kernel
theorem dL_law_722 : decode cL_law 722 = .ok (.aload_n 0, 1) := by decide +kernel
theorem dL_law_723 : decode cL_law 723 = .ok (.iload_n 3, 1) := by decide +kernel
theorem dL_law_724 : decode cL_law 724 = .ok (.iconst 3, 1) := by decide +kernel
theorem dL_law_725 : decode cL_law 725 = .ok (.iadd, 1) := by decide +kernel
theorem dL_law_726 : decode cL_law 726 = .ok (.iaload, 1) := by decide +kernel
theorem dL_law_727 : decode cL_law 727 = .ok (.invokevirtual 76, 3) := by decide +kernel
theorem dL_law_730 : decode cL_law 730 = .ok (.aload_n 2, 1) := by decide +kernel
theorem dL_law_731 : decode cL_law 731 = .ok (.aload_n 0, 1) := by decide +kernel
theorem dL_law_732 : decode cL_law 732 = .ok (.iload_n 3, 1) := by decide +kernel
theorem dL_law_733 : decode cL_law 733 = .ok (.iconst 1, 1) := by decide +kernel
theorem dL_law_734 : decode cL_law 734 = .ok (.iadd, 1) := by decide +kernel
theorem dL_law_735 : decode cL_law 735 = .ok (.iaload, 1) := by decide +kernel
theorem dL_law_736 : decode cL_law 736 = .ok (.aload_n 0, 1) := by decide +kernel
theorem dL_law_737 : decode cL_law 737 = .ok (.iload_n 3, 1) := by decide +kernel
theorem dL_law_738 : decode cL_law 738 = .ok (.iconst 2, 1) := by decide +kernel
theorem dL_law_739 : decode cL_law 739 = .ok (.iadd, 1) := by decide +kernel
theorem dL_law_740 : decode cL_law 740 = .ok (.iaload, 1) := by decide +kernel
theorem dL_law_741 : decode cL_law 741 = .ok (.aload_n 0, 1) := by decide +kernel
theorem dL_law_742 : decode cL_law 742 = .ok (.iload_n 3, 1) := by decide +kernel
theorem dL_law_743 : decode cL_law 743 = .ok (.iconst 3, 1) := by decide +kernel
theorem dL_law_744 : decode cL_law 744 = .ok (.iadd, 1) := by decide +kernel
theorem dL_law_745 : decode cL_law 745 = .ok (.iaload, 1) := by decide +kernel
theorem dL_law_746 : decode cL_law 746 = .ok (.invokevirtual 79, 3) := by decide +kernel
theorem dL_law_749 : decode cL_law 749 = .ok (.if_icmp .eq 523, 3) := by decide +kernel
theorem dL_law_752 : decode cL_law 752 = .ok (.iconst 0, 1) := by decide +kernel
theorem dL_law_753 : decode cL_law 753 = .ok (.ireturn, 1) := by decide +kernel
theorem dL_law_754 : decode cL_law 754 = .ok (.aload_n 1, 1) := by decide +kernel
theorem dL_law_755 : decode cL_law 755 = .ok (.aload_n 0, 1) := by decide +kernel
theorem dL_law_756 : decode cL_law 756 = .ok (.iload_n 3, 1) := by decide +kernel
theorem dL_law_757 : decode cL_law 757 = .ok (.iconst 1, 1) := by decide +kernel
theorem dL_law_758 : decode cL_law 758 = .ok (.iadd, 1) := by decide +kernel
theorem dL_law_759 : decode cL_law 759 = .ok (.iaload, 1) := by decide +kernel
theorem dL_law_760 : decode cL_law 760 = .ok (.aload_n 0, 1) := by decide +kernel
theorem dL_law_761 : decode cL_law 761 = .ok (.iload_n 3, 1) := by decide +kernel
theorem dL_law_762 : decode cL_law 762 = .ok (.iconst 2, 1) := by decide +kernel
theorem dL_law_763 : decode cL_law 763 = .ok (.iadd, 1) := by decide +kernel
theorem dL_law_764 : decode cL_law 764 = .ok (.iaload, 1) := by decide +kernel
theorem dL_law_765 : decode cL_law 765 = .ok (.aload_n 0, 1) := by decide +kernel
theorem dL_law_766 : decode cL_law 766 = .ok (.iload_n 3, 1) := by decide +kernel
theorem dL_law_767 : decode cL_law 767 = .ok (.iconst 3, 1) := by decide +kernel
theorem dL_law_768 : decode cL_law 768 = .ok (.iadd, 1) := by decide +kernel
theorem dL_law_769 : decode cL_law 769 = .ok (.iaload, 1) := by decide +kernel
theorem dL_law_770 : decode cL_law 770 = .ok (.invokevirtual 80, 3) := by decide +kernel
theorem dL_law_773 : decode cL_law 773 = .ok (.aload_n 2, 1) := by decide +kernel
theorem dL_law_774 : decode cL_law 774 = .ok (.aload_n 0, 1) := by decide +kernel
theorem dL_law_775 : decode cL_law 775 = .ok (.iload_n 3, 1) := by decide +kernel
theorem dL_law_776 : decode cL_law 776 = .ok (.iconst 1, 1) := by decide +kernel
theorem dL_law_777 : decode cL_law 777 = .ok (.iadd, 1) := by decide +kernel
theorem dL_law_778 : decode cL_law 778 = .ok (.iaload, 1) := by decide +kernel
theorem dL_law_779 : decode cL_law 779 = .ok (.aload_n 0, 1) := by decide +kernel
theorem dL_law_780 : decode cL_law 780 = .ok (.iload_n 3, 1) := by decide +kernel
theorem dL_law_781 : decode cL_law 781 = .ok (.iconst 2, 1) := by decide +kernel
theorem dL_law_782 : decode cL_law 782 = .ok (.iadd, 1) := by decide +kernel
theorem dL_law_783 : decode cL_law 783 = .ok (.iaload, 1) := by decide +kernel
theorem dL_law_784 : decode cL_law 784 = .ok (.aload_n 0, 1) := by decide +kernel
theorem dL_law_785 : decode cL_law 785 = .ok (.iload_n 3, 1) := by decide +kernel
theorem dL_law_786 : decode cL_law 786 = .ok (.iconst 3, 1) := by decide +kernel
theorem dL_law_787 : decode cL_law 787 = .ok (.iadd, 1) := by decide +kernel
theorem dL_law_788 : decode cL_law 788 = .ok (.iaload, 1) := by decide +kernel
theorem dL_law_789 : decode cL_law 789 = .ok (.invokevirtual 83, 3) := by decide +kernel
theorem dL_law_792 : decode cL_law 792 = .ok (.if_icmp .eq 480, 3) := by decide +kernel
theorem dL_law_795 : decode cL_law 795 = .ok (.iconst 0, 1) := by decide +kernel
theorem dL_law_796 : decode cL_law 796 = .ok (.ireturn, 1) := by decide +kernel
theorem dL_law_797 : decode cL_law 797 = .ok (.aload_n 1, 1) := by decide +kernel
theorem dL_law_798 : decode cL_law 798 = .ok (.aload_n 0, 1) := by decide +kernel
theorem dL_law_799 : decode cL_law 799 = .ok (.iload_n 3, 1) := by decide +kernel
theorem dL_law_800 : decode cL_law 800 = .ok (.iconst 1, 1) := by decide +kernel
theorem dL_law_801 : decode cL_law 801 = .ok (.iadd, 1) := by decide +kernel
theorem dL_law_802 : decode cL_law 802 = .ok (.iaload, 1) := by decide +kernel
theorem dL_law_803 : decode cL_law 803 = .ok (.aload_n 0, 1) := by decide +kernel
theorem dL_law_804 : decode cL_law 804 = .ok (.iload_n 3, 1) := by decide +kernel
theorem dL_law_805 : decode cL_law 805 = .ok (.iconst 2, 1) := by decide +kernel
theorem dL_law_806 : decode cL_law 806 = .ok (.iadd, 1) := by decide +kernel
theorem dL_law_807 : decode cL_law 807 = .ok (.iaload, 1) := by decide +kernel
theorem dL_law_808 : decode cL_law 808 = .ok (.aload_n 0, 1) := by decide +kernel
theorem dL_law_809 : decode cL_law 809 = .ok (.iload_n 3, 1) := by decide +kernel
theorem dL_law_810 : decode cL_law 810 = .ok (.iconst 3, 1) := by decide +kernel
theorem dL_law_811 : decode cL_law 811 = .ok (.iadd, 1) := by decide +kernel
theorem dL_law_812 : decode cL_law 812 = .ok (.iaload, 1) := by decide +kernel
theorem dL_law_813 : decode cL_law 813 = .ok (.invokevirtual 84, 3) := by decide +kernel
theorem dL_law_816 : decode cL_law 816 = .ok (.aload_n 2, 1) := by decide +kernel
theorem dL_law_817 : decode cL_law 817 = .ok (.aload_n 0, 1) := by decide +kernel
theorem dL_law_818 : decode cL_law 818 = .ok (.iload_n 3, 1) := by decide +kernel
theorem dL_law_819 : decode cL_law 819 = .ok (.iconst 1, 1) := by decide +kernel
theorem dL_law_820 : decode cL_law 820 = .ok (.iadd, 1) := by decide +kernel
theorem dL_law_821 : decode cL_law 821 = .ok (.iaload, 1) := by decide +kernel
theorem dL_law_822 : decode cL_law 822 = .ok (.aload_n 0, 1) := by decide +kernel
theorem dL_law_823 : decode cL_law 823 = .ok (.iload_n 3, 1) := by decide +kernel
theorem dL_law_824 : decode cL_law 824 = .ok (.iconst 2, 1) := by decide +kernel
theorem dL_law_825 : decode cL_law 825 = .ok (.iadd, 1) := by decide +kernel
theorem dL_law_826 : decode cL_law 826 = .ok (.iaload, 1) := by decide +kernel
theorem dL_law_827 : decode cL_law 827 = .ok (.aload_n 0, 1) := by decide +kernel
theorem dL_law_828 : decode cL_law 828 = .ok (.iload_n 3, 1) := by decide +kernel
theorem dL_law_829 : decode cL_law 829 = .ok (.iconst 3, 1) := by decide +kernel
theorem dL_law_830 : decode cL_law 830 = .ok (.iadd, 1) := by decide +kernel
theorem dL_law_831 : decode cL_law 831 = .ok (.iaload, 1) := by decide +kernel
theorem dL_law_832 : decode cL_law 832 = .ok (.invokevirtual 87, 3) := by decide +kernel
theorem dL_law_835 : decode cL_law 835 = .ok (.if_icmp .eq 437, 3) := by decide +kernel
theorem dL_law_838 : decode cL_law 838 = .ok (.iconst 0, 1) := by decide +kernel
theorem dL_law_839 : decode cL_law 839 = .ok (.ireturn, 1) := by decide +kernel
theorem dL_law_840 : decode cL_law 840 = .ok (.aload_n 1, 1) := by decide +kernel
theorem dL_law_841 : decode cL_law 841 = .ok (.aload_n 0, 1) := by decide +kernel
theorem dL_law_842 : decode cL_law 842 = .ok (.iload_n 3, 1) := by decide +kernel
theorem dL_law_843 : decode cL_law 843 = .ok (.iconst 1, 1) := by decide +kernel
theorem dL_law_844 : decode cL_law 844 = .ok (.iadd, 1) := by decide +kernel
theorem dL_law_845 : decode cL_law 845 = .ok (.iaload, 1) := by decide +kernel
theorem dL_law_846 : decode cL_law 846 = .ok (.aload_n 0, 1) := by decide +kernel
theorem dL_law_847 : decode cL_law 847 = .ok (.iload_n 3, 1) := by decide +kernel
theorem dL_law_848 : decode cL_law 848 = .ok (.iconst 2, 1) := by decide +kernel
theorem dL_law_849 : decode cL_law 849 = .ok (.iadd, 1) := by decide +kernel
theorem dL_law_850 : decode cL_law 850 = .ok (.iaload, 1) := by decide +kernel
theorem dL_law_851 : decode cL_law 851 = .ok (.aload_n 0, 1) := by decide +kernel
theorem dL_law_852 : decode cL_law 852 = .ok (.iload_n 3, 1) := by decide +kernel
theorem dL_law_853 : decode cL_law 853 = .ok (.iconst 3, 1) := by decide +kernel
theorem dL_law_854 : decode cL_law 854 = .ok (.iadd, 1) := by decide +kernel
theorem dL_law_855 : decode cL_law 855 = .ok (.iaload, 1) := by decide +kernel
theorem dL_law_856 : decode cL_law 856 = .ok (.invokevirtual 88, 3) := by decide +kernel
theorem dL_law_859 : decode cL_law 859 = .ok (.aload_n 2, 1) := by decide +kernel
theorem dL_law_860 : decode cL_law 860 = .ok (.aload_n 0, 1) := by decide +kernel
theorem dL_law_861 : decode cL_law 861 = .ok (.iload_n 3, 1) := by decide +kernel
theorem dL_law_862 : decode cL_law 862 = .ok (.iconst 1, 1) := by decide +kernel
theorem dL_law_863 : decode cL_law 863 = .ok (.iadd, 1) := by decide +kernel
theorem dL_law_864 : decode cL_law 864 = .ok (.iaload, 1) := by decide +kernel
theorem dL_law_865 : decode cL_law 865 = .ok (.aload_n 0, 1) := by decide +kernel
theorem dL_law_866 : decode cL_law 866 = .ok (.iload_n 3, 1) := by decide +kernel
theorem dL_law_867 : decode cL_law 867 = .ok (.iconst 2, 1) := by decide +kernel
theorem dL_law_868 : decode cL_law 868 = .ok (.iadd, 1) := by decide +kernel
theorem dL_law_869 : decode cL_law 869 = .ok (.iaload, 1) := by decide +kernel
theorem dL_law_870 : decode cL_law 870 = .ok (.aload_n 0, 1) := by decide +kernel
theorem dL_law_871 : decode cL_law 871 = .ok (.iload_n 3, 1) := by decide +kernel
theorem dL_law_872 : decode cL_law 872 = .ok (.iconst 3, 1) := by decide +kernel
theorem dL_law_873 : decode cL_law 873 = .ok (.iadd, 1) := by decide +kernel
theorem dL_law_874 : decode cL_law 874 = .ok (.iaload, 1) := by decide +kernel
theorem dL_law_875 : decode cL_law 875 = .ok (.invokevirtual 91, 3) := by decide +kernel
theorem dL_law_878 : decode cL_law 878 = .ok (.if_icmp .eq 394, 3) := by decide +kernel
theorem dL_law_881 : decode cL_law 881 = .ok (.iconst 0, 1) := by decide +kernel
theorem dL_law_882 : decode cL_law 882 = .ok (.ireturn, 1) := by decide +kernel
theorem dL_law_883 : decode cL_law 883 = .ok (.aload_n 1, 1) := by decide +kernel
theorem dL_law_884 : decode cL_law 884 = .ok (.aload_n 0, 1) := by decide +kernel
theorem dL_law_885 : decode cL_law 885 = .ok (.iload_n 3, 1) := by decide +kernel
theorem dL_law_886 : decode cL_law 886 = .ok (.iconst 1, 1) := by decide +kernel
theorem dL_law_887 : decode cL_law 887 = .ok (.iadd, 1) := by decide +kernel
theorem dL_law_888 : decode cL_law 888 = .ok (.iaload, 1) := by decide +kernel
theorem dL_law_889 : decode cL_law 889 = .ok (.aload_n 0, 1) := by decide +kernel
theorem dL_law_890 : decode cL_law 890 = .ok (.iload_n 3, 1) := by decide +kernel
theorem dL_law_891 : decode cL_law 891 = .ok (.iconst 2, 1) := by decide +kernel
theorem dL_law_892 : decode cL_law 892 = .ok (.iadd, 1) := by decide +kernel
theorem dL_law_893 : decode cL_law 893 = .ok (.iaload, 1) := by decide +kernel
theorem dL_law_894 : decode cL_law 894 = .ok (.invokevirtual 92, 3) := by decide +kernel
theorem dL_law_897 : decode cL_law 897 = .ok (.aload_n 2, 1) := by decide +kernel
theorem dL_law_898 : decode cL_law 898 = .ok (.aload_n 0, 1) := by decide +kernel
theorem dL_law_899 : decode cL_law 899 = .ok (.iload_n 3, 1) := by decide +kernel
theorem dL_law_900 : decode cL_law 900 = .ok (.iconst 1, 1) := by decide +kernel
theorem dL_law_901 : decode cL_law 901 = .ok (.iadd, 1) := by decide +kernel
theorem dL_law_902 : decode cL_law 902 = .ok (.iaload, 1) := by decide +kernel
theorem dL_law_903 : decode cL_law 903 = .ok (.aload_n 0, 1) := by decide +kernel
theorem dL_law_904 : decode cL_law 904 = .ok (.iload_n 3, 1) := by decide +kernel
theorem dL_law_905 : decode cL_law 905 = .ok (.iconst 2, 1) := by decide +kernel
theorem dL_law_906 : decode cL_law 906 = .ok (.iadd, 1) := by decide +kernel
theorem dL_law_907 : decode cL_law 907 = .ok (.iaload, 1) := by decide +kernel
theorem dL_law_908 : decode cL_law 908 = .ok (.invokevirtual 95, 3) := by decide +kernel
theorem dL_law_911 : decode cL_law 911 = .ok (.if_icmp .eq 361, 3) := by decide +kernel
theorem dL_law_914 : decode cL_law 914 = .ok (.iconst 0, 1) := by decide +kernel
theorem dL_law_915 : decode cL_law 915 = .ok (.ireturn, 1) := by decide +kernel
theorem dL_law_916 : decode cL_law 916 = .ok (.aload_n 1, 1) := by decide +kernel
theorem dL_law_917 : decode cL_law 917 = .ok (.aload_n 0, 1) := by decide +kernel
theorem dL_law_918 : decode cL_law 918 = .ok (.iload_n 3, 1) := by decide +kernel
theorem dL_law_919 : decode cL_law 919 = .ok (.iconst 1, 1) := by decide +kernel
theorem dL_law_920 : decode cL_law 920 = .ok (.iadd, 1) := by decide +kernel
theorem dL_law_921 : decode cL_law 921 = .ok (.iaload, 1) := by decide +kernel
theorem dL_law_922 : decode cL_law 922 = .ok (.aload_n 0, 1) := by decide +kernel
theorem dL_law_923 : decode cL_law 923 = .ok (.iload_n 3, 1) := by decide +kernel
theorem dL_law_924 : decode cL_law 924 = .ok (.iconst 2, 1) := by decide +kernel
theorem dL_law_925 : decode cL_law 925 = .ok (.iadd, 1) := by decide +kernel
theorem dL_law_926 : decode cL_law 926 = .ok (.iaload, 1) := by decide +kernel
theorem dL_law_927 : decode cL_law 927 = .ok (.aload_n 0, 1) := by decide +kernel
theorem dL_law_928 : decode cL_law 928 = .ok (.iload_n 3, 1) := by decide +kernel
theorem dL_law_929 : decode cL_law 929 = .ok (.iconst 3, 1) := by decide +kernel
theorem dL_law_930 : decode cL_law 930 = .ok (.iadd, 1) := by decide +kernel
theorem dL_law_931 : decode cL_law 931 = .ok (.iaload, 1) := by decide +kernel
theorem dL_law_932 : decode cL_law 932 = .ok (.invokevirtual 96, 3) := by decide +kernel
theorem dL_law_935 : decode cL_law 935 = .ok (.aload_n 2, 1) := by decide +kernel
theorem dL_law_936 : decode cL_law 936 = .ok (.aload_n 0, 1) := by decide +kernel
theorem dL_law_937 : decode cL_law 937 = .ok (.iload_n 3, 1) := by decide +kernel
theorem dL_law_938 : decode cL_law 938 = .ok (.iconst 1, 1) := by decide +kernel
theorem dL_law_939 : decode cL_law 939 = .ok (.iadd, 1) := by decide +kernel
theorem dL_law_940 : decode cL_law 940 = .ok (.iaload, 1) := by decide +kernel
theorem dL_law_941 : decode cL_law 941 = .ok (.aload_n 0, 1) := by decide +kernel
theorem dL_law_942 : decode cL_law 942 = .ok (.iload_n 3, 1) := by decide +kernel
theorem dL_law_943 : decode cL_law 943 = .ok (.iconst 2, 1) := by decide +kernel
theorem dL_law_944 : decode cL_law 944 = .ok (.iadd, 1) := by decide +kernel
theorem dL_law_945 : decode cL_law 945 = .ok (.iaload, 1) := by decide +kernel
theorem dL_law_946 : decode cL_law 946 = .ok (.aload_n 0, 1) := by decide +kernel
theorem dL_law_947 : decode cL_law 947 = .ok (.iload_n 3, 1) := by decide +kernel
theorem dL_law_948 : decode cL_law 948 = .ok (.iconst 3, 1) := by decide +kernel
theorem dL_law_949 : decode cL_law 949 = .ok (.iadd, 1) := by decide +kernel
theorem dL_law_950 : decode cL_law 950 = .ok (.iaload, 1) := by decide +kernel
theorem dL_law_951 : decode cL_law 951 = .ok (.invokevirtual 99, 3) := by decide +kernel
theorem dL_law_954 : decode cL_law 954 = .ok (.if_icmp .eq 318, 3) := by decide +kernel
theorem dL_law_957 : decode cL_law 957 = .ok (.iconst 0, 1) := by decide +kernel
theorem dL_law_958 : decode cL_law 958 = .ok (.ireturn, 1) := by decide +kernel
theorem dL_law_959 : decode cL_law 959 = .ok (.aload_n 1, 1) := by decide +kernel
theorem dL_law_960 : decode cL_law 960 = .ok (.aload_n 0, 1) := by decide +kernel
theorem dL_law_961 : decode cL_law 961 = .ok (.iload_n 3, 1) := by decide +kernel
theorem dL_law_962 : decode cL_law 962 = .ok (.iconst 1, 1) := by decide +kernel
theorem dL_law_963 : decode cL_law 963 = .ok (.iadd, 1) := by decide +kernel
theorem dL_law_964 : decode cL_law 964 = .ok (.iaload, 1) := by decide +kernel
theorem dL_law_965 : decode cL_law 965 = .ok (.invokevirtual 100, 3) := by decide +kernel
theorem dL_law_968 : decode cL_law 968 = .ok (.aload_n 2, 1) := by decide +kernel
theorem dL_law_969 : decode cL_law 969 = .ok (.aload_n 0, 1) := by decide +kernel
theorem dL_law_970 : decode cL_law 970 = .ok (.iload_n 3, 1) := by decide +kernel
theorem dL_law_971 : decode cL_law 971 = .ok (.iconst 1, 1) := by decide +kernel
theorem dL_law_972 : decode cL_law 972 = .ok (.iadd, 1) := by decide +kernel
theorem dL_law_973 : decode cL_law 973 = .ok (.iaload, 1) := by decide +kernel
theorem dL_law_974 : decode cL_law 974 = .ok (.invokevirtual 103, 3) := by decide +kernel
theorem dL_law_977 : decode cL_law 977 = .ok (.if_icmp .eq 295, 3) := by decide +kernel
theorem dL_law_980 : decode cL_law 980 = .ok (.iconst 0, 1) := by decide +kernel
theorem dL_law_981 : decode cL_law 981 = .ok (.ireturn, 1) := by decide +kernel
theorem dL_law_982 : decode cL_law 982 = .ok (.aload_n 1, 1) := by decide +kernel
theorem dL_law_983 : decode cL_law 983 = .ok (.aload_n 0, 1) := by decide +kernel
theorem dL_law_984 : decode cL_law 984 = .ok (.iload_n 3, 1) := by decide +kernel
theorem dL_law_985 : decode cL_law 985 = .ok (.iconst 1, 1) := by decide +kernel
theorem dL_law_986 : decode cL_law 986 = .ok (.iadd, 1) := by decide +kernel
theorem dL_law_987 : decode cL_law 987 = .ok (.iaload, 1) := by decide +kernel
theorem dL_law_988 : decode cL_law 988 = .ok (.aload_n 0, 1) := by decide +kernel
theorem dL_law_989 : decode cL_law 989 = .ok (.iload_n 3, 1) := by decide +kernel
theorem dL_law_990 : decode cL_law 990 = .ok (.iconst 2, 1) := by decide +kernel
theorem dL_law_991 : decode cL_law 991 = .ok (.iadd, 1) := by decide +kernel
theorem dL_law_992 : decode cL_law 992 = .ok (.iaload, 1) := by decide +kernel
theorem dL_law_993 : decode cL_law 993 = .ok (.aload_n 0, 1) := by decide +kernel
theorem dL_law_994 : decode cL_law 994 = .ok (.iload_n 3, 1) := by decide +kernel
theorem dL_law_995 : decode cL_law 995 = .ok (.iconst 3, 1) := by decide +kernel
theorem dL_law_996 : decode cL_law 996 = .ok (.iadd, 1) := by decide +kernel
theorem dL_law_997 : decode cL_law 997 = .ok (.iaload, 1) := by decide +kernel
theorem dL_law_998 : decode cL_law 998 = .ok (.invokevirtual 104, 3) := by decide +kernel
theorem dL_law_1001 : decode cL_law 1001 = .ok (.aload_n 2, 1) := by decide +kernel
theorem dL_law_1002 : decode cL_law 1002 = .ok (.aload_n 0, 1) := by decide +kernel
theorem dL_law_1003 : decode cL_law 1003 = .ok (.iload_n 3, 1) := by decide +kernel
theorem dL_law_1004 : decode cL_law 1004 = .ok (.iconst 1, 1) := by decide +kernel
theorem dL_law_1005 : decode cL_law 1005 = .ok (.iadd, 1) := by decide +kernel
theorem dL_law_1006 : decode cL_law 1006 = .ok (.iaload, 1) := by decide +kernel
theorem dL_law_1007 : decode cL_law 1007 = .ok (.aload_n 0, 1) := by decide +kernel
theorem dL_law_1008 : decode cL_law 1008 = .ok (.iload_n 3, 1) := by decide +kernel
theorem dL_law_1009 : decode cL_law 1009 = .ok (.iconst 2, 1) := by decide +kernel
theorem dL_law_1010 : decode cL_law 1010 = .ok (.iadd, 1) := by decide +kernel
theorem dL_law_1011 : decode cL_law 1011 = .ok (.iaload, 1) := by decide +kernel
theorem dL_law_1012 : decode cL_law 1012 = .ok (.aload_n 0, 1) := by decide +kernel
theorem dL_law_1013 : decode cL_law 1013 = .ok (.iload_n 3, 1) := by decide +kernel
theorem dL_law_1014 : decode cL_law 1014 = .ok (.iconst 3, 1) := by decide +kernel
theorem dL_law_1015 : decode cL_law 1015 = .ok (.iadd, 1) := by decide +kernel
theorem dL_law_1016 : decode cL_law 1016 = .ok (.iaload, 1) := by decide +kernel
theorem dL_law_1017 : decode cL_law 1017 = .ok (.invokevirtual 107, 3) := by decide +kernel
theorem dL_law_1020 : decode cL_law 1020 = .ok (.if_icmp .eq 252, 3) := by decide +kernel
theorem dL_law_1023 : decode cL_law 1023 = .ok (.iconst 0, 1) := by decide +kernel
theorem dL_law_1024 : decode cL_law 1024 = .ok (.ireturn, 1) := by decide +kernel
theorem dL_law_1025 : decode cL_law 1025 = .ok (.aload_n 1, 1) := by decide +kernel
theorem dL_law_1026 : decode cL_law 1026 = .ok (.aload_n 0, 1) := by decide +kernel
theorem dL_law_1027 : decode cL_law 1027 = .ok (.iload_n 3, 1) := by decide +kernel
theorem dL_law_1028 : decode cL_law 1028 = .ok (.iconst 1, 1) := by decide +kernel
theorem dL_law_1029 : decode cL_law 1029 = .ok (.iadd, 1) := by decide +kernel
theorem dL_law_1030 : decode cL_law 1030 = .ok (.iaload, 1) := by decide +kernel
theorem dL_law_1031 : decode cL_law 1031 = .ok (.aload_n 0, 1) := by decide +kernel
theorem dL_law_1032 : decode cL_law 1032 = .ok (.iload_n 3, 1) := by decide +kernel
theorem dL_law_1033 : decode cL_law 1033 = .ok (.iconst 2, 1) := by decide +kernel
theorem dL_law_1034 : decode cL_law 1034 = .ok (.iadd, 1) := by decide +kernel
theorem dL_law_1035 : decode cL_law 1035 = .ok (.iaload, 1) := by decide +kernel
theorem dL_law_1036 : decode cL_law 1036 = .ok (.invokevirtual 108, 3) := by decide +kernel
theorem dL_law_1039 : decode cL_law 1039 = .ok (.aload_n 2, 1) := by decide +kernel
theorem dL_law_1040 : decode cL_law 1040 = .ok (.aload_n 0, 1) := by decide +kernel
theorem dL_law_1041 : decode cL_law 1041 = .ok (.iload_n 3, 1) := by decide +kernel
theorem dL_law_1042 : decode cL_law 1042 = .ok (.iconst 1, 1) := by decide +kernel
theorem dL_law_1043 : decode cL_law 1043 = .ok (.iadd, 1) := by decide +kernel
theorem dL_law_1044 : decode cL_law 1044 = .ok (.iaload, 1) := by decide +kernel
theorem dL_law_1045 : decode cL_law 1045 = .ok (.aload_n 0, 1) := by decide +kernel
theorem dL_law_1046 : decode cL_law 1046 = .ok (.iload_n 3, 1) := by decide +kernel
theorem dL_law_1047 : decode cL_law 1047 = .ok (.iconst 2, 1) := by decide +kernel
theorem dL_law_1048 : decode cL_law 1048 = .ok (.iadd, 1) := by decide +kernel
theorem dL_law_1049 : decode cL_law 1049 = .ok (.iaload, 1) := by decide +kernel
theorem dL_law_1050 : decode cL_law 1050 = .ok (.invokevirtual 111, 3) := by decide +kernel
theorem dL_law_1053 : decode cL_law 1053 = .ok (.if_icmp .eq 219, 3) := by decide +kernel
theorem dL_law_1056 : decode cL_law 1056 = .ok (.iconst 0, 1) := by decide +kernel
theorem dL_law_1057 : decode cL_law 1057 = .ok (.ireturn, 1) := by decide +kernel
theorem dL_law_1058 : decode cL_law 1058 = .ok (.aload_n 1, 1) := by decide +kernel
theorem dL_law_1059 : decode cL_law 1059 = .ok (.aload_n 0, 1) := by decide +kernel
theorem dL_law_1060 : decode cL_law 1060 = .ok (.iload_n 3, 1) := by decide +kernel
theorem dL_law_1061 : decode cL_law 1061 = .ok (.iconst 1, 1) := by decide +kernel
theorem dL_law_1062 : decode cL_law 1062 = .ok (.iadd, 1) := by decide +kernel
theorem dL_law_1063 : decode cL_law 1063 = .ok (.iaload, 1) := by decide +kernel
theorem dL_law_1064 : decode cL_law 1064 = .ok (.aload_n 0, 1) := by decide +kernel
theorem dL_law_1065 : decode cL_law 1065 = .ok (.iload_n 3, 1) := by decide +kernel
theorem dL_law_1066 : decode cL_law 1066 = .ok (.iconst 2, 1) := by decide +kernel
theorem dL_law_1067 : decode cL_law 1067 = .ok (.iadd, 1) := by decide +kernel
theorem dL_law_1068 : decode cL_law 1068 = .ok (.iaload, 1) := by decide +kernel
theorem dL_law_1069 : decode cL_law 1069 = .ok (.invokevirtual 112, 3) := by decide +kernel
theorem dL_law_1072 : decode cL_law 1072 = .ok (.aload_n 2, 1) := by decide +kernel
theorem dL_law_1073 : decode cL_law 1073 = .ok (.aload_n 0, 1) := by decide +kernel
theorem dL_law_1074 : decode cL_law 1074 = .ok (.iload_n 3, 1) := by decide +kernel
theorem dL_law_1075 : decode cL_law 1075 = .ok (.iconst 1, 1) := by decide +kernel
theorem dL_law_1076 : decode cL_law 1076 = .ok (.iadd, 1) := by decide +kernel
theorem dL_law_1077 : decode cL_law 1077 = .ok (.iaload, 1) := by decide +kernel
theorem dL_law_1078 : decode cL_law 1078 = .ok (.aload_n 0, 1) := by decide +kernel
theorem dL_law_1079 : decode cL_law 1079 = .ok (.iload_n 3, 1) := by decide +kernel
theorem dL_law_1080 : decode cL_law 1080 = .ok (.iconst 2, 1) := by decide +kernel
theorem dL_law_1081 : decode cL_law 1081 = .ok (.iadd, 1) := by decide +kernel
theorem dL_law_1082 : decode cL_law 1082 = .ok (.iaload, 1) := by decide +kernel
theorem dL_law_1083 : decode cL_law 1083 = .ok (.invokevirtual 115, 3) := by decide +kernel
theorem dL_law_1086 : decode cL_law 1086 = .ok (.if_icmp .eq 186, 3) := by decide +kernel
theorem dL_law_1089 : decode cL_law 1089 = .ok (.iconst 0, 1) := by decide +kernel
theorem dL_law_1090 : decode cL_law 1090 = .ok (.ireturn, 1) := by decide +kernel
theorem dL_law_1091 : decode cL_law 1091 = .ok (.aload_n 1, 1) := by decide +kernel
theorem dL_law_1092 : decode cL_law 1092 = .ok (.aload_n 0, 1) := by decide +kernel
theorem dL_law_1093 : decode cL_law 1093 = .ok (.iload_n 3, 1) := by decide +kernel
theorem dL_law_1094 : decode cL_law 1094 = .ok (.iconst 1, 1) := by decide +kernel
theorem dL_law_1095 : decode cL_law 1095 = .ok (.iadd, 1) := by decide +kernel
theorem dL_law_1096 : decode cL_law 1096 = .ok (.iaload, 1) := by decide +kernel
theorem dL_law_1097 : decode cL_law 1097 = .ok (.aload_n 0, 1) := by decide +kernel
theorem dL_law_1098 : decode cL_law 1098 = .ok (.iload_n 3, 1) := by decide +kernel
theorem dL_law_1099 : decode cL_law 1099 = .ok (.iconst 2, 1) := by decide +kernel
theorem dL_law_1100 : decode cL_law 1100 = .ok (.iadd, 1) := by decide +kernel
theorem dL_law_1101 : decode cL_law 1101 = .ok (.iaload, 1) := by decide +kernel
theorem dL_law_1102 : decode cL_law 1102 = .ok (.aload_n 0, 1) := by decide +kernel
theorem dL_law_1103 : decode cL_law 1103 = .ok (.iload_n 3, 1) := by decide +kernel
theorem dL_law_1104 : decode cL_law 1104 = .ok (.iconst 3, 1) := by decide +kernel
theorem dL_law_1105 : decode cL_law 1105 = .ok (.iadd, 1) := by decide +kernel
theorem dL_law_1106 : decode cL_law 1106 = .ok (.iaload, 1) := by decide +kernel
theorem dL_law_1107 : decode cL_law 1107 = .ok (.invokevirtual 116, 3) := by decide +kernel
theorem dL_law_1110 : decode cL_law 1110 = .ok (.aload_n 2, 1) := by decide +kernel
theorem dL_law_1111 : decode cL_law 1111 = .ok (.aload_n 0, 1) := by decide +kernel
theorem dL_law_1112 : decode cL_law 1112 = .ok (.iload_n 3, 1) := by decide +kernel
theorem dL_law_1113 : decode cL_law 1113 = .ok (.iconst 1, 1) := by decide +kernel
theorem dL_law_1114 : decode cL_law 1114 = .ok (.iadd, 1) := by decide +kernel
theorem dL_law_1115 : decode cL_law 1115 = .ok (.iaload, 1) := by decide +kernel
theorem dL_law_1116 : decode cL_law 1116 = .ok (.aload_n 0, 1) := by decide +kernel
theorem dL_law_1117 : decode cL_law 1117 = .ok (.iload_n 3, 1) := by decide +kernel
theorem dL_law_1118 : decode cL_law 1118 = .ok (.iconst 2, 1) := by decide +kernel
theorem dL_law_1119 : decode cL_law 1119 = .ok (.iadd, 1) := by decide +kernel
theorem dL_law_1120 : decode cL_law 1120 = .ok (.iaload, 1) := by decide +kernel
theorem dL_law_1121 : decode cL_law 1121 = .ok (.aload_n 0, 1) := by decide +kernel
theorem dL_law_1122 : decode cL_law 1122 = .ok (.iload_n 3, 1) := by decide +kernel
theorem dL_law_1123 : decode cL_law 1123 = .ok (.iconst 3, 1) := by decide +kernel
theorem dL_law_1124 : decode cL_law 1124 = .ok (.iadd, 1) := by decide +kernel
theorem dL_law_1125 : decode cL_law 1125 = .ok (.iaload, 1) := by decide +kernel
theorem dL_law_1126 : decode cL_law 1126 = .ok (.invokevirtual 119, 3) := by decide +kernel
theorem dL_law_1129 : decode cL_law 1129 = .ok (.if_icmp .eq 143, 3) := by decide +kernel
theorem dL_law_1132 : decode cL_law 1132 = .ok (.iconst 0, 1) := by decide +kernel
theorem dL_law_1133 : decode cL_law 1133 = .ok (.ireturn, 1) := by decide +kernel
theorem dL_law_1134 : decode cL_law 1134 = .ok (.aload_n 1, 1) := by decide +kernel
theorem dL_law_1135 : decode cL_law 1135 = .ok (.aload_n 0, 1) := by decide +kernel
theorem dL_law_1136 : decode cL_law 1136 = .ok (.iload_n 3, 1) := by decide +kernel
theorem dL_law_1137 : decode cL_law 1137 = .ok (.iconst 1, 1) := by decide +kernel
theorem dL_law_1138 : decode cL_law 1138 = .ok (.iadd, 1) := by decide +kernel
theorem dL_law_1139 : decode cL_law 1139 = .ok (.iaload, 1) := by decide +kernel
theorem dL_law_1140 : decode cL_law 1140 = .ok (.i2l, 1) := by decide +kernel
theorem dL_law_1141 : decode cL_law 1141 = .ok (.bipush 32, 2) := by decide +kernel
theorem dL_law_1143 : decode cL_law 1143 = .ok (.lshl, 1) := by decide +kernel
theorem dL_law_1144 : decode cL_law 1144 = .ok (.aload_n 0, 1) := by decide +kernel
theorem dL_law_1145 : decode cL_law 1145 = .ok (.iload_n 3, 1) := by decide +kernel
theorem dL_law_1146 : decode cL_law 1146 = .ok (.iconst 2, 1) := by decide +kernel
theorem dL_law_1147 : decode cL_law 1147 = .ok (.iadd, 1) := by decide +kernel
theorem dL_law_1148 : decode cL_law 1148 = .ok (.iaload, 1) := by decide +kernel
theorem dL_law_1149 : decode cL_law 1149 = .ok (.i2l, 1) := by decide +kernel
theorem dL_law_1150 : decode cL_law 1150 = .ok (.ldc2_w 120, 3) := by decide +kernel
theorem dL_law_1153 : decode cL_law 1153 = .ok (.land, 1) := by decide +kernel
theorem dL_law_1154 : decode cL_law 1154 = .ok (.lor, 1) := by decide +kernel
theorem dL_law_1155 : decode cL_law 1155 = .ok (.invokevirtual 122, 3) := by decide +kernel
theorem dL_law_1158 : decode cL_law 1158 = .ok (.aload_n 2, 1) := by decide +kernel
theorem dL_law_1159 : decode cL_law 1159 = .ok (.aload_n 0, 1) := by decide +kernel
theorem dL_law_1160 : decode cL_law 1160 = .ok (.iload_n 3, 1) := by decide +kernel
theorem dL_law_1161 : decode cL_law 1161 = .ok (.iconst 1, 1) := by decide +kernel
theorem dL_law_1162 : decode cL_law 1162 = .ok (.iadd, 1) := by decide +kernel
theorem dL_law_1163 : decode cL_law 1163 = .ok (.iaload, 1) := by decide +kernel
theorem dL_law_1164 : decode cL_law 1164 = .ok (.i2l, 1) := by decide +kernel
theorem dL_law_1165 : decode cL_law 1165 = .ok (.bipush 32, 2) := by decide +kernel
theorem dL_law_1167 : decode cL_law 1167 = .ok (.lshl, 1) := by decide +kernel
theorem dL_law_1168 : decode cL_law 1168 = .ok (.aload_n 0, 1) := by decide +kernel
theorem dL_law_1169 : decode cL_law 1169 = .ok (.iload_n 3, 1) := by decide +kernel
theorem dL_law_1170 : decode cL_law 1170 = .ok (.iconst 2, 1) := by decide +kernel
theorem dL_law_1171 : decode cL_law 1171 = .ok (.iadd, 1) := by decide +kernel
theorem dL_law_1172 : decode cL_law 1172 = .ok (.iaload, 1) := by decide +kernel
theorem dL_law_1173 : decode cL_law 1173 = .ok (.i2l, 1) := by decide +kernel
theorem dL_law_1174 : decode cL_law 1174 = .ok (.ldc2_w 120, 3) := by decide +kernel
theorem dL_law_1177 : decode cL_law 1177 = .ok (.land, 1) := by decide +kernel
theorem dL_law_1178 : decode cL_law 1178 = .ok (.lor, 1) := by decide +kernel
theorem dL_law_1179 : decode cL_law 1179 = .ok (.invokevirtual 126, 3) := by decide +kernel
theorem dL_law_1182 : decode cL_law 1182 = .ok (.if_icmp .eq 90, 3) := by decide +kernel
theorem dL_law_1185 : decode cL_law 1185 = .ok (.iconst 0, 1) := by decide +kernel
theorem dL_law_1186 : decode cL_law 1186 = .ok (.ireturn, 1) := by decide +kernel
theorem dL_law_1187 : decode cL_law 1187 = .ok (.aload_n 1, 1) := by decide +kernel
theorem dL_law_1188 : decode cL_law 1188 = .ok (.invokevirtual 127, 3) := by decide +kernel
theorem dL_law_1191 : decode cL_law 1191 = .ok (.aload_n 2, 1) := by decide +kernel
theorem dL_law_1192 : decode cL_law 1192 = .ok (.invokevirtual 131, 3) := by decide +kernel
theorem dL_law_1195 : decode cL_law 1195 = .ok (.if_icmp .eq 77, 3) := by decide +kernel
theorem dL_law_1198 : decode cL_law 1198 = .ok (.iconst 0, 1) := by decide +kernel
theorem dL_law_1199 : decode cL_law 1199 = .ok (.ireturn, 1) := by decide +kernel
theorem dL_law_1200 : decode cL_law 1200 = .ok (.aload_n 1, 1) := by decide +kernel
theorem dL_law_1201 : decode cL_law 1201 = .ok (.invokevirtual 132, 3) := by decide +kernel
theorem dL_law_1204 : decode cL_law 1204 = .ok (.aload_n 2, 1) := by decide +kernel
theorem dL_law_1205 : decode cL_law 1205 = .ok (.invokevirtual 135, 3) := by decide +kernel
theorem dL_law_1208 : decode cL_law 1208 = .ok (.if_icmp .eq 64, 3) := by decide +kernel
theorem dL_law_1211 : decode cL_law 1211 = .ok (.iconst 0, 1) := by decide +kernel
theorem dL_law_1212 : decode cL_law 1212 = .ok (.ireturn, 1) := by decide +kernel
theorem dL_law_1213 : decode cL_law 1213 = .ok (.aload_n 1, 1) := by decide +kernel
theorem dL_law_1214 : decode cL_law 1214 = .ok (.invokevirtual 136, 3) := by decide +kernel
theorem dL_law_1217 : decode cL_law 1217 = .ok (.aload_n 2, 1) := by decide +kernel
theorem dL_law_1218 : decode cL_law 1218 = .ok (.invokevirtual 139, 3) := by decide +kernel
theorem dL_law_1221 : decode cL_law 1221 = .ok (.if_icmp .eq 51, 3) := by decide +kernel
theorem dL_law_1224 : decode cL_law 1224 = .ok (.iconst 0, 1) := by decide +kernel
theorem dL_law_1225 : decode cL_law 1225 = .ok (.ireturn, 1) := by decide +kernel
theorem dL_law_1226 : decode cL_law 1226 = .ok (.aload_n 1, 1) := by decide +kernel
theorem dL_law_1227 : decode cL_law 1227 = .ok (.aload_n 0, 1) := by decide +kernel
theorem dL_law_1228 : decode cL_law 1228 = .ok (.iload_n 3, 1) := by decide +kernel
theorem dL_law_1229 : decode cL_law 1229 = .ok (.iconst 1, 1) := by decide +kernel
theorem dL_law_1230 : decode cL_law 1230 = .ok (.iadd, 1) := by decide +kernel
theorem dL_law_1231 : decode cL_law 1231 = .ok (.iaload, 1) := by decide +kernel
theorem dL_law_1232 : decode cL_law 1232 = .ok (.invokevirtual 140, 3) := by decide +kernel
theorem dL_law_1235 : decode cL_law 1235 = .ok (.aload_n 2, 1) := by decide +kernel
theorem dL_law_1236 : decode cL_law 1236 = .ok (.aload_n 0, 1) := by decide +kernel
theorem dL_law_1237 : decode cL_law 1237 = .ok (.iload_n 3, 1) := by decide +kernel
theorem dL_law_1238 : decode cL_law 1238 = .ok (.iconst 1, 1) := by decide +kernel
theorem dL_law_1239 : decode cL_law 1239 = .ok (.iadd, 1) := by decide +kernel
theorem dL_law_1240 : decode cL_law 1240 = .ok (.iaload, 1) := by decide +kernel
theorem dL_law_1241 : decode cL_law 1241 = .ok (.invokevirtual 143, 3) := by decide +kernel
theorem dL_law_1244 : decode cL_law 1244 = .ok (.if_icmp .eq 28, 3) := by decide +kernel
theorem dL_law_1247 : decode cL_law 1247 = .ok (.iconst 0, 1) := by decide +kernel
theorem dL_law_1248 : decode cL_law 1248 = .ok (.ireturn, 1) := by decide +kernel
theorem dL_law_1249 : decode cL_law 1249 = .ok (.aload_n 1, 1) := by decide +kernel
theorem dL_law_1250 : decode cL_law 1250 = .ok (.aload_n 0, 1) := by decide +kernel
theorem dL_law_1251 : decode cL_law 1251 = .ok (.iload_n 3, 1) := by decide +kernel
theorem dL_law_1252 : decode cL_law 1252 = .ok (.iconst 1, 1) := by decide +kernel
theorem dL_law_1253 : decode cL_law 1253 = .ok (.iadd, 1) := by decide +kernel
theorem dL_law_1254 : decode cL_law 1254 = .ok (.iaload, 1) := by decide +kernel
theorem dL_law_1255 : decode cL_law 1255 = .ok (.invokevirtual 144, 3) := by decide +kernel
theorem dL_law_1258 : decode cL_law 1258 = .ok (.aload_n 2, 1) := by decide +kernel
theorem dL_law_1259 : decode cL_law 1259 = .ok (.aload_n 0, 1) := by decide +kernel
theorem dL_law_1260 : decode cL_law 1260 = .ok (.iload_n 3, 1) := by decide +kernel
theorem dL_law_1261 : decode cL_law 1261 = .ok (.iconst 1, 1) := by decide +kernel
theorem dL_law_1262 : decode cL_law 1262 = .ok (.iadd, 1) := by decide +kernel
theorem dL_law_1263 : decode cL_law 1263 = .ok (.iaload, 1) := by decide +kernel
theorem dL_law_1264 : decode cL_law 1264 = .ok (.invokevirtual 147, 3) := by decide +kernel
theorem dL_law_1267 : decode cL_law 1267 = .ok (.if_icmp .eq 5, 3) := by decide +kernel
theorem dL_law_1270 : decode cL_law 1270 = .ok (.iconst 0, 1) := by decide +kernel
theorem dL_law_1271 : decode cL_law 1271 = .ok (.ireturn, 1) := by decide +kernel
theorem dL_law_1272 : decode cL_law 1272 = .ok (.iinc 3 4, 3) := by decide +kernel
theorem dL_law_1275 : decode cL_law 1275 = .ok (.goto (-1257), 3) := by decide +kernel
theorem dL_law_1278 : decode cL_law 1278 = .ok (.iconst 1, 1) := by decide +kernel
theorem dL_law_1279 : decode cL_law 1279 = .ok (.ireturn, 1) := by decide +kernel
end
section
/-! the memory of both systems: cells by number (0..9 the reference's, 10..740 the class's), each a row of ints -/
abbrev Mem : Type := Nat → Nat → Int32
def up2 (M : Mem) (i k : Nat) (v : Int32) : Mem := fun a j => if a = i then (if j = k then v else M a j) else M a j
/-- cell o of the state block b (0 the live one, 1..6 the history's, 7, 8 the slots'), cell o of the premiere block q (3 b + p; 27 the one aside) -/
def st (b o : Nat) : Nat := 34 + 7 * b + o
def pq (q o : Nat) : Nat := 97 + 23 * q + o
def shS : Nat → Nat := fun i => match i with
  | 0 => 12 | 1 => 30 | 2 => 30 | 3 => 30 | 4 => 30 | 5 => 31 | 6 => 30 | 7 => 30 | 8 => 30 | 9 => 30
  | 10 => 11 | 11 => 23 | 12 => 2 | 13 => 23 | 14 => 4 | 15 => 5 | 16 => 20 | 17 => 20 | 18 => 20 | 19 => 20 | 20 => 20 | 21 => 20 | 22 => 20
  | 23 => 3 | 24 => 20 | 25 => 20 | 26 => 10 | 27 => 3 | 28 => 20 | 29 => 20 | 30 => 3 | 31 => 20 | 32 => 20 | 33 => 8 | _ => 99
def shT : Nat → Nat := fun o => match o with
  | 0 => 7 | 1 => 20 | 2 => 9 | 3 => 20 | 4 => 20 | 5 => 20 | 6 => 22 | _ => 99
def shP : Nat → Nat := fun o => match o with
  | 0 => 6 | 1 => 20 | 2 => 20 | 3 => 20 | 4 => 20 | 5 => 20 | 6 => 20 | 7 => 24 | 8 => 20 | 9 => 20 | 10 => 20 | 11 => 20 | 12 => 20 | 13 => 20 | 14 => 20 | 15 => 20
  | 16 => 1 | 17 => 20 | 18 => 20 | 19 => 0 | 20 => 20 | 21 => 0 | 22 => 20 | _ => 99
def shp (i : Nat) : Nat := if i < 34 then shS i else if i < 97 then shT ((i - 34) % 7) else if i < 741 then shP ((i - 97) % 23) else 99
def lnS : Nat → Nat := fun i => match i with
  | 1 => 691 | 2 => 691 | 3 => 4146 | 4 => 1382 | 5 => 2 | 6 => 60 | 7 => 12 | 8 => 3 | 9 => 62
  | 11 => 2 | 13 => 6 | 16 => 60 | 17 => 60 | 18 => 60 | 19 => 60 | 20 => 60 | 21 => 60 | 22 => 60 | 24 => 12 | 25 => 3 | 28 => 12 | 29 => 3 | 31 => 12 | 32 => 3 | _ => 0
def lnT : Nat → Nat := fun o => match o with
  | 1 => 3 | 3 => 6 | 4 => 6 | 5 => 6 | 6 => 3 | _ => 0
def lnP : Nat → Nat := fun o => match o with
  | 1 => 12 | 2 => 12 | 3 => 12 | 4 => 12 | 5 => 12 | 6 => 8 | 7 => 8 | 8 => 12 | 9 => 12 | 10 => 12 | 11 => 12 | 12 => 12 | 13 => 12 | 14 => 12 | 15 => 12
  | 17 => 12 | 18 => 12 | 20 => 12 | 22 => 3 | _ => 0
def ln (i : Nat) : Nat := if i < 34 then lnS i else if i < 97 then lnT ((i - 34) % 7) else if i < 741 then lnP ((i - 97) % 23) else 0
def rfS : Nat → Nat → Nat := fun i k => match i, k with
  | 0, 0 => 1 | 0, 1 => 2 | 0, 2 => 3 | 0, 4 => 4 | 0, 5 => 5 | 0, 6 => 6 | 0, 8 => 7 | 0, 9 => 8 | 0, 12 => 9
  | 10, 0 => 34 | 10, 1 => 12 | 10, 2 => 11 | 10, 4 => 14 | 10, 5 => 15 | 10, 6 => 23 | 10, 7 => 26 | 10, 8 => 33
  | 12, 0 => 13 | 14, 0 => 15 | 14, 4 => 17 | 14, 5 => 18 | 14, 6 => 19 | 14, 7 => 20 | 14, 9 => 21 | 14, 10 => 22
  | 15, 0 => 16 | 23, 0 => 24 | 23, 1 => 25 | 26, 0 => 27 | 26, 1 => 30 | 27, 0 => 28 | 27, 1 => 29 | 30, 0 => 31 | 30, 1 => 32 | 33, 0 => 718 | _, _ => 0
/-- by the cell's place o in its block, its number i, the block's b -/
def rfT (b i : Nat) : Nat → Nat → Nat := fun o k => match o, k with
  | 0, 0 => i + 1 | 0, 1 => i + 2 | 0, 2 => i + 6 | 2, 1 => i + 1 | 2, 2 => i + 2 | 2, 3 => i + 3 | 6, j => 97 + 23 * (3 * b + j) | _, _ => 0
def rfP (i : Nat) : Nat → Nat → Nat := fun o k => match o, k with
  | 0, 3 => i + 1 | 0, 4 => i + 2 | 0, 5 => i + 3 | 0, 6 => i + 4 | 0, 7 => i + 5 | 0, 8 => i + 6 | 0, 9 => i + 7 | 0, 10 => i + 16 | 0, 11 => i + 19 | 0, 12 => i + 21
  | 7, j => i + 1 + j | 16, 2 => i + 1 | 16, 3 => i + 2 | 19, 0 => i + 1 | 21, 0 => i + 1 | _, _ => 0
def rf (i k : Nat) : Nat := if i < 34 then rfS i k else if i < 97 then rfT ((i - 34) / 7) i ((i - 34) % 7) k else rfP i ((i - 97) % 23) k
/-- the static tables FIRST_SETTING, LEAST_SETTING, MOST_SETTING -/
def sta : Nat → Nat → Int32 := fun t j => match t, j with
  | 0, 0 => 2400 | 0, 1 => 7000 | 0, 2 => 3 | 1, 0 => 500 | 1, 1 => 1000 | 1, 2 => 1 | 2, 0 => 6000 | 2, 1 => 20000 | 2, 2 => 20 | _, _ => 0
/-! what the methods do with the memory: none where the machine would throw, or a cell is not of the kind -/
def oob (n : Nat) (j : Int32) : Prop := j < 0 ∨ n ≤ j.toNatClampNeg
def oobB (n : Nat) (j : Int32) : Bool := decide (j < 0) || decide (n ≤ j.toNatClampNeg)
theorem oobB_iff {n : Nat} {j : Int32} : oobB n j = true ↔ oob n j := by simp [oobB, oob]
theorem oobB_not {n : Nat} {j : Int32} : oobB n j = false ↔ ¬ oob n j := by rw [← Bool.not_eq_true, oobB_iff]
def gI (c k : Nat) (M : Mem) (i : Nat) : Option Int32 := if shp i = c then some (M i k) else none
def gR (c k : Nat) (i : Nat) : Option Nat := if shp i = c then some (rf i k) else none
def pI (c k : Nat) (M : Mem) (i : Nat) (v : Int32) : Option Mem := if shp i = c then some (up2 M i k v) else none
def pZ (c k : Nat) (M : Mem) (i : Nat) (v : Int32) : Option Mem := if shp i = c ∧ (v = 0 ∨ v = 1) then some (up2 M i k v) else none
def aL (t : Nat) (M : Mem) (i : Nat) (j : Int32) : Option Int32 := if shp i = t ∧ oobB (ln i) j = false then some (M i j.toNatClampNeg) else none
def aS (t : Nat) (M : Mem) (i : Nat) (j v : Int32) : Option Mem := if shp i = t ∧ oobB (ln i) j = false then some (up2 M i j.toNatClampNeg v) else none
def zS (t : Nat) (M : Mem) (i : Nat) (j v : Int32) : Option Mem := if shp i = t ∧ oobB (ln i) j = false ∧ (v = 0 ∨ v = 1) then some (up2 M i j.toNatClampNeg v) else none
def aN (t : Nat) (i : Nat) : Option Int32 := if shp i = t then some (Int32.ofNat (ln i)) else none
def aR (t : Nat) (i : Nat) (j : Int32) : Option Nat := if shp i = t ∧ oobB (ln i) j = false then some (rf i j.toNatClampNeg) else none
def aD (M : Mem) (i : Nat) (j : Int32) : Option Nat := if shp i = 23 ∧ oobB (ln i) j = false then some (M i j.toNatClampNeg).toNatClampNeg else none
def aE (M : Mem) (i : Nat) (j : Int32) (v : Nat) : Option Mem := if shp i = 23 ∧ oobB (ln i) j = false ∧ shp v = 7 then some (up2 M i j.toNatClampNeg (Int32.ofNat v)) else none
def sL (t : Nat) (j : Int32) : Option Int32 := if oobB 3 j = false then some (sta t j.toNatClampNeg) else none
def dv (x y : Int32) : Option Int32 := if y = 0 then none else some (x / y)
def rm (x y : Int32) : Option Int32 := if y = 0 then none else some (x % y)
/-- a boolean answer -/
def bz (v : Int32) : Option Int32 := if v = 0 ∨ v = 1 then some v else none
theorem bz_out {v r : Int32} (h : bz v = some r) : v = r ∧ (v = 0 ∨ v = 1) := by
  unfold bz at h
  split at h
  · exact ⟨Option.some.inj h, by assumption⟩
  · cases h
theorem ob_out {α β : Type} {x : Option α} {f : α → Option β} {z : β} (h : x.bind f = some z) : ∃ v, x = some v ∧ f v = some z := by
  cases x with
  | none => cases h
  | some v => exact ⟨v, rfl, h⟩
end
section
/-! the words of the tables, by their places -/
def lw_good : List Cond := lw_tbl.filter goodWord
theorem lw_in {w : Cond} {i : Nat} (h : tables_1[i]? = some w) (hg : goodWord w = true) : w ∈ lw_good := List.mem_filter.mpr ⟨List.mem_append_right _ (List.mem_of_getElem? h), hg⟩
theorem lw_inP {w : Cond} {i : Nat} (h : (k2_sels lw_privs)[i]? = some w) (hg : goodWord w = true) : w ∈ lw_good := List.mem_filter.mpr ⟨List.mem_append_left _ (List.mem_of_getElem? h), hg⟩
theorem w0 : Cond.initialized RL ∈ lw_good := lw_in (i := 0) (by decide +kernel) rfl
theorem w1 : Cond.initialized RX11 ∈ lw_good := lw_in (i := 1) (by decide +kernel) rfl
theorem w2 : Cond.initialized RX7 ∈ lw_good := lw_in (i := 2) (by decide +kernel) rfl
theorem w3 : Cond.initialized RX9 ∈ lw_good := lw_in (i := 3) (by decide +kernel) rfl
theorem w4 : Cond.initialized RX6 ∈ lw_good := lw_in (i := 4) (by decide +kernel) rfl
theorem w5 : Cond.initialized RX1 ∈ lw_good := lw_in (i := 5) (by decide +kernel) rfl
theorem w6 : Cond.initialized RX0 ∈ lw_good := lw_in (i := 6) (by decide +kernel) rfl
theorem w7 : Cond.initialized RX2 ∈ lw_good := lw_in (i := 7) (by decide +kernel) rfl
theorem w8 : Cond.initialized RX4 ∈ lw_good := lw_in (i := 8) (by decide +kernel) rfl
theorem w9 : Cond.initialized RX5 ∈ lw_good := lw_in (i := 9) (by decide +kernel) rfl
theorem w10 : Cond.initialized RX3 ∈ lw_good := lw_in (i := 10) (by decide +kernel) rfl
theorem w11 : Cond.initialized RX10 ∈ lw_good := lw_in (i := 11) (by decide +kernel) rfl
theorem w12 : Cond.initialized RX8 ∈ lw_good := lw_in (i := 12) (by decide +kernel) rfl
theorem w13 : Cond.initialized RX12 ∈ lw_good := lw_in (i := 13) (by decide +kernel) rfl
theorem w14 : Cond.initialized RJ9 ∈ lw_good := lw_in (i := 14) (by decide +kernel) rfl
theorem w15 : Cond.initialized RJ6 ∈ lw_good := lw_in (i := 15) (by decide +kernel) rfl
theorem w16 : Cond.classLink RL 7 RX11 ∈ lw_good := lw_in (i := 16) (by decide +kernel) rfl
theorem w17 : Cond.instantiable RX11 9 ∈ lw_good := lw_in (i := 17) (by decide +kernel) rfl
theorem w18 : Cond.methodLink RL 9 yX11_init ∈ lw_good := lw_in (i := 18) (by decide +kernel) rfl
theorem w19 : Cond.instanceMethod yX11_init ∈ lw_good := lw_in (i := 19) (by decide +kernel) rfl
theorem w20 : Cond.code yX11_init cX11_init 2 none ∈ lw_good := lw_in (i := 20) (by decide +kernel) rfl
theorem w21 : Cond.methodLink RX11 1 ⟨"java/lang/Object", "<init>", "()V"⟩ ∈ lw_good := lw_in (i := 21) (by decide +kernel) rfl
theorem w22 : Cond.instanceMethod ⟨"java/lang/Object", "<init>", "()V"⟩ ∈ lw_good := lw_in (i := 22) (by decide +kernel) rfl
theorem w23 : Cond.code ⟨"java/lang/Object", "<init>", "()V"⟩ object_method_1_code 1 none ∈ lw_good := lw_in (i := 23) (by decide +kernel) rfl
theorem w24 : Cond.classLink RX11 7 RX7 ∈ lw_good := lw_in (i := 24) (by decide +kernel) rfl
theorem w25 : Cond.instantiable RX7 3 ∈ lw_good := lw_in (i := 25) (by decide +kernel) rfl
theorem w26 : Cond.methodLink RX11 9 yX7_init ∈ lw_good := lw_in (i := 26) (by decide +kernel) rfl
theorem w27 : Cond.instanceMethod yX7_init ∈ lw_good := lw_in (i := 27) (by decide +kernel) rfl
theorem w28 : Cond.code yX7_init cX7_init 2 none ∈ lw_good := lw_in (i := 28) (by decide +kernel) rfl
theorem w29 : Cond.methodLink RX7 3 ⟨"java/lang/Object", "<init>", "()V"⟩ ∈ lw_good := lw_in (i := 29) (by decide +kernel) rfl
theorem w32 : Cond.methodLink RX7 13 ⟨"[I", "clone", "()Ljava/lang/Object;"⟩ ∈ lw_good := lw_in (i := 32) (by decide +kernel) rfl
theorem w35 : Cond.instanceMethod ⟨"java/lang/Object", "clone", "()Ljava/lang/Object;"⟩ ∈ lw_good := lw_in (i := 35) (by decide +kernel) rfl
theorem w36 : Cond.selects "[I" ⟨"[I", "clone", "()Ljava/lang/Object;"⟩ ⟨"java/lang/Object", "clone", "()Ljava/lang/Object;"⟩ ∈ lw_good := lw_in (i := 36) (by decide +kernel) rfl
theorem w38 : Cond.classLink RX7 14 "[I" ∈ lw_good := lw_in (i := 38) (by decide +kernel) rfl
theorem w39 : Cond.classLink RX7 23 RX9 ∈ lw_good := lw_in (i := 39) (by decide +kernel) rfl
theorem w40 : Cond.instantiable RX9 4 ∈ lw_good := lw_in (i := 40) (by decide +kernel) rfl
theorem w42 : Cond.instanceMethod yX9_init ∈ lw_good := lw_in (i := 42) (by decide +kernel) rfl
theorem w43 : Cond.code yX9_init cX9_init 1 none ∈ lw_good := lw_in (i := 43) (by decide +kernel) rfl
theorem w44 : Cond.methodLink RX9 3 ⟨"java/lang/Object", "<init>", "()V"⟩ ∈ lw_good := lw_in (i := 44) (by decide +kernel) rfl
theorem w45 : Cond.fieldLink RX9 21 "PhaseLights$Types" "told" "I" ∈ lw_good := lw_in (i := 45) (by decide +kernel) rfl
theorem w46 : Cond.fieldLink RX7 82 "PhaseLights$Types" "told" "I" ∈ lw_good := lw_in (i := 46) (by decide +kernel) rfl
theorem w47 : Cond.fieldLink RX11 282 "PhaseLights$Types" "told" "I" ∈ lw_good := lw_in (i := 47) (by decide +kernel) rfl
theorem w48 : Cond.fieldLink RX9 9 "PhaseLights$Types" "watts" "[I" ∈ lw_good := lw_in (i := 48) (by decide +kernel) rfl
theorem w49 : Cond.fieldLink RX9 15 "PhaseLights$Types" "stock" "[I" ∈ lw_good := lw_in (i := 49) (by decide +kernel) rfl
theorem w50 : Cond.fieldLink RX9 18 "PhaseLights$Types" "price" "[I" ∈ lw_good := lw_in (i := 50) (by decide +kernel) rfl
theorem w51 : Cond.lays "PhaseLights$Types" "PhaseLights$Types" "told" "I" ∈ lw_good := lw_in (i := 51) (by decide +kernel) rfl
theorem w53 : Cond.laysFinal "PhaseLights$Types" "PhaseLights$Types" "watts" "[I" ∈ lw_good := lw_in (i := 53) (by decide +kernel) rfl
theorem w55 : Cond.laysFinal "PhaseLights$Types" "PhaseLights$Types" "stock" "[I" ∈ lw_good := lw_in (i := 55) (by decide +kernel) rfl
theorem w57 : Cond.laysFinal "PhaseLights$Types" "PhaseLights$Types" "price" "[I" ∈ lw_good := lw_in (i := 57) (by decide +kernel) rfl
theorem w60 : Cond.arrayClass Jvm.ClassFile.FieldType.int ∈ lw_good := lw_in (i := 60) (by decide +kernel) rfl
theorem w61 : Cond.classLink RX7 30 RX6 ∈ lw_good := lw_in (i := 61) (by decide +kernel) rfl
theorem w63 : Cond.instantiable RX6 13 ∈ lw_good := lw_in (i := 63) (by decide +kernel) rfl
theorem w64 : Cond.methodLink RX7 36 yX6_init ∈ lw_good := lw_in (i := 64) (by decide +kernel) rfl
theorem w65 : Cond.instanceMethod yX6_init ∈ lw_good := lw_in (i := 65) (by decide +kernel) rfl
theorem w66 : Cond.code yX6_init cX6_init 2 none ∈ lw_good := lw_in (i := 66) (by decide +kernel) rfl
theorem w67 : Cond.methodLink RX6 3 ⟨"java/lang/Object", "<init>", "()V"⟩ ∈ lw_good := lw_in (i := 67) (by decide +kernel) rfl
theorem w68 : Cond.classLink RX6 30 "[[I" ∈ lw_good := lw_in (i := 68) (by decide +kernel) rfl
theorem w70 : Cond.classLink RX6 35 RX1 ∈ lw_good := lw_in (i := 70) (by decide +kernel) rfl
theorem w71 : Cond.instantiable RX1 4 ∈ lw_good := lw_in (i := 71) (by decide +kernel) rfl
theorem w73 : Cond.instanceMethod yX1_init ∈ lw_good := lw_in (i := 73) (by decide +kernel) rfl
theorem w74 : Cond.code yX1_init cX1_init 1 none ∈ lw_good := lw_in (i := 74) (by decide +kernel) rfl
theorem w75 : Cond.methodLink RX1 3 ⟨"java/lang/Object", "<init>", "()V"⟩ ∈ lw_good := lw_in (i := 75) (by decide +kernel) rfl
theorem w76 : Cond.fieldLink RX1 18 "PhaseLights$Fade" "ticks" "I" ∈ lw_good := lw_in (i := 76) (by decide +kernel) rfl
theorem w77 : Cond.fieldLink RX1 22 "PhaseLights$Fade" "gone" "I" ∈ lw_good := lw_in (i := 77) (by decide +kernel) rfl
theorem w78 : Cond.fieldLink RX1 9 "PhaseLights$Fade" "from" "[I" ∈ lw_good := lw_in (i := 78) (by decide +kernel) rfl
theorem w79 : Cond.fieldLink RX1 15 "PhaseLights$Fade" "to" "[I" ∈ lw_good := lw_in (i := 79) (by decide +kernel) rfl
theorem w80 : Cond.lays "PhaseLights$Fade" "PhaseLights$Fade" "ticks" "I" ∈ lw_good := lw_in (i := 80) (by decide +kernel) rfl
theorem w82 : Cond.lays "PhaseLights$Fade" "PhaseLights$Fade" "gone" "I" ∈ lw_good := lw_in (i := 82) (by decide +kernel) rfl
theorem w84 : Cond.laysFinal "PhaseLights$Fade" "PhaseLights$Fade" "from" "[I" ∈ lw_good := lw_in (i := 84) (by decide +kernel) rfl
theorem w86 : Cond.laysFinal "PhaseLights$Fade" "PhaseLights$Fade" "to" "[I" ∈ lw_good := lw_in (i := 86) (by decide +kernel) rfl
theorem w89 : Cond.classLink RX6 42 RX0 ∈ lw_good := lw_in (i := 89) (by decide +kernel) rfl
theorem w90 : Cond.instantiable RX0 2 ∈ lw_good := lw_in (i := 90) (by decide +kernel) rfl
theorem w91 : Cond.methodLink RX6 44 yX0_init ∈ lw_good := lw_in (i := 91) (by decide +kernel) rfl
theorem w92 : Cond.instanceMethod yX0_init ∈ lw_good := lw_in (i := 92) (by decide +kernel) rfl
theorem w93 : Cond.code yX0_init cX0_init 2 none ∈ lw_good := lw_in (i := 93) (by decide +kernel) rfl
theorem w94 : Cond.methodLink RX0 1 ⟨"java/lang/Object", "<init>", "()V"⟩ ∈ lw_good := lw_in (i := 94) (by decide +kernel) rfl
theorem w95 : Cond.fieldLink RX0 7 "PhaseLights$Breakers" "counts" "[I" ∈ lw_good := lw_in (i := 95) (by decide +kernel) rfl
theorem w96 : Cond.fieldLink RX11 228 "PhaseLights$Breakers" "counts" "[I" ∈ lw_good := lw_in (i := 96) (by decide +kernel) rfl
theorem w97 : Cond.fieldLink RX0 13 "PhaseLights$Breakers" "tripped" "I" ∈ lw_good := lw_in (i := 97) (by decide +kernel) rfl
theorem w98 : Cond.fieldLink RX11 263 "PhaseLights$Breakers" "tripped" "I" ∈ lw_good := lw_in (i := 98) (by decide +kernel) rfl
theorem w99 : Cond.laysFinal "PhaseLights$Breakers" "PhaseLights$Breakers" "counts" "[I" ∈ lw_good := lw_in (i := 99) (by decide +kernel) rfl
theorem w101 : Cond.lays "PhaseLights$Breakers" "PhaseLights$Breakers" "tripped" "I" ∈ lw_good := lw_in (i := 101) (by decide +kernel) rfl
theorem w104 : Cond.fieldLink RX6 54 "PhaseLights$Premiere" "first" "I" ∈ lw_good := lw_in (i := 104) (by decide +kernel) rfl
theorem w105 : Cond.fieldLink RX11 106 "PhaseLights$Premiere" "first" "I" ∈ lw_good := lw_in (i := 105) (by decide +kernel) rfl
theorem w106 : Cond.fieldLink RX6 58 "PhaseLights$Premiere" "last" "I" ∈ lw_good := lw_in (i := 106) (by decide +kernel) rfl
theorem w107 : Cond.fieldLink RX11 100 "PhaseLights$Premiere" "last" "I" ∈ lw_good := lw_in (i := 107) (by decide +kernel) rfl
theorem w108 : Cond.fieldLink RX3 21 "PhaseLights$Premiere" "lamps" "I" ∈ lw_good := lw_in (i := 108) (by decide +kernel) rfl
theorem w109 : Cond.fieldLink RX6 61 "PhaseLights$Premiere" "lamps" "I" ∈ lw_good := lw_in (i := 109) (by decide +kernel) rfl
theorem w110 : Cond.fieldLink RX7 52 "PhaseLights$Premiere" "lamps" "I" ∈ lw_good := lw_in (i := 110) (by decide +kernel) rfl
theorem w111 : Cond.fieldLink RX11 248 "PhaseLights$Premiere" "lamps" "I" ∈ lw_good := lw_in (i := 111) (by decide +kernel) rfl
theorem w112 : Cond.fieldLink RX6 9 "PhaseLights$Premiere" "lampType" "[I" ∈ lw_good := lw_in (i := 112) (by decide +kernel) rfl
theorem w113 : Cond.fieldLink RX11 206 "PhaseLights$Premiere" "lampType" "[I" ∈ lw_good := lw_in (i := 113) (by decide +kernel) rfl
theorem w114 : Cond.fieldLink RX6 15 "PhaseLights$Premiere" "lampDimmer" "[I" ∈ lw_good := lw_in (i := 114) (by decide +kernel) rfl
theorem w115 : Cond.fieldLink RX11 128 "PhaseLights$Premiere" "lampDimmer" "[I" ∈ lw_good := lw_in (i := 115) (by decide +kernel) rfl
theorem w116 : Cond.fieldLink RX6 18 "PhaseLights$Premiere" "wanted" "[I" ∈ lw_good := lw_in (i := 116) (by decide +kernel) rfl
theorem w117 : Cond.fieldLink RX11 155 "PhaseLights$Premiere" "wanted" "[I" ∈ lw_good := lw_in (i := 117) (by decide +kernel) rfl
theorem w118 : Cond.fieldLink RX4 132 "PhaseLights$Premiere" "wanted" "[I" ∈ lw_good := lw_in (i := 118) (by decide +kernel) rfl
theorem w119 : Cond.fieldLink RX6 21 "PhaseLights$Premiere" "level" "[I" ∈ lw_good := lw_in (i := 119) (by decide +kernel) rfl
theorem w120 : Cond.fieldLink RX11 209 "PhaseLights$Premiere" "level" "[I" ∈ lw_good := lw_in (i := 120) (by decide +kernel) rfl
theorem w121 : Cond.fieldLink RX6 24 "PhaseLights$Premiere" "dimmerPhase" "[I" ∈ lw_good := lw_in (i := 121) (by decide +kernel) rfl
theorem w122 : Cond.fieldLink RX11 137 "PhaseLights$Premiere" "dimmerPhase" "[I" ∈ lw_good := lw_in (i := 122) (by decide +kernel) rfl
theorem w123 : Cond.fieldLink RX6 27 "PhaseLights$Premiere" "cueTicks" "[I" ∈ lw_good := lw_in (i := 123) (by decide +kernel) rfl
theorem w124 : Cond.fieldLink RX8 22 "PhaseLights$Premiere" "cueTicks" "[I" ∈ lw_good := lw_in (i := 124) (by decide +kernel) rfl
theorem w125 : Cond.fieldLink RX11 177 "PhaseLights$Premiere" "cueTicks" "[I" ∈ lw_good := lw_in (i := 125) (by decide +kernel) rfl
theorem w126 : Cond.fieldLink RX4 115 "PhaseLights$Premiere" "cueTicks" "[I" ∈ lw_good := lw_in (i := 126) (by decide +kernel) rfl
theorem w127 : Cond.fieldLink RX6 32 "PhaseLights$Premiere" "cueLevel" "[[I" ∈ lw_good := lw_in (i := 127) (by decide +kernel) rfl
theorem w128 : Cond.fieldLink RX3 39 "PhaseLights$Premiere" "cueLevel" "[[I" ∈ lw_good := lw_in (i := 128) (by decide +kernel) rfl
theorem w129 : Cond.fieldLink RX11 244 "PhaseLights$Premiere" "cueLevel" "[[I" ∈ lw_good := lw_in (i := 129) (by decide +kernel) rfl
theorem w130 : Cond.fieldLink RX6 38 "PhaseLights$Premiere" "fade" "LPhaseLights$Fade;" ∈ lw_good := lw_in (i := 130) (by decide +kernel) rfl
theorem w131 : Cond.fieldLink RX11 251 "PhaseLights$Premiere" "fade" "LPhaseLights$Fade;" ∈ lw_good := lw_in (i := 131) (by decide +kernel) rfl
theorem w132 : Cond.fieldLink RX6 47 "PhaseLights$Premiere" "dimmers" "LPhaseLights$Breakers;" ∈ lw_good := lw_in (i := 132) (by decide +kernel) rfl
theorem w133 : Cond.fieldLink RX11 219 "PhaseLights$Premiere" "dimmers" "LPhaseLights$Breakers;" ∈ lw_good := lw_in (i := 133) (by decide +kernel) rfl
theorem w134 : Cond.fieldLink RX6 51 "PhaseLights$Premiere" "phases" "LPhaseLights$Breakers;" ∈ lw_good := lw_in (i := 134) (by decide +kernel) rfl
theorem w135 : Cond.fieldLink RX11 234 "PhaseLights$Premiere" "phases" "LPhaseLights$Breakers;" ∈ lw_good := lw_in (i := 135) (by decide +kernel) rfl
theorem w136 : Cond.lays "PhaseLights$Premiere" "PhaseLights$Premiere" "first" "I" ∈ lw_good := lw_in (i := 136) (by decide +kernel) rfl
theorem w138 : Cond.lays "PhaseLights$Premiere" "PhaseLights$Premiere" "last" "I" ∈ lw_good := lw_in (i := 138) (by decide +kernel) rfl
theorem w140 : Cond.lays "PhaseLights$Premiere" "PhaseLights$Premiere" "lamps" "I" ∈ lw_good := lw_in (i := 140) (by decide +kernel) rfl
theorem w142 : Cond.laysFinal "PhaseLights$Premiere" "PhaseLights$Premiere" "lampType" "[I" ∈ lw_good := lw_in (i := 142) (by decide +kernel) rfl
theorem w144 : Cond.laysFinal "PhaseLights$Premiere" "PhaseLights$Premiere" "lampDimmer" "[I" ∈ lw_good := lw_in (i := 144) (by decide +kernel) rfl
theorem w146 : Cond.laysFinal "PhaseLights$Premiere" "PhaseLights$Premiere" "wanted" "[I" ∈ lw_good := lw_in (i := 146) (by decide +kernel) rfl
theorem w148 : Cond.laysFinal "PhaseLights$Premiere" "PhaseLights$Premiere" "level" "[I" ∈ lw_good := lw_in (i := 148) (by decide +kernel) rfl
theorem w150 : Cond.laysFinal "PhaseLights$Premiere" "PhaseLights$Premiere" "dimmerPhase" "[I" ∈ lw_good := lw_in (i := 150) (by decide +kernel) rfl
theorem w152 : Cond.laysFinal "PhaseLights$Premiere" "PhaseLights$Premiere" "cueTicks" "[I" ∈ lw_good := lw_in (i := 152) (by decide +kernel) rfl
theorem w154 : Cond.laysFinal "PhaseLights$Premiere" "PhaseLights$Premiere" "cueLevel" "[[I" ∈ lw_good := lw_in (i := 154) (by decide +kernel) rfl
theorem w156 : Cond.laysFinal "PhaseLights$Premiere" "PhaseLights$Premiere" "fade" "LPhaseLights$Fade;" ∈ lw_good := lw_in (i := 156) (by decide +kernel) rfl
theorem w158 : Cond.laysFinal "PhaseLights$Premiere" "PhaseLights$Premiere" "dimmers" "LPhaseLights$Breakers;" ∈ lw_good := lw_in (i := 158) (by decide +kernel) rfl
theorem w160 : Cond.laysFinal "PhaseLights$Premiere" "PhaseLights$Premiere" "phases" "LPhaseLights$Breakers;" ∈ lw_good := lw_in (i := 160) (by decide +kernel) rfl
theorem w163 : Cond.fieldLink RX7 18 "PhaseLights$State" "settings" "[I" ∈ lw_good := lw_in (i := 163) (by decide +kernel) rfl
theorem w164 : Cond.fieldLink RX8 30 "PhaseLights$State" "settings" "[I" ∈ lw_good := lw_in (i := 164) (by decide +kernel) rfl
theorem w165 : Cond.fieldLink RX11 75 "PhaseLights$State" "settings" "[I" ∈ lw_good := lw_in (i := 165) (by decide +kernel) rfl
theorem w166 : Cond.fieldLink RX6 109 "PhaseLights$State" "settings" "[I" ∈ lw_good := lw_in (i := 166) (by decide +kernel) rfl
theorem w167 : Cond.fieldLink RX7 26 "PhaseLights$State" "types" "LPhaseLights$Types;" ∈ lw_good := lw_in (i := 167) (by decide +kernel) rfl
theorem w168 : Cond.fieldLink RX11 78 "PhaseLights$State" "types" "LPhaseLights$Types;" ∈ lw_good := lw_in (i := 168) (by decide +kernel) rfl
theorem w169 : Cond.fieldLink RX6 117 "PhaseLights$State" "types" "LPhaseLights$Types;" ∈ lw_good := lw_in (i := 169) (by decide +kernel) rfl
theorem w170 : Cond.fieldLink RX7 32 "PhaseLights$State" "premieres" "[LPhaseLights$Premiere;" ∈ lw_good := lw_in (i := 170) (by decide +kernel) rfl
theorem w171 : Cond.fieldLink RX11 186 "PhaseLights$State" "premieres" "[LPhaseLights$Premiere;" ∈ lw_good := lw_in (i := 171) (by decide +kernel) rfl
theorem w172 : Cond.laysFinal "PhaseLights$State" "PhaseLights$State" "settings" "[I" ∈ lw_good := lw_in (i := 172) (by decide +kernel) rfl
theorem w174 : Cond.laysFinal "PhaseLights$State" "PhaseLights$State" "types" "LPhaseLights$Types;" ∈ lw_good := lw_in (i := 174) (by decide +kernel) rfl
theorem w176 : Cond.laysFinal "PhaseLights$State" "PhaseLights$State" "premieres" "[LPhaseLights$Premiere;" ∈ lw_good := lw_in (i := 176) (by decide +kernel) rfl
theorem w179 : Cond.classLink RX11 16 RX2 ∈ lw_good := lw_in (i := 179) (by decide +kernel) rfl
theorem w180 : Cond.instantiable RX2 2 ∈ lw_good := lw_in (i := 180) (by decide +kernel) rfl
theorem w181 : Cond.methodLink RX11 18 yX2_init ∈ lw_good := lw_in (i := 181) (by decide +kernel) rfl
theorem w182 : Cond.instanceMethod yX2_init ∈ lw_good := lw_in (i := 182) (by decide +kernel) rfl
theorem w183 : Cond.code yX2_init cX2_init 2 none ∈ lw_good := lw_in (i := 183) (by decide +kernel) rfl
theorem w184 : Cond.methodLink RX2 3 ⟨"java/lang/Object", "<init>", "()V"⟩ ∈ lw_good := lw_in (i := 184) (by decide +kernel) rfl
theorem w185 : Cond.classLink RX2 9 RX7 ∈ lw_good := lw_in (i := 185) (by decide +kernel) rfl
theorem w187 : Cond.methodLink RX2 17 yX7_init ∈ lw_good := lw_in (i := 187) (by decide +kernel) rfl
theorem w188 : Cond.fieldLink RX2 11 "PhaseLights$History" "states" "[LPhaseLights$State;" ∈ lw_good := lw_in (i := 188) (by decide +kernel) rfl
theorem w189 : Cond.fieldLink RX2 18 "PhaseLights$History" "size" "I" ∈ lw_good := lw_in (i := 189) (by decide +kernel) rfl
theorem w190 : Cond.fieldLink RX11 294 "PhaseLights$History" "size" "I" ∈ lw_good := lw_in (i := 190) (by decide +kernel) rfl
theorem w191 : Cond.laysFinal "PhaseLights$History" "PhaseLights$History" "states" "[LPhaseLights$State;" ∈ lw_good := lw_in (i := 191) (by decide +kernel) rfl
theorem w193 : Cond.lays "PhaseLights$History" "PhaseLights$History" "size" "I" ∈ lw_good := lw_in (i := 193) (by decide +kernel) rfl
theorem w196 : Cond.classLink RX11 27 RX4 ∈ lw_good := lw_in (i := 196) (by decide +kernel) rfl
theorem w197 : Cond.instantiable RX4 11 ∈ lw_good := lw_in (i := 197) (by decide +kernel) rfl
theorem w199 : Cond.instanceMethod yX4_init ∈ lw_good := lw_in (i := 199) (by decide +kernel) rfl
theorem w200 : Cond.code yX4_init cX4_init 1 none ∈ lw_good := lw_in (i := 200) (by decide +kernel) rfl
theorem w201 : Cond.methodLink RX4 3 ⟨"java/lang/Object", "<init>", "()V"⟩ ∈ lw_good := lw_in (i := 201) (by decide +kernel) rfl
theorem w202 : Cond.classLink RX4 9 RX5 ∈ lw_good := lw_in (i := 202) (by decide +kernel) rfl
theorem w203 : Cond.instantiable RX5 2 ∈ lw_good := lw_in (i := 203) (by decide +kernel) rfl
theorem w205 : Cond.instanceMethod yX5_init ∈ lw_good := lw_in (i := 205) (by decide +kernel) rfl
theorem w206 : Cond.code yX5_init cX5_init 1 none ∈ lw_good := lw_in (i := 206) (by decide +kernel) rfl
theorem w207 : Cond.methodLink RX5 3 ⟨"java/lang/Object", "<init>", "()V"⟩ ∈ lw_good := lw_in (i := 207) (by decide +kernel) rfl
theorem w208 : Cond.fieldLink RX5 9 "PhaseLights$Pad" "signs" "[I" ∈ lw_good := lw_in (i := 208) (by decide +kernel) rfl
theorem w209 : Cond.fieldLink RX4 89 "PhaseLights$Pad" "signs" "[I" ∈ lw_good := lw_in (i := 209) (by decide +kernel) rfl
theorem w210 : Cond.fieldLink RX4 55 "PhaseLights$Pad" "length" "I" ∈ lw_good := lw_in (i := 210) (by decide +kernel) rfl
theorem w211 : Cond.fieldLink RX5 21 "PhaseLights$Pad" "length" "I" ∈ lw_good := lw_in (i := 211) (by decide +kernel) rfl
theorem w212 : Cond.fieldLink RX11 197 "PhaseLights$Pad" "length" "I" ∈ lw_good := lw_in (i := 212) (by decide +kernel) rfl
theorem w213 : Cond.laysFinal "PhaseLights$Pad" "PhaseLights$Pad" "signs" "[I" ∈ lw_good := lw_in (i := 213) (by decide +kernel) rfl
theorem w215 : Cond.lays "PhaseLights$Pad" "PhaseLights$Pad" "length" "I" ∈ lw_good := lw_in (i := 215) (by decide +kernel) rfl
theorem w218 : Cond.fieldLink RX4 12 "PhaseLights$Orders" "pad" "LPhaseLights$Pad;" ∈ lw_good := lw_in (i := 218) (by decide +kernel) rfl
theorem w219 : Cond.fieldLink RX11 34 "PhaseLights$Orders" "pad" "LPhaseLights$Pad;" ∈ lw_good := lw_in (i := 219) (by decide +kernel) rfl
theorem w220 : Cond.fieldLink RX4 52 "PhaseLights$Orders" "place" "I" ∈ lw_good := lw_in (i := 220) (by decide +kernel) rfl
theorem w221 : Cond.fieldLink RX11 326 "PhaseLights$Orders" "place" "I" ∈ lw_good := lw_in (i := 221) (by decide +kernel) rfl
theorem w222 : Cond.fieldLink RX4 86 "PhaseLights$Orders" "sign" "I" ∈ lw_good := lw_in (i := 222) (by decide +kernel) rfl
theorem w223 : Cond.fieldLink RX4 37 "PhaseLights$Orders" "orders" "I" ∈ lw_good := lw_in (i := 223) (by decide +kernel) rfl
theorem w224 : Cond.fieldLink RX4 18 "PhaseLights$Orders" "kind" "[I" ∈ lw_good := lw_in (i := 224) (by decide +kernel) rfl
theorem w225 : Cond.fieldLink RX4 22 "PhaseLights$Orders" "levelOrCue" "[I" ∈ lw_good := lw_in (i := 225) (by decide +kernel) rfl
theorem w226 : Cond.fieldLink RX4 25 "PhaseLights$Orders" "cueTicks" "[I" ∈ lw_good := lw_in (i := 226) (by decide +kernel) rfl
theorem w227 : Cond.fieldLink RX4 28 "PhaseLights$Orders" "spansEnd" "[I" ∈ lw_good := lw_in (i := 227) (by decide +kernel) rfl
theorem w228 : Cond.fieldLink RX4 41 "PhaseLights$Orders" "spans" "I" ∈ lw_good := lw_in (i := 228) (by decide +kernel) rfl
theorem w229 : Cond.fieldLink RX4 31 "PhaseLights$Orders" "spanFirst" "[I" ∈ lw_good := lw_in (i := 229) (by decide +kernel) rfl
theorem w230 : Cond.fieldLink RX4 34 "PhaseLights$Orders" "spanLast" "[I" ∈ lw_good := lw_in (i := 230) (by decide +kernel) rfl
theorem w231 : Cond.laysFinal "PhaseLights$Orders" "PhaseLights$Orders" "pad" "LPhaseLights$Pad;" ∈ lw_good := lw_in (i := 231) (by decide +kernel) rfl
theorem w233 : Cond.lays "PhaseLights$Orders" "PhaseLights$Orders" "place" "I" ∈ lw_good := lw_in (i := 233) (by decide +kernel) rfl
theorem w235 : Cond.lays "PhaseLights$Orders" "PhaseLights$Orders" "sign" "I" ∈ lw_good := lw_in (i := 235) (by decide +kernel) rfl
theorem w237 : Cond.lays "PhaseLights$Orders" "PhaseLights$Orders" "orders" "I" ∈ lw_good := lw_in (i := 237) (by decide +kernel) rfl
theorem w239 : Cond.laysFinal "PhaseLights$Orders" "PhaseLights$Orders" "kind" "[I" ∈ lw_good := lw_in (i := 239) (by decide +kernel) rfl
theorem w241 : Cond.laysFinal "PhaseLights$Orders" "PhaseLights$Orders" "levelOrCue" "[I" ∈ lw_good := lw_in (i := 241) (by decide +kernel) rfl
theorem w243 : Cond.laysFinal "PhaseLights$Orders" "PhaseLights$Orders" "cueTicks" "[I" ∈ lw_good := lw_in (i := 243) (by decide +kernel) rfl
theorem w245 : Cond.laysFinal "PhaseLights$Orders" "PhaseLights$Orders" "spansEnd" "[I" ∈ lw_good := lw_in (i := 245) (by decide +kernel) rfl
theorem w247 : Cond.lays "PhaseLights$Orders" "PhaseLights$Orders" "spans" "I" ∈ lw_good := lw_in (i := 247) (by decide +kernel) rfl
theorem w249 : Cond.laysFinal "PhaseLights$Orders" "PhaseLights$Orders" "spanFirst" "[I" ∈ lw_good := lw_in (i := 249) (by decide +kernel) rfl
theorem w251 : Cond.laysFinal "PhaseLights$Orders" "PhaseLights$Orders" "spanLast" "[I" ∈ lw_good := lw_in (i := 251) (by decide +kernel) rfl
theorem w254 : Cond.classLink RX11 39 RX3 ∈ lw_good := lw_in (i := 254) (by decide +kernel) rfl
theorem w255 : Cond.instantiable RX3 2 ∈ lw_good := lw_in (i := 255) (by decide +kernel) rfl
theorem w257 : Cond.instanceMethod yX3_init ∈ lw_good := lw_in (i := 257) (by decide +kernel) rfl
theorem w258 : Cond.code yX3_init cX3_init 1 none ∈ lw_good := lw_in (i := 258) (by decide +kernel) rfl
theorem w259 : Cond.methodLink RX3 3 ⟨"java/lang/Object", "<init>", "()V"⟩ ∈ lw_good := lw_in (i := 259) (by decide +kernel) rfl
theorem w260 : Cond.fieldLink RX3 9 "PhaseLights$Loads" "ofDimmer" "[I" ∈ lw_good := lw_in (i := 260) (by decide +kernel) rfl
theorem w261 : Cond.fieldLink RX10 34 "PhaseLights$Loads" "ofDimmer" "[I" ∈ lw_good := lw_in (i := 261) (by decide +kernel) rfl
theorem w262 : Cond.fieldLink RX8 49 "PhaseLights$Loads" "ofDimmer" "[I" ∈ lw_good := lw_in (i := 262) (by decide +kernel) rfl
theorem w263 : Cond.fieldLink RX11 145 "PhaseLights$Loads" "ofDimmer" "[I" ∈ lw_good := lw_in (i := 263) (by decide +kernel) rfl
theorem w264 : Cond.fieldLink RX6 127 "PhaseLights$Loads" "ofDimmer" "[I" ∈ lw_good := lw_in (i := 264) (by decide +kernel) rfl
theorem w265 : Cond.fieldLink RX3 15 "PhaseLights$Loads" "ofPhase" "[I" ∈ lw_good := lw_in (i := 265) (by decide +kernel) rfl
theorem w266 : Cond.fieldLink RX10 42 "PhaseLights$Loads" "ofPhase" "[I" ∈ lw_good := lw_in (i := 266) (by decide +kernel) rfl
theorem w267 : Cond.fieldLink RX8 67 "PhaseLights$Loads" "ofPhase" "[I" ∈ lw_good := lw_in (i := 267) (by decide +kernel) rfl
theorem w268 : Cond.fieldLink RX11 148 "PhaseLights$Loads" "ofPhase" "[I" ∈ lw_good := lw_in (i := 268) (by decide +kernel) rfl
theorem w269 : Cond.fieldLink RX6 134 "PhaseLights$Loads" "ofPhase" "[I" ∈ lw_good := lw_in (i := 269) (by decide +kernel) rfl
theorem w270 : Cond.laysFinal "PhaseLights$Loads" "PhaseLights$Loads" "ofDimmer" "[I" ∈ lw_good := lw_in (i := 270) (by decide +kernel) rfl
theorem w272 : Cond.laysFinal "PhaseLights$Loads" "PhaseLights$Loads" "ofPhase" "[I" ∈ lw_good := lw_in (i := 272) (by decide +kernel) rfl
theorem w275 : Cond.classLink RX11 46 RX10 ∈ lw_good := lw_in (i := 275) (by decide +kernel) rfl
theorem w276 : Cond.instantiable RX10 2 ∈ lw_good := lw_in (i := 276) (by decide +kernel) rfl
theorem w278 : Cond.instanceMethod yX10_init ∈ lw_good := lw_in (i := 278) (by decide +kernel) rfl
theorem w279 : Cond.code yX10_init cX10_init 1 none ∈ lw_good := lw_in (i := 279) (by decide +kernel) rfl
theorem w280 : Cond.methodLink RX10 3 ⟨"java/lang/Object", "<init>", "()V"⟩ ∈ lw_good := lw_in (i := 280) (by decide +kernel) rfl
theorem w281 : Cond.classLink RX10 9 RX3 ∈ lw_good := lw_in (i := 281) (by decide +kernel) rfl
theorem w283 : Cond.fieldLink RX10 12 "PhaseLights$Worst" "loads" "LPhaseLights$Loads;" ∈ lw_good := lw_in (i := 283) (by decide +kernel) rfl
theorem w284 : Cond.fieldLink RX11 144 "PhaseLights$Worst" "loads" "LPhaseLights$Loads;" ∈ lw_good := lw_in (i := 284) (by decide +kernel) rfl
theorem w285 : Cond.fieldLink RX10 18 "PhaseLights$Worst" "byCue" "LPhaseLights$Loads;" ∈ lw_good := lw_in (i := 285) (by decide +kernel) rfl
theorem w286 : Cond.laysFinal "PhaseLights$Worst" "PhaseLights$Worst" "loads" "LPhaseLights$Loads;" ∈ lw_good := lw_in (i := 286) (by decide +kernel) rfl
theorem w288 : Cond.laysFinal "PhaseLights$Worst" "PhaseLights$Worst" "byCue" "LPhaseLights$Loads;" ∈ lw_good := lw_in (i := 288) (by decide +kernel) rfl
theorem w291 : Cond.classLink RX11 53 RX8 ∈ lw_good := lw_in (i := 291) (by decide +kernel) rfl
theorem w292 : Cond.instantiable RX8 5 ∈ lw_good := lw_in (i := 292) (by decide +kernel) rfl
theorem w294 : Cond.instanceMethod yX8_init ∈ lw_good := lw_in (i := 294) (by decide +kernel) rfl
theorem w295 : Cond.code yX8_init cX8_init 1 none ∈ lw_good := lw_in (i := 295) (by decide +kernel) rfl
theorem w296 : Cond.methodLink RX8 3 ⟨"java/lang/Object", "<init>", "()V"⟩ ∈ lw_good := lw_in (i := 296) (by decide +kernel) rfl
theorem w297 : Cond.classLink RX8 9 RX6 ∈ lw_good := lw_in (i := 297) (by decide +kernel) rfl
theorem w298 : Cond.methodLink RX8 11 yX6_init ∈ lw_good := lw_in (i := 298) (by decide +kernel) rfl
theorem w299 : Cond.fieldLink RX8 12 "PhaseLights$Trial" "aside" "LPhaseLights$Premiere;" ∈ lw_good := lw_in (i := 299) (by decide +kernel) rfl
theorem w300 : Cond.fieldLink RX8 43 "PhaseLights$Trial" "trips" "I" ∈ lw_good := lw_in (i := 300) (by decide +kernel) rfl
theorem w301 : Cond.fieldLink RX11 301 "PhaseLights$Trial" "trips" "I" ∈ lw_good := lw_in (i := 301) (by decide +kernel) rfl
theorem w302 : Cond.fieldLink RX8 39 "PhaseLights$Trial" "firstTrip" "I" ∈ lw_good := lw_in (i := 302) (by decide +kernel) rfl
theorem w303 : Cond.fieldLink RX11 304 "PhaseLights$Trial" "firstTrip" "I" ∈ lw_good := lw_in (i := 303) (by decide +kernel) rfl
theorem w304 : Cond.fieldLink RX8 46 "PhaseLights$Trial" "greatestOfDimmers" "I" ∈ lw_good := lw_in (i := 304) (by decide +kernel) rfl
theorem w305 : Cond.fieldLink RX11 307 "PhaseLights$Trial" "greatestOfDimmers" "I" ∈ lw_good := lw_in (i := 305) (by decide +kernel) rfl
theorem w306 : Cond.fieldLink RX8 64 "PhaseLights$Trial" "greatestOfPhases" "I" ∈ lw_good := lw_in (i := 306) (by decide +kernel) rfl
theorem w307 : Cond.fieldLink RX11 310 "PhaseLights$Trial" "greatestOfPhases" "I" ∈ lw_good := lw_in (i := 307) (by decide +kernel) rfl
theorem w308 : Cond.laysFinal "PhaseLights$Trial" "PhaseLights$Trial" "aside" "LPhaseLights$Premiere;" ∈ lw_good := lw_in (i := 308) (by decide +kernel) rfl
theorem w310 : Cond.lays "PhaseLights$Trial" "PhaseLights$Trial" "trips" "I" ∈ lw_good := lw_in (i := 310) (by decide +kernel) rfl
theorem w312 : Cond.lays "PhaseLights$Trial" "PhaseLights$Trial" "firstTrip" "I" ∈ lw_good := lw_in (i := 312) (by decide +kernel) rfl
theorem w314 : Cond.lays "PhaseLights$Trial" "PhaseLights$Trial" "greatestOfDimmers" "I" ∈ lw_good := lw_in (i := 314) (by decide +kernel) rfl
theorem w316 : Cond.lays "PhaseLights$Trial" "PhaseLights$Trial" "greatestOfPhases" "I" ∈ lw_good := lw_in (i := 316) (by decide +kernel) rfl
theorem w319 : Cond.fieldLink RX11 10 "PhaseLights" "state" "LPhaseLights$State;" ∈ lw_good := lw_in (i := 319) (by decide +kernel) rfl
theorem w320 : Cond.fieldLink RX11 19 "PhaseLights" "history" "LPhaseLights$History;" ∈ lw_good := lw_in (i := 320) (by decide +kernel) rfl
theorem w321 : Cond.fieldLink RX11 23 "PhaseLights" "slots" "[LPhaseLights$State;" ∈ lw_good := lw_in (i := 321) (by decide +kernel) rfl
theorem w322 : Cond.fieldLink RX11 336 "PhaseLights" "savedSlots" "I" ∈ lw_good := lw_in (i := 322) (by decide +kernel) rfl
theorem w323 : Cond.fieldLink RX11 30 "PhaseLights" "orders" "LPhaseLights$Orders;" ∈ lw_good := lw_in (i := 323) (by decide +kernel) rfl
theorem w324 : Cond.fieldLink RX11 38 "PhaseLights" "pad" "LPhaseLights$Pad;" ∈ lw_good := lw_in (i := 324) (by decide +kernel) rfl
theorem w325 : Cond.fieldLink RX11 42 "PhaseLights" "loads" "LPhaseLights$Loads;" ∈ lw_good := lw_in (i := 325) (by decide +kernel) rfl
theorem w326 : Cond.fieldLink RX11 49 "PhaseLights" "worst" "LPhaseLights$Worst;" ∈ lw_good := lw_in (i := 326) (by decide +kernel) rfl
theorem w327 : Cond.fieldLink RX11 56 "PhaseLights" "trial" "LPhaseLights$Trial;" ∈ lw_good := lw_in (i := 327) (by decide +kernel) rfl
theorem w328 : Cond.laysFinal "PhaseLights" "PhaseLights" "state" "LPhaseLights$State;" ∈ lw_good := lw_in (i := 328) (by decide +kernel) rfl
theorem w330 : Cond.laysFinal "PhaseLights" "PhaseLights" "history" "LPhaseLights$History;" ∈ lw_good := lw_in (i := 330) (by decide +kernel) rfl
theorem w332 : Cond.laysFinal "PhaseLights" "PhaseLights" "slots" "[LPhaseLights$State;" ∈ lw_good := lw_in (i := 332) (by decide +kernel) rfl
theorem w334 : Cond.lays "PhaseLights" "PhaseLights" "savedSlots" "I" ∈ lw_good := lw_in (i := 334) (by decide +kernel) rfl
theorem w336 : Cond.laysFinal "PhaseLights" "PhaseLights" "orders" "LPhaseLights$Orders;" ∈ lw_good := lw_in (i := 336) (by decide +kernel) rfl
theorem w338 : Cond.laysFinal "PhaseLights" "PhaseLights" "pad" "LPhaseLights$Pad;" ∈ lw_good := lw_in (i := 338) (by decide +kernel) rfl
theorem w340 : Cond.laysFinal "PhaseLights" "PhaseLights" "loads" "LPhaseLights$Loads;" ∈ lw_good := lw_in (i := 340) (by decide +kernel) rfl
theorem w342 : Cond.laysFinal "PhaseLights" "PhaseLights" "worst" "LPhaseLights$Worst;" ∈ lw_good := lw_in (i := 342) (by decide +kernel) rfl
theorem w344 : Cond.laysFinal "PhaseLights" "PhaseLights" "trial" "LPhaseLights$Trial;" ∈ lw_good := lw_in (i := 344) (by decide +kernel) rfl
theorem w347 : Cond.methodLink RL 13 yX11_set ∈ lw_good := lw_in (i := 347) (by decide +kernel) rfl
theorem w348 : Cond.instanceMethod yX11_set ∈ lw_good := lw_in (i := 348) (by decide +kernel) rfl
theorem w349 : Cond.selects RX11 yX11_set yX11_set ∈ lw_good := lw_in (i := 349) (by decide +kernel) rfl
theorem w350 : Cond.code yX11_set cX11_set 4 (some (Jvm.ClassFile.FieldType.int)) ∈ lw_good := lw_in (i := 350) (by decide +kernel) rfl
theorem w351 : Cond.fieldLink RX11 60 "PhaseLights" "LEAST_SETTING" "[I" ∈ lw_good := lw_in (i := 351) (by decide +kernel) rfl
theorem w353 : Cond.methodLink RX11 64 yX11_isIn ∈ lw_good := lw_in (i := 353) (by decide +kernel) rfl
theorem w354 : Cond.static yX11_isIn ∈ lw_good := lw_in (i := 354) (by decide +kernel) rfl
theorem w355 : Cond.code yX11_isIn cX11_isIn 3 (some (Jvm.ClassFile.FieldType.boolean)) ∈ lw_good := lw_in (i := 355) (by decide +kernel) rfl
theorem w356 : Cond.fieldLink RX11 68 "PhaseLights" "MOST_SETTING" "[I" ∈ lw_good := lw_in (i := 356) (by decide +kernel) rfl
theorem w358 : Cond.methodLink RX11 71 yX2_push ∈ lw_good := lw_in (i := 358) (by decide +kernel) rfl
theorem w359 : Cond.instanceMethod yX2_push ∈ lw_good := lw_in (i := 359) (by decide +kernel) rfl
theorem w360 : Cond.selects RX2 yX2_push yX2_push ∈ lw_good := lw_in (i := 360) (by decide +kernel) rfl
theorem w361 : Cond.code yX2_push cX2_push 2 none ∈ lw_good := lw_in (i := 361) (by decide +kernel) rfl
theorem w362 : Cond.methodLink RX2 22 yX2_dropOldest ∈ lw_good := lw_in (i := 362) (by decide +kernel) rfl
theorem w364 : Cond.instanceMethod yX2_dropOldest ∈ lw_good := lw_in (i := 364) (by decide +kernel) rfl
theorem w365 : Cond.code yX2_dropOldest cX2_dropOldest 3 none ∈ lw_good := lw_in (i := 365) (by decide +kernel) rfl
theorem w366 : Cond.methodLink RX2 25 yX7_copyFrom ∈ lw_good := lw_in (i := 366) (by decide +kernel) rfl
theorem w367 : Cond.instanceMethod yX7_copyFrom ∈ lw_good := lw_in (i := 367) (by decide +kernel) rfl
theorem w368 : Cond.selects RX7 yX7_copyFrom yX7_copyFrom ∈ lw_good := lw_in (i := 368) (by decide +kernel) rfl
theorem w369 : Cond.code yX7_copyFrom cX7_copyFrom 3 none ∈ lw_good := lw_in (i := 369) (by decide +kernel) rfl
theorem w371 : Cond.static yX11_copy ∈ lw_good := lw_in (i := 371) (by decide +kernel) rfl
theorem w372 : Cond.code yX11_copy cX11_copy 3 none ∈ lw_good := lw_in (i := 372) (by decide +kernel) rfl
theorem w373 : Cond.methodLink RX7 45 yX9_copyFrom ∈ lw_good := lw_in (i := 373) (by decide +kernel) rfl
theorem w374 : Cond.instanceMethod yX9_copyFrom ∈ lw_good := lw_in (i := 374) (by decide +kernel) rfl
theorem w375 : Cond.selects RX9 yX9_copyFrom yX9_copyFrom ∈ lw_good := lw_in (i := 375) (by decide +kernel) rfl
theorem w376 : Cond.code yX9_copyFrom cX9_copyFrom 2 none ∈ lw_good := lw_in (i := 376) (by decide +kernel) rfl
theorem w378 : Cond.methodLink RX7 49 yX6_copyFrom ∈ lw_good := lw_in (i := 378) (by decide +kernel) rfl
theorem w379 : Cond.instanceMethod yX6_copyFrom ∈ lw_good := lw_in (i := 379) (by decide +kernel) rfl
theorem w380 : Cond.selects RX6 yX6_copyFrom yX6_copyFrom ∈ lw_good := lw_in (i := 380) (by decide +kernel) rfl
theorem w381 : Cond.code yX6_copyFrom cX6_copyFrom 3 none ∈ lw_good := lw_in (i := 381) (by decide +kernel) rfl
theorem w383 : Cond.methodLink RX6 68 yX1_copyFrom ∈ lw_good := lw_in (i := 383) (by decide +kernel) rfl
theorem w384 : Cond.instanceMethod yX1_copyFrom ∈ lw_good := lw_in (i := 384) (by decide +kernel) rfl
theorem w385 : Cond.selects RX1 yX1_copyFrom yX1_copyFrom ∈ lw_good := lw_in (i := 385) (by decide +kernel) rfl
theorem w386 : Cond.code yX1_copyFrom cX1_copyFrom 2 none ∈ lw_good := lw_in (i := 386) (by decide +kernel) rfl
theorem w388 : Cond.methodLink RX6 72 yX0_copyFrom ∈ lw_good := lw_in (i := 388) (by decide +kernel) rfl
theorem w389 : Cond.instanceMethod yX0_copyFrom ∈ lw_good := lw_in (i := 389) (by decide +kernel) rfl
theorem w390 : Cond.selects RX0 yX0_copyFrom yX0_copyFrom ∈ lw_good := lw_in (i := 390) (by decide +kernel) rfl
theorem w391 : Cond.code yX0_copyFrom cX0_copyFrom 2 none ∈ lw_good := lw_in (i := 391) (by decide +kernel) rfl
theorem w393 : Cond.methodLink RL 18 yX11_type ∈ lw_good := lw_in (i := 393) (by decide +kernel) rfl
theorem w394 : Cond.instanceMethod yX11_type ∈ lw_good := lw_in (i := 394) (by decide +kernel) rfl
theorem w395 : Cond.selects RX11 yX11_type yX11_type ∈ lw_good := lw_in (i := 395) (by decide +kernel) rfl
theorem w396 : Cond.code yX11_type cX11_type 4 (some (Jvm.ClassFile.FieldType.int)) ∈ lw_good := lw_in (i := 396) (by decide +kernel) rfl
theorem w397 : Cond.methodLink RX11 82 yX9_isFull ∈ lw_good := lw_in (i := 397) (by decide +kernel) rfl
theorem w398 : Cond.instanceMethod yX9_isFull ∈ lw_good := lw_in (i := 398) (by decide +kernel) rfl
theorem w399 : Cond.selects RX9 yX9_isFull yX9_isFull ∈ lw_good := lw_in (i := 399) (by decide +kernel) rfl
theorem w400 : Cond.code yX9_isFull cX9_isFull 1 (some (Jvm.ClassFile.FieldType.boolean)) ∈ lw_good := lw_in (i := 400) (by decide +kernel) rfl
theorem w401 : Cond.methodLink RX11 88 yX9_add ∈ lw_good := lw_in (i := 401) (by decide +kernel) rfl
theorem w402 : Cond.instanceMethod yX9_add ∈ lw_good := lw_in (i := 402) (by decide +kernel) rfl
theorem w403 : Cond.selects RX9 yX9_add yX9_add ∈ lw_good := lw_in (i := 403) (by decide +kernel) rfl
theorem w404 : Cond.code yX9_add cX9_add 5 (some (Jvm.ClassFile.FieldType.int)) ∈ lw_good := lw_in (i := 404) (by decide +kernel) rfl
theorem w405 : Cond.methodLink RX9 25 yX9_isFull ∈ lw_good := lw_in (i := 405) (by decide +kernel) rfl
theorem w406 : Cond.methodLink RL 23 yX11_days ∈ lw_good := lw_in (i := 406) (by decide +kernel) rfl
theorem w407 : Cond.instanceMethod yX11_days ∈ lw_good := lw_in (i := 407) (by decide +kernel) rfl
theorem w408 : Cond.selects RX11 yX11_days yX11_days ∈ lw_good := lw_in (i := 408) (by decide +kernel) rfl
theorem w409 : Cond.code yX11_days cX11_days 6 (some (Jvm.ClassFile.FieldType.int)) ∈ lw_good := lw_in (i := 409) (by decide +kernel) rfl
theorem w410 : Cond.methodLink RX11 92 yX7_find ∈ lw_good := lw_in (i := 410) (by decide +kernel) rfl
theorem w411 : Cond.instanceMethod yX7_find ∈ lw_good := lw_in (i := 411) (by decide +kernel) rfl
theorem w412 : Cond.selects RX7 yX7_find yX7_find ∈ lw_good := lw_in (i := 412) (by decide +kernel) rfl
theorem w413 : Cond.code yX7_find cX7_find 2 (some ((Jvm.ClassFile.FieldType.object "PhaseLights$Premiere"))) ∈ lw_good := lw_in (i := 413) (by decide +kernel) rfl
theorem w415 : Cond.methodLink RX11 96 yX11_areDays ∈ lw_good := lw_in (i := 415) (by decide +kernel) rfl
theorem w416 : Cond.static yX11_areDays ∈ lw_good := lw_in (i := 416) (by decide +kernel) rfl
theorem w417 : Cond.code yX11_areDays cX11_areDays 2 (some (Jvm.ClassFile.FieldType.boolean)) ∈ lw_good := lw_in (i := 417) (by decide +kernel) rfl
theorem w418 : Cond.methodLink RL 27 yX11_hang ∈ lw_good := lw_in (i := 418) (by decide +kernel) rfl
theorem w419 : Cond.instanceMethod yX11_hang ∈ lw_good := lw_in (i := 419) (by decide +kernel) rfl
theorem w420 : Cond.selects RX11 yX11_hang yX11_hang ∈ lw_good := lw_in (i := 420) (by decide +kernel) rfl
theorem w421 : Cond.code yX11_hang cX11_hang 5 (some (Jvm.ClassFile.FieldType.int)) ∈ lw_good := lw_in (i := 421) (by decide +kernel) rfl
theorem w422 : Cond.methodLink RX11 109 yX9_has ∈ lw_good := lw_in (i := 422) (by decide +kernel) rfl
theorem w423 : Cond.instanceMethod yX9_has ∈ lw_good := lw_in (i := 423) (by decide +kernel) rfl
theorem w424 : Cond.selects RX9 yX9_has yX9_has ∈ lw_good := lw_in (i := 424) (by decide +kernel) rfl
theorem w425 : Cond.code yX9_has cX9_has 2 (some (Jvm.ClassFile.FieldType.boolean)) ∈ lw_good := lw_in (i := 425) (by decide +kernel) rfl
theorem w426 : Cond.methodLink RX11 113 yX11_isDimmerOrNone ∈ lw_good := lw_in (i := 426) (by decide +kernel) rfl
theorem w427 : Cond.static yX11_isDimmerOrNone ∈ lw_good := lw_in (i := 427) (by decide +kernel) rfl
theorem w428 : Cond.code yX11_isDimmerOrNone cX11_isDimmerOrNone 1 (some (Jvm.ClassFile.FieldType.boolean)) ∈ lw_good := lw_in (i := 428) (by decide +kernel) rfl
theorem w429 : Cond.methodLink RX11 131 yX11_isDimmer ∈ lw_good := lw_in (i := 429) (by decide +kernel) rfl
theorem w430 : Cond.static yX11_isDimmer ∈ lw_good := lw_in (i := 430) (by decide +kernel) rfl
theorem w431 : Cond.code yX11_isDimmer cX11_isDimmer 1 (some (Jvm.ClassFile.FieldType.boolean)) ∈ lw_good := lw_in (i := 431) (by decide +kernel) rfl
theorem w432 : Cond.methodLink RX11 116 yX6_isFull ∈ lw_good := lw_in (i := 432) (by decide +kernel) rfl
theorem w433 : Cond.instanceMethod yX6_isFull ∈ lw_good := lw_in (i := 433) (by decide +kernel) rfl
theorem w434 : Cond.selects RX6 yX6_isFull yX6_isFull ∈ lw_good := lw_in (i := 434) (by decide +kernel) rfl
theorem w435 : Cond.code yX6_isFull cX6_isFull 1 (some (Jvm.ClassFile.FieldType.boolean)) ∈ lw_good := lw_in (i := 435) (by decide +kernel) rfl
theorem w436 : Cond.methodLink RX11 117 yX6_addLamp ∈ lw_good := lw_in (i := 436) (by decide +kernel) rfl
theorem w437 : Cond.instanceMethod yX6_addLamp ∈ lw_good := lw_in (i := 437) (by decide +kernel) rfl
theorem w438 : Cond.selects RX6 yX6_addLamp yX6_addLamp ∈ lw_good := lw_in (i := 438) (by decide +kernel) rfl
theorem w439 : Cond.code yX6_addLamp cX6_addLamp 4 (some (Jvm.ClassFile.FieldType.int)) ∈ lw_good := lw_in (i := 439) (by decide +kernel) rfl
theorem w440 : Cond.methodLink RX6 79 yX6_isFull ∈ lw_good := lw_in (i := 440) (by decide +kernel) rfl
theorem w441 : Cond.methodLink RL 31 yX11_takeDown ∈ lw_good := lw_in (i := 441) (by decide +kernel) rfl
theorem w442 : Cond.instanceMethod yX11_takeDown ∈ lw_good := lw_in (i := 442) (by decide +kernel) rfl
theorem w443 : Cond.selects RX11 yX11_takeDown yX11_takeDown ∈ lw_good := lw_in (i := 443) (by decide +kernel) rfl
theorem w444 : Cond.code yX11_takeDown cX11_takeDown 4 (some (Jvm.ClassFile.FieldType.int)) ∈ lw_good := lw_in (i := 444) (by decide +kernel) rfl
theorem w445 : Cond.methodLink RX11 121 yX6_hasLamp ∈ lw_good := lw_in (i := 445) (by decide +kernel) rfl
theorem w446 : Cond.instanceMethod yX6_hasLamp ∈ lw_good := lw_in (i := 446) (by decide +kernel) rfl
theorem w447 : Cond.selects RX6 yX6_hasLamp yX6_hasLamp ∈ lw_good := lw_in (i := 447) (by decide +kernel) rfl
theorem w448 : Cond.code yX6_hasLamp cX6_hasLamp 2 (some (Jvm.ClassFile.FieldType.boolean)) ∈ lw_good := lw_in (i := 448) (by decide +kernel) rfl
theorem w449 : Cond.methodLink RX11 124 yX6_removeLamp ∈ lw_good := lw_in (i := 449) (by decide +kernel) rfl
theorem w450 : Cond.instanceMethod yX6_removeLamp ∈ lw_good := lw_in (i := 450) (by decide +kernel) rfl
theorem w451 : Cond.selects RX6 yX6_removeLamp yX6_removeLamp ∈ lw_good := lw_in (i := 451) (by decide +kernel) rfl
theorem w452 : Cond.code yX6_removeLamp cX6_removeLamp 6 (some (Jvm.ClassFile.FieldType.int)) ∈ lw_good := lw_in (i := 452) (by decide +kernel) rfl
theorem w453 : Cond.methodLink RX6 83 yX6_hasLamp ∈ lw_good := lw_in (i := 453) (by decide +kernel) rfl
theorem w455 : Cond.static yX11_closeGap ∈ lw_good := lw_in (i := 455) (by decide +kernel) rfl
theorem w456 : Cond.code yX11_closeGap cX11_closeGap 3 none ∈ lw_good := lw_in (i := 456) (by decide +kernel) rfl
theorem w457 : Cond.methodLink RX11 349 yJ9_max_7cf53 ∈ lw_good := lw_in (i := 457) (by decide +kernel) rfl
theorem w458 : Cond.static yJ9_max_7cf53 ∈ lw_good := lw_in (i := 458) (by decide +kernel) rfl
theorem w459 : Cond.code yJ9_max_7cf53 cJ9_max_7cf53 2 (some (Jvm.ClassFile.FieldType.int)) ∈ lw_good := lw_in (i := 459) (by decide +kernel) rfl
theorem w460 : Cond.methodLink RX6 91 yX1_removeLamp ∈ lw_good := lw_in (i := 460) (by decide +kernel) rfl
theorem w461 : Cond.instanceMethod yX1_removeLamp ∈ lw_good := lw_in (i := 461) (by decide +kernel) rfl
theorem w462 : Cond.selects RX1 yX1_removeLamp yX1_removeLamp ∈ lw_good := lw_in (i := 462) (by decide +kernel) rfl
theorem w463 : Cond.code yX1_removeLamp cX1_removeLamp 2 none ∈ lw_good := lw_in (i := 463) (by decide +kernel) rfl
theorem w465 : Cond.methodLink RL 35 yX11_patch ∈ lw_good := lw_in (i := 465) (by decide +kernel) rfl
theorem w466 : Cond.instanceMethod yX11_patch ∈ lw_good := lw_in (i := 466) (by decide +kernel) rfl
theorem w467 : Cond.selects RX11 yX11_patch yX11_patch ∈ lw_good := lw_in (i := 467) (by decide +kernel) rfl
theorem w468 : Cond.code yX11_patch cX11_patch 6 (some (Jvm.ClassFile.FieldType.int)) ∈ lw_good := lw_in (i := 468) (by decide +kernel) rfl
theorem w469 : Cond.methodLink RL 39 yX11_feed ∈ lw_good := lw_in (i := 469) (by decide +kernel) rfl
theorem w470 : Cond.instanceMethod yX11_feed ∈ lw_good := lw_in (i := 470) (by decide +kernel) rfl
theorem w471 : Cond.selects RX11 yX11_feed yX11_feed ∈ lw_good := lw_in (i := 471) (by decide +kernel) rfl
theorem w472 : Cond.code yX11_feed cX11_feed 6 (some (Jvm.ClassFile.FieldType.int)) ∈ lw_good := lw_in (i := 472) (by decide +kernel) rfl
theorem w473 : Cond.methodLink RX11 134 yX11_isPhase ∈ lw_good := lw_in (i := 473) (by decide +kernel) rfl
theorem w474 : Cond.static yX11_isPhase ∈ lw_good := lw_in (i := 474) (by decide +kernel) rfl
theorem w475 : Cond.code yX11_isPhase cX11_isPhase 1 (some (Jvm.ClassFile.FieldType.boolean)) ∈ lw_good := lw_in (i := 475) (by decide +kernel) rfl
theorem w476 : Cond.methodLink RL 43 yX11_spread ∈ lw_good := lw_in (i := 476) (by decide +kernel) rfl
theorem w477 : Cond.instanceMethod yX11_spread ∈ lw_good := lw_in (i := 477) (by decide +kernel) rfl
theorem w478 : Cond.selects RX11 yX11_spread yX11_spread ∈ lw_good := lw_in (i := 478) (by decide +kernel) rfl
theorem w479 : Cond.code yX11_spread cX11_spread 3 (some (Jvm.ClassFile.FieldType.int)) ∈ lw_good := lw_in (i := 479) (by decide +kernel) rfl
theorem w480 : Cond.methodLink RX11 140 yX10_measure ∈ lw_good := lw_in (i := 480) (by decide +kernel) rfl
theorem w481 : Cond.instanceMethod yX10_measure ∈ lw_good := lw_in (i := 481) (by decide +kernel) rfl
theorem w482 : Cond.selects RX10 yX10_measure yX10_measure ∈ lw_good := lw_in (i := 482) (by decide +kernel) rfl
theorem w483 : Cond.code yX10_measure cX10_measure 4 none ∈ lw_good := lw_in (i := 483) (by decide +kernel) rfl
theorem w484 : Cond.methodLink RX10 21 yX3_empty ∈ lw_good := lw_in (i := 484) (by decide +kernel) rfl
theorem w485 : Cond.instanceMethod yX3_empty ∈ lw_good := lw_in (i := 485) (by decide +kernel) rfl
theorem w486 : Cond.selects RX3 yX3_empty yX3_empty ∈ lw_good := lw_in (i := 486) (by decide +kernel) rfl
theorem w487 : Cond.code yX3_empty cX3_empty 1 none ∈ lw_good := lw_in (i := 487) (by decide +kernel) rfl
theorem w489 : Cond.static yX11_clear ∈ lw_good := lw_in (i := 489) (by decide +kernel) rfl
theorem w490 : Cond.code yX11_clear cX11_clear 2 none ∈ lw_good := lw_in (i := 490) (by decide +kernel) rfl
theorem w491 : Cond.methodLink RX10 24 yX6_isRecorded ∈ lw_good := lw_in (i := 491) (by decide +kernel) rfl
theorem w492 : Cond.instanceMethod yX6_isRecorded ∈ lw_good := lw_in (i := 492) (by decide +kernel) rfl
theorem w493 : Cond.selects RX6 yX6_isRecorded yX6_isRecorded ∈ lw_good := lw_in (i := 493) (by decide +kernel) rfl
theorem w494 : Cond.code yX6_isRecorded cX6_isRecorded 2 (some (Jvm.ClassFile.FieldType.boolean)) ∈ lw_good := lw_in (i := 494) (by decide +kernel) rfl
theorem w496 : Cond.static yX11_isCue ∈ lw_good := lw_in (i := 496) (by decide +kernel) rfl
theorem w497 : Cond.code yX11_isCue cX11_isCue 1 (some (Jvm.ClassFile.FieldType.boolean)) ∈ lw_good := lw_in (i := 497) (by decide +kernel) rfl
theorem w498 : Cond.methodLink RX10 30 yX3_measureCue ∈ lw_good := lw_in (i := 498) (by decide +kernel) rfl
theorem w499 : Cond.instanceMethod yX3_measureCue ∈ lw_good := lw_in (i := 499) (by decide +kernel) rfl
theorem w500 : Cond.selects RX3 yX3_measureCue yX3_measureCue ∈ lw_good := lw_in (i := 500) (by decide +kernel) rfl
theorem w501 : Cond.code yX3_measureCue cX3_measureCue 5 none ∈ lw_good := lw_in (i := 501) (by decide +kernel) rfl
theorem w502 : Cond.methodLink RX3 18 yX3_empty ∈ lw_good := lw_in (i := 502) (by decide +kernel) rfl
theorem w503 : Cond.methodLink RX3 35 yX6_isRecorded ∈ lw_good := lw_in (i := 503) (by decide +kernel) rfl
theorem w504 : Cond.methodLink RX3 43 yX6_draw ∈ lw_good := lw_in (i := 504) (by decide +kernel) rfl
theorem w505 : Cond.instanceMethod yX6_draw ∈ lw_good := lw_in (i := 505) (by decide +kernel) rfl
theorem w506 : Cond.selects RX6 yX6_draw yX6_draw ∈ lw_good := lw_in (i := 506) (by decide +kernel) rfl
theorem w507 : Cond.code yX6_draw cX6_draw 4 (some (Jvm.ClassFile.FieldType.int)) ∈ lw_good := lw_in (i := 507) (by decide +kernel) rfl
theorem w508 : Cond.methodLink RX6 144 yX9_wattsOf ∈ lw_good := lw_in (i := 508) (by decide +kernel) rfl
theorem w509 : Cond.instanceMethod yX9_wattsOf ∈ lw_good := lw_in (i := 509) (by decide +kernel) rfl
theorem w510 : Cond.selects RX9 yX9_wattsOf yX9_wattsOf ∈ lw_good := lw_in (i := 510) (by decide +kernel) rfl
theorem w511 : Cond.code yX9_wattsOf cX9_wattsOf 2 (some (Jvm.ClassFile.FieldType.int)) ∈ lw_good := lw_in (i := 511) (by decide +kernel) rfl
theorem w512 : Cond.methodLink RX3 31 yX3_add ∈ lw_good := lw_in (i := 512) (by decide +kernel) rfl
theorem w514 : Cond.instanceMethod yX3_add ∈ lw_good := lw_in (i := 514) (by decide +kernel) rfl
theorem w515 : Cond.code yX3_add cX3_add 6 none ∈ lw_good := lw_in (i := 515) (by decide +kernel) rfl
theorem w516 : Cond.methodLink RX3 51 yX6_dimmerOf ∈ lw_good := lw_in (i := 516) (by decide +kernel) rfl
theorem w517 : Cond.instanceMethod yX6_dimmerOf ∈ lw_good := lw_in (i := 517) (by decide +kernel) rfl
theorem w518 : Cond.selects RX6 yX6_dimmerOf yX6_dimmerOf ∈ lw_good := lw_in (i := 518) (by decide +kernel) rfl
theorem w519 : Cond.code yX6_dimmerOf cX6_dimmerOf 2 (some (Jvm.ClassFile.FieldType.int)) ∈ lw_good := lw_in (i := 519) (by decide +kernel) rfl
theorem w520 : Cond.methodLink RX3 55 yX6_phaseOf ∈ lw_good := lw_in (i := 520) (by decide +kernel) rfl
theorem w521 : Cond.instanceMethod yX6_phaseOf ∈ lw_good := lw_in (i := 521) (by decide +kernel) rfl
theorem w522 : Cond.selects RX6 yX6_phaseOf yX6_phaseOf ∈ lw_good := lw_in (i := 522) (by decide +kernel) rfl
theorem w523 : Cond.code yX6_phaseOf cX6_phaseOf 2 (some (Jvm.ClassFile.FieldType.int)) ∈ lw_good := lw_in (i := 523) (by decide +kernel) rfl
theorem w527 : Cond.static yX11_raise ∈ lw_good := lw_in (i := 527) (by decide +kernel) rfl
theorem w528 : Cond.code yX11_raise cX11_raise 3 none ∈ lw_good := lw_in (i := 528) (by decide +kernel) rfl
theorem w529 : Cond.methodLink RX11 151 yX6_spreadDimmers ∈ lw_good := lw_in (i := 529) (by decide +kernel) rfl
theorem w530 : Cond.instanceMethod yX6_spreadDimmers ∈ lw_good := lw_in (i := 530) (by decide +kernel) rfl
theorem w531 : Cond.selects RX6 yX6_spreadDimmers yX6_spreadDimmers ∈ lw_good := lw_in (i := 531) (by decide +kernel) rfl
theorem w532 : Cond.code yX6_spreadDimmers cX6_spreadDimmers 8 (some (Jvm.ClassFile.FieldType.int)) ∈ lw_good := lw_in (i := 532) (by decide +kernel) rfl
theorem w534 : Cond.methodLink RX6 162 yX6_heaviestLeft ∈ lw_good := lw_in (i := 534) (by decide +kernel) rfl
theorem w535 : Cond.static yX6_heaviestLeft ∈ lw_good := lw_in (i := 535) (by decide +kernel) rfl
theorem w536 : Cond.code yX6_heaviestLeft cX6_heaviestLeft 5 (some (Jvm.ClassFile.FieldType.int)) ∈ lw_good := lw_in (i := 536) (by decide +kernel) rfl
theorem w538 : Cond.static yX11_hasBit ∈ lw_good := lw_in (i := 538) (by decide +kernel) rfl
theorem w539 : Cond.code yX11_hasBit cX11_hasBit 2 (some (Jvm.ClassFile.FieldType.boolean)) ∈ lw_good := lw_in (i := 539) (by decide +kernel) rfl
theorem w540 : Cond.methodLink RX6 166 yX6_lightest ∈ lw_good := lw_in (i := 540) (by decide +kernel) rfl
theorem w541 : Cond.static yX6_lightest ∈ lw_good := lw_in (i := 541) (by decide +kernel) rfl
theorem w542 : Cond.code yX6_lightest cX6_lightest 3 (some (Jvm.ClassFile.FieldType.int)) ∈ lw_good := lw_in (i := 542) (by decide +kernel) rfl
theorem w543 : Cond.methodLink RL 48 yX11_at ∈ lw_good := lw_in (i := 543) (by decide +kernel) rfl
theorem w544 : Cond.instanceMethod yX11_at ∈ lw_good := lw_in (i := 544) (by decide +kernel) rfl
theorem w545 : Cond.selects RX11 yX11_at yX11_at ∈ lw_good := lw_in (i := 545) (by decide +kernel) rfl
theorem w546 : Cond.code yX11_at cX11_at 6 (some (Jvm.ClassFile.FieldType.int)) ∈ lw_good := lw_in (i := 546) (by decide +kernel) rfl
theorem w547 : Cond.methodLink RL 52 yX11_record ∈ lw_good := lw_in (i := 547) (by decide +kernel) rfl
theorem w548 : Cond.instanceMethod yX11_record ∈ lw_good := lw_in (i := 548) (by decide +kernel) rfl
theorem w549 : Cond.selects RX11 yX11_record yX11_record ∈ lw_good := lw_in (i := 549) (by decide +kernel) rfl
theorem w550 : Cond.code yX11_record cX11_record 5 (some (Jvm.ClassFile.FieldType.int)) ∈ lw_good := lw_in (i := 550) (by decide +kernel) rfl
theorem w551 : Cond.methodLink RX11 158 yX11_isCue ∈ lw_good := lw_in (i := 551) (by decide +kernel) rfl
theorem w552 : Cond.methodLink RX11 161 yX6_recordCue ∈ lw_good := lw_in (i := 552) (by decide +kernel) rfl
theorem w553 : Cond.instanceMethod yX6_recordCue ∈ lw_good := lw_in (i := 553) (by decide +kernel) rfl
theorem w554 : Cond.selects RX6 yX6_recordCue yX6_recordCue ∈ lw_good := lw_in (i := 554) (by decide +kernel) rfl
theorem w555 : Cond.code yX6_recordCue cX6_recordCue 3 none ∈ lw_good := lw_in (i := 555) (by decide +kernel) rfl
theorem w556 : Cond.methodLink RX11 165 yX6_recordedCues ∈ lw_good := lw_in (i := 556) (by decide +kernel) rfl
theorem w557 : Cond.instanceMethod yX6_recordedCues ∈ lw_good := lw_in (i := 557) (by decide +kernel) rfl
theorem w558 : Cond.selects RX6 yX6_recordedCues yX6_recordedCues ∈ lw_good := lw_in (i := 558) (by decide +kernel) rfl
theorem w559 : Cond.code yX6_recordedCues cX6_recordedCues 3 (some (Jvm.ClassFile.FieldType.int)) ∈ lw_good := lw_in (i := 559) (by decide +kernel) rfl
theorem w560 : Cond.methodLink RX6 98 yX6_isRecorded ∈ lw_good := lw_in (i := 560) (by decide +kernel) rfl
theorem w561 : Cond.methodLink RX11 169 yJ6_bitCount_0f7a4 ∈ lw_good := lw_in (i := 561) (by decide +kernel) rfl
theorem w562 : Cond.static yJ6_bitCount_0f7a4 ∈ lw_good := lw_in (i := 562) (by decide +kernel) rfl
theorem w563 : Cond.code yJ6_bitCount_0f7a4 cJ6_bitCount_0f7a4 1 (some (Jvm.ClassFile.FieldType.int)) ∈ lw_good := lw_in (i := 563) (by decide +kernel) rfl
theorem w564 : Cond.constant RJ6 265 1431655765 ∈ lw_good := lw_in (i := 564) (by decide +kernel) rfl
theorem w565 : Cond.constant RJ6 266 858993459 ∈ lw_good := lw_in (i := 565) (by decide +kernel) rfl
theorem w566 : Cond.constant RJ6 267 252645135 ∈ lw_good := lw_in (i := 566) (by decide +kernel) rfl
theorem w567 : Cond.methodLink RL 56 yX11_go ∈ lw_good := lw_in (i := 567) (by decide +kernel) rfl
theorem w568 : Cond.instanceMethod yX11_go ∈ lw_good := lw_in (i := 568) (by decide +kernel) rfl
theorem w569 : Cond.selects RX11 yX11_go yX11_go ∈ lw_good := lw_in (i := 569) (by decide +kernel) rfl
theorem w570 : Cond.code yX11_go cX11_go 4 (some (Jvm.ClassFile.FieldType.int)) ∈ lw_good := lw_in (i := 570) (by decide +kernel) rfl
theorem w571 : Cond.methodLink RX11 174 yX6_isRecorded ∈ lw_good := lw_in (i := 571) (by decide +kernel) rfl
theorem w572 : Cond.methodLink RX11 180 yX6_startCue ∈ lw_good := lw_in (i := 572) (by decide +kernel) rfl
theorem w573 : Cond.instanceMethod yX6_startCue ∈ lw_good := lw_in (i := 573) (by decide +kernel) rfl
theorem w574 : Cond.selects RX6 yX6_startCue yX6_startCue ∈ lw_good := lw_in (i := 574) (by decide +kernel) rfl
theorem w575 : Cond.code yX6_startCue cX6_startCue 3 none ∈ lw_good := lw_in (i := 575) (by decide +kernel) rfl
theorem w576 : Cond.methodLink RX6 101 yX1_start ∈ lw_good := lw_in (i := 576) (by decide +kernel) rfl
theorem w577 : Cond.instanceMethod yX1_start ∈ lw_good := lw_in (i := 577) (by decide +kernel) rfl
theorem w578 : Cond.selects RX1 yX1_start yX1_start ∈ lw_good := lw_in (i := 578) (by decide +kernel) rfl
theorem w579 : Cond.code yX1_start cX1_start 4 none ∈ lw_good := lw_in (i := 579) (by decide +kernel) rfl
theorem w580 : Cond.methodLink RL 60 yX11_reset ∈ lw_good := lw_in (i := 580) (by decide +kernel) rfl
theorem w581 : Cond.instanceMethod yX11_reset ∈ lw_good := lw_in (i := 581) (by decide +kernel) rfl
theorem w582 : Cond.selects RX11 yX11_reset yX11_reset ∈ lw_good := lw_in (i := 582) (by decide +kernel) rfl
theorem w583 : Cond.code yX11_reset cX11_reset 3 (some (Jvm.ClassFile.FieldType.int)) ∈ lw_good := lw_in (i := 583) (by decide +kernel) rfl
theorem w584 : Cond.methodLink RX11 183 yX6_clearTrips ∈ lw_good := lw_in (i := 584) (by decide +kernel) rfl
theorem w585 : Cond.instanceMethod yX6_clearTrips ∈ lw_good := lw_in (i := 585) (by decide +kernel) rfl
theorem w586 : Cond.selects RX6 yX6_clearTrips yX6_clearTrips ∈ lw_good := lw_in (i := 586) (by decide +kernel) rfl
theorem w587 : Cond.code yX6_clearTrips cX6_clearTrips 1 (some (Jvm.ClassFile.FieldType.int)) ∈ lw_good := lw_in (i := 587) (by decide +kernel) rfl
theorem w588 : Cond.methodLink RX6 105 yX0_clearTrips ∈ lw_good := lw_in (i := 588) (by decide +kernel) rfl
theorem w589 : Cond.instanceMethod yX0_clearTrips ∈ lw_good := lw_in (i := 589) (by decide +kernel) rfl
theorem w590 : Cond.selects RX0 yX0_clearTrips yX0_clearTrips ∈ lw_good := lw_in (i := 590) (by decide +kernel) rfl
theorem w591 : Cond.code yX0_clearTrips cX0_clearTrips 2 (some (Jvm.ClassFile.FieldType.int)) ∈ lw_good := lw_in (i := 591) (by decide +kernel) rfl
theorem w592 : Cond.methodLink RX0 17 yJ6_bitCount_0f7a4 ∈ lw_good := lw_in (i := 592) (by decide +kernel) rfl
theorem w594 : Cond.methodLink RL 64 yX11_tick ∈ lw_good := lw_in (i := 594) (by decide +kernel) rfl
theorem w595 : Cond.instanceMethod yX11_tick ∈ lw_good := lw_in (i := 595) (by decide +kernel) rfl
theorem w596 : Cond.selects RX11 yX11_tick yX11_tick ∈ lw_good := lw_in (i := 596) (by decide +kernel) rfl
theorem w597 : Cond.code yX11_tick cX11_tick 8 (some (Jvm.ClassFile.FieldType.int)) ∈ lw_good := lw_in (i := 597) (by decide +kernel) rfl
theorem w598 : Cond.methodLink RX11 190 yX6_passTick ∈ lw_good := lw_in (i := 598) (by decide +kernel) rfl
theorem w599 : Cond.instanceMethod yX6_passTick ∈ lw_good := lw_in (i := 599) (by decide +kernel) rfl
theorem w600 : Cond.selects RX6 yX6_passTick yX6_passTick ∈ lw_good := lw_in (i := 600) (by decide +kernel) rfl
theorem w601 : Cond.code yX6_passTick cX6_passTick 6 (some (Jvm.ClassFile.FieldType.int)) ∈ lw_good := lw_in (i := 601) (by decide +kernel) rfl
theorem w602 : Cond.methodLink RX6 114 yX1_step ∈ lw_good := lw_in (i := 602) (by decide +kernel) rfl
theorem w603 : Cond.instanceMethod yX1_step ∈ lw_good := lw_in (i := 603) (by decide +kernel) rfl
theorem w604 : Cond.selects RX1 yX1_step yX1_step ∈ lw_good := lw_in (i := 604) (by decide +kernel) rfl
theorem w605 : Cond.code yX1_step cX1_step 3 none ∈ lw_good := lw_in (i := 605) (by decide +kernel) rfl
theorem w606 : Cond.methodLink RX6 121 yX3_measureNow ∈ lw_good := lw_in (i := 606) (by decide +kernel) rfl
theorem w607 : Cond.instanceMethod yX3_measureNow ∈ lw_good := lw_in (i := 607) (by decide +kernel) rfl
theorem w608 : Cond.selects RX3 yX3_measureNow yX3_measureNow ∈ lw_good := lw_in (i := 608) (by decide +kernel) rfl
theorem w609 : Cond.code yX3_measureNow cX3_measureNow 4 none ∈ lw_good := lw_in (i := 609) (by decide +kernel) rfl
theorem w610 : Cond.methodLink RX3 27 yX6_loadOfLamp ∈ lw_good := lw_in (i := 610) (by decide +kernel) rfl
theorem w611 : Cond.instanceMethod yX6_loadOfLamp ∈ lw_good := lw_in (i := 611) (by decide +kernel) rfl
theorem w612 : Cond.selects RX6 yX6_loadOfLamp yX6_loadOfLamp ∈ lw_good := lw_in (i := 612) (by decide +kernel) rfl
theorem w613 : Cond.code yX6_loadOfLamp cX6_loadOfLamp 3 (some (Jvm.ClassFile.FieldType.int)) ∈ lw_good := lw_in (i := 613) (by decide +kernel) rfl
theorem w614 : Cond.methodLink RX6 137 yX6_isFed ∈ lw_good := lw_in (i := 614) (by decide +kernel) rfl
theorem w616 : Cond.instanceMethod yX6_isFed ∈ lw_good := lw_in (i := 616) (by decide +kernel) rfl
theorem w617 : Cond.code yX6_isFed cX6_isFed 3 (some (Jvm.ClassFile.FieldType.boolean)) ∈ lw_good := lw_in (i := 617) (by decide +kernel) rfl
theorem w618 : Cond.methodLink RX6 150 yX6_dimmerOf ∈ lw_good := lw_in (i := 618) (by decide +kernel) rfl
theorem w619 : Cond.methodLink RX6 153 yX0_hasTripped ∈ lw_good := lw_in (i := 619) (by decide +kernel) rfl
theorem w620 : Cond.instanceMethod yX0_hasTripped ∈ lw_good := lw_in (i := 620) (by decide +kernel) rfl
theorem w621 : Cond.selects RX0 yX0_hasTripped yX0_hasTripped ∈ lw_good := lw_in (i := 621) (by decide +kernel) rfl
theorem w622 : Cond.code yX0_hasTripped cX0_hasTripped 2 (some (Jvm.ClassFile.FieldType.boolean)) ∈ lw_good := lw_in (i := 622) (by decide +kernel) rfl
theorem w623 : Cond.methodLink RX6 156 yX6_phaseOf ∈ lw_good := lw_in (i := 623) (by decide +kernel) rfl
theorem w624 : Cond.methodLink RX6 140 yX6_draw ∈ lw_good := lw_in (i := 624) (by decide +kernel) rfl
theorem w625 : Cond.methodLink RX6 130 yX0_check ∈ lw_good := lw_in (i := 625) (by decide +kernel) rfl
theorem w626 : Cond.instanceMethod yX0_check ∈ lw_good := lw_in (i := 626) (by decide +kernel) rfl
theorem w627 : Cond.selects RX0 yX0_check yX0_check ∈ lw_good := lw_in (i := 627) (by decide +kernel) rfl
theorem w628 : Cond.code yX0_check cX0_check 6 (some (Jvm.ClassFile.FieldType.int)) ∈ lw_good := lw_in (i := 628) (by decide +kernel) rfl
theorem w629 : Cond.methodLink RL 68 yX11_carryOut ∈ lw_good := lw_in (i := 629) (by decide +kernel) rfl
theorem w630 : Cond.instanceMethod yX11_carryOut ∈ lw_good := lw_in (i := 630) (by decide +kernel) rfl
theorem w631 : Cond.selects RX11 yX11_carryOut yX11_carryOut ∈ lw_good := lw_in (i := 631) (by decide +kernel) rfl
theorem w632 : Cond.code yX11_carryOut cX11_carryOut 3 (some (Jvm.ClassFile.FieldType.int)) ∈ lw_good := lw_in (i := 632) (by decide +kernel) rfl
theorem w633 : Cond.methodLink RX11 194 yX4_read ∈ lw_good := lw_in (i := 633) (by decide +kernel) rfl
theorem w634 : Cond.instanceMethod yX4_read ∈ lw_good := lw_in (i := 634) (by decide +kernel) rfl
theorem w635 : Cond.selects RX4 yX4_read yX4_read ∈ lw_good := lw_in (i := 635) (by decide +kernel) rfl
theorem w636 : Cond.code yX4_read cX4_read 2 (some (Jvm.ClassFile.FieldType.boolean)) ∈ lw_good := lw_in (i := 636) (by decide +kernel) rfl
theorem w637 : Cond.methodLink RX4 44 yX4_stepTo ∈ lw_good := lw_in (i := 637) (by decide +kernel) rfl
theorem w639 : Cond.instanceMethod yX4_stepTo ∈ lw_good := lw_in (i := 639) (by decide +kernel) rfl
theorem w640 : Cond.code yX4_stepTo cX4_stepTo 2 none ∈ lw_good := lw_in (i := 640) (by decide +kernel) rfl
theorem w641 : Cond.methodLink RX4 48 yX4_readOrder ∈ lw_good := lw_in (i := 641) (by decide +kernel) rfl
theorem w643 : Cond.instanceMethod yX4_readOrder ∈ lw_good := lw_in (i := 643) (by decide +kernel) rfl
theorem w644 : Cond.code yX4_readOrder cX4_readOrder 1 (some (Jvm.ClassFile.FieldType.boolean)) ∈ lw_good := lw_in (i := 644) (by decide +kernel) rfl
theorem w645 : Cond.methodLink RX4 58 yX4_take ∈ lw_good := lw_in (i := 645) (by decide +kernel) rfl
theorem w647 : Cond.instanceMethod yX4_take ∈ lw_good := lw_in (i := 647) (by decide +kernel) rfl
theorem w648 : Cond.code yX4_take cX4_take 2 (some (Jvm.ClassFile.FieldType.boolean)) ∈ lw_good := lw_in (i := 648) (by decide +kernel) rfl
theorem w649 : Cond.methodLink RX4 62 yX4_readRecord ∈ lw_good := lw_in (i := 649) (by decide +kernel) rfl
theorem w651 : Cond.instanceMethod yX4_readRecord ∈ lw_good := lw_in (i := 651) (by decide +kernel) rfl
theorem w652 : Cond.code yX4_readRecord cX4_readRecord 3 (some (Jvm.ClassFile.FieldType.boolean)) ∈ lw_good := lw_in (i := 652) (by decide +kernel) rfl
theorem w653 : Cond.methodLink RX4 75 yX4_readNumber ∈ lw_good := lw_in (i := 653) (by decide +kernel) rfl
theorem w655 : Cond.instanceMethod yX4_readNumber ∈ lw_good := lw_in (i := 655) (by decide +kernel) rfl
theorem w656 : Cond.code yX4_readNumber cX4_readNumber 6 (some (Jvm.ClassFile.FieldType.int)) ∈ lw_good := lw_in (i := 656) (by decide +kernel) rfl
theorem w657 : Cond.methodLink RX4 82 yX4_digitHere ∈ lw_good := lw_in (i := 657) (by decide +kernel) rfl
theorem w659 : Cond.instanceMethod yX4_digitHere ∈ lw_good := lw_in (i := 659) (by decide +kernel) rfl
theorem w660 : Cond.code yX4_digitHere cX4_digitHere 1 (some (Jvm.ClassFile.FieldType.int)) ∈ lw_good := lw_in (i := 660) (by decide +kernel) rfl
theorem w661 : Cond.methodLink RX4 68 yX4_note ∈ lw_good := lw_in (i := 661) (by decide +kernel) rfl
theorem w663 : Cond.instanceMethod yX4_note ∈ lw_good := lw_in (i := 663) (by decide +kernel) rfl
theorem w664 : Cond.code yX4_note cX4_note 4 (some (Jvm.ClassFile.FieldType.boolean)) ∈ lw_good := lw_in (i := 664) (by decide +kernel) rfl
theorem w665 : Cond.methodLink RX4 65 yX4_readGo ∈ lw_good := lw_in (i := 665) (by decide +kernel) rfl
theorem w667 : Cond.instanceMethod yX4_readGo ∈ lw_good := lw_in (i := 667) (by decide +kernel) rfl
theorem w668 : Cond.code yX4_readGo cX4_readGo 2 (some (Jvm.ClassFile.FieldType.boolean)) ∈ lw_good := lw_in (i := 668) (by decide +kernel) rfl
theorem w669 : Cond.methodLink RX4 72 yX4_readLevels ∈ lw_good := lw_in (i := 669) (by decide +kernel) rfl
theorem w671 : Cond.instanceMethod yX4_readLevels ∈ lw_good := lw_in (i := 671) (by decide +kernel) rfl
theorem w672 : Cond.code yX4_readLevels cX4_readLevels 3 (some (Jvm.ClassFile.FieldType.boolean)) ∈ lw_good := lw_in (i := 672) (by decide +kernel) rfl
theorem w673 : Cond.methodLink RX4 79 yX4_readSpan ∈ lw_good := lw_in (i := 673) (by decide +kernel) rfl
theorem w675 : Cond.instanceMethod yX4_readSpan ∈ lw_good := lw_in (i := 675) (by decide +kernel) rfl
theorem w676 : Cond.code yX4_readSpan cX4_readSpan 3 (some (Jvm.ClassFile.FieldType.boolean)) ∈ lw_good := lw_in (i := 676) (by decide +kernel) rfl
theorem w677 : Cond.methodLink RX11 202 yX4_carryAllOut ∈ lw_good := lw_in (i := 677) (by decide +kernel) rfl
theorem w678 : Cond.instanceMethod yX4_carryAllOut ∈ lw_good := lw_in (i := 678) (by decide +kernel) rfl
theorem w679 : Cond.selects RX4 yX4_carryAllOut yX4_carryAllOut ∈ lw_good := lw_in (i := 679) (by decide +kernel) rfl
theorem w680 : Cond.code yX4_carryAllOut cX4_carryAllOut 3 (some (Jvm.ClassFile.FieldType.int)) ∈ lw_good := lw_in (i := 680) (by decide +kernel) rfl
theorem w681 : Cond.methodLink RX4 92 yX4_carryOneOut ∈ lw_good := lw_in (i := 681) (by decide +kernel) rfl
theorem w683 : Cond.instanceMethod yX4_carryOneOut ∈ lw_good := lw_in (i := 683) (by decide +kernel) rfl
theorem w684 : Cond.code yX4_carryOneOut cX4_carryOneOut 3 (some (Jvm.ClassFile.FieldType.boolean)) ∈ lw_good := lw_in (i := 684) (by decide +kernel) rfl
theorem w685 : Cond.methodLink RX4 96 yX4_changeLevels ∈ lw_good := lw_in (i := 685) (by decide +kernel) rfl
theorem w687 : Cond.instanceMethod yX4_changeLevels ∈ lw_good := lw_in (i := 687) (by decide +kernel) rfl
theorem w688 : Cond.code yX4_changeLevels cX4_changeLevels 5 (some (Jvm.ClassFile.FieldType.boolean)) ∈ lw_good := lw_in (i := 688) (by decide +kernel) rfl
theorem w689 : Cond.methodLink RX4 119 yX4_changeSpan ∈ lw_good := lw_in (i := 689) (by decide +kernel) rfl
theorem w691 : Cond.instanceMethod yX4_changeSpan ∈ lw_good := lw_in (i := 691) (by decide +kernel) rfl
theorem w692 : Cond.code yX4_changeSpan cX4_changeSpan 9 (some (Jvm.ClassFile.FieldType.boolean)) ∈ lw_good := lw_in (i := 692) (by decide +kernel) rfl
theorem w693 : Cond.methodLink RX4 123 yJ9_abs_0f7a4 ∈ lw_good := lw_in (i := 693) (by decide +kernel) rfl
theorem w694 : Cond.static yJ9_abs_0f7a4 ∈ lw_good := lw_in (i := 694) (by decide +kernel) rfl
theorem w695 : Cond.code yJ9_abs_0f7a4 cJ9_abs_0f7a4 1 (some (Jvm.ClassFile.FieldType.int)) ∈ lw_good := lw_in (i := 695) (by decide +kernel) rfl
theorem w696 : Cond.methodLink RX4 129 yX6_hasLamp ∈ lw_good := lw_in (i := 696) (by decide +kernel) rfl
theorem w697 : Cond.methodLink RX4 99 yX6_recordCue ∈ lw_good := lw_in (i := 697) (by decide +kernel) rfl
theorem w698 : Cond.methodLink RX4 105 yX4_startRecorded ∈ lw_good := lw_in (i := 698) (by decide +kernel) rfl
theorem w700 : Cond.instanceMethod yX4_startRecorded ∈ lw_good := lw_in (i := 700) (by decide +kernel) rfl
theorem w701 : Cond.code yX4_startRecorded cX4_startRecorded 3 (some (Jvm.ClassFile.FieldType.boolean)) ∈ lw_good := lw_in (i := 701) (by decide +kernel) rfl
theorem w702 : Cond.methodLink RX4 111 yX6_isRecorded ∈ lw_good := lw_in (i := 702) (by decide +kernel) rfl
theorem w703 : Cond.methodLink RX4 116 yX6_startCue ∈ lw_good := lw_in (i := 703) (by decide +kernel) rfl
theorem w704 : Cond.methodLink RX4 108 yX6_clearTrips ∈ lw_good := lw_in (i := 704) (by decide +kernel) rfl
theorem w705 : Cond.methodLink RL 72 yX11_lamp ∈ lw_good := lw_in (i := 705) (by decide +kernel) rfl
theorem w706 : Cond.instanceMethod yX11_lamp ∈ lw_good := lw_in (i := 706) (by decide +kernel) rfl
theorem w707 : Cond.selects RX11 yX11_lamp yX11_lamp ∈ lw_good := lw_in (i := 707) (by decide +kernel) rfl
theorem w708 : Cond.code yX11_lamp cX11_lamp 5 (some (Jvm.ClassFile.FieldType.int)) ∈ lw_good := lw_in (i := 708) (by decide +kernel) rfl
theorem w709 : Cond.methodLink RX11 212 yX6_loadOfLamp ∈ lw_good := lw_in (i := 709) (by decide +kernel) rfl
theorem w710 : Cond.methodLink RL 76 yX11_dimmer ∈ lw_good := lw_in (i := 710) (by decide +kernel) rfl
theorem w711 : Cond.instanceMethod yX11_dimmer ∈ lw_good := lw_in (i := 711) (by decide +kernel) rfl
theorem w712 : Cond.selects RX11 yX11_dimmer yX11_dimmer ∈ lw_good := lw_in (i := 712) (by decide +kernel) rfl
theorem w713 : Cond.code yX11_dimmer cX11_dimmer 5 (some (Jvm.ClassFile.FieldType.int)) ∈ lw_good := lw_in (i := 713) (by decide +kernel) rfl
theorem w714 : Cond.methodLink RX11 216 yX3_measureNow ∈ lw_good := lw_in (i := 714) (by decide +kernel) rfl
theorem w715 : Cond.methodLink RX11 223 yX0_hasTripped ∈ lw_good := lw_in (i := 715) (by decide +kernel) rfl
theorem w716 : Cond.methodLink RX11 231 yX6_lampsOn ∈ lw_good := lw_in (i := 716) (by decide +kernel) rfl
theorem w717 : Cond.instanceMethod yX6_lampsOn ∈ lw_good := lw_in (i := 717) (by decide +kernel) rfl
theorem w718 : Cond.selects RX6 yX6_lampsOn yX6_lampsOn ∈ lw_good := lw_in (i := 718) (by decide +kernel) rfl
theorem w719 : Cond.code yX6_lampsOn cX6_lampsOn 4 (some (Jvm.ClassFile.FieldType.int)) ∈ lw_good := lw_in (i := 719) (by decide +kernel) rfl
theorem w720 : Cond.methodLink RL 80 yX11_phase ∈ lw_good := lw_in (i := 720) (by decide +kernel) rfl
theorem w721 : Cond.instanceMethod yX11_phase ∈ lw_good := lw_in (i := 721) (by decide +kernel) rfl
theorem w722 : Cond.selects RX11 yX11_phase yX11_phase ∈ lw_good := lw_in (i := 722) (by decide +kernel) rfl
theorem w723 : Cond.code yX11_phase cX11_phase 5 (some (Jvm.ClassFile.FieldType.int)) ∈ lw_good := lw_in (i := 723) (by decide +kernel) rfl
theorem w724 : Cond.methodLink RX11 237 yX6_dimmersOn ∈ lw_good := lw_in (i := 724) (by decide +kernel) rfl
theorem w725 : Cond.instanceMethod yX6_dimmersOn ∈ lw_good := lw_in (i := 725) (by decide +kernel) rfl
theorem w726 : Cond.selects RX6 yX6_dimmersOn yX6_dimmersOn ∈ lw_good := lw_in (i := 726) (by decide +kernel) rfl
theorem w727 : Cond.code yX6_dimmersOn cX6_dimmersOn 4 (some (Jvm.ClassFile.FieldType.int)) ∈ lw_good := lw_in (i := 727) (by decide +kernel) rfl
theorem w728 : Cond.methodLink RL 84 yX11_cue ∈ lw_good := lw_in (i := 728) (by decide +kernel) rfl
theorem w729 : Cond.instanceMethod yX11_cue ∈ lw_good := lw_in (i := 729) (by decide +kernel) rfl
theorem w730 : Cond.selects RX11 yX11_cue yX11_cue ∈ lw_good := lw_in (i := 730) (by decide +kernel) rfl
theorem w731 : Cond.code yX11_cue cX11_cue 5 (some (Jvm.ClassFile.FieldType.int)) ∈ lw_good := lw_in (i := 731) (by decide +kernel) rfl
theorem w732 : Cond.methodLink RX11 240 yX11_loadByCue ∈ lw_good := lw_in (i := 732) (by decide +kernel) rfl
theorem w734 : Cond.instanceMethod yX11_loadByCue ∈ lw_good := lw_in (i := 734) (by decide +kernel) rfl
theorem w735 : Cond.code yX11_loadByCue cX11_loadByCue 3 (some (Jvm.ClassFile.FieldType.int)) ∈ lw_good := lw_in (i := 735) (by decide +kernel) rfl
theorem w736 : Cond.methodLink RX11 345 yX3_measureCue ∈ lw_good := lw_in (i := 736) (by decide +kernel) rfl
theorem w737 : Cond.methodLink RX11 260 yX3_sumOfPhases ∈ lw_good := lw_in (i := 737) (by decide +kernel) rfl
theorem w738 : Cond.instanceMethod yX3_sumOfPhases ∈ lw_good := lw_in (i := 738) (by decide +kernel) rfl
theorem w739 : Cond.selects RX3 yX3_sumOfPhases yX3_sumOfPhases ∈ lw_good := lw_in (i := 739) (by decide +kernel) rfl
theorem w740 : Cond.code yX3_sumOfPhases cX3_sumOfPhases 6 (some (Jvm.ClassFile.FieldType.int)) ∈ lw_good := lw_in (i := 740) (by decide +kernel) rfl
theorem w741 : Cond.methodLink RL 88 yX11_inCue ∈ lw_good := lw_in (i := 741) (by decide +kernel) rfl
theorem w742 : Cond.instanceMethod yX11_inCue ∈ lw_good := lw_in (i := 742) (by decide +kernel) rfl
theorem w743 : Cond.selects RX11 yX11_inCue yX11_inCue ∈ lw_good := lw_in (i := 743) (by decide +kernel) rfl
theorem w744 : Cond.code yX11_inCue cX11_inCue 5 (some (Jvm.ClassFile.FieldType.int)) ∈ lw_good := lw_in (i := 744) (by decide +kernel) rfl
theorem w745 : Cond.methodLink RL 92 yX11_of ∈ lw_good := lw_in (i := 745) (by decide +kernel) rfl
theorem w746 : Cond.instanceMethod yX11_of ∈ lw_good := lw_in (i := 746) (by decide +kernel) rfl
theorem w747 : Cond.selects RX11 yX11_of yX11_of ∈ lw_good := lw_in (i := 747) (by decide +kernel) rfl
theorem w748 : Cond.code yX11_of cX11_of 4 (some (Jvm.ClassFile.FieldType.int)) ∈ lw_good := lw_in (i := 748) (by decide +kernel) rfl
theorem w749 : Cond.methodLink RX11 255 yX1_ticksLeft ∈ lw_good := lw_in (i := 749) (by decide +kernel) rfl
theorem w750 : Cond.instanceMethod yX1_ticksLeft ∈ lw_good := lw_in (i := 750) (by decide +kernel) rfl
theorem w751 : Cond.selects RX1 yX1_ticksLeft yX1_ticksLeft ∈ lw_good := lw_in (i := 751) (by decide +kernel) rfl
theorem w752 : Cond.code yX1_ticksLeft cX1_ticksLeft 1 (some (Jvm.ClassFile.FieldType.int)) ∈ lw_good := lw_in (i := 752) (by decide +kernel) rfl
theorem w753 : Cond.methodLink RX11 266 yX11_greatest ∈ lw_good := lw_in (i := 753) (by decide +kernel) rfl
theorem w754 : Cond.static yX11_greatest ∈ lw_good := lw_in (i := 754) (by decide +kernel) rfl
theorem w755 : Cond.code yX11_greatest cX11_greatest 6 (some (Jvm.ClassFile.FieldType.int)) ∈ lw_good := lw_in (i := 755) (by decide +kernel) rfl
theorem w756 : Cond.methodLink RX11 270 yX11_least ∈ lw_good := lw_in (i := 756) (by decide +kernel) rfl
theorem w757 : Cond.static yX11_least ∈ lw_good := lw_in (i := 757) (by decide +kernel) rfl
theorem w758 : Cond.code yX11_least cX11_least 6 (some (Jvm.ClassFile.FieldType.int)) ∈ lw_good := lw_in (i := 758) (by decide +kernel) rfl
theorem w759 : Cond.constant RX11 317 2147483647 ∈ lw_good := lw_in (i := 759) (by decide +kernel) rfl
theorem w760 : Cond.methodLink RX11 354 yJ9_min_7cf53 ∈ lw_good := lw_in (i := 760) (by decide +kernel) rfl
theorem w761 : Cond.static yJ9_min_7cf53 ∈ lw_good := lw_in (i := 761) (by decide +kernel) rfl
theorem w762 : Cond.code yJ9_min_7cf53 cJ9_min_7cf53 2 (some (Jvm.ClassFile.FieldType.int)) ∈ lw_good := lw_in (i := 762) (by decide +kernel) rfl
theorem w763 : Cond.methodLink RL 96 yX11_hire ∈ lw_good := lw_in (i := 763) (by decide +kernel) rfl
theorem w764 : Cond.instanceMethod yX11_hire ∈ lw_good := lw_in (i := 764) (by decide +kernel) rfl
theorem w765 : Cond.selects RX11 yX11_hire yX11_hire ∈ lw_good := lw_in (i := 765) (by decide +kernel) rfl
theorem w766 : Cond.code yX11_hire cX11_hire 4 (some (Jvm.ClassFile.FieldType.int)) ∈ lw_good := lw_in (i := 766) (by decide +kernel) rfl
theorem w767 : Cond.methodLink RX11 273 yX7_needed ∈ lw_good := lw_in (i := 767) (by decide +kernel) rfl
theorem w768 : Cond.instanceMethod yX7_needed ∈ lw_good := lw_in (i := 768) (by decide +kernel) rfl
theorem w769 : Cond.selects RX7 yX7_needed yX7_needed ∈ lw_good := lw_in (i := 769) (by decide +kernel) rfl
theorem w770 : Cond.code yX7_needed cX7_needed 8 (some (Jvm.ClassFile.FieldType.int)) ∈ lw_good := lw_in (i := 770) (by decide +kernel) rfl
theorem w771 : Cond.methodLink RX7 56 yX6_isOn ∈ lw_good := lw_in (i := 771) (by decide +kernel) rfl
theorem w772 : Cond.instanceMethod yX6_isOn ∈ lw_good := lw_in (i := 772) (by decide +kernel) rfl
theorem w773 : Cond.selects RX6 yX6_isOn yX6_isOn ∈ lw_good := lw_in (i := 773) (by decide +kernel) rfl
theorem w774 : Cond.code yX6_isOn cX6_isOn 2 (some (Jvm.ClassFile.FieldType.boolean)) ∈ lw_good := lw_in (i := 774) (by decide +kernel) rfl
theorem w776 : Cond.methodLink RX7 60 yX6_lampsOfType ∈ lw_good := lw_in (i := 776) (by decide +kernel) rfl
theorem w777 : Cond.instanceMethod yX6_lampsOfType ∈ lw_good := lw_in (i := 777) (by decide +kernel) rfl
theorem w778 : Cond.selects RX6 yX6_lampsOfType yX6_lampsOfType ∈ lw_good := lw_in (i := 778) (by decide +kernel) rfl
theorem w779 : Cond.code yX6_lampsOfType cX6_lampsOfType 4 (some (Jvm.ClassFile.FieldType.int)) ∈ lw_good := lw_in (i := 779) (by decide +kernel) rfl
theorem w780 : Cond.methodLink RX11 276 yX7_missing ∈ lw_good := lw_in (i := 780) (by decide +kernel) rfl
theorem w781 : Cond.instanceMethod yX7_missing ∈ lw_good := lw_in (i := 781) (by decide +kernel) rfl
theorem w782 : Cond.selects RX7 yX7_missing yX7_missing ∈ lw_good := lw_in (i := 782) (by decide +kernel) rfl
theorem w783 : Cond.code yX7_missing cX7_missing 3 (some (Jvm.ClassFile.FieldType.int)) ∈ lw_good := lw_in (i := 783) (by decide +kernel) rfl
theorem w784 : Cond.methodLink RX7 64 yX7_needed ∈ lw_good := lw_in (i := 784) (by decide +kernel) rfl
theorem w785 : Cond.methodLink RX7 68 yX9_stockOf ∈ lw_good := lw_in (i := 785) (by decide +kernel) rfl
theorem w786 : Cond.instanceMethod yX9_stockOf ∈ lw_good := lw_in (i := 786) (by decide +kernel) rfl
theorem w787 : Cond.selects RX9 yX9_stockOf yX9_stockOf ∈ lw_good := lw_in (i := 787) (by decide +kernel) rfl
theorem w788 : Cond.code yX9_stockOf cX9_stockOf 2 (some (Jvm.ClassFile.FieldType.int)) ∈ lw_good := lw_in (i := 788) (by decide +kernel) rfl
theorem w789 : Cond.methodLink RX9 29 yX9_has ∈ lw_good := lw_in (i := 789) (by decide +kernel) rfl
theorem w790 : Cond.methodLink RX7 71 yJ9_max_7cf53 ∈ lw_good := lw_in (i := 790) (by decide +kernel) rfl
theorem w791 : Cond.methodLink RX11 279 yX7_cost ∈ lw_good := lw_in (i := 791) (by decide +kernel) rfl
theorem w792 : Cond.instanceMethod yX7_cost ∈ lw_good := lw_in (i := 792) (by decide +kernel) rfl
theorem w793 : Cond.selects RX7 yX7_cost yX7_cost ∈ lw_good := lw_in (i := 793) (by decide +kernel) rfl
theorem w794 : Cond.code yX7_cost cX7_cost 3 (some (Jvm.ClassFile.FieldType.int)) ∈ lw_good := lw_in (i := 794) (by decide +kernel) rfl
theorem w795 : Cond.methodLink RX7 76 yX9_priceOf ∈ lw_good := lw_in (i := 795) (by decide +kernel) rfl
theorem w796 : Cond.instanceMethod yX9_priceOf ∈ lw_good := lw_in (i := 796) (by decide +kernel) rfl
theorem w797 : Cond.selects RX9 yX9_priceOf yX9_priceOf ∈ lw_good := lw_in (i := 797) (by decide +kernel) rfl
theorem w798 : Cond.code yX9_priceOf cX9_priceOf 2 (some (Jvm.ClassFile.FieldType.int)) ∈ lw_good := lw_in (i := 798) (by decide +kernel) rfl
theorem w799 : Cond.methodLink RX7 79 yJ9_min_7cf53 ∈ lw_good := lw_in (i := 799) (by decide +kernel) rfl
theorem w800 : Cond.methodLink RL 100 yX11_count ∈ lw_good := lw_in (i := 800) (by decide +kernel) rfl
theorem w801 : Cond.instanceMethod yX11_count ∈ lw_good := lw_in (i := 801) (by decide +kernel) rfl
theorem w802 : Cond.selects RX11 yX11_count yX11_count ∈ lw_good := lw_in (i := 802) (by decide +kernel) rfl
theorem w803 : Cond.code yX11_count cX11_count 2 (some (Jvm.ClassFile.FieldType.int)) ∈ lw_good := lw_in (i := 803) (by decide +kernel) rfl
theorem w804 : Cond.methodLink RX11 285 yX7_wholeCost ∈ lw_good := lw_in (i := 804) (by decide +kernel) rfl
theorem w805 : Cond.instanceMethod yX7_wholeCost ∈ lw_good := lw_in (i := 805) (by decide +kernel) rfl
theorem w806 : Cond.selects RX7 yX7_wholeCost yX7_wholeCost ∈ lw_good := lw_in (i := 806) (by decide +kernel) rfl
theorem w807 : Cond.code yX7_wholeCost cX7_wholeCost 4 (some (Jvm.ClassFile.FieldType.int)) ∈ lw_good := lw_in (i := 807) (by decide +kernel) rfl
theorem w808 : Cond.methodLink RX7 85 yX7_cost ∈ lw_good := lw_in (i := 808) (by decide +kernel) rfl
theorem w809 : Cond.methodLink RX11 288 yX7_allMissing ∈ lw_good := lw_in (i := 809) (by decide +kernel) rfl
theorem w810 : Cond.instanceMethod yX7_allMissing ∈ lw_good := lw_in (i := 810) (by decide +kernel) rfl
theorem w811 : Cond.selects RX7 yX7_allMissing yX7_allMissing ∈ lw_good := lw_in (i := 811) (by decide +kernel) rfl
theorem w812 : Cond.code yX7_allMissing cX7_allMissing 4 (some (Jvm.ClassFile.FieldType.int)) ∈ lw_good := lw_in (i := 812) (by decide +kernel) rfl
theorem w813 : Cond.methodLink RX7 88 yX7_missing ∈ lw_good := lw_in (i := 813) (by decide +kernel) rfl
theorem w814 : Cond.methodLink RX11 291 yX7_busiestDay ∈ lw_good := lw_in (i := 814) (by decide +kernel) rfl
theorem w815 : Cond.instanceMethod yX7_busiestDay ∈ lw_good := lw_in (i := 815) (by decide +kernel) rfl
theorem w816 : Cond.selects RX7 yX7_busiestDay yX7_busiestDay ∈ lw_good := lw_in (i := 816) (by decide +kernel) rfl
theorem w817 : Cond.code yX7_busiestDay cX7_busiestDay 5 (some (Jvm.ClassFile.FieldType.int)) ∈ lw_good := lw_in (i := 817) (by decide +kernel) rfl
theorem w818 : Cond.methodLink RX7 91 yX7_neededOn ∈ lw_good := lw_in (i := 818) (by decide +kernel) rfl
theorem w820 : Cond.instanceMethod yX7_neededOn ∈ lw_good := lw_in (i := 820) (by decide +kernel) rfl
theorem w821 : Cond.code yX7_neededOn cX7_neededOn 7 (some (Jvm.ClassFile.FieldType.int)) ∈ lw_good := lw_in (i := 821) (by decide +kernel) rfl
theorem w822 : Cond.methodLink RL 104 yX11_ifGo ∈ lw_good := lw_in (i := 822) (by decide +kernel) rfl
theorem w823 : Cond.instanceMethod yX11_ifGo ∈ lw_good := lw_in (i := 823) (by decide +kernel) rfl
theorem w824 : Cond.selects RX11 yX11_ifGo yX11_ifGo ∈ lw_good := lw_in (i := 824) (by decide +kernel) rfl
theorem w825 : Cond.code yX11_ifGo cX11_ifGo 5 (some (Jvm.ClassFile.FieldType.int)) ∈ lw_good := lw_in (i := 825) (by decide +kernel) rfl
theorem w826 : Cond.methodLink RX11 297 yX8_playToTheEnd ∈ lw_good := lw_in (i := 826) (by decide +kernel) rfl
theorem w827 : Cond.instanceMethod yX8_playToTheEnd ∈ lw_good := lw_in (i := 827) (by decide +kernel) rfl
theorem w828 : Cond.selects RX8 yX8_playToTheEnd yX8_playToTheEnd ∈ lw_good := lw_in (i := 828) (by decide +kernel) rfl
theorem w829 : Cond.code yX8_playToTheEnd cX8_playToTheEnd 8 none ∈ lw_good := lw_in (i := 829) (by decide +kernel) rfl
theorem w830 : Cond.methodLink RX8 18 yX6_isRecorded ∈ lw_good := lw_in (i := 830) (by decide +kernel) rfl
theorem w831 : Cond.methodLink RX8 26 yX8_begin ∈ lw_good := lw_in (i := 831) (by decide +kernel) rfl
theorem w833 : Cond.instanceMethod yX8_begin ∈ lw_good := lw_in (i := 833) (by decide +kernel) rfl
theorem w834 : Cond.code yX8_begin cX8_begin 4 none ∈ lw_good := lw_in (i := 834) (by decide +kernel) rfl
theorem w835 : Cond.methodLink RX8 70 yX6_copyFrom ∈ lw_good := lw_in (i := 835) (by decide +kernel) rfl
theorem w836 : Cond.methodLink RX8 74 yX6_startCue ∈ lw_good := lw_in (i := 836) (by decide +kernel) rfl
theorem w837 : Cond.methodLink RX8 35 yX6_passTick ∈ lw_good := lw_in (i := 837) (by decide +kernel) rfl
theorem w839 : Cond.methodLink RX8 58 yJ9_max_7cf53 ∈ lw_good := lw_in (i := 839) (by decide +kernel) rfl
theorem w840 : Cond.methodLink RL 108 yX11_safeTicks ∈ lw_good := lw_in (i := 840) (by decide +kernel) rfl
theorem w841 : Cond.instanceMethod yX11_safeTicks ∈ lw_good := lw_in (i := 841) (by decide +kernel) rfl
theorem w842 : Cond.selects RX11 yX11_safeTicks yX11_safeTicks ∈ lw_good := lw_in (i := 842) (by decide +kernel) rfl
theorem w843 : Cond.code yX11_safeTicks cX11_safeTicks 5 (some (Jvm.ClassFile.FieldType.int)) ∈ lw_good := lw_in (i := 843) (by decide +kernel) rfl
theorem w844 : Cond.methodLink RX11 313 yX8_isSafe ∈ lw_good := lw_in (i := 844) (by decide +kernel) rfl
theorem w845 : Cond.instanceMethod yX8_isSafe ∈ lw_good := lw_in (i := 845) (by decide +kernel) rfl
theorem w846 : Cond.selects RX8 yX8_isSafe yX8_isSafe ∈ lw_good := lw_in (i := 846) (by decide +kernel) rfl
theorem w847 : Cond.code yX8_isSafe cX8_isSafe 7 (some (Jvm.ClassFile.FieldType.boolean)) ∈ lw_good := lw_in (i := 847) (by decide +kernel) rfl
theorem w848 : Cond.methodLink RL 112 yX11_bestFeed ∈ lw_good := lw_in (i := 848) (by decide +kernel) rfl
theorem w849 : Cond.instanceMethod yX11_bestFeed ∈ lw_good := lw_in (i := 849) (by decide +kernel) rfl
theorem w850 : Cond.selects RX11 yX11_bestFeed yX11_bestFeed ∈ lw_good := lw_in (i := 850) (by decide +kernel) rfl
theorem w851 : Cond.code yX11_bestFeed cX11_bestFeed 9 (some (Jvm.ClassFile.FieldType.int)) ∈ lw_good := lw_in (i := 851) (by decide +kernel) rfl
theorem w852 : Cond.methodLink RL 116 yX11_ifDays ∈ lw_good := lw_in (i := 852) (by decide +kernel) rfl
theorem w853 : Cond.instanceMethod yX11_ifDays ∈ lw_good := lw_in (i := 853) (by decide +kernel) rfl
theorem w854 : Cond.selects RX11 yX11_ifDays yX11_ifDays ∈ lw_good := lw_in (i := 854) (by decide +kernel) rfl
theorem w855 : Cond.code yX11_ifDays cX11_ifDays 8 (some (Jvm.ClassFile.FieldType.int)) ∈ lw_good := lw_in (i := 855) (by decide +kernel) rfl
theorem w856 : Cond.methodLink RL 122 yX11_put ∈ lw_good := lw_in (i := 856) (by decide +kernel) rfl
theorem w857 : Cond.instanceMethod yX11_put ∈ lw_good := lw_in (i := 857) (by decide +kernel) rfl
theorem w858 : Cond.selects RX11 yX11_put yX11_put ∈ lw_good := lw_in (i := 858) (by decide +kernel) rfl
theorem w859 : Cond.code yX11_put cX11_put 4 (some (Jvm.ClassFile.FieldType.int)) ∈ lw_good := lw_in (i := 859) (by decide +kernel) rfl
theorem w860 : Cond.methodLink RX11 318 yX5_signsIn ∈ lw_good := lw_in (i := 860) (by decide +kernel) rfl
theorem w861 : Cond.static yX5_signsIn ∈ lw_good := lw_in (i := 861) (by decide +kernel) rfl
theorem w862 : Cond.code yX5_signsIn cX5_signsIn 7 (some (Jvm.ClassFile.FieldType.int)) ∈ lw_good := lw_in (i := 862) (by decide +kernel) rfl
theorem w863 : Cond.constantLong RX5 15 255 ∈ lw_good := lw_in (i := 863) (by decide +kernel) rfl
theorem w864 : Cond.constantLong RX5 17 33 ∈ lw_good := lw_in (i := 864) (by decide +kernel) rfl
theorem w865 : Cond.constantLong RX5 19 126 ∈ lw_good := lw_in (i := 865) (by decide +kernel) rfl
theorem w866 : Cond.methodLink RX11 322 yX5_append ∈ lw_good := lw_in (i := 866) (by decide +kernel) rfl
theorem w867 : Cond.instanceMethod yX5_append ∈ lw_good := lw_in (i := 867) (by decide +kernel) rfl
theorem w868 : Cond.selects RX5 yX5_append yX5_append ∈ lw_good := lw_in (i := 868) (by decide +kernel) rfl
theorem w869 : Cond.code yX5_append cX5_append 5 none ∈ lw_good := lw_in (i := 869) (by decide +kernel) rfl
theorem w870 : Cond.methodLink RL 127 yX11_wipe ∈ lw_good := lw_in (i := 870) (by decide +kernel) rfl
theorem w871 : Cond.instanceMethod yX11_wipe ∈ lw_good := lw_in (i := 871) (by decide +kernel) rfl
theorem w872 : Cond.selects RX11 yX11_wipe yX11_wipe ∈ lw_good := lw_in (i := 872) (by decide +kernel) rfl
theorem w873 : Cond.code yX11_wipe cX11_wipe 2 (some (Jvm.ClassFile.FieldType.int)) ∈ lw_good := lw_in (i := 873) (by decide +kernel) rfl
theorem w874 : Cond.methodLink RL 132 yX11_fault ∈ lw_good := lw_in (i := 874) (by decide +kernel) rfl
theorem w875 : Cond.instanceMethod yX11_fault ∈ lw_good := lw_in (i := 875) (by decide +kernel) rfl
theorem w876 : Cond.selects RX11 yX11_fault yX11_fault ∈ lw_good := lw_in (i := 876) (by decide +kernel) rfl
theorem w877 : Cond.code yX11_fault cX11_fault 1 (some (Jvm.ClassFile.FieldType.int)) ∈ lw_good := lw_in (i := 877) (by decide +kernel) rfl
theorem w878 : Cond.methodLink RL 136 yX11_undo ∈ lw_good := lw_in (i := 878) (by decide +kernel) rfl
theorem w879 : Cond.instanceMethod yX11_undo ∈ lw_good := lw_in (i := 879) (by decide +kernel) rfl
theorem w880 : Cond.selects RX11 yX11_undo yX11_undo ∈ lw_good := lw_in (i := 880) (by decide +kernel) rfl
theorem w881 : Cond.code yX11_undo cX11_undo 1 (some (Jvm.ClassFile.FieldType.int)) ∈ lw_good := lw_in (i := 881) (by decide +kernel) rfl
theorem w882 : Cond.methodLink RX11 329 yX2_pop ∈ lw_good := lw_in (i := 882) (by decide +kernel) rfl
theorem w883 : Cond.instanceMethod yX2_pop ∈ lw_good := lw_in (i := 883) (by decide +kernel) rfl
theorem w884 : Cond.selects RX2 yX2_pop yX2_pop ∈ lw_good := lw_in (i := 884) (by decide +kernel) rfl
theorem w885 : Cond.code yX2_pop cX2_pop 2 (some (Jvm.ClassFile.FieldType.boolean)) ∈ lw_good := lw_in (i := 885) (by decide +kernel) rfl
theorem w886 : Cond.methodLink RL 140 yX11_save ∈ lw_good := lw_in (i := 886) (by decide +kernel) rfl
theorem w887 : Cond.instanceMethod yX11_save ∈ lw_good := lw_in (i := 887) (by decide +kernel) rfl
theorem w888 : Cond.selects RX11 yX11_save yX11_save ∈ lw_good := lw_in (i := 888) (by decide +kernel) rfl
theorem w889 : Cond.code yX11_save cX11_save 2 (some (Jvm.ClassFile.FieldType.int)) ∈ lw_good := lw_in (i := 889) (by decide +kernel) rfl
theorem w890 : Cond.methodLink RX11 333 yX7_copyFrom ∈ lw_good := lw_in (i := 890) (by decide +kernel) rfl
theorem w891 : Cond.methodLink RX11 339 yX7_allLamps ∈ lw_good := lw_in (i := 891) (by decide +kernel) rfl
theorem w892 : Cond.instanceMethod yX7_allLamps ∈ lw_good := lw_in (i := 892) (by decide +kernel) rfl
theorem w893 : Cond.selects RX7 yX7_allLamps yX7_allLamps ∈ lw_good := lw_in (i := 893) (by decide +kernel) rfl
theorem w894 : Cond.code yX7_allLamps cX7_allLamps 6 (some (Jvm.ClassFile.FieldType.int)) ∈ lw_good := lw_in (i := 894) (by decide +kernel) rfl
theorem w895 : Cond.methodLink RL 144 yX11_restore ∈ lw_good := lw_in (i := 895) (by decide +kernel) rfl
theorem w896 : Cond.instanceMethod yX11_restore ∈ lw_good := lw_in (i := 896) (by decide +kernel) rfl
theorem w897 : Cond.selects RX11 yX11_restore yX11_restore ∈ lw_good := lw_in (i := 897) (by decide +kernel) rfl
theorem w898 : Cond.code yX11_restore cX11_restore 2 (some (Jvm.ClassFile.FieldType.int)) ∈ lw_good := lw_in (i := 898) (by decide +kernel) rfl
theorem w899 : Cond.methodLink RX11 342 yX11_hasBit ∈ lw_good := lw_in (i := 899) (by decide +kernel) rfl
theorem w900 : Cond.classLink RL 10 RX12 ∈ lw_good := lw_in (i := 900) (by decide +kernel) rfl
theorem w901 : Cond.instantiable RX12 21 ∈ lw_good := lw_in (i := 901) (by decide +kernel) rfl
theorem w902 : Cond.methodLink RL 12 yX12_init ∈ lw_good := lw_in (i := 902) (by decide +kernel) rfl
theorem w903 : Cond.instanceMethod yX12_init ∈ lw_good := lw_in (i := 903) (by decide +kernel) rfl
theorem w904 : Cond.code yX12_init cX12_init 2 none ∈ lw_good := lw_in (i := 904) (by decide +kernel) rfl
theorem w905 : Cond.methodLink RX12 1 ⟨"java/lang/Object", "<init>", "()V"⟩ ∈ lw_good := lw_in (i := 905) (by decide +kernel) rfl
theorem w906 : Cond.methodLink RX12 38 yX12_at1 ∈ lw_good := lw_in (i := 906) (by decide +kernel) rfl
theorem w907 : Cond.static yX12_at1 ∈ lw_good := lw_in (i := 907) (by decide +kernel) rfl
theorem w908 : Cond.code yX12_at1 cX12_at1 2 (some (Jvm.ClassFile.FieldType.int)) ∈ lw_good := lw_in (i := 908) (by decide +kernel) rfl
theorem w909 : Cond.fieldLink RX12 7 "PhaseLightsModel" "s" "[I" ∈ lw_good := lw_in (i := 909) (by decide +kernel) rfl
theorem w910 : Cond.fieldLink RX12 13 "PhaseLightsModel" "aside" "[I" ∈ lw_good := lw_in (i := 910) (by decide +kernel) rfl
theorem w911 : Cond.fieldLink RX12 16 "PhaseLightsModel" "before" "[I" ∈ lw_good := lw_in (i := 911) (by decide +kernel) rfl
theorem w912 : Cond.fieldLink RX12 50 "PhaseLightsModel" "known" "I" ∈ lw_good := lw_in (i := 912) (by decide +kernel) rfl
theorem w913 : Cond.fieldLink RX12 19 "PhaseLightsModel" "slots" "[I" ∈ lw_good := lw_in (i := 913) (by decide +kernel) rfl
theorem w914 : Cond.fieldLink RX12 22 "PhaseLightsModel" "isSaved" "[Z" ∈ lw_good := lw_in (i := 914) (by decide +kernel) rfl
theorem w915 : Cond.fieldLink RX12 26 "PhaseLightsModel" "pad" "[I" ∈ lw_good := lw_in (i := 915) (by decide +kernel) rfl
theorem w916 : Cond.fieldLink RX12 118 "PhaseLightsModel" "length" "I" ∈ lw_good := lw_in (i := 916) (by decide +kernel) rfl
theorem w917 : Cond.fieldLink RX12 29 "PhaseLightsModel" "worsts" "[I" ∈ lw_good := lw_in (i := 917) (by decide +kernel) rfl
theorem w918 : Cond.fieldLink RX12 32 "PhaseLightsModel" "sums" "[I" ∈ lw_good := lw_in (i := 918) (by decide +kernel) rfl
theorem w919 : Cond.fieldLink RX12 121 "PhaseLightsModel" "place" "I" ∈ lw_good := lw_in (i := 919) (by decide +kernel) rfl
theorem w920 : Cond.fieldLink RX12 124 "PhaseLightsModel" "isWrong" "Z" ∈ lw_good := lw_in (i := 920) (by decide +kernel) rfl
theorem w921 : Cond.fieldLink RX12 35 "PhaseLightsModel" "spans" "[I" ∈ lw_good := lw_in (i := 921) (by decide +kernel) rfl
theorem w922 : Cond.fieldLink RX12 134 "PhaseLightsModel" "spansMany" "I" ∈ lw_good := lw_in (i := 922) (by decide +kernel) rfl
theorem w923 : Cond.fieldLink RX12 143 "PhaseLightsModel" "letter" "I" ∈ lw_good := lw_in (i := 923) (by decide +kernel) rfl
theorem w924 : Cond.fieldLink RX12 140 "PhaseLightsModel" "one" "I" ∈ lw_good := lw_in (i := 924) (by decide +kernel) rfl
theorem w925 : Cond.fieldLink RX12 149 "PhaseLightsModel" "two" "I" ∈ lw_good := lw_in (i := 925) (by decide +kernel) rfl
theorem w926 : Cond.fieldLink RX12 199 "PhaseLightsModel" "trips" "I" ∈ lw_good := lw_in (i := 926) (by decide +kernel) rfl
theorem w927 : Cond.fieldLink RX12 202 "PhaseLightsModel" "firstTrip" "I" ∈ lw_good := lw_in (i := 927) (by decide +kernel) rfl
theorem w928 : Cond.fieldLink RX12 205 "PhaseLightsModel" "worstDimmer" "I" ∈ lw_good := lw_in (i := 928) (by decide +kernel) rfl
theorem w929 : Cond.fieldLink RX12 208 "PhaseLightsModel" "worstPhase" "I" ∈ lw_good := lw_in (i := 929) (by decide +kernel) rfl
theorem w930 : Cond.laysFinal "PhaseLightsModel" "PhaseLightsModel" "s" "[I" ∈ lw_good := lw_in (i := 930) (by decide +kernel) rfl
theorem w932 : Cond.laysFinal "PhaseLightsModel" "PhaseLightsModel" "aside" "[I" ∈ lw_good := lw_in (i := 932) (by decide +kernel) rfl
theorem w934 : Cond.laysFinal "PhaseLightsModel" "PhaseLightsModel" "before" "[I" ∈ lw_good := lw_in (i := 934) (by decide +kernel) rfl
theorem w936 : Cond.lays "PhaseLightsModel" "PhaseLightsModel" "known" "I" ∈ lw_good := lw_in (i := 936) (by decide +kernel) rfl
theorem w938 : Cond.laysFinal "PhaseLightsModel" "PhaseLightsModel" "slots" "[I" ∈ lw_good := lw_in (i := 938) (by decide +kernel) rfl
theorem w940 : Cond.laysFinal "PhaseLightsModel" "PhaseLightsModel" "isSaved" "[Z" ∈ lw_good := lw_in (i := 940) (by decide +kernel) rfl
theorem w942 : Cond.laysFinal "PhaseLightsModel" "PhaseLightsModel" "pad" "[I" ∈ lw_good := lw_in (i := 942) (by decide +kernel) rfl
theorem w944 : Cond.lays "PhaseLightsModel" "PhaseLightsModel" "length" "I" ∈ lw_good := lw_in (i := 944) (by decide +kernel) rfl
theorem w946 : Cond.laysFinal "PhaseLightsModel" "PhaseLightsModel" "worsts" "[I" ∈ lw_good := lw_in (i := 946) (by decide +kernel) rfl
theorem w948 : Cond.laysFinal "PhaseLightsModel" "PhaseLightsModel" "sums" "[I" ∈ lw_good := lw_in (i := 948) (by decide +kernel) rfl
theorem w950 : Cond.lays "PhaseLightsModel" "PhaseLightsModel" "place" "I" ∈ lw_good := lw_in (i := 950) (by decide +kernel) rfl
theorem w952 : Cond.lays "PhaseLightsModel" "PhaseLightsModel" "isWrong" "Z" ∈ lw_good := lw_in (i := 952) (by decide +kernel) rfl
theorem w954 : Cond.laysFinal "PhaseLightsModel" "PhaseLightsModel" "spans" "[I" ∈ lw_good := lw_in (i := 954) (by decide +kernel) rfl
theorem w956 : Cond.lays "PhaseLightsModel" "PhaseLightsModel" "spansMany" "I" ∈ lw_good := lw_in (i := 956) (by decide +kernel) rfl
theorem w958 : Cond.lays "PhaseLightsModel" "PhaseLightsModel" "letter" "I" ∈ lw_good := lw_in (i := 958) (by decide +kernel) rfl
theorem w960 : Cond.lays "PhaseLightsModel" "PhaseLightsModel" "one" "I" ∈ lw_good := lw_in (i := 960) (by decide +kernel) rfl
theorem w962 : Cond.lays "PhaseLightsModel" "PhaseLightsModel" "two" "I" ∈ lw_good := lw_in (i := 962) (by decide +kernel) rfl
theorem w964 : Cond.lays "PhaseLightsModel" "PhaseLightsModel" "trips" "I" ∈ lw_good := lw_in (i := 964) (by decide +kernel) rfl
theorem w966 : Cond.lays "PhaseLightsModel" "PhaseLightsModel" "firstTrip" "I" ∈ lw_good := lw_in (i := 966) (by decide +kernel) rfl
theorem w968 : Cond.lays "PhaseLightsModel" "PhaseLightsModel" "worstDimmer" "I" ∈ lw_good := lw_in (i := 968) (by decide +kernel) rfl
theorem w970 : Cond.lays "PhaseLightsModel" "PhaseLightsModel" "worstPhase" "I" ∈ lw_good := lw_in (i := 970) (by decide +kernel) rfl
theorem w973 : Cond.arrayClass Jvm.ClassFile.FieldType.boolean ∈ lw_good := lw_in (i := 973) (by decide +kernel) rfl
theorem w974 : Cond.methodLink RL 17 yX12_set ∈ lw_good := lw_in (i := 974) (by decide +kernel) rfl
theorem w975 : Cond.instanceMethod yX12_set ∈ lw_good := lw_in (i := 975) (by decide +kernel) rfl
theorem w976 : Cond.selects RX12 yX12_set yX12_set ∈ lw_good := lw_in (i := 976) (by decide +kernel) rfl
theorem w977 : Cond.code yX12_set cX12_set 6 (some (Jvm.ClassFile.FieldType.int)) ∈ lw_good := lw_in (i := 977) (by decide +kernel) rfl
theorem w978 : Cond.methodLink RX12 42 yX12_in ∈ lw_good := lw_in (i := 978) (by decide +kernel) rfl
theorem w979 : Cond.static yX12_in ∈ lw_good := lw_in (i := 979) (by decide +kernel) rfl
theorem w980 : Cond.code yX12_in cX12_in 3 (some (Jvm.ClassFile.FieldType.boolean)) ∈ lw_good := lw_in (i := 980) (by decide +kernel) rfl
theorem w981 : Cond.methodLink RX12 77 yX12_know ∈ lw_good := lw_in (i := 981) (by decide +kernel) rfl
theorem w983 : Cond.instanceMethod yX12_know ∈ lw_good := lw_in (i := 983) (by decide +kernel) rfl
theorem w984 : Cond.code yX12_know cX12_know 2 none ∈ lw_good := lw_in (i := 984) (by decide +kernel) rfl
theorem w985 : Cond.methodLink RL 22 yX12_type ∈ lw_good := lw_in (i := 985) (by decide +kernel) rfl
theorem w986 : Cond.instanceMethod yX12_type ∈ lw_good := lw_in (i := 986) (by decide +kernel) rfl
theorem w987 : Cond.selects RX12 yX12_type yX12_type ∈ lw_good := lw_in (i := 987) (by decide +kernel) rfl
theorem w988 : Cond.code yX12_type cX12_type 5 (some (Jvm.ClassFile.FieldType.int)) ∈ lw_good := lw_in (i := 988) (by decide +kernel) rfl
theorem w989 : Cond.methodLink RL 26 yX12_days ∈ lw_good := lw_in (i := 989) (by decide +kernel) rfl
theorem w990 : Cond.instanceMethod yX12_days ∈ lw_good := lw_in (i := 990) (by decide +kernel) rfl
theorem w991 : Cond.selects RX12 yX12_days yX12_days ∈ lw_good := lw_in (i := 991) (by decide +kernel) rfl
theorem w992 : Cond.code yX12_days cX12_days 5 (some (Jvm.ClassFile.FieldType.int)) ∈ lw_good := lw_in (i := 992) (by decide +kernel) rfl
theorem w993 : Cond.methodLink RX12 46 yX12_isPremiere ∈ lw_good := lw_in (i := 993) (by decide +kernel) rfl
theorem w994 : Cond.static yX12_isPremiere ∈ lw_good := lw_in (i := 994) (by decide +kernel) rfl
theorem w995 : Cond.code yX12_isPremiere cX12_isPremiere 1 (some (Jvm.ClassFile.FieldType.boolean)) ∈ lw_good := lw_in (i := 995) (by decide +kernel) rfl
theorem w996 : Cond.methodLink RL 30 yX12_hang ∈ lw_good := lw_in (i := 996) (by decide +kernel) rfl
theorem w997 : Cond.instanceMethod yX12_hang ∈ lw_good := lw_in (i := 997) (by decide +kernel) rfl
theorem w998 : Cond.selects RX12 yX12_hang yX12_hang ∈ lw_good := lw_in (i := 998) (by decide +kernel) rfl
theorem w999 : Cond.code yX12_hang cX12_hang 6 (some (Jvm.ClassFile.FieldType.int)) ∈ lw_good := lw_in (i := 999) (by decide +kernel) rfl
theorem w1000 : Cond.methodLink RX12 80 yX12_isDimmer ∈ lw_good := lw_in (i := 1000) (by decide +kernel) rfl
theorem w1001 : Cond.static yX12_isDimmer ∈ lw_good := lw_in (i := 1001) (by decide +kernel) rfl
theorem w1002 : Cond.code yX12_isDimmer cX12_isDimmer 1 (some (Jvm.ClassFile.FieldType.boolean)) ∈ lw_good := lw_in (i := 1002) (by decide +kernel) rfl
theorem w1003 : Cond.methodLink RX12 54 yX12_ofLamp ∈ lw_good := lw_in (i := 1003) (by decide +kernel) rfl
theorem w1004 : Cond.static yX12_ofLamp ∈ lw_good := lw_in (i := 1004) (by decide +kernel) rfl
theorem w1005 : Cond.code yX12_ofLamp cX12_ofLamp 3 (some (Jvm.ClassFile.FieldType.int)) ∈ lw_good := lw_in (i := 1005) (by decide +kernel) rfl
theorem w1006 : Cond.methodLink RX12 64 yX12_ofCue ∈ lw_good := lw_in (i := 1006) (by decide +kernel) rfl
theorem w1007 : Cond.static yX12_ofCue ∈ lw_good := lw_in (i := 1007) (by decide +kernel) rfl
theorem w1008 : Cond.code yX12_ofCue cX12_ofCue 2 (some (Jvm.ClassFile.FieldType.int)) ∈ lw_good := lw_in (i := 1008) (by decide +kernel) rfl
theorem w1009 : Cond.methodLink RL 34 yX12_takeDown ∈ lw_good := lw_in (i := 1009) (by decide +kernel) rfl
theorem w1010 : Cond.instanceMethod yX12_takeDown ∈ lw_good := lw_in (i := 1010) (by decide +kernel) rfl
theorem w1011 : Cond.selects RX12 yX12_takeDown yX12_takeDown ∈ lw_good := lw_in (i := 1011) (by decide +kernel) rfl
theorem w1012 : Cond.code yX12_takeDown cX12_takeDown 6 (some (Jvm.ClassFile.FieldType.int)) ∈ lw_good := lw_in (i := 1012) (by decide +kernel) rfl
theorem w1013 : Cond.methodLink RX12 83 yX12_isLamp ∈ lw_good := lw_in (i := 1013) (by decide +kernel) rfl
theorem w1015 : Cond.instanceMethod yX12_isLamp ∈ lw_good := lw_in (i := 1015) (by decide +kernel) rfl
theorem w1016 : Cond.code yX12_isLamp cX12_isLamp 3 (some (Jvm.ClassFile.FieldType.boolean)) ∈ lw_good := lw_in (i := 1016) (by decide +kernel) rfl
theorem w1017 : Cond.methodLink RL 38 yX12_patch ∈ lw_good := lw_in (i := 1017) (by decide +kernel) rfl
theorem w1018 : Cond.instanceMethod yX12_patch ∈ lw_good := lw_in (i := 1018) (by decide +kernel) rfl
theorem w1019 : Cond.selects RX12 yX12_patch yX12_patch ∈ lw_good := lw_in (i := 1019) (by decide +kernel) rfl
theorem w1020 : Cond.code yX12_patch cX12_patch 5 (some (Jvm.ClassFile.FieldType.int)) ∈ lw_good := lw_in (i := 1020) (by decide +kernel) rfl
theorem w1021 : Cond.methodLink RL 42 yX12_feed ∈ lw_good := lw_in (i := 1021) (by decide +kernel) rfl
theorem w1022 : Cond.instanceMethod yX12_feed ∈ lw_good := lw_in (i := 1022) (by decide +kernel) rfl
theorem w1023 : Cond.selects RX12 yX12_feed yX12_feed ∈ lw_good := lw_in (i := 1023) (by decide +kernel) rfl
theorem w1024 : Cond.code yX12_feed cX12_feed 5 (some (Jvm.ClassFile.FieldType.int)) ∈ lw_good := lw_in (i := 1024) (by decide +kernel) rfl
theorem w1025 : Cond.methodLink RL 47 yX12_spread ∈ lw_good := lw_in (i := 1025) (by decide +kernel) rfl
theorem w1026 : Cond.instanceMethod yX12_spread ∈ lw_good := lw_in (i := 1026) (by decide +kernel) rfl
theorem w1027 : Cond.selects RX12 yX12_spread yX12_spread ∈ lw_good := lw_in (i := 1027) (by decide +kernel) rfl
theorem w1028 : Cond.code yX12_spread cX12_spread 6 (some (Jvm.ClassFile.FieldType.int)) ∈ lw_good := lw_in (i := 1028) (by decide +kernel) rfl
theorem w1029 : Cond.methodLink RX12 87 yX12_worst ∈ lw_good := lw_in (i := 1029) (by decide +kernel) rfl
theorem w1031 : Cond.instanceMethod yX12_worst ∈ lw_good := lw_in (i := 1031) (by decide +kernel) rfl
theorem w1032 : Cond.code yX12_worst cX12_worst 6 (some (Jvm.ClassFile.FieldType.int)) ∈ lw_good := lw_in (i := 1032) (by decide +kernel) rfl
theorem w1033 : Cond.methodLink RX12 67 yX12_loadBy ∈ lw_good := lw_in (i := 1033) (by decide +kernel) rfl
theorem w1035 : Cond.instanceMethod yX12_loadBy ∈ lw_good := lw_in (i := 1035) (by decide +kernel) rfl
theorem w1036 : Cond.code yX12_loadBy cX12_loadBy 8 (some (Jvm.ClassFile.FieldType.int)) ∈ lw_good := lw_in (i := 1036) (by decide +kernel) rfl
theorem w1037 : Cond.methodLink RX12 58 yX12_watts ∈ lw_good := lw_in (i := 1037) (by decide +kernel) rfl
theorem w1039 : Cond.instanceMethod yX12_watts ∈ lw_good := lw_in (i := 1039) (by decide +kernel) rfl
theorem w1040 : Cond.code yX12_watts cX12_watts 4 (some (Jvm.ClassFile.FieldType.int)) ∈ lw_good := lw_in (i := 1040) (by decide +kernel) rfl
theorem w1041 : Cond.methodLink RL 51 yX12_at ∈ lw_good := lw_in (i := 1041) (by decide +kernel) rfl
theorem w1042 : Cond.instanceMethod yX12_at ∈ lw_good := lw_in (i := 1042) (by decide +kernel) rfl
theorem w1043 : Cond.selects RX12 yX12_at yX12_at ∈ lw_good := lw_in (i := 1043) (by decide +kernel) rfl
theorem w1044 : Cond.code yX12_at cX12_at 6 (some (Jvm.ClassFile.FieldType.int)) ∈ lw_good := lw_in (i := 1044) (by decide +kernel) rfl
theorem w1045 : Cond.methodLink RX12 90 yX12_atFault ∈ lw_good := lw_in (i := 1045) (by decide +kernel) rfl
theorem w1047 : Cond.instanceMethod yX12_atFault ∈ lw_good := lw_in (i := 1047) (by decide +kernel) rfl
theorem w1048 : Cond.code yX12_atFault cX12_atFault 4 (some (Jvm.ClassFile.FieldType.int)) ∈ lw_good := lw_in (i := 1048) (by decide +kernel) rfl
theorem w1049 : Cond.methodLink RL 55 yX12_record ∈ lw_good := lw_in (i := 1049) (by decide +kernel) rfl
theorem w1050 : Cond.instanceMethod yX12_record ∈ lw_good := lw_in (i := 1050) (by decide +kernel) rfl
theorem w1051 : Cond.selects RX12 yX12_record yX12_record ∈ lw_good := lw_in (i := 1051) (by decide +kernel) rfl
theorem w1052 : Cond.code yX12_record cX12_record 5 (some (Jvm.ClassFile.FieldType.int)) ∈ lw_good := lw_in (i := 1052) (by decide +kernel) rfl
theorem w1053 : Cond.methodLink RX12 96 yX12_recordFault ∈ lw_good := lw_in (i := 1053) (by decide +kernel) rfl
theorem w1055 : Cond.instanceMethod yX12_recordFault ∈ lw_good := lw_in (i := 1055) (by decide +kernel) rfl
theorem w1056 : Cond.code yX12_recordFault cX12_recordFault 4 (some (Jvm.ClassFile.FieldType.int)) ∈ lw_good := lw_in (i := 1056) (by decide +kernel) rfl
theorem w1057 : Cond.methodLink RX12 93 yX12_isCue ∈ lw_good := lw_in (i := 1057) (by decide +kernel) rfl
theorem w1058 : Cond.static yX12_isCue ∈ lw_good := lw_in (i := 1058) (by decide +kernel) rfl
theorem w1059 : Cond.code yX12_isCue cX12_isCue 2 (some (Jvm.ClassFile.FieldType.boolean)) ∈ lw_good := lw_in (i := 1059) (by decide +kernel) rfl
theorem w1060 : Cond.methodLink RX12 99 yX12_records ∈ lw_good := lw_in (i := 1060) (by decide +kernel) rfl
theorem w1062 : Cond.instanceMethod yX12_records ∈ lw_good := lw_in (i := 1062) (by decide +kernel) rfl
theorem w1063 : Cond.code yX12_records cX12_records 6 (some (Jvm.ClassFile.FieldType.int)) ∈ lw_good := lw_in (i := 1063) (by decide +kernel) rfl
theorem w1064 : Cond.methodLink RL 59 yX12_go ∈ lw_good := lw_in (i := 1064) (by decide +kernel) rfl
theorem w1065 : Cond.instanceMethod yX12_go ∈ lw_good := lw_in (i := 1065) (by decide +kernel) rfl
theorem w1066 : Cond.selects RX12 yX12_go yX12_go ∈ lw_good := lw_in (i := 1066) (by decide +kernel) rfl
theorem w1067 : Cond.code yX12_go cX12_go 4 (some (Jvm.ClassFile.FieldType.int)) ∈ lw_good := lw_in (i := 1067) (by decide +kernel) rfl
theorem w1068 : Cond.methodLink RX12 102 yX12_goFault ∈ lw_good := lw_in (i := 1068) (by decide +kernel) rfl
theorem w1070 : Cond.instanceMethod yX12_goFault ∈ lw_good := lw_in (i := 1070) (by decide +kernel) rfl
theorem w1071 : Cond.code yX12_goFault cX12_goFault 3 (some (Jvm.ClassFile.FieldType.int)) ∈ lw_good := lw_in (i := 1071) (by decide +kernel) rfl
theorem w1072 : Cond.methodLink RX12 105 yX12_start ∈ lw_good := lw_in (i := 1072) (by decide +kernel) rfl
theorem w1074 : Cond.instanceMethod yX12_start ∈ lw_good := lw_in (i := 1074) (by decide +kernel) rfl
theorem w1075 : Cond.code yX12_start cX12_start 5 none ∈ lw_good := lw_in (i := 1075) (by decide +kernel) rfl
theorem w1076 : Cond.methodLink RL 63 yX12_reset ∈ lw_good := lw_in (i := 1076) (by decide +kernel) rfl
theorem w1077 : Cond.instanceMethod yX12_reset ∈ lw_good := lw_in (i := 1077) (by decide +kernel) rfl
theorem w1078 : Cond.selects RX12 yX12_reset yX12_reset ∈ lw_good := lw_in (i := 1078) (by decide +kernel) rfl
theorem w1079 : Cond.code yX12_reset cX12_reset 2 (some (Jvm.ClassFile.FieldType.int)) ∈ lw_good := lw_in (i := 1079) (by decide +kernel) rfl
theorem w1080 : Cond.methodLink RX12 109 yX12_resets ∈ lw_good := lw_in (i := 1080) (by decide +kernel) rfl
theorem w1082 : Cond.instanceMethod yX12_resets ∈ lw_good := lw_in (i := 1082) (by decide +kernel) rfl
theorem w1083 : Cond.code yX12_resets cX12_resets 4 (some (Jvm.ClassFile.FieldType.int)) ∈ lw_good := lw_in (i := 1083) (by decide +kernel) rfl
theorem w1084 : Cond.methodLink RL 67 yX12_tick ∈ lw_good := lw_in (i := 1084) (by decide +kernel) rfl
theorem w1085 : Cond.instanceMethod yX12_tick ∈ lw_good := lw_in (i := 1085) (by decide +kernel) rfl
theorem w1086 : Cond.selects RX12 yX12_tick yX12_tick ∈ lw_good := lw_in (i := 1086) (by decide +kernel) rfl
theorem w1087 : Cond.code yX12_tick cX12_tick 5 (some (Jvm.ClassFile.FieldType.int)) ∈ lw_good := lw_in (i := 1087) (by decide +kernel) rfl
theorem w1088 : Cond.methodLink RX12 113 yX12_turn ∈ lw_good := lw_in (i := 1088) (by decide +kernel) rfl
theorem w1090 : Cond.instanceMethod yX12_turn ∈ lw_good := lw_in (i := 1090) (by decide +kernel) rfl
theorem w1091 : Cond.code yX12_turn cX12_turn 6 (some (Jvm.ClassFile.FieldType.int)) ∈ lw_good := lw_in (i := 1091) (by decide +kernel) rfl
theorem w1092 : Cond.methodLink RX12 73 yX12_trip ∈ lw_good := lw_in (i := 1092) (by decide +kernel) rfl
theorem w1094 : Cond.instanceMethod yX12_trip ∈ lw_good := lw_in (i := 1094) (by decide +kernel) rfl
theorem w1095 : Cond.code yX12_trip cX12_trip 8 (some (Jvm.ClassFile.FieldType.int)) ∈ lw_good := lw_in (i := 1095) (by decide +kernel) rfl
theorem w1096 : Cond.methodLink RX12 70 yX12_load ∈ lw_good := lw_in (i := 1096) (by decide +kernel) rfl
theorem w1098 : Cond.instanceMethod yX12_load ∈ lw_good := lw_in (i := 1098) (by decide +kernel) rfl
theorem w1099 : Cond.code yX12_load cX12_load 7 (some (Jvm.ClassFile.FieldType.int)) ∈ lw_good := lw_in (i := 1099) (by decide +kernel) rfl
theorem w1100 : Cond.methodLink RX12 61 yX12_loadOfLamp ∈ lw_good := lw_in (i := 1100) (by decide +kernel) rfl
theorem w1102 : Cond.instanceMethod yX12_loadOfLamp ∈ lw_good := lw_in (i := 1102) (by decide +kernel) rfl
theorem w1103 : Cond.code yX12_loadOfLamp cX12_loadOfLamp 4 (some (Jvm.ClassFile.FieldType.int)) ∈ lw_good := lw_in (i := 1103) (by decide +kernel) rfl
theorem w1104 : Cond.methodLink RL 126 yX12_put ∈ lw_good := lw_in (i := 1104) (by decide +kernel) rfl
theorem w1105 : Cond.instanceMethod yX12_put ∈ lw_good := lw_in (i := 1105) (by decide +kernel) rfl
theorem w1106 : Cond.selects RX12 yX12_put yX12_put ∈ lw_good := lw_in (i := 1106) (by decide +kernel) rfl
theorem w1107 : Cond.code yX12_put cX12_put 8 (some (Jvm.ClassFile.FieldType.int)) ∈ lw_good := lw_in (i := 1107) (by decide +kernel) rfl
theorem w1108 : Cond.constantLong RX12 116 255 ∈ lw_good := lw_in (i := 1108) (by decide +kernel) rfl
theorem w1109 : Cond.methodLink RL 131 yX12_wipe ∈ lw_good := lw_in (i := 1109) (by decide +kernel) rfl
theorem w1110 : Cond.instanceMethod yX12_wipe ∈ lw_good := lw_in (i := 1110) (by decide +kernel) rfl
theorem w1111 : Cond.selects RX12 yX12_wipe yX12_wipe ∈ lw_good := lw_in (i := 1111) (by decide +kernel) rfl
theorem w1112 : Cond.code yX12_wipe cX12_wipe 2 (some (Jvm.ClassFile.FieldType.int)) ∈ lw_good := lw_in (i := 1112) (by decide +kernel) rfl
theorem w1113 : Cond.methodLink RL 135 yX12_fault ∈ lw_good := lw_in (i := 1113) (by decide +kernel) rfl
theorem w1114 : Cond.instanceMethod yX12_fault ∈ lw_good := lw_in (i := 1114) (by decide +kernel) rfl
theorem w1115 : Cond.selects RX12 yX12_fault yX12_fault ∈ lw_good := lw_in (i := 1115) (by decide +kernel) rfl
theorem w1116 : Cond.code yX12_fault cX12_fault 2 (some (Jvm.ClassFile.FieldType.int)) ∈ lw_good := lw_in (i := 1116) (by decide +kernel) rfl
theorem w1117 : Cond.methodLink RX12 161 yX12_goThrough ∈ lw_good := lw_in (i := 1117) (by decide +kernel) rfl
theorem w1119 : Cond.instanceMethod yX12_goThrough ∈ lw_good := lw_in (i := 1119) (by decide +kernel) rfl
theorem w1120 : Cond.code yX12_goThrough cX12_goThrough 7 (some (Jvm.ClassFile.FieldType.int)) ∈ lw_good := lw_in (i := 1120) (by decide +kernel) rfl
theorem w1121 : Cond.methodLink RX12 155 yX12_order ∈ lw_good := lw_in (i := 1121) (by decide +kernel) rfl
theorem w1123 : Cond.instanceMethod yX12_order ∈ lw_good := lw_in (i := 1123) (by decide +kernel) rfl
theorem w1124 : Cond.code yX12_order cX12_order 3 none ∈ lw_good := lw_in (i := 1124) (by decide +kernel) rfl
theorem w1125 : Cond.methodLink RX12 146 yX12_readLamps ∈ lw_good := lw_in (i := 1125) (by decide +kernel) rfl
theorem w1127 : Cond.instanceMethod yX12_readLamps ∈ lw_good := lw_in (i := 1127) (by decide +kernel) rfl
theorem w1128 : Cond.code yX12_readLamps cX12_readLamps 6 none ∈ lw_good := lw_in (i := 1128) (by decide +kernel) rfl
theorem w1129 : Cond.methodLink RX12 137 yX12_number ∈ lw_good := lw_in (i := 1129) (by decide +kernel) rfl
theorem w1131 : Cond.instanceMethod yX12_number ∈ lw_good := lw_in (i := 1131) (by decide +kernel) rfl
theorem w1132 : Cond.code yX12_number cX12_number 4 (some (Jvm.ClassFile.FieldType.int)) ∈ lw_good := lw_in (i := 1132) (by decide +kernel) rfl
theorem w1133 : Cond.methodLink RX12 128 yX12_sign ∈ lw_good := lw_in (i := 1133) (by decide +kernel) rfl
theorem w1135 : Cond.instanceMethod yX12_sign ∈ lw_good := lw_in (i := 1135) (by decide +kernel) rfl
theorem w1136 : Cond.code yX12_sign cX12_sign 4 (some (Jvm.ClassFile.FieldType.int)) ∈ lw_good := lw_in (i := 1136) (by decide +kernel) rfl
theorem w1137 : Cond.methodLink RX12 131 yX12_isNext ∈ lw_good := lw_in (i := 1137) (by decide +kernel) rfl
theorem w1139 : Cond.instanceMethod yX12_isNext ∈ lw_good := lw_in (i := 1139) (by decide +kernel) rfl
theorem w1140 : Cond.code yX12_isNext cX12_isNext 3 (some (Jvm.ClassFile.FieldType.boolean)) ∈ lw_good := lw_in (i := 1140) (by decide +kernel) rfl
theorem w1141 : Cond.methodLink RX12 158 yX12_does ∈ lw_good := lw_in (i := 1141) (by decide +kernel) rfl
theorem w1143 : Cond.instanceMethod yX12_does ∈ lw_good := lw_in (i := 1143) (by decide +kernel) rfl
theorem w1144 : Cond.code yX12_does cX12_does 4 (some (Jvm.ClassFile.FieldType.boolean)) ∈ lw_good := lw_in (i := 1144) (by decide +kernel) rfl
theorem w1145 : Cond.methodLink RX12 152 yX12_wants ∈ lw_good := lw_in (i := 1145) (by decide +kernel) rfl
theorem w1147 : Cond.instanceMethod yX12_wants ∈ lw_good := lw_in (i := 1147) (by decide +kernel) rfl
theorem w1148 : Cond.code yX12_wants cX12_wants 6 (some (Jvm.ClassFile.FieldType.boolean)) ∈ lw_good := lw_in (i := 1148) (by decide +kernel) rfl
theorem w1149 : Cond.methodLink RL 71 yX12_carryOut ∈ lw_good := lw_in (i := 1149) (by decide +kernel) rfl
theorem w1150 : Cond.instanceMethod yX12_carryOut ∈ lw_good := lw_in (i := 1150) (by decide +kernel) rfl
theorem w1151 : Cond.selects RX12 yX12_carryOut yX12_carryOut ∈ lw_good := lw_in (i := 1151) (by decide +kernel) rfl
theorem w1152 : Cond.code yX12_carryOut cX12_carryOut 4 (some (Jvm.ClassFile.FieldType.int)) ∈ lw_good := lw_in (i := 1152) (by decide +kernel) rfl
theorem w1153 : Cond.methodLink RL 75 yX12_lamp ∈ lw_good := lw_in (i := 1153) (by decide +kernel) rfl
theorem w1154 : Cond.instanceMethod yX12_lamp ∈ lw_good := lw_in (i := 1154) (by decide +kernel) rfl
theorem w1155 : Cond.selects RX12 yX12_lamp yX12_lamp ∈ lw_good := lw_in (i := 1155) (by decide +kernel) rfl
theorem w1156 : Cond.code yX12_lamp cX12_lamp 4 (some (Jvm.ClassFile.FieldType.int)) ∈ lw_good := lw_in (i := 1156) (by decide +kernel) rfl
theorem w1157 : Cond.methodLink RL 79 yX12_dimmer ∈ lw_good := lw_in (i := 1157) (by decide +kernel) rfl
theorem w1158 : Cond.instanceMethod yX12_dimmer ∈ lw_good := lw_in (i := 1158) (by decide +kernel) rfl
theorem w1159 : Cond.selects RX12 yX12_dimmer yX12_dimmer ∈ lw_good := lw_in (i := 1159) (by decide +kernel) rfl
theorem w1160 : Cond.code yX12_dimmer cX12_dimmer 4 (some (Jvm.ClassFile.FieldType.int)) ∈ lw_good := lw_in (i := 1160) (by decide +kernel) rfl
theorem w1161 : Cond.methodLink RX12 165 yX12_lampsOn ∈ lw_good := lw_in (i := 1161) (by decide +kernel) rfl
theorem w1163 : Cond.instanceMethod yX12_lampsOn ∈ lw_good := lw_in (i := 1163) (by decide +kernel) rfl
theorem w1164 : Cond.code yX12_lampsOn cX12_lampsOn 5 (some (Jvm.ClassFile.FieldType.int)) ∈ lw_good := lw_in (i := 1164) (by decide +kernel) rfl
theorem w1165 : Cond.methodLink RL 83 yX12_phase ∈ lw_good := lw_in (i := 1165) (by decide +kernel) rfl
theorem w1166 : Cond.instanceMethod yX12_phase ∈ lw_good := lw_in (i := 1166) (by decide +kernel) rfl
theorem w1167 : Cond.selects RX12 yX12_phase yX12_phase ∈ lw_good := lw_in (i := 1167) (by decide +kernel) rfl
theorem w1168 : Cond.code yX12_phase cX12_phase 4 (some (Jvm.ClassFile.FieldType.int)) ∈ lw_good := lw_in (i := 1168) (by decide +kernel) rfl
theorem w1169 : Cond.methodLink RX12 168 yX12_dimmersOf ∈ lw_good := lw_in (i := 1169) (by decide +kernel) rfl
theorem w1171 : Cond.instanceMethod yX12_dimmersOf ∈ lw_good := lw_in (i := 1171) (by decide +kernel) rfl
theorem w1172 : Cond.code yX12_dimmersOf cX12_dimmersOf 5 (some (Jvm.ClassFile.FieldType.int)) ∈ lw_good := lw_in (i := 1172) (by decide +kernel) rfl
theorem w1173 : Cond.methodLink RL 87 yX12_cue ∈ lw_good := lw_in (i := 1173) (by decide +kernel) rfl
theorem w1174 : Cond.instanceMethod yX12_cue ∈ lw_good := lw_in (i := 1174) (by decide +kernel) rfl
theorem w1175 : Cond.selects RX12 yX12_cue yX12_cue ∈ lw_good := lw_in (i := 1175) (by decide +kernel) rfl
theorem w1176 : Cond.code yX12_cue cX12_cue 5 (some (Jvm.ClassFile.FieldType.int)) ∈ lw_good := lw_in (i := 1176) (by decide +kernel) rfl
theorem w1177 : Cond.methodLink RL 91 yX12_inCue ∈ lw_good := lw_in (i := 1177) (by decide +kernel) rfl
theorem w1178 : Cond.instanceMethod yX12_inCue ∈ lw_good := lw_in (i := 1178) (by decide +kernel) rfl
theorem w1179 : Cond.selects RX12 yX12_inCue yX12_inCue ∈ lw_good := lw_in (i := 1179) (by decide +kernel) rfl
theorem w1180 : Cond.code yX12_inCue cX12_inCue 4 (some (Jvm.ClassFile.FieldType.int)) ∈ lw_good := lw_in (i := 1180) (by decide +kernel) rfl
theorem w1181 : Cond.methodLink RL 95 yX12_of ∈ lw_good := lw_in (i := 1181) (by decide +kernel) rfl
theorem w1182 : Cond.instanceMethod yX12_of ∈ lw_good := lw_in (i := 1182) (by decide +kernel) rfl
theorem w1183 : Cond.selects RX12 yX12_of yX12_of ∈ lw_good := lw_in (i := 1183) (by decide +kernel) rfl
theorem w1184 : Cond.code yX12_of cX12_of 3 (some (Jvm.ClassFile.FieldType.int)) ∈ lw_good := lw_in (i := 1184) (by decide +kernel) rfl
theorem w1185 : Cond.methodLink RX12 171 yX12_recorded ∈ lw_good := lw_in (i := 1185) (by decide +kernel) rfl
theorem w1187 : Cond.instanceMethod yX12_recorded ∈ lw_good := lw_in (i := 1187) (by decide +kernel) rfl
theorem w1188 : Cond.code yX12_recorded cX12_recorded 4 (some (Jvm.ClassFile.FieldType.int)) ∈ lw_good := lw_in (i := 1188) (by decide +kernel) rfl
theorem w1189 : Cond.methodLink RX12 174 yX12_loadOf ∈ lw_good := lw_in (i := 1189) (by decide +kernel) rfl
theorem w1191 : Cond.instanceMethod yX12_loadOf ∈ lw_good := lw_in (i := 1191) (by decide +kernel) rfl
theorem w1192 : Cond.code yX12_loadOf cX12_loadOf 2 (some (Jvm.ClassFile.FieldType.int)) ∈ lw_good := lw_in (i := 1192) (by decide +kernel) rfl
theorem w1193 : Cond.methodLink RX12 177 yX12_tripped ∈ lw_good := lw_in (i := 1193) (by decide +kernel) rfl
theorem w1195 : Cond.instanceMethod yX12_tripped ∈ lw_good := lw_in (i := 1195) (by decide +kernel) rfl
theorem w1196 : Cond.code yX12_tripped cX12_tripped 6 (some (Jvm.ClassFile.FieldType.int)) ∈ lw_good := lw_in (i := 1196) (by decide +kernel) rfl
theorem w1197 : Cond.methodLink RX12 180 yX12_apart ∈ lw_good := lw_in (i := 1197) (by decide +kernel) rfl
theorem w1199 : Cond.instanceMethod yX12_apart ∈ lw_good := lw_in (i := 1199) (by decide +kernel) rfl
theorem w1200 : Cond.code yX12_apart cX12_apart 6 (some (Jvm.ClassFile.FieldType.int)) ∈ lw_good := lw_in (i := 1200) (by decide +kernel) rfl
theorem w1201 : Cond.methodLink RL 99 yX12_hire ∈ lw_good := lw_in (i := 1201) (by decide +kernel) rfl
theorem w1202 : Cond.instanceMethod yX12_hire ∈ lw_good := lw_in (i := 1202) (by decide +kernel) rfl
theorem w1203 : Cond.selects RX12 yX12_hire yX12_hire ∈ lw_good := lw_in (i := 1203) (by decide +kernel) rfl
theorem w1204 : Cond.code yX12_hire cX12_hire 4 (some (Jvm.ClassFile.FieldType.int)) ∈ lw_good := lw_in (i := 1204) (by decide +kernel) rfl
theorem w1205 : Cond.methodLink RX12 186 yX12_hired ∈ lw_good := lw_in (i := 1205) (by decide +kernel) rfl
theorem w1207 : Cond.instanceMethod yX12_hired ∈ lw_good := lw_in (i := 1207) (by decide +kernel) rfl
theorem w1208 : Cond.code yX12_hired cX12_hired 7 (some (Jvm.ClassFile.FieldType.int)) ∈ lw_good := lw_in (i := 1208) (by decide +kernel) rfl
theorem w1209 : Cond.methodLink RX12 183 yX12_needed ∈ lw_good := lw_in (i := 1209) (by decide +kernel) rfl
theorem w1211 : Cond.instanceMethod yX12_needed ∈ lw_good := lw_in (i := 1211) (by decide +kernel) rfl
theorem w1212 : Cond.code yX12_needed cX12_needed 6 (some (Jvm.ClassFile.FieldType.int)) ∈ lw_good := lw_in (i := 1212) (by decide +kernel) rfl
theorem w1213 : Cond.methodLink RL 103 yX12_count ∈ lw_good := lw_in (i := 1213) (by decide +kernel) rfl
theorem w1214 : Cond.instanceMethod yX12_count ∈ lw_good := lw_in (i := 1214) (by decide +kernel) rfl
theorem w1215 : Cond.selects RX12 yX12_count yX12_count ∈ lw_good := lw_in (i := 1215) (by decide +kernel) rfl
theorem w1216 : Cond.code yX12_count cX12_count 2 (some (Jvm.ClassFile.FieldType.int)) ∈ lw_good := lw_in (i := 1216) (by decide +kernel) rfl
theorem w1217 : Cond.methodLink RX12 189 yX12_sum ∈ lw_good := lw_in (i := 1217) (by decide +kernel) rfl
theorem w1219 : Cond.instanceMethod yX12_sum ∈ lw_good := lw_in (i := 1219) (by decide +kernel) rfl
theorem w1220 : Cond.code yX12_sum cX12_sum 4 (some (Jvm.ClassFile.FieldType.int)) ∈ lw_good := lw_in (i := 1220) (by decide +kernel) rfl
theorem w1221 : Cond.methodLink RX12 192 yX12_fullest ∈ lw_good := lw_in (i := 1221) (by decide +kernel) rfl
theorem w1223 : Cond.instanceMethod yX12_fullest ∈ lw_good := lw_in (i := 1223) (by decide +kernel) rfl
theorem w1224 : Cond.code yX12_fullest cX12_fullest 6 (some (Jvm.ClassFile.FieldType.int)) ∈ lw_good := lw_in (i := 1224) (by decide +kernel) rfl
theorem w1225 : Cond.methodLink RL 107 yX12_ifGo ∈ lw_good := lw_in (i := 1225) (by decide +kernel) rfl
theorem w1226 : Cond.instanceMethod yX12_ifGo ∈ lw_good := lw_in (i := 1226) (by decide +kernel) rfl
theorem w1227 : Cond.selects RX12 yX12_ifGo yX12_ifGo ∈ lw_good := lw_in (i := 1227) (by decide +kernel) rfl
theorem w1228 : Cond.code yX12_ifGo cX12_ifGo 4 (some (Jvm.ClassFile.FieldType.int)) ∈ lw_good := lw_in (i := 1228) (by decide +kernel) rfl
theorem w1229 : Cond.methodLink RX12 214 yX12_tryOut ∈ lw_good := lw_in (i := 1229) (by decide +kernel) rfl
theorem w1231 : Cond.instanceMethod yX12_tryOut ∈ lw_good := lw_in (i := 1231) (by decide +kernel) rfl
theorem w1232 : Cond.code yX12_tryOut cX12_tryOut 8 none ∈ lw_good := lw_in (i := 1232) (by decide +kernel) rfl
theorem w1233 : Cond.methodLink RX12 196 yX12_putAside ∈ lw_good := lw_in (i := 1233) (by decide +kernel) rfl
theorem w1235 : Cond.instanceMethod yX12_putAside ∈ lw_good := lw_in (i := 1235) (by decide +kernel) rfl
theorem w1236 : Cond.code yX12_putAside cX12_putAside 2 none ∈ lw_good := lw_in (i := 1236) (by decide +kernel) rfl
theorem w1237 : Cond.methodLink RX12 211 yX12_putBack ∈ lw_good := lw_in (i := 1237) (by decide +kernel) rfl
theorem w1239 : Cond.instanceMethod yX12_putBack ∈ lw_good := lw_in (i := 1239) (by decide +kernel) rfl
theorem w1240 : Cond.code yX12_putBack cX12_putBack 2 none ∈ lw_good := lw_in (i := 1240) (by decide +kernel) rfl
theorem w1241 : Cond.methodLink RL 111 yX12_safeTicks ∈ lw_good := lw_in (i := 1241) (by decide +kernel) rfl
theorem w1242 : Cond.instanceMethod yX12_safeTicks ∈ lw_good := lw_in (i := 1242) (by decide +kernel) rfl
theorem w1243 : Cond.selects RX12 yX12_safeTicks yX12_safeTicks ∈ lw_good := lw_in (i := 1243) (by decide +kernel) rfl
theorem w1244 : Cond.code yX12_safeTicks cX12_safeTicks 5 (some (Jvm.ClassFile.FieldType.int)) ∈ lw_good := lw_in (i := 1244) (by decide +kernel) rfl
theorem w1245 : Cond.methodLink RL 115 yX12_bestFeed ∈ lw_good := lw_in (i := 1245) (by decide +kernel) rfl
theorem w1246 : Cond.instanceMethod yX12_bestFeed ∈ lw_good := lw_in (i := 1246) (by decide +kernel) rfl
theorem w1247 : Cond.selects RX12 yX12_bestFeed yX12_bestFeed ∈ lw_good := lw_in (i := 1247) (by decide +kernel) rfl
theorem w1248 : Cond.code yX12_bestFeed cX12_bestFeed 10 (some (Jvm.ClassFile.FieldType.int)) ∈ lw_good := lw_in (i := 1248) (by decide +kernel) rfl
theorem w1249 : Cond.methodLink RL 119 yX12_ifDays ∈ lw_good := lw_in (i := 1249) (by decide +kernel) rfl
theorem w1250 : Cond.instanceMethod yX12_ifDays ∈ lw_good := lw_in (i := 1250) (by decide +kernel) rfl
theorem w1251 : Cond.selects RX12 yX12_ifDays yX12_ifDays ∈ lw_good := lw_in (i := 1251) (by decide +kernel) rfl
theorem w1252 : Cond.code yX12_ifDays cX12_ifDays 7 (some (Jvm.ClassFile.FieldType.int)) ∈ lw_good := lw_in (i := 1252) (by decide +kernel) rfl
theorem w1253 : Cond.methodLink RL 139 yX12_undo ∈ lw_good := lw_in (i := 1253) (by decide +kernel) rfl
theorem w1254 : Cond.instanceMethod yX12_undo ∈ lw_good := lw_in (i := 1254) (by decide +kernel) rfl
theorem w1255 : Cond.selects RX12 yX12_undo yX12_undo ∈ lw_good := lw_in (i := 1255) (by decide +kernel) rfl
theorem w1256 : Cond.code yX12_undo cX12_undo 2 (some (Jvm.ClassFile.FieldType.int)) ∈ lw_good := lw_in (i := 1256) (by decide +kernel) rfl
theorem w1257 : Cond.methodLink RL 143 yX12_save ∈ lw_good := lw_in (i := 1257) (by decide +kernel) rfl
theorem w1258 : Cond.instanceMethod yX12_save ∈ lw_good := lw_in (i := 1258) (by decide +kernel) rfl
theorem w1259 : Cond.selects RX12 yX12_save yX12_save ∈ lw_good := lw_in (i := 1259) (by decide +kernel) rfl
theorem w1260 : Cond.code yX12_save cX12_save 3 (some (Jvm.ClassFile.FieldType.int)) ∈ lw_good := lw_in (i := 1260) (by decide +kernel) rfl
theorem w1261 : Cond.methodLink RX12 217 yX12_lamps ∈ lw_good := lw_in (i := 1261) (by decide +kernel) rfl
theorem w1263 : Cond.instanceMethod yX12_lamps ∈ lw_good := lw_in (i := 1263) (by decide +kernel) rfl
theorem w1264 : Cond.code yX12_lamps cX12_lamps 1 (some (Jvm.ClassFile.FieldType.int)) ∈ lw_good := lw_in (i := 1264) (by decide +kernel) rfl
theorem w1265 : Cond.methodLink RL 147 yX12_restore ∈ lw_good := lw_in (i := 1265) (by decide +kernel) rfl
theorem w1266 : Cond.instanceMethod yX12_restore ∈ lw_good := lw_in (i := 1266) (by decide +kernel) rfl
theorem w1267 : Cond.selects RX12 yX12_restore yX12_restore ∈ lw_good := lw_in (i := 1267) (by decide +kernel) rfl
theorem w1268 : Cond.code yX12_restore cX12_restore 3 (some (Jvm.ClassFile.FieldType.int)) ∈ lw_good := lw_in (i := 1268) (by decide +kernel) rfl
theorem w1269 : Cond.constantLong RL 120 4294967295 ∈ lw_good := lw_in (i := 1269) (by decide +kernel) rfl
theorem wp0 : Cond.selects RX2 yX2_dropOldest yX2_dropOldest ∈ lw_good := lw_inP (i := 0) (by decide +kernel) rfl
theorem wp1 : Cond.selects RX3 yX3_add yX3_add ∈ lw_good := lw_inP (i := 1) (by decide +kernel) rfl
theorem wp2 : Cond.selects RX6 yX6_isFed yX6_isFed ∈ lw_good := lw_inP (i := 2) (by decide +kernel) rfl
theorem wp3 : Cond.selects RX4 yX4_stepTo yX4_stepTo ∈ lw_good := lw_inP (i := 3) (by decide +kernel) rfl
theorem wp4 : Cond.selects RX4 yX4_readOrder yX4_readOrder ∈ lw_good := lw_inP (i := 4) (by decide +kernel) rfl
theorem wp5 : Cond.selects RX4 yX4_take yX4_take ∈ lw_good := lw_inP (i := 5) (by decide +kernel) rfl
theorem wp6 : Cond.selects RX4 yX4_readRecord yX4_readRecord ∈ lw_good := lw_inP (i := 6) (by decide +kernel) rfl
theorem wp7 : Cond.selects RX4 yX4_readNumber yX4_readNumber ∈ lw_good := lw_inP (i := 7) (by decide +kernel) rfl
theorem wp8 : Cond.selects RX4 yX4_digitHere yX4_digitHere ∈ lw_good := lw_inP (i := 8) (by decide +kernel) rfl
theorem wp9 : Cond.selects RX4 yX4_note yX4_note ∈ lw_good := lw_inP (i := 9) (by decide +kernel) rfl
theorem wp10 : Cond.selects RX4 yX4_readGo yX4_readGo ∈ lw_good := lw_inP (i := 10) (by decide +kernel) rfl
theorem wp11 : Cond.selects RX4 yX4_readLevels yX4_readLevels ∈ lw_good := lw_inP (i := 11) (by decide +kernel) rfl
theorem wp12 : Cond.selects RX4 yX4_readSpan yX4_readSpan ∈ lw_good := lw_inP (i := 12) (by decide +kernel) rfl
theorem wp13 : Cond.selects RX4 yX4_carryOneOut yX4_carryOneOut ∈ lw_good := lw_inP (i := 13) (by decide +kernel) rfl
theorem wp14 : Cond.selects RX4 yX4_changeLevels yX4_changeLevels ∈ lw_good := lw_inP (i := 14) (by decide +kernel) rfl
theorem wp15 : Cond.selects RX4 yX4_changeSpan yX4_changeSpan ∈ lw_good := lw_inP (i := 15) (by decide +kernel) rfl
theorem wp16 : Cond.selects RX4 yX4_startRecorded yX4_startRecorded ∈ lw_good := lw_inP (i := 16) (by decide +kernel) rfl
theorem wp17 : Cond.selects RX11 yX11_loadByCue yX11_loadByCue ∈ lw_good := lw_inP (i := 17) (by decide +kernel) rfl
theorem wp18 : Cond.selects RX7 yX7_neededOn yX7_neededOn ∈ lw_good := lw_inP (i := 18) (by decide +kernel) rfl
theorem wp19 : Cond.selects RX8 yX8_begin yX8_begin ∈ lw_good := lw_inP (i := 19) (by decide +kernel) rfl
theorem wp20 : Cond.selects RX12 yX12_know yX12_know ∈ lw_good := lw_inP (i := 20) (by decide +kernel) rfl
theorem wp21 : Cond.selects RX12 yX12_isLamp yX12_isLamp ∈ lw_good := lw_inP (i := 21) (by decide +kernel) rfl
theorem wp22 : Cond.selects RX12 yX12_worst yX12_worst ∈ lw_good := lw_inP (i := 22) (by decide +kernel) rfl
theorem wp23 : Cond.selects RX12 yX12_loadBy yX12_loadBy ∈ lw_good := lw_inP (i := 23) (by decide +kernel) rfl
theorem wp24 : Cond.selects RX12 yX12_watts yX12_watts ∈ lw_good := lw_inP (i := 24) (by decide +kernel) rfl
theorem wp25 : Cond.selects RX12 yX12_atFault yX12_atFault ∈ lw_good := lw_inP (i := 25) (by decide +kernel) rfl
theorem wp26 : Cond.selects RX12 yX12_recordFault yX12_recordFault ∈ lw_good := lw_inP (i := 26) (by decide +kernel) rfl
theorem wp27 : Cond.selects RX12 yX12_records yX12_records ∈ lw_good := lw_inP (i := 27) (by decide +kernel) rfl
theorem wp28 : Cond.selects RX12 yX12_goFault yX12_goFault ∈ lw_good := lw_inP (i := 28) (by decide +kernel) rfl
theorem wp29 : Cond.selects RX12 yX12_start yX12_start ∈ lw_good := lw_inP (i := 29) (by decide +kernel) rfl
theorem wp30 : Cond.selects RX12 yX12_resets yX12_resets ∈ lw_good := lw_inP (i := 30) (by decide +kernel) rfl
theorem wp31 : Cond.selects RX12 yX12_turn yX12_turn ∈ lw_good := lw_inP (i := 31) (by decide +kernel) rfl
theorem wp32 : Cond.selects RX12 yX12_trip yX12_trip ∈ lw_good := lw_inP (i := 32) (by decide +kernel) rfl
theorem wp33 : Cond.selects RX12 yX12_load yX12_load ∈ lw_good := lw_inP (i := 33) (by decide +kernel) rfl
theorem wp34 : Cond.selects RX12 yX12_loadOfLamp yX12_loadOfLamp ∈ lw_good := lw_inP (i := 34) (by decide +kernel) rfl
theorem wp35 : Cond.selects RX12 yX12_goThrough yX12_goThrough ∈ lw_good := lw_inP (i := 35) (by decide +kernel) rfl
theorem wp36 : Cond.selects RX12 yX12_order yX12_order ∈ lw_good := lw_inP (i := 36) (by decide +kernel) rfl
theorem wp37 : Cond.selects RX12 yX12_readLamps yX12_readLamps ∈ lw_good := lw_inP (i := 37) (by decide +kernel) rfl
theorem wp38 : Cond.selects RX12 yX12_number yX12_number ∈ lw_good := lw_inP (i := 38) (by decide +kernel) rfl
theorem wp39 : Cond.selects RX12 yX12_sign yX12_sign ∈ lw_good := lw_inP (i := 39) (by decide +kernel) rfl
theorem wp40 : Cond.selects RX12 yX12_isNext yX12_isNext ∈ lw_good := lw_inP (i := 40) (by decide +kernel) rfl
theorem wp41 : Cond.selects RX12 yX12_does yX12_does ∈ lw_good := lw_inP (i := 41) (by decide +kernel) rfl
theorem wp42 : Cond.selects RX12 yX12_wants yX12_wants ∈ lw_good := lw_inP (i := 42) (by decide +kernel) rfl
theorem wp43 : Cond.selects RX12 yX12_lampsOn yX12_lampsOn ∈ lw_good := lw_inP (i := 43) (by decide +kernel) rfl
theorem wp44 : Cond.selects RX12 yX12_dimmersOf yX12_dimmersOf ∈ lw_good := lw_inP (i := 44) (by decide +kernel) rfl
theorem wp45 : Cond.selects RX12 yX12_recorded yX12_recorded ∈ lw_good := lw_inP (i := 45) (by decide +kernel) rfl
theorem wp46 : Cond.selects RX12 yX12_loadOf yX12_loadOf ∈ lw_good := lw_inP (i := 46) (by decide +kernel) rfl
theorem wp47 : Cond.selects RX12 yX12_tripped yX12_tripped ∈ lw_good := lw_inP (i := 47) (by decide +kernel) rfl
theorem wp48 : Cond.selects RX12 yX12_apart yX12_apart ∈ lw_good := lw_inP (i := 48) (by decide +kernel) rfl
theorem wp49 : Cond.selects RX12 yX12_hired yX12_hired ∈ lw_good := lw_inP (i := 49) (by decide +kernel) rfl
theorem wp50 : Cond.selects RX12 yX12_needed yX12_needed ∈ lw_good := lw_inP (i := 50) (by decide +kernel) rfl
theorem wp51 : Cond.selects RX12 yX12_sum yX12_sum ∈ lw_good := lw_inP (i := 51) (by decide +kernel) rfl
theorem wp52 : Cond.selects RX12 yX12_fullest yX12_fullest ∈ lw_good := lw_inP (i := 52) (by decide +kernel) rfl
theorem wp53 : Cond.selects RX12 yX12_tryOut yX12_tryOut ∈ lw_good := lw_inP (i := 53) (by decide +kernel) rfl
theorem wp54 : Cond.selects RX12 yX12_putAside yX12_putAside ∈ lw_good := lw_inP (i := 54) (by decide +kernel) rfl
theorem wp55 : Cond.selects RX12 yX12_putBack yX12_putBack ∈ lw_good := lw_inP (i := 55) (by decide +kernel) rfl
theorem wp56 : Cond.selects RX12 yX12_lamps yX12_lamps ∈ lw_good := lw_inP (i := 56) (by decide +kernel) rfl
theorem inRX0 : ∀ w ∈ u_ws RX0 TX0 2, w ∈ lw_good := by
  show ∀ w ∈ [u_lay RX0 TX0 0, u_lay RX0 TX0 1], w ∈ lw_good
  exact List.forall_mem_cons.mpr ⟨w99, List.forall_mem_cons.mpr ⟨w101, (fun _ h => absurd h List.not_mem_nil)⟩⟩
theorem inRX1 : ∀ w ∈ u_ws RX1 TX1 4, w ∈ lw_good := by
  show ∀ w ∈ [u_lay RX1 TX1 0, u_lay RX1 TX1 1, u_lay RX1 TX1 2, u_lay RX1 TX1 3], w ∈ lw_good
  exact List.forall_mem_cons.mpr ⟨w80, List.forall_mem_cons.mpr ⟨w82, List.forall_mem_cons.mpr ⟨w84, List.forall_mem_cons.mpr ⟨w86, (fun _ h => absurd h List.not_mem_nil)⟩⟩⟩⟩
theorem inRX2 : ∀ w ∈ u_ws RX2 TX2 2, w ∈ lw_good := by
  show ∀ w ∈ [u_lay RX2 TX2 0, u_lay RX2 TX2 1], w ∈ lw_good
  exact List.forall_mem_cons.mpr ⟨w191, List.forall_mem_cons.mpr ⟨w193, (fun _ h => absurd h List.not_mem_nil)⟩⟩
theorem inRX3 : ∀ w ∈ u_ws RX3 TX3 2, w ∈ lw_good := by
  show ∀ w ∈ [u_lay RX3 TX3 0, u_lay RX3 TX3 1], w ∈ lw_good
  exact List.forall_mem_cons.mpr ⟨w270, List.forall_mem_cons.mpr ⟨w272, (fun _ h => absurd h List.not_mem_nil)⟩⟩
theorem inRX4 : ∀ w ∈ u_ws RX4 TX4 11, w ∈ lw_good := by
  show ∀ w ∈ [u_lay RX4 TX4 0, u_lay RX4 TX4 1, u_lay RX4 TX4 2, u_lay RX4 TX4 3, u_lay RX4 TX4 4, u_lay RX4 TX4 5, u_lay RX4 TX4 6, u_lay RX4 TX4 7, u_lay RX4 TX4 8, u_lay RX4 TX4 9, u_lay RX4 TX4 10], w ∈ lw_good
  exact List.forall_mem_cons.mpr ⟨w231, List.forall_mem_cons.mpr ⟨w233, List.forall_mem_cons.mpr ⟨w235, List.forall_mem_cons.mpr ⟨w237, List.forall_mem_cons.mpr ⟨w239, List.forall_mem_cons.mpr ⟨w241, List.forall_mem_cons.mpr ⟨w243, List.forall_mem_cons.mpr ⟨w245, List.forall_mem_cons.mpr ⟨w247, List.forall_mem_cons.mpr ⟨w249, List.forall_mem_cons.mpr ⟨w251, (fun _ h => absurd h List.not_mem_nil)⟩⟩⟩⟩⟩⟩⟩⟩⟩⟩⟩
theorem inRX5 : ∀ w ∈ u_ws RX5 TX5 2, w ∈ lw_good := by
  show ∀ w ∈ [u_lay RX5 TX5 0, u_lay RX5 TX5 1], w ∈ lw_good
  exact List.forall_mem_cons.mpr ⟨w213, List.forall_mem_cons.mpr ⟨w215, (fun _ h => absurd h List.not_mem_nil)⟩⟩
theorem inRX6 : ∀ w ∈ u_ws RX6 TX6 13, w ∈ lw_good := by
  show ∀ w ∈ [u_lay RX6 TX6 0, u_lay RX6 TX6 1, u_lay RX6 TX6 2, u_lay RX6 TX6 3, u_lay RX6 TX6 4, u_lay RX6 TX6 5, u_lay RX6 TX6 6, u_lay RX6 TX6 7, u_lay RX6 TX6 8, u_lay RX6 TX6 9, u_lay RX6 TX6 10, u_lay RX6 TX6 11, u_lay RX6 TX6 12], w ∈ lw_good
  exact List.forall_mem_cons.mpr ⟨w136, List.forall_mem_cons.mpr ⟨w138, List.forall_mem_cons.mpr ⟨w140, List.forall_mem_cons.mpr ⟨w142, List.forall_mem_cons.mpr ⟨w144, List.forall_mem_cons.mpr ⟨w146, List.forall_mem_cons.mpr ⟨w148, List.forall_mem_cons.mpr ⟨w150, List.forall_mem_cons.mpr ⟨w152, List.forall_mem_cons.mpr ⟨w154, List.forall_mem_cons.mpr ⟨w156, List.forall_mem_cons.mpr ⟨w158, List.forall_mem_cons.mpr ⟨w160, (fun _ h => absurd h List.not_mem_nil)⟩⟩⟩⟩⟩⟩⟩⟩⟩⟩⟩⟩⟩
theorem inRX7 : ∀ w ∈ u_ws RX7 TX7 3, w ∈ lw_good := by
  show ∀ w ∈ [u_lay RX7 TX7 0, u_lay RX7 TX7 1, u_lay RX7 TX7 2], w ∈ lw_good
  exact List.forall_mem_cons.mpr ⟨w172, List.forall_mem_cons.mpr ⟨w174, List.forall_mem_cons.mpr ⟨w176, (fun _ h => absurd h List.not_mem_nil)⟩⟩⟩
theorem inRX8 : ∀ w ∈ u_ws RX8 TX8 5, w ∈ lw_good := by
  show ∀ w ∈ [u_lay RX8 TX8 0, u_lay RX8 TX8 1, u_lay RX8 TX8 2, u_lay RX8 TX8 3, u_lay RX8 TX8 4], w ∈ lw_good
  exact List.forall_mem_cons.mpr ⟨w308, List.forall_mem_cons.mpr ⟨w310, List.forall_mem_cons.mpr ⟨w312, List.forall_mem_cons.mpr ⟨w314, List.forall_mem_cons.mpr ⟨w316, (fun _ h => absurd h List.not_mem_nil)⟩⟩⟩⟩⟩
theorem inRX9 : ∀ w ∈ u_ws RX9 TX9 4, w ∈ lw_good := by
  show ∀ w ∈ [u_lay RX9 TX9 0, u_lay RX9 TX9 1, u_lay RX9 TX9 2, u_lay RX9 TX9 3], w ∈ lw_good
  exact List.forall_mem_cons.mpr ⟨w51, List.forall_mem_cons.mpr ⟨w53, List.forall_mem_cons.mpr ⟨w55, List.forall_mem_cons.mpr ⟨w57, (fun _ h => absurd h List.not_mem_nil)⟩⟩⟩⟩
theorem inRX10 : ∀ w ∈ u_ws RX10 TX10 2, w ∈ lw_good := by
  show ∀ w ∈ [u_lay RX10 TX10 0, u_lay RX10 TX10 1], w ∈ lw_good
  exact List.forall_mem_cons.mpr ⟨w286, List.forall_mem_cons.mpr ⟨w288, (fun _ h => absurd h List.not_mem_nil)⟩⟩
theorem inRX11 : ∀ w ∈ u_ws RX11 TX11 9, w ∈ lw_good := by
  show ∀ w ∈ [u_lay RX11 TX11 0, u_lay RX11 TX11 1, u_lay RX11 TX11 2, u_lay RX11 TX11 3, u_lay RX11 TX11 4, u_lay RX11 TX11 5, u_lay RX11 TX11 6, u_lay RX11 TX11 7, u_lay RX11 TX11 8], w ∈ lw_good
  exact List.forall_mem_cons.mpr ⟨w328, List.forall_mem_cons.mpr ⟨w330, List.forall_mem_cons.mpr ⟨w332, List.forall_mem_cons.mpr ⟨w334, List.forall_mem_cons.mpr ⟨w336, List.forall_mem_cons.mpr ⟨w338, List.forall_mem_cons.mpr ⟨w340, List.forall_mem_cons.mpr ⟨w342, List.forall_mem_cons.mpr ⟨w344, (fun _ h => absurd h List.not_mem_nil)⟩⟩⟩⟩⟩⟩⟩⟩⟩
theorem inRX12 : ∀ w ∈ u_ws RX12 TX12 21, w ∈ lw_good := by
  show ∀ w ∈ [u_lay RX12 TX12 0, u_lay RX12 TX12 1, u_lay RX12 TX12 2, u_lay RX12 TX12 3, u_lay RX12 TX12 4, u_lay RX12 TX12 5, u_lay RX12 TX12 6, u_lay RX12 TX12 7, u_lay RX12 TX12 8, u_lay RX12 TX12 9, u_lay RX12 TX12 10, u_lay RX12 TX12 11, u_lay RX12 TX12 12, u_lay RX12 TX12 13, u_lay RX12 TX12 14, u_lay RX12 TX12 15, u_lay RX12 TX12 16, u_lay RX12 TX12 17, u_lay RX12 TX12 18, u_lay RX12 TX12 19, u_lay RX12 TX12 20], w ∈ lw_good
  exact List.forall_mem_cons.mpr ⟨w930, List.forall_mem_cons.mpr ⟨w932, List.forall_mem_cons.mpr ⟨w934, List.forall_mem_cons.mpr ⟨w936, List.forall_mem_cons.mpr ⟨w938, List.forall_mem_cons.mpr ⟨w940, List.forall_mem_cons.mpr ⟨w942, List.forall_mem_cons.mpr ⟨w944, List.forall_mem_cons.mpr ⟨w946, List.forall_mem_cons.mpr ⟨w948, List.forall_mem_cons.mpr ⟨w950, List.forall_mem_cons.mpr ⟨w952, List.forall_mem_cons.mpr ⟨w954, List.forall_mem_cons.mpr ⟨w956, List.forall_mem_cons.mpr ⟨w958, List.forall_mem_cons.mpr ⟨w960, List.forall_mem_cons.mpr ⟨w962, List.forall_mem_cons.mpr ⟨w964, List.forall_mem_cons.mpr ⟨w966, List.forall_mem_cons.mpr ⟨w968, List.forall_mem_cons.mpr ⟨w970, (fun _ h => absurd h List.not_mem_nil)⟩⟩⟩⟩⟩⟩⟩⟩⟩⟩⟩⟩⟩⟩⟩⟩⟩⟩⟩⟩⟩
def nestW : List Cond := [Cond.fieldLinkNest RX7 9 "PhaseLights" "FIRST_SETTING" "[I" "PhaseLights", Cond.methodLinkNest RX7 25 yX9_init "PhaseLights", Cond.methodLinkNest RX6 37 yX1_init "PhaseLights", Cond.methodLinkNest RX11 29 yX4_init "PhaseLights", Cond.methodLinkNest RX4 11 yX5_init "PhaseLights", Cond.methodLinkNest RX11 41 yX3_init "PhaseLights", Cond.methodLinkNest RX11 48 yX10_init "PhaseLights", Cond.methodLinkNest RX10 11 yX3_init "PhaseLights", Cond.methodLinkNest RX11 55 yX8_init "PhaseLights", Cond.methodLinkNest RX7 41 yX11_copy "PhaseLights", Cond.methodLinkNest RX9 33 yX11_copy "PhaseLights", Cond.methodLinkNest RX6 64 yX11_copy "PhaseLights", Cond.methodLinkNest RX1 25 yX11_copy "PhaseLights", Cond.methodLinkNest RX0 29 yX11_copy "PhaseLights", Cond.methodLinkNest RX7 37 yX11_isIn "PhaseLights", Cond.methodLinkNest RX6 87 yX11_closeGap "PhaseLights", Cond.methodLinkNest RX1 29 yX11_closeGap "PhaseLights", Cond.methodLinkNest RX3 47 yX11_clear "PhaseLights", Cond.methodLinkNest RX6 95 yX11_isCue "PhaseLights", Cond.methodLinkNest RX3 58 yX11_isDimmer "PhaseLights", Cond.methodLinkNest RX3 61 yX11_isPhase "PhaseLights", Cond.methodLinkNest RX10 38 yX11_raise "PhaseLights", Cond.methodLinkNest RX6 159 yX11_clear "PhaseLights", Cond.methodLinkNest RX6 170 yX11_hasBit "PhaseLights", Cond.methodLinkNest RX0 23 yX11_clear "PhaseLights", Cond.methodLinkNest RX6 75 yX11_isIn "PhaseLights", Cond.methodLinkNest RX8 54 yX11_greatest "PhaseLights"]
theorem wn0 : Cond.fieldLinkNest RX7 9 "PhaseLights" "FIRST_SETTING" "[I" "PhaseLights" ∈ nestW := List.mem_of_getElem? (i := 0) rfl
theorem wn1 : Cond.methodLinkNest RX7 25 yX9_init "PhaseLights" ∈ nestW := List.mem_of_getElem? (i := 1) rfl
theorem wn2 : Cond.methodLinkNest RX6 37 yX1_init "PhaseLights" ∈ nestW := List.mem_of_getElem? (i := 2) rfl
theorem wn3 : Cond.methodLinkNest RX11 29 yX4_init "PhaseLights" ∈ nestW := List.mem_of_getElem? (i := 3) rfl
theorem wn4 : Cond.methodLinkNest RX4 11 yX5_init "PhaseLights" ∈ nestW := List.mem_of_getElem? (i := 4) rfl
theorem wn5 : Cond.methodLinkNest RX11 41 yX3_init "PhaseLights" ∈ nestW := List.mem_of_getElem? (i := 5) rfl
theorem wn6 : Cond.methodLinkNest RX11 48 yX10_init "PhaseLights" ∈ nestW := List.mem_of_getElem? (i := 6) rfl
theorem wn7 : Cond.methodLinkNest RX10 11 yX3_init "PhaseLights" ∈ nestW := List.mem_of_getElem? (i := 7) rfl
theorem wn8 : Cond.methodLinkNest RX11 55 yX8_init "PhaseLights" ∈ nestW := List.mem_of_getElem? (i := 8) rfl
theorem wn9 : Cond.methodLinkNest RX7 41 yX11_copy "PhaseLights" ∈ nestW := List.mem_of_getElem? (i := 9) rfl
theorem wn10 : Cond.methodLinkNest RX9 33 yX11_copy "PhaseLights" ∈ nestW := List.mem_of_getElem? (i := 10) rfl
theorem wn11 : Cond.methodLinkNest RX6 64 yX11_copy "PhaseLights" ∈ nestW := List.mem_of_getElem? (i := 11) rfl
theorem wn12 : Cond.methodLinkNest RX1 25 yX11_copy "PhaseLights" ∈ nestW := List.mem_of_getElem? (i := 12) rfl
theorem wn13 : Cond.methodLinkNest RX0 29 yX11_copy "PhaseLights" ∈ nestW := List.mem_of_getElem? (i := 13) rfl
theorem wn14 : Cond.methodLinkNest RX7 37 yX11_isIn "PhaseLights" ∈ nestW := List.mem_of_getElem? (i := 14) rfl
theorem wn15 : Cond.methodLinkNest RX6 87 yX11_closeGap "PhaseLights" ∈ nestW := List.mem_of_getElem? (i := 15) rfl
theorem wn16 : Cond.methodLinkNest RX1 29 yX11_closeGap "PhaseLights" ∈ nestW := List.mem_of_getElem? (i := 16) rfl
theorem wn17 : Cond.methodLinkNest RX3 47 yX11_clear "PhaseLights" ∈ nestW := List.mem_of_getElem? (i := 17) rfl
theorem wn18 : Cond.methodLinkNest RX6 95 yX11_isCue "PhaseLights" ∈ nestW := List.mem_of_getElem? (i := 18) rfl
theorem wn19 : Cond.methodLinkNest RX3 58 yX11_isDimmer "PhaseLights" ∈ nestW := List.mem_of_getElem? (i := 19) rfl
theorem wn20 : Cond.methodLinkNest RX3 61 yX11_isPhase "PhaseLights" ∈ nestW := List.mem_of_getElem? (i := 20) rfl
theorem wn21 : Cond.methodLinkNest RX10 38 yX11_raise "PhaseLights" ∈ nestW := List.mem_of_getElem? (i := 21) rfl
theorem wn22 : Cond.methodLinkNest RX6 159 yX11_clear "PhaseLights" ∈ nestW := List.mem_of_getElem? (i := 22) rfl
theorem wn23 : Cond.methodLinkNest RX6 170 yX11_hasBit "PhaseLights" ∈ nestW := List.mem_of_getElem? (i := 23) rfl
theorem wn24 : Cond.methodLinkNest RX0 23 yX11_clear "PhaseLights" ∈ nestW := List.mem_of_getElem? (i := 24) rfl
theorem wn25 : Cond.methodLinkNest RX6 75 yX11_isIn "PhaseLights" ∈ nestW := List.mem_of_getElem? (i := 25) rfl
theorem wn26 : Cond.methodLinkNest RX8 54 yX11_greatest "PhaseLights" ∈ nestW := List.mem_of_getElem? (i := 26) rfl
theorem nestW_in : ∀ w ∈ nestW, w ∈ tables_1 := by
  unfold nestW
  exact List.forall_mem_cons.mpr ⟨List.mem_of_getElem? (i := 30) (by decide +kernel), List.forall_mem_cons.mpr ⟨List.mem_of_getElem? (i := 41) (by decide +kernel), List.forall_mem_cons.mpr ⟨List.mem_of_getElem? (i := 72) (by decide +kernel), List.forall_mem_cons.mpr ⟨List.mem_of_getElem? (i := 198) (by decide +kernel), List.forall_mem_cons.mpr ⟨List.mem_of_getElem? (i := 204) (by decide +kernel), List.forall_mem_cons.mpr ⟨List.mem_of_getElem? (i := 256) (by decide +kernel), List.forall_mem_cons.mpr ⟨List.mem_of_getElem? (i := 277) (by decide +kernel), List.forall_mem_cons.mpr ⟨List.mem_of_getElem? (i := 282) (by decide +kernel), List.forall_mem_cons.mpr ⟨List.mem_of_getElem? (i := 293) (by decide +kernel), List.forall_mem_cons.mpr ⟨List.mem_of_getElem? (i := 370) (by decide +kernel), List.forall_mem_cons.mpr ⟨List.mem_of_getElem? (i := 377) (by decide +kernel), List.forall_mem_cons.mpr ⟨List.mem_of_getElem? (i := 382) (by decide +kernel), List.forall_mem_cons.mpr ⟨List.mem_of_getElem? (i := 387) (by decide +kernel), List.forall_mem_cons.mpr ⟨List.mem_of_getElem? (i := 392) (by decide +kernel), List.forall_mem_cons.mpr ⟨List.mem_of_getElem? (i := 414) (by decide +kernel), List.forall_mem_cons.mpr ⟨List.mem_of_getElem? (i := 454) (by decide +kernel), List.forall_mem_cons.mpr ⟨List.mem_of_getElem? (i := 464) (by decide +kernel), List.forall_mem_cons.mpr ⟨List.mem_of_getElem? (i := 488) (by decide +kernel), List.forall_mem_cons.mpr ⟨List.mem_of_getElem? (i := 495) (by decide +kernel), List.forall_mem_cons.mpr ⟨List.mem_of_getElem? (i := 524) (by decide +kernel), List.forall_mem_cons.mpr ⟨List.mem_of_getElem? (i := 525) (by decide +kernel), List.forall_mem_cons.mpr ⟨List.mem_of_getElem? (i := 526) (by decide +kernel), List.forall_mem_cons.mpr ⟨List.mem_of_getElem? (i := 533) (by decide +kernel), List.forall_mem_cons.mpr ⟨List.mem_of_getElem? (i := 537) (by decide +kernel), List.forall_mem_cons.mpr ⟨List.mem_of_getElem? (i := 593) (by decide +kernel), List.forall_mem_cons.mpr ⟨List.mem_of_getElem? (i := 775) (by decide +kernel), List.forall_mem_cons.mpr ⟨List.mem_of_getElem? (i := 838) (by decide +kernel), (fun _ h => absurd h List.not_mem_nil)⟩⟩⟩⟩⟩⟩⟩⟩⟩⟩⟩⟩⟩⟩⟩⟩⟩⟩⟩⟩⟩⟩⟩⟩⟩⟩⟩
def nestOk : Cond → Bool := fun w => match w with
  | .methodLinkNest _ _ _ _ => true
  | .fieldLinkNest _ _ _ _ _ _ => true
  | _ => false
theorem nestW_ok : ∀ w ∈ nestW, nestOk w = true := List.all_eq_true.mp (by decide +kernel)
end
section
/-! the picture: every cell of both systems, by the memories M (class) and N (reference) -/
abbrev GD : Type := va_G × (Nat → Nat) × (Nat → ClassId) × (Nat → Nat)
def obF (ad : Nat → Nat) (M N : Mem) (i : Nat) : Nat → List Value := fun c => match c with
  | 0 => [.ref (ad (rf i 0)), .int (M i 1)]
  | 1 => [.int (M i 0), .int (M i 1), .ref (ad (rf i 2)), .ref (ad (rf i 3))]
  | 2 => [.ref (ad (rf i 0)), .int (M i 1)]
  | 3 => [.ref (ad (rf i 0)), .ref (ad (rf i 1))]
  | 4 => [.ref (ad (rf i 0)), .int (M i 1), .int (M i 2), .int (M i 3), .ref (ad (rf i 4)), .ref (ad (rf i 5)), .ref (ad (rf i 6)), .ref (ad (rf i 7)), .int (M i 8), .ref (ad (rf i 9)), .ref (ad (rf i 10))]
  | 5 => [.ref (ad (rf i 0)), .int (M i 1)]
  | 6 => [.int (M i 0), .int (M i 1), .int (M i 2), .ref (ad (rf i 3)), .ref (ad (rf i 4)), .ref (ad (rf i 5)), .ref (ad (rf i 6)), .ref (ad (rf i 7)), .ref (ad (rf i 8)), .ref (ad (rf i 9)), .ref (ad (rf i 10)), .ref (ad (rf i 11)), .ref (ad (rf i 12))]
  | 7 => [.ref (ad (rf i 0)), .ref (ad (rf i 1)), .ref (ad (rf i 2))]
  | 8 => [.ref (ad (rf i 0)), .int (M i 1), .int (M i 2), .int (M i 3), .int (M i 4)]
  | 9 => [.int (M i 0), .ref (ad (rf i 1)), .ref (ad (rf i 2)), .ref (ad (rf i 3))]
  | 10 => [.ref (ad (rf i 0)), .ref (ad (rf i 1))]
  | 11 => [.ref (ad (rf i 0)), .ref (ad (rf i 1)), .ref (ad (rf i 2)), .int (M i 3), .ref (ad (rf i 4)), .ref (ad (rf i 5)), .ref (ad (rf i 6)), .ref (ad (rf i 7)), .ref (ad (rf i 8))]
  | _ => [.ref (ad (rf i 0)), .ref (ad (rf i 1)), .ref (ad (rf i 2)), .int (N i 3), .ref (ad (rf i 4)), .ref (ad (rf i 5)), .ref (ad (rf i 6)), .int (N i 7), .ref (ad (rf i 8)), .ref (ad (rf i 9)), .int (N i 10), .int (N i 11), .ref (ad (rf i 12)), .int (N i 13), .int (N i 14), .int (N i 15), .int (N i 16), .int (N i 17), .int (N i 18), .int (N i 19), .int (N i 20)]
def arE (ad : Nat → Nat) (cy : Nat → ClassId) (M N : Mem) (i : Nat) : Nat → va_E := fun t => match t with
  | 20 => .inl (cy 0, ln i, .inl (M i))
  | 30 => .inl (cy 0, ln i, .inl (N i))
  | 31 => .inl (cy 1, ln i, .inl (N i))
  | 22 => .inl (cy 2, ln i, .inr (.inr (.inr (.inr (fun j => some (ad (rf i j)))))))
  | 24 => .inl (cy 4, ln i, .inr (.inr (.inr (.inr (fun j => some (ad (rf i j)))))))
  | _ => .inl (cy 3, ln i, .inr (.inr (.inr (.inr (fun j => some (ad (M i j).toNatClampNeg))))))
def ent (ad : Nat → Nat) (cy : Nat → ClassId) (M N : Mem) (i : Nat) : va_E := if shp i < 20 then .inr (shp i, obF ad M N i (shp i)) else arE ad cy M N i (shp i)
def wl (ad : Nat → Nat) (cy : Nat → ClassId) (M N : Mem) : va_W := (List.range 741).map (fun i => (ad i, ent ad cy M N i))
theorem wl_len {ad : Nat → Nat} {cy : Nat → ClassId} {M N : Mem} : (wl ad cy M N).length = 741 := by
  unfold wl
  rw [List.length_map, List.length_range]
theorem wl_get {ad : Nat → Nat} {cy : Nat → ClassId} {M N : Mem} {i : Nat} (h : i < 741) : (wl ad cy M N)[i]? = some (ad i, ent ad cy M N i) := by
  unfold wl
  rw [List.getElem?_map, List.getElem?_range h]
  rfl
theorem wl_out {ad : Nat → Nat} {cy : Nat → ClassId} {M N : Mem} {i : Nat} {q : Nat × va_E} (h : (wl ad cy M N)[i]? = some q) : i < 741 ∧ q = (ad i, ent ad cy M N i) := by
  have hl := (List.getElem?_eq_some_iff.mp h).1
  unfold wl at hl
  rw [List.length_map, List.length_range] at hl
  exact ⟨hl, Option.some.inj (h.symm.trans (wl_get hl))⟩
theorem shp_lt {i t : Nat} (h : shp i = t) (ht : t < 99) : i < 741 := by
  refine Nat.not_le.mp fun q => ?_
  have h9 : shp i = 99 := by
    unfold shp
    rw [if_neg (by omega), if_neg (by omega), if_neg (by omega)]
  omega
theorem ent_ob {ad : Nat → Nat} {cy : Nat → ClassId} {M N : Mem} {i c : Nat} (h : shp i = c) (hc : c < 20) : ent ad cy M N i = .inr (c, obF ad M N i c) := by
  unfold ent
  rw [h, if_pos hc]
theorem ent_ar {ad : Nat → Nat} {cy : Nat → ClassId} {M N : Mem} {i t : Nat} (h : shp i = t) (ht : ¬ t < 20) : ent ad cy M N i = arE ad cy M N i t := by
  unfold ent
  rw [h, if_neg ht]
theorem obF_congr {ad : Nat → Nat} {M N M' N' : Mem} {i c : Nat} (h : M i = M' i) (h2 : N i = N' i) : obF ad M N i c = obF ad M' N' i c := by
  unfold obF
  rw [h, h2]
theorem arE_congr {ad : Nat → Nat} {cy : Nat → ClassId} {M N M' N' : Mem} {i c : Nat} (h : M i = M' i) (h2 : N i = N' i) : arE ad cy M N i c = arE ad cy M' N' i c := by
  unfold arE
  rw [h, h2]
theorem ent_congr {ad : Nat → Nat} {cy : Nat → ClassId} {M N M' N' : Mem} {i : Nat} (h : M i = M' i) (h2 : N i = N' i) : ent ad cy M N i = ent ad cy M' N' i := by
  unfold ent
  rw [obF_congr h h2, arE_congr h h2]
theorem up2_ne {M : Mem} {i j k : Nat} {v : Int32} (h : j ≠ i) : up2 M i k v j = M j := by
  funext q
  unfold up2
  rw [if_neg h]
theorem up2_row {M : Mem} {i k : Nat} {v : Int32} : up2 M i k v i = upd (M i) k v := by
  funext q
  unfold up2 upd
  rw [if_pos rfl]
/-- one entry anew: the rest stays -/
theorem wl_set {ad : Nat → Nat} {cy : Nat → ClassId} {M N M' N' : Mem} {i : Nat} {e : va_E} (hi : i < 741) (he : ent ad cy M' N' i = e) (ho : ∀ j, j ≠ i → M j = M' j ∧ N j = N' j) : (wl ad cy M N).set i (ad i, e) = wl ad cy M' N' := by
  refine List.ext_getElem? fun k => ?_
  by_cases hk : k = i
  · subst hk
    rw [wl_get hi, he, List.getElem?_set_self]
    rw [wl_len]
    exact hi
  · rw [List.getElem?_set_ne (Ne.symm hk)]
    by_cases hl : k < 741
    · rw [wl_get hl, wl_get hl, ent_congr (ho k hk).1 (ho k hk).2]
    · have e1 : ∀ A B : Mem, (wl ad cy A B)[k]? = none := fun A B => List.getElem?_eq_none (by rw [wl_len]; omega)
      rw [e1, e1]
/-- the cells that a call may change -/
def AG (ad : Nat → Nat) : Nat → Prop := fun q => ∃ i, i < 741 ∧ q = ad i
def tysW (cy : Nat → ClassId) : List (ClassId × FieldType) := [(cy 0, .int), (cy 1, .boolean), (cy 2, .object "PhaseLights$Premiere"), (cy 3, .object "PhaseLights$State"), (cy 4, .array .int)]
def Zo (A : Nat → Prop) (k t : Nat) (n : String) (U : State) (H : Heap) : Prop := va_Z "PhaseLights" n "[I" (.ref t) A U H ∧ va_T .int t 3 (fun j => .int (sta k j)) A U H
def Zs (A : Nat → Prop) (tt : Nat → Nat) (U : State) (H : Heap) : Prop := Zo A 0 (tt 0) "FIRST_SETTING" U H ∧ Zo A 1 (tt 1) "LEAST_SETTING" U H ∧ Zo A 2 (tt 2) "MOST_SETTING" U H
theorem Zo_moved {A : Nat → Prop} {k t : Nat} {n : String} {u U : State} {H : Heap} (hvm : u.vm.Alike U.vm) (h : Zo A k t n u H) : Zo A k t n U H := ⟨va_Z.moved hvm h.1, va_T.moved hvm h.2⟩
theorem Zo_kept {A : Nat → Prop} {k t : Nat} {n : String} {U : State} {H H1 : Heap} (h : Zo A k t n U H) (hq : ∀ a : Nat, a < H.size → ¬ A a → H1[a]? = H[a]?) : Zo A k t n U H1 := ⟨va_Z.kept h.1 hq, va_T.kept h.2 hq⟩
theorem Zs_moved {A : Nat → Prop} {tt : Nat → Nat} {u U : State} {H : Heap} (hvm : u.vm.Alike U.vm) (h : Zs A tt u H) : Zs A tt U H := ⟨Zo_moved hvm h.1, Zo_moved hvm h.2.1, Zo_moved hvm h.2.2⟩
theorem Zs_kept {A : Nat → Prop} {tt : Nat → Nat} {U : State} {H H1 : Heap} (h : Zs A tt U H) (hq : ∀ a : Nat, a < H.size → ¬ A a → H1[a]? = H[a]?) : Zs A tt U H1 := ⟨Zo_kept h.1 hq, Zo_kept h.2.1 hq, Zo_kept h.2.2 hq⟩
def Nw (U : State) : Prop := ∀ w ∈ nestW, va_Nw w U
theorem Nw_warm {s U : State} (hW : s.WarmedH U.vm) (h : Nw s) : Nw U := by
  intro w hw
  have h1 := h w hw
  have h2 := nestW_ok w hw
  cases w with
  | methodLinkNest a i x hh => exact va_Nw.warmM hW h1
  | fieldLinkNest a i b n d hh => exact va_Nw.warmF hW h1
  | _ => exact absurd h2 (by simp [nestOk])
theorem Nw_same {s U : State} (hv : s.vm = U.vm) (h : Nw s) : Nw U := by
  intro w hw
  have h1 := h w hw
  have h2 := nestW_ok w hw
  cases w with
  | methodLinkNest a i x hh => exact va_Nw.same rfl hv h1
  | fieldLinkNest a i b n d hh => exact va_Nw.same rfl hv h1
  | _ => exact absurd h2 (by simp [nestOk])
/-- the world of a call: the picture and what the tables say -/
def Wd (G : GD) (M N : Mem) (U : State) : Prop := va_P G.1 vwCl (wl G.2.1 G.2.2.1 M N) U.heap ∧ va_D (AG G.2.1) (wl G.2.1 G.2.2.1 M N) ∧ va_K G.1 vwCl (tysW G.2.2.1) U ∧ Nw U ∧ Zs (AG G.2.1) G.2.2.2 U U.heap
def WS (y : MethodName) (b : ByteArray) (n : Nat) (r : Option FieldType) : List Cond := Cond.code y b n r :: lw_good
def Rm (f k : Nat) : Room := { frames := f, cells := 0, slots := 0, locals := k }
/-- contracts: an int (or boolean) answer; none; a cell of the picture or null -/
def MI (l : Launch) (y : MethodName) (b : ByteArray) (n : Nat) (t : FieldType) (f k : Nat) (G : GD) (av : List Value) (M N : Mem) (r : Int32) (M' N' : Mem) : Prop :=
  Met l y (WS y b n (some t)) (Rm f k) (va_Pc av (Wd G M N)) (va_Qi (fun r' (_ : Unit) => r' = r) (fun _ t => Wd G M' N' t) (AG G.2.1)) 0 0 (AG G.2.1)
def MV (l : Launch) (y : MethodName) (b : ByteArray) (n : Nat) (f k : Nat) (G : GD) (av : List Value) (M N M' N' : Mem) : Prop :=
  Met l y (WS y b n none) (Rm f k) (va_Pc av (Wd G M N)) (va_Qv (fun _ : Unit => True) (fun _ t => Wd G M' N' t) (AG G.2.1)) 0 0 (AG G.2.1)
def MO (l : Launch) (y : MethodName) (b : ByteArray) (n : Nat) (C : String) (f k : Nat) (G : GD) (av : List Value) (M N : Mem) (r : Option Nat) (M' N' : Mem) : Prop :=
  Met l y (WS y b n (some (.object C))) (Rm f k) (va_Pc av (Wd G M N)) (va_Qe G.2.1 (fun r' (_ : Unit) => r' = r) (fun _ t => Wd G M' N' t) (AG G.2.1)) 0 0 (AG G.2.1)
/-- what stays in a method's walk -/
def FX (p : Program) (s : State) (m : MethodId) (args : Array Value) (meth : Method) (c : Code) (own : String) (cc : ByteArray) (nL : Nat) (ret : Option FieldType) (G : GD) : Prop :=
  p.tables.exec = Jvm.exec ∧ c.code = cc ∧ c.maxLocals = nL ∧ meth.sig.returnType = ret ∧ s.vm.findClass own = some m.cls ∧ (∀ w ∈ lw_good, w.before args s = true) ∧ meth.locks = false ∧ va_K G.1 vwCl (tysW G.2.2.1) s ∧ Nw s ∧ Zs (AG G.2.1) G.2.2.2 s s.heap
/-- what a walk has at a heap -/
def ST (G : GD) (M N : Mem) (s : State) (H : Heap) (locs : List Loc) : Prop := va_P G.1 vwCl (wl G.2.1 G.2.2.1 M N) H ∧ va_D (AG G.2.1) (wl G.2.1 G.2.2.1 M N) ∧ va_S (AG G.2.1) s.heap H locs
theorem va_D_any {G : GD} {M N M' N' : Mem} {A : Nat → Prop} (h : va_D A (wl G.2.1 G.2.2.1 M N)) : va_D A (wl G.2.1 G.2.2.1 M' N') := by
  refine ⟨fun i j p q hi hj hpq => ?_, fun k q hk => ?_⟩
  · obtain ⟨hi1, rfl⟩ := wl_out hi
    obtain ⟨hj1, rfl⟩ := wl_out hj
    exact h.1 i j _ _ (wl_get hi1) (wl_get hj1) hpq
  · obtain ⟨hk1, rfl⟩ := wl_out hk
    exact h.2 k (G.2.1 k, ent G.2.1 G.2.2.1 M N k) (wl_get hk1)
section RW
variable {p : Program} {l : Launch} {e : Env} {R : Room} {s : State} {m : MethodId} {args : Array Value} {below : List Frame} {meth : Method} {c : Code} {H : Heap} {locs : List Loc} {Q : State → Prop}
variable {cc : ByteArray} {pc nL : Nat} {ls : Array Slot} {rest : List Value} {G : GD} {M N M' N' : Mem} {own : String} {ret : Option FieldType}
/-- the world at a callee's start -/
theorem wd_call (F : FX p s m args meth c own cc nL ret G) (S : ST G M N s H locs) {U : State} (hU : U.heap = H) (hW : s.WarmedH U.vm) : Wd G M N U := by
  obtain ⟨-, -, -, -, -, -, -, hK, hN, hZ⟩ := F
  refine ⟨by rw [hU]; exact S.1, S.2.1, va_K.moved hW.alike hK, Nw_warm hW hN, ?_⟩
  rw [hU]
  exact Zs_kept (Zs_moved hW.alike hZ) S.2.2.2.1
theorem wd_blind {av : List Value} : FrameBlind (va_Pc av (Wd G M N)) := by
  intro a U g mk q
  obtain ⟨q0, q1, q2, q3, q4, q5⟩ := q
  exact ⟨q0, q1, q2, va_K.moved (u := U) (U := U.calling g mk a) (Vm.Alike.refl U.vm) q3, Nw_same (s := U) (U := U.calling g mk a) rfl q4, Zs_moved (u := U) (U := U.calling g mk a) (Vm.Alike.refl U.vm) q5⟩
theorem st_of {t : State} {H1 : Heap} {locs1 : List Loc} (h : Wd G M N t) (ht : t.heap = H1) (hS : va_S (AG G.2.1) s.heap H1 locs1) : ST G M N s H1 locs1 := ⟨by rw [← ht]; exact h.1, h.2.1, hS⟩
/-! instructions on the memory -/
theorem r_get (F : FX p s m args meth c own cc nL ret G) (S : ST G M N s H locs) {i ci idx k NF : Nat} {C : String} {T : u_T} {v : Value} (hsh : shp i = ci) (hc20 : ci < 20) (hc : vwCl[ci]? = some (C, T, NF)) (hin : ∀ w ∈ u_ws C T NF, w ∈ lw_good) (hk : k < NF)
    (hl : Cond.fieldLink own idx (T k).1 (T k).2.1 (T k).2.2.1 ∈ lw_good) (hv : (obF G.2.1 M N i ci)[k]? = some v) (hdg : decode cc pc = .ok (.getfield idx, 3))
    (kk : W p l e R s m args below meth c H locs 0 0 Q (F0 m (pc + 3) ls (v :: rest))) : W p l e R s m args below meth c H locs 0 0 Q (F0 m pc ls (.ref (G.2.1 i) :: rest)) := by
  obtain ⟨hx, hb, -, -, hown, hts, -, hK, -, -⟩ := F
  have hi : i < 741 := shp_lt hsh (by omega)
  have he : (wl G.2.1 G.2.2.1 M N)[i]? = some (G.2.1 i, .inr (ci, obF G.2.1 M N i ci)) := by rw [wl_get hi, ent_ob hsh hc20]
  exact va_get hx hb hts hin hown hK S.1 i he hc k hk (hts _ hl) (fun _ h9 => h9) hv hdg kk
theorem r_gI (F : FX p s m args meth c own cc nL ret G) (S : ST G M N s H locs) {i ci idx k NF : Nat} {C : String} {T : u_T} {x : Int32} (hg : gI ci k M i = some x) (hc20 : ci < 20) (hc : vwCl[ci]? = some (C, T, NF)) (hin : ∀ w ∈ u_ws C T NF, w ∈ lw_good) (hk : k < NF)
    (hl : Cond.fieldLink own idx (T k).1 (T k).2.1 (T k).2.2.1 ∈ lw_good) (hv : ∀ ad : Nat → Nat, (obF ad M N i ci)[k]? = some (.int (M i k))) (hdg : decode cc pc = .ok (.getfield idx, 3))
    (kk : W p l e R s m args below meth c H locs 0 0 Q (F0 m (pc + 3) ls (.int x :: rest))) : W p l e R s m args below meth c H locs 0 0 Q (F0 m pc ls (.ref (G.2.1 i) :: rest)) := by
  unfold gI at hg
  split at hg
  · rename_i hsh
    cases hg
    exact r_get F S hsh hc20 hc hin hk hl (hv _) hdg kk
  · cases hg
/-- the reference's -/
theorem r_gN (F : FX p s m args meth c own cc nL ret G) (S : ST G M N s H locs) {i ci idx k NF : Nat} {C : String} {T : u_T} {x : Int32} (hg : gI ci k N i = some x) (hc20 : ci < 20) (hc : vwCl[ci]? = some (C, T, NF)) (hin : ∀ w ∈ u_ws C T NF, w ∈ lw_good) (hk : k < NF)
    (hl : Cond.fieldLink own idx (T k).1 (T k).2.1 (T k).2.2.1 ∈ lw_good) (hv : ∀ ad : Nat → Nat, (obF ad M N i ci)[k]? = some (.int (N i k))) (hdg : decode cc pc = .ok (.getfield idx, 3))
    (kk : W p l e R s m args below meth c H locs 0 0 Q (F0 m (pc + 3) ls (.int x :: rest))) : W p l e R s m args below meth c H locs 0 0 Q (F0 m pc ls (.ref (G.2.1 i) :: rest)) := by
  unfold gI at hg
  split at hg
  · rename_i hsh
    cases hg
    exact r_get F S hsh hc20 hc hin hk hl (hv _) hdg kk
  · cases hg
theorem r_gR (F : FX p s m args meth c own cc nL ret G) (S : ST G M N s H locs) {i ci idx k NF x : Nat} {C : String} {T : u_T} (hg : gR ci k i = some x) (hc20 : ci < 20) (hc : vwCl[ci]? = some (C, T, NF)) (hin : ∀ w ∈ u_ws C T NF, w ∈ lw_good) (hk : k < NF)
    (hl : Cond.fieldLink own idx (T k).1 (T k).2.1 (T k).2.2.1 ∈ lw_good) (hv : ∀ ad : Nat → Nat, (obF ad M N i ci)[k]? = some (.ref (ad (rf i k)))) (hdg : decode cc pc = .ok (.getfield idx, 3))
    (kk : W p l e R s m args below meth c H locs 0 0 Q (F0 m (pc + 3) ls (.ref (G.2.1 x) :: rest))) : W p l e R s m args below meth c H locs 0 0 Q (F0 m pc ls (.ref (G.2.1 i) :: rest)) := by
  unfold gR at hg
  split at hg
  · rename_i hsh
    cases hg
    exact r_get F S hsh hc20 hc hin hk hl (hv _) hdg kk
  · cases hg
theorem r_put (F : FX p s m args meth c own cc nL ret G) (S : ST G M N s H locs) {i ci idx k NF : Nat} {C : String} {T : u_T} {ty0 : Nat → FieldType} {ty : FieldType} {v : Int32} (hsh : shp i = ci) (hc20 : ci < 20) (hc : vwCl[ci]? = some (C, T, NF)) (hin : ∀ w ∈ u_ws C T NF, w ∈ lw_good)
    (hty : ∀ k, k < NF → parseFieldDescriptor (T k).2.2.1 = some (ty0 k)) (hnm : ∀ a, a < NF → ∀ b, b < NF → a ≠ b → (T a).2.1 ≠ (T b).2.1) (hk : k < NF) (hl : Cond.fieldLink own idx (T k).1 (T k).2.1 (T k).2.2.1 ∈ lw_good)
    (hfin : (T k).2.2.2 = false) (hd : parseFieldDescriptor (T k).2.2.1 = some ty) (hn : narrow ty (.int v) = .int v) (hfit : fits ty (.int v) = true) (hlen : ∀ ad : Nat → Nat, k < (obF ad M N i ci).length)
    (hset : ∀ ad : Nat → Nat, obF ad M' N' i ci = (obF ad M N i ci).set k (.int v)) (ho : ∀ j, j ≠ i → M j = M' j ∧ N j = N' j)
    (hdg : decode cc pc = .ok (.putfield idx, 3)) (kk : ∀ (H1 : Heap) (locs1 : List Loc), ST G M' N' s H1 locs1 → W p l e R s m args below meth c H1 locs1 0 0 Q (F0 m (pc + 3) ls rest)) : W p l e R s m args below meth c H locs 0 0 Q (F0 m pc ls (.int v :: .ref (G.2.1 i) :: rest)) := by
  obtain ⟨hx, hb, -, -, hown, hts, -, hK, -, -⟩ := F
  have hi : i < 741 := shp_lt hsh (by omega)
  have he : (wl G.2.1 G.2.2.1 M N)[i]? = some (G.2.1 i, .inr (ci, obF G.2.1 M N i ci)) := by rw [wl_get hi, ent_ob hsh hc20]
  have hw : (wl G.2.1 G.2.2.1 M N).set i (G.2.1 i, .inr (ci, (obF G.2.1 M N i ci).set k (.int v))) = wl G.2.1 G.2.2.1 M' N' := wl_set hi (by rw [ent_ob hsh hc20, hset]) ho
  refine va_put hx hb hts hin ty0 hty hnm hown hK S.1 S.2.1 S.2.2 i he hc k hk (hts _ hl) (fun _ h9 => h9) hfin hd hn hfit (hlen _) hdg (fun H1 locs1 h1 h2 h3 => kk H1 locs1 ⟨?_, ?_, h3⟩)
  · rw [← hw]; exact h1
  · rw [← hw]; exact h2
theorem r_pI (F : FX p s m args meth c own cc nL ret G) (S : ST G M N s H locs) {i ci idx k NF : Nat} {C : String} {T : u_T} {ty0 : Nat → FieldType} {v : Int32} (hg : pI ci k M i v = some M') (hc20 : ci < 20) (hc : vwCl[ci]? = some (C, T, NF)) (hin : ∀ w ∈ u_ws C T NF, w ∈ lw_good)
    (hty : ∀ k, k < NF → parseFieldDescriptor (T k).2.2.1 = some (ty0 k)) (hnm : ∀ a, a < NF → ∀ b, b < NF → a ≠ b → (T a).2.1 ≠ (T b).2.1) (hk : k < NF) (hl : Cond.fieldLink own idx (T k).1 (T k).2.1 (T k).2.2.1 ∈ lw_good)
    (hfin : (T k).2.2.2 = false) (hd : parseFieldDescriptor (T k).2.2.1 = some .int) (hlen : ∀ ad : Nat → Nat, k < (obF ad M N i ci).length) (hset : ∀ ad : Nat → Nat, obF ad (up2 M i k v) N i ci = (obF ad M N i ci).set k (.int v))
    (hdg : decode cc pc = .ok (.putfield idx, 3)) (kk : ∀ (H1 : Heap) (locs1 : List Loc), ST G M' N s H1 locs1 → W p l e R s m args below meth c H1 locs1 0 0 Q (F0 m (pc + 3) ls rest)) : W p l e R s m args below meth c H locs 0 0 Q (F0 m pc ls (.int v :: .ref (G.2.1 i) :: rest)) := by
  unfold pI at hg
  split at hg
  · rename_i hsh
    cases hg
    exact r_put F S hsh hc20 hc hin hty hnm hk hl hfin hd rfl rfl hlen hset (fun j hj => ⟨(up2_ne hj).symm, rfl⟩) hdg kk
  · cases hg
theorem r_pN (F : FX p s m args meth c own cc nL ret G) (S : ST G M N s H locs) {i ci idx k NF : Nat} {C : String} {T : u_T} {ty0 : Nat → FieldType} {v : Int32} (hg : pI ci k N i v = some N') (hc20 : ci < 20) (hc : vwCl[ci]? = some (C, T, NF)) (hin : ∀ w ∈ u_ws C T NF, w ∈ lw_good)
    (hty : ∀ k, k < NF → parseFieldDescriptor (T k).2.2.1 = some (ty0 k)) (hnm : ∀ a, a < NF → ∀ b, b < NF → a ≠ b → (T a).2.1 ≠ (T b).2.1) (hk : k < NF) (hl : Cond.fieldLink own idx (T k).1 (T k).2.1 (T k).2.2.1 ∈ lw_good)
    (hfin : (T k).2.2.2 = false) (hd : parseFieldDescriptor (T k).2.2.1 = some .int) (hlen : ∀ ad : Nat → Nat, k < (obF ad M N i ci).length) (hset : ∀ ad : Nat → Nat, obF ad M (up2 N i k v) i ci = (obF ad M N i ci).set k (.int v))
    (hdg : decode cc pc = .ok (.putfield idx, 3)) (kk : ∀ (H1 : Heap) (locs1 : List Loc), ST G M N' s H1 locs1 → W p l e R s m args below meth c H1 locs1 0 0 Q (F0 m (pc + 3) ls rest)) : W p l e R s m args below meth c H locs 0 0 Q (F0 m pc ls (.int v :: .ref (G.2.1 i) :: rest)) := by
  unfold pI at hg
  split at hg
  · rename_i hsh
    cases hg
    exact r_put F S hsh hc20 hc hin hty hnm hk hl hfin hd rfl rfl hlen hset (fun j hj => ⟨rfl, (up2_ne hj).symm⟩) hdg kk
  · cases hg
theorem bool_narrow {v : Int32} (h : v = 0 ∨ v = 1) : narrow .boolean (.int v) = .int v ∧ fits .boolean (.int v) = true := by
  rcases h with rfl | rfl <;> decide +kernel
theorem r_pZ (F : FX p s m args meth c own cc nL ret G) (S : ST G M N s H locs) {i ci idx k NF : Nat} {C : String} {T : u_T} {ty0 : Nat → FieldType} {v : Int32} (hg : pZ ci k N i v = some N') (hc20 : ci < 20) (hc : vwCl[ci]? = some (C, T, NF)) (hin : ∀ w ∈ u_ws C T NF, w ∈ lw_good)
    (hty : ∀ k, k < NF → parseFieldDescriptor (T k).2.2.1 = some (ty0 k)) (hnm : ∀ a, a < NF → ∀ b, b < NF → a ≠ b → (T a).2.1 ≠ (T b).2.1) (hk : k < NF) (hl : Cond.fieldLink own idx (T k).1 (T k).2.1 (T k).2.2.1 ∈ lw_good)
    (hfin : (T k).2.2.2 = false) (hd : parseFieldDescriptor (T k).2.2.1 = some .boolean) (hlen : ∀ ad : Nat → Nat, k < (obF ad M N i ci).length) (hset : ∀ ad : Nat → Nat, obF ad M (up2 N i k v) i ci = (obF ad M N i ci).set k (.int v))
    (hdg : decode cc pc = .ok (.putfield idx, 3)) (kk : ∀ (H1 : Heap) (locs1 : List Loc), ST G M N' s H1 locs1 → W p l e R s m args below meth c H1 locs1 0 0 Q (F0 m (pc + 3) ls rest)) : W p l e R s m args below meth c H locs 0 0 Q (F0 m pc ls (.int v :: .ref (G.2.1 i) :: rest)) := by
  unfold pZ at hg
  split at hg
  · rename_i hsh
    cases hg
    exact r_put F S hsh.1 hc20 hc hin hty hnm hk hl hfin hd (bool_narrow hsh.2).1 (bool_narrow hsh.2).2 hlen hset (fun j hj => ⟨rfl, (up2_ne hj).symm⟩) hdg kk
  · cases hg
theorem he_ar {i t : Nat} (hsh : shp i = t) (h1 : ¬ t < 20) (h2 : t < 99) : (wl G.2.1 G.2.2.1 M N)[i]? = some (G.2.1 i, arE G.2.1 G.2.2.1 M N i t) := by
  rw [wl_get (shp_lt hsh h2), ent_ar hsh h1]
theorem vp_of {n : Nat} {j : Int32} (h : oobB n j = false) : vp_in j n := oobB_not.mp h
theorem r_aL (F : FX p s m args meth c own cc nL ret G) (S : ST G M N s H locs) {i : Nat} {j x : Int32} (hg : aL 20 M i j = some x) (hdg : decode cc pc = .ok (.iaload, 1))
    (kk : W p l e R s m args below meth c H locs 0 0 Q (F0 m (pc + 1) ls (.int x :: rest))) : W p l e R s m args below meth c H locs 0 0 Q (F0 m pc ls (.int j :: .ref (G.2.1 i) :: rest)) := by
  obtain ⟨hx, hb, -, -, hown, hts, -, hK, -, -⟩ := F
  unfold aL at hg
  split at hg
  · rename_i hsh
    cases hg
    exact va_iald (t0 := 0) hx hb hK S.1 i (he_ar hsh.1 (by omega) (by omega)) rfl (vp_of hsh.2) hdg kk
  · cases hg
theorem r_nL (F : FX p s m args meth c own cc nL ret G) (S : ST G M N s H locs) {i : Nat} {j x : Int32} (hg : aL 30 N i j = some x) (hdg : decode cc pc = .ok (.iaload, 1))
    (kk : W p l e R s m args below meth c H locs 0 0 Q (F0 m (pc + 1) ls (.int x :: rest))) : W p l e R s m args below meth c H locs 0 0 Q (F0 m pc ls (.int j :: .ref (G.2.1 i) :: rest)) := by
  obtain ⟨hx, hb, -, -, hown, hts, -, hK, -, -⟩ := F
  unfold aL at hg
  split at hg
  · rename_i hsh
    cases hg
    exact va_iald (t0 := 0) hx hb hK S.1 i (he_ar hsh.1 (by omega) (by omega)) rfl (vp_of hsh.2) hdg kk
  · cases hg
theorem r_zL (F : FX p s m args meth c own cc nL ret G) (S : ST G M N s H locs) {i : Nat} {j x : Int32} (hg : aL 31 N i j = some x) (hdg : decode cc pc = .ok (.baload, 1))
    (kk : W p l e R s m args below meth c H locs 0 0 Q (F0 m (pc + 1) ls (.int x :: rest))) : W p l e R s m args below meth c H locs 0 0 Q (F0 m pc ls (.int j :: .ref (G.2.1 i) :: rest)) := by
  obtain ⟨hx, hb, -, -, hown, hts, -, hK, -, -⟩ := F
  unfold aL at hg
  split at hg
  · rename_i hsh
    cases hg
    exact va_zald (t0 := 1) hx hb hK S.1 i (he_ar hsh.1 (by omega) (by omega)) rfl (vp_of hsh.2) hdg kk
  · cases hg
theorem r_aS (F : FX p s m args meth c own cc nL ret G) (S : ST G M N s H locs) {i : Nat} {j v : Int32} (hg : aS 20 M i j v = some M') (hdg : decode cc pc = .ok (.iastore, 1))
    (kk : ∀ (H1 : Heap) (locs1 : List Loc), ST G M' N s H1 locs1 → W p l e R s m args below meth c H1 locs1 0 0 Q (F0 m (pc + 1) ls rest)) : W p l e R s m args below meth c H locs 0 0 Q (F0 m pc ls (.int v :: .int j :: .ref (G.2.1 i) :: rest)) := by
  obtain ⟨hx, hb, -, -, hown, hts, -, hK, -, -⟩ := F
  unfold aS at hg
  split at hg
  · rename_i hsh
    cases hg
    have hw : (wl G.2.1 G.2.2.1 M N).set i (G.2.1 i, .inl (G.2.2.1 0, ln i, .inl (upd (M i) j.toNatClampNeg v))) = wl G.2.1 G.2.2.1 (up2 M i j.toNatClampNeg v) N := wl_set (shp_lt hsh.1 (by omega)) (by rw [ent_ar hsh.1 (by omega)]; unfold arE; rw [up2_row]; try rfl) (fun q hq => ⟨(up2_ne hq).symm, rfl⟩)
    refine va_iast (t0 := 0) hx hb hK S.1 S.2.1 S.2.2 i (he_ar hsh.1 (by omega) (by omega)) rfl (vp_of hsh.2) hdg (fun H1 locs1 h1 h2 h3 => kk H1 locs1 ⟨?_, ?_, h3⟩)
    · rw [← hw]; exact h1
    · rw [← hw]; exact h2
  · cases hg
theorem r_nS (F : FX p s m args meth c own cc nL ret G) (S : ST G M N s H locs) {i : Nat} {j v : Int32} (hg : aS 30 N i j v = some N') (hdg : decode cc pc = .ok (.iastore, 1))
    (kk : ∀ (H1 : Heap) (locs1 : List Loc), ST G M N' s H1 locs1 → W p l e R s m args below meth c H1 locs1 0 0 Q (F0 m (pc + 1) ls rest)) : W p l e R s m args below meth c H locs 0 0 Q (F0 m pc ls (.int v :: .int j :: .ref (G.2.1 i) :: rest)) := by
  obtain ⟨hx, hb, -, -, hown, hts, -, hK, -, -⟩ := F
  unfold aS at hg
  split at hg
  · rename_i hsh
    cases hg
    have hw : (wl G.2.1 G.2.2.1 M N).set i (G.2.1 i, .inl (G.2.2.1 0, ln i, .inl (upd (N i) j.toNatClampNeg v))) = wl G.2.1 G.2.2.1 M (up2 N i j.toNatClampNeg v) := wl_set (shp_lt hsh.1 (by omega)) (by rw [ent_ar hsh.1 (by omega)]; unfold arE; rw [up2_row]; try rfl) (fun q hq => ⟨rfl, (up2_ne hq).symm⟩)
    refine va_iast (t0 := 0) hx hb hK S.1 S.2.1 S.2.2 i (he_ar hsh.1 (by omega) (by omega)) rfl (vp_of hsh.2) hdg (fun H1 locs1 h1 h2 h3 => kk H1 locs1 ⟨?_, ?_, h3⟩)
    · rw [← hw]; exact h1
    · rw [← hw]; exact h2
  · cases hg
theorem r_zS (F : FX p s m args meth c own cc nL ret G) (S : ST G M N s H locs) {i : Nat} {j v : Int32} (hg : zS 31 N i j v = some N') (hdg : decode cc pc = .ok (.bastore, 1))
    (kk : ∀ (H1 : Heap) (locs1 : List Loc), ST G M N' s H1 locs1 → W p l e R s m args below meth c H1 locs1 0 0 Q (F0 m (pc + 1) ls rest)) : W p l e R s m args below meth c H locs 0 0 Q (F0 m pc ls (.int v :: .int j :: .ref (G.2.1 i) :: rest)) := by
  obtain ⟨hx, hb, -, -, hown, hts, -, hK, -, -⟩ := F
  unfold zS at hg
  split at hg
  · rename_i hsh
    cases hg
    have hv : vp_nar .boolean v = v := by rcases hsh.2.2 with rfl | rfl <;> decide +kernel
    have hw : (wl G.2.1 G.2.2.1 M N).set i (G.2.1 i, .inl (G.2.2.1 1, ln i, .inl (upd (N i) j.toNatClampNeg (vp_nar .boolean v)))) = wl G.2.1 G.2.2.1 M (up2 N i j.toNatClampNeg v) := wl_set (shp_lt hsh.1 (by omega)) (by rw [ent_ar hsh.1 (by omega)]; unfold arE; rw [up2_row, hv]; try rfl) (fun q hq => ⟨rfl, (up2_ne hq).symm⟩)
    refine va_zast (t0 := 1) hx hb hK S.1 S.2.1 S.2.2 i (he_ar hsh.1 (by omega) (by omega)) rfl (vp_of hsh.2.1) hdg (fun H1 locs1 h1 h2 h3 => kk H1 locs1 ⟨?_, ?_, h3⟩)
    · rw [← hw]; exact h1
    · rw [← hw]; exact h2
  · cases hg
theorem r_aN (F : FX p s m args meth c own cc nL ret G) (S : ST G M N s H locs) {i t : Nat} {x : Int32} (hg : aN t i = some x) (ht : t = 20 ∨ t = 22 ∨ t = 23 ∨ t = 24) (hdg : decode cc pc = .ok (.arraylength, 1))
    (kk : W p l e R s m args below meth c H locs 0 0 Q (F0 m (pc + 1) ls (.int x :: rest))) : W p l e R s m args below meth c H locs 0 0 Q (F0 m pc ls (.ref (G.2.1 i) :: rest)) := by
  obtain ⟨hx, hb, -, -, hown, hts, -, hK, -, -⟩ := F
  unfold aN at hg
  split at hg
  · rename_i hsh
    cases hg
    rcases ht with rfl | rfl | rfl | rfl
    · exact va_alen (t0 := 0) hx hb hK S.1 i (he_ar hsh (by omega) (by omega)) rfl rfl hdg kk
    · exact va_alen (t0 := 2) hx hb hK S.1 i (he_ar hsh (by omega) (by omega)) rfl rfl hdg kk
    · exact va_alen (t0 := 3) hx hb hK S.1 i (he_ar hsh (by omega) (by omega)) rfl rfl hdg kk
    · exact va_alen (t0 := 4) hx hb hK S.1 i (he_ar hsh (by omega) (by omega)) rfl rfl hdg kk
  · cases hg
theorem r_aR22 (F : FX p s m args meth c own cc nL ret G) (S : ST G M N s H locs) {i x : Nat} {j : Int32} (hg : aR 22 i j = some x) (hdg : decode cc pc = .ok (.aaload, 1))
    (kk : W p l e R s m args below meth c H locs 0 0 Q (F0 m (pc + 1) ls (.ref (G.2.1 x) :: rest))) : W p l e R s m args below meth c H locs 0 0 Q (F0 m pc ls (.int j :: .ref (G.2.1 i) :: rest)) := by
  obtain ⟨hx, hb, -, -, hown, hts, -, hK, -, -⟩ := F
  unfold aR at hg
  split at hg
  · rename_i hsh
    cases hg
    exact va_aldq (t0 := 2) hx hb hK S.1 i (he_ar hsh.1 (by omega) (by omega)) rfl (vp_of hsh.2) hdg kk
  · cases hg
theorem r_aR24 (F : FX p s m args meth c own cc nL ret G) (S : ST G M N s H locs) {i x : Nat} {j : Int32} (hg : aR 24 i j = some x) (hdg : decode cc pc = .ok (.aaload, 1))
    (kk : W p l e R s m args below meth c H locs 0 0 Q (F0 m (pc + 1) ls (.ref (G.2.1 x) :: rest))) : W p l e R s m args below meth c H locs 0 0 Q (F0 m pc ls (.int j :: .ref (G.2.1 i) :: rest)) := by
  obtain ⟨hx, hb, -, -, hown, hts, -, hK, -, -⟩ := F
  unfold aR at hg
  split at hg
  · rename_i hsh
    cases hg
    have hin := vp_of hsh.2
    have hlt : j.toNatClampNeg < ln i := Nat.not_le.mp fun q => hin (Or.inr q)
    have ha := S.1 i _ (he_ar (M := M) (N := N) hsh.1 (by omega) (by omega))
    exact W.aald (v := va_rf (some (G.2.1 (rf i j.toNatClampNeg)))) (ty := .array .int) hx hb ha ((hK.2 4 (G.2.2.1 4, .array .int) rfl).1 (ln i) (fun j => va_rf (some (G.2.1 (rf i j))))) rfl (fun q => by cases q) (by show ¬ (j < 0 ∨ (arrV _ _ _).slots.size ≤ _); rw [arrV_size]; exact hin) (by show (arrV _ _ _).slots[_]? = _; rw [arrV_read _ _ hlt]) rfl rfl hdg kk
  · cases hg
theorem r_aD (F : FX p s m args meth c own cc nL ret G) (S : ST G M N s H locs) {i x : Nat} {j : Int32} (hg : aD M i j = some x) (hdg : decode cc pc = .ok (.aaload, 1))
    (kk : W p l e R s m args below meth c H locs 0 0 Q (F0 m (pc + 1) ls (.ref (G.2.1 x) :: rest))) : W p l e R s m args below meth c H locs 0 0 Q (F0 m pc ls (.int j :: .ref (G.2.1 i) :: rest)) := by
  obtain ⟨hx, hb, -, -, hown, hts, -, hK, -, -⟩ := F
  unfold aD at hg
  split at hg
  · rename_i hsh
    cases hg
    exact va_aldq (t0 := 3) hx hb hK S.1 i (he_ar hsh.1 (by omega) (by omega)) rfl (vp_of hsh.2) hdg kk
  · cases hg
theorem r_aE (F : FX p s m args meth c own cc nL ret G) (S : ST G M N s H locs) {i v : Nat} {j : Int32} (hg : aE M i j v = some M') (hdg : decode cc pc = .ok (.aastore, 1))
    (kk : ∀ (H1 : Heap) (locs1 : List Loc), ST G M' N s H1 locs1 → W p l e R s m args below meth c H1 locs1 0 0 Q (F0 m (pc + 1) ls rest)) : W p l e R s m args below meth c H locs 0 0 Q (F0 m pc ls (.ref (G.2.1 v) :: .int j :: .ref (G.2.1 i) :: rest)) := by
  obtain ⟨hx, hb, -, -, hown, hts, -, hK, -, -⟩ := F
  unfold aE at hg
  split at hg
  · rename_i hsh
    cases hg
    have hv7 : v < 741 := shp_lt hsh.2.2 (by omega)
    have hvn : (Int32.ofNat v).toNatClampNeg = v := Int32.toNatClampNeg_ofNat_of_lt (by omega)
    have hv : (wl G.2.1 G.2.2.1 M N)[v]? = some (G.2.1 v, .inr (7, obF G.2.1 M N v 7)) := by rw [wl_get hv7, ent_ob hsh.2.2 (by omega)]
    have hw : (wl G.2.1 G.2.2.1 M N).set i (G.2.1 i, .inl (G.2.2.1 3, ln i, .inr (.inr (.inr (.inr (va_up (fun q => some (G.2.1 (M i q).toNatClampNeg)) j.toNatClampNeg (some (G.2.1 v)))))))) = wl G.2.1 G.2.2.1 (up2 M i j.toNatClampNeg (Int32.ofNat v)) N := wl_set (shp_lt hsh.1 (by omega)) (by
        rw [ent_ar hsh.1 (by omega)]
        unfold arE
        have e1 : (fun q => some (G.2.1 (up2 M i j.toNatClampNeg (Int32.ofNat v) i q).toNatClampNeg)) = va_up (fun q => some (G.2.1 (M i q).toNatClampNeg)) j.toNatClampNeg (some (G.2.1 v)) := by
          funext q
          unfold up2 va_up
          rw [if_pos rfl]
          split
          · rw [hvn]
          · rfl
        rw [← e1]
        try rfl) (fun q hq => ⟨(up2_ne hq).symm, rfl⟩)
    refine va_astq (t0 := 3) (ci := 7) (qk := v) hx hb hK S.1 S.2.1 S.2.2 i (he_ar hsh.1 (by omega) (by omega)) rfl hv rfl (vp_of hsh.2.1) hdg (fun H1 locs1 h1 h2 h3 => kk H1 locs1 ⟨?_, ?_, h3⟩)
    · rw [← hw]; exact h1
    · rw [← hw]; exact h2
  · cases hg
end RW
end
section
/-! a method's start, its ends, its calls -/
theorem ck_out {α : Type} {c i : Nat} {x : Option α} {z : α} (h : (if shp i = c then x else none) = some z) : shp i = c ∧ x = some z := by
  split at h
  · exact ⟨by assumption, h⟩
  · cases h
theorem MI_of {l : Launch} {y : MethodName} {own : String} {b : ByteArray} {n f k : Nat} {t : FieldType} {G : GD} {av : List Value} {M N M' N' : Mem} {r : Int32} (hy : plainName y.cls = true) (ho : y.cls = own) (hlen : (lg_sl av).length ≤ n)
    (body : ∀ p e s m args below meth c, FX p s m args meth c own b n (some t) G → ST G M N s s.heap [] → ∀ ls, lv_has ls n (lv_args 0 av) → W p l e (Rm f k) s m args below meth c s.heap [] 0 0 (MQ below (va_Qi (fun r' (_ : Unit) => r' = r) (fun _ t => Wd G M' N' t) (AG G.2.1)) args s 0 0 (AG G.2.1)) (F0 m 0 ls [])) : MI l y b n t f k G av M N r M' N' := by
  unfold MI
  refine Met.ofW (cc := b) (maxL := n) (ret := some t) (ws' := lw_good) hy rfl ?_
  intro p e s m args below meth c s₁ B hml hv
  obtain ⟨rfl, hP, hD, hK, hN, hZ⟩ := hv
  rw [lg_entry_eq]
  exact body p e s m _ below meth c ⟨B.exec, B.bytes, hml, B.returns, by rw [← ho]; exact findClass_of_methodNamed B.named, fun w hw => atoms_spec B.pre w (List.mem_cons_of_mem _ hw), B.notSynchronized, hK, hN, hZ⟩ ⟨hP, hD, va_S.rf⟩ _ (lv_entry av hlen)
theorem MV_of {l : Launch} {y : MethodName} {own : String} {b : ByteArray} {n f k : Nat} {G : GD} {av : List Value} {M N M' N' : Mem} (hy : plainName y.cls = true) (ho : y.cls = own) (hlen : (lg_sl av).length ≤ n)
    (body : ∀ p e s m args below meth c, FX p s m args meth c own b n none G → ST G M N s s.heap [] → ∀ ls, lv_has ls n (lv_args 0 av) → W p l e (Rm f k) s m args below meth c s.heap [] 0 0 (MQ below (va_Qv (fun _ : Unit => True) (fun _ t => Wd G M' N' t) (AG G.2.1)) args s 0 0 (AG G.2.1)) (F0 m 0 ls [])) : MV l y b n f k G av M N M' N' := by
  unfold MV
  refine Met.ofW (cc := b) (maxL := n) (ret := none) (ws' := lw_good) hy rfl ?_
  intro p e s m args below meth c s₁ B hml hv
  obtain ⟨rfl, hP, hD, hK, hN, hZ⟩ := hv
  rw [lg_entry_eq]
  exact body p e s m _ below meth c ⟨B.exec, B.bytes, hml, B.returns, by rw [← ho]; exact findClass_of_methodNamed B.named, fun w hw => atoms_spec B.pre w (List.mem_cons_of_mem _ hw), B.notSynchronized, hK, hN, hZ⟩ ⟨hP, hD, va_S.rf⟩ _ (lv_entry av hlen)
theorem MO_of {l : Launch} {y : MethodName} {own C : String} {b : ByteArray} {n f k : Nat} {G : GD} {av : List Value} {M N M' N' : Mem} {r : Option Nat} (hy : plainName y.cls = true) (ho : y.cls = own) (hlen : (lg_sl av).length ≤ n)
    (body : ∀ p e s m args below meth c, FX p s m args meth c own b n (some (.object C)) G → ST G M N s s.heap [] → ∀ ls, lv_has ls n (lv_args 0 av) → W p l e (Rm f k) s m args below meth c s.heap [] 0 0 (MQ below (va_Qe G.2.1 (fun r' (_ : Unit) => r' = r) (fun _ t => Wd G M' N' t) (AG G.2.1)) args s 0 0 (AG G.2.1)) (F0 m 0 ls [])) : MO l y b n C f k G av M N r M' N' := by
  unfold MO
  refine Met.ofW (cc := b) (maxL := n) (ret := some (.object C)) (ws' := lw_good) hy rfl ?_
  intro p e s m args below meth c s₁ B hml hv
  obtain ⟨rfl, hP, hD, hK, hN, hZ⟩ := hv
  rw [lg_entry_eq]
  exact body p e s m _ below meth c ⟨B.exec, B.bytes, hml, B.returns, by rw [← ho]; exact findClass_of_methodNamed B.named, fun w hw => atoms_spec B.pre w (List.mem_cons_of_mem _ hw), B.notSynchronized, hK, hN, hZ⟩ ⟨hP, hD, va_S.rf⟩ _ (lv_entry av hlen)
/-- what a call of a method needs of the tables: own code, its class's initialisation, its kind, its arity -/
def MF (inst : Bool) (y : MethodName) (C : String) (b : ByteArray) (n : Nat) (r : Option FieldType) (na : Nat) : Prop :=
  Cond.code y b n r ∈ lw_good ∧ Cond.initialized y.cls ∈ lw_good ∧ (if inst then Cond.instanceMethod y ∈ lw_good ∧ Cond.selects C y y ∈ lw_good else Cond.static y ∈ lw_good) ∧ (y.cls ≠ "java/lang/invoke/MethodHandle" ∧ y.cls ≠ "java/lang/invoke/VarHandle") ∧ (parseMethodDescriptor y.desc).map (fun d => d.parameters.length) = some na
section RW
variable {p : Program} {l : Launch} {e : Env} {R : Room} {s : State} {m : MethodId} {args : Array Value} {below : List Frame} {meth : Method} {c : Code} {H : Heap} {locs : List Loc} {Q : State → Prop}
variable {cc : ByteArray} {pc nL : Nat} {ls : Array Slot} {rest : List Value} {G : GD} {M N M' N' : Mem} {own : String} {ret : Option FieldType}
theorem r_iret {t : FieldType} {r : Int32} (F : FX p s m args meth c own cc nL (some t) G) (S : ST G M' N' s H locs) (hn : narrow t (.int r) = .int r) (hdg : decode cc pc = .ok (.ireturn, 1)) :
    W p l e R s m args below meth c H locs 0 0 (MQ below (va_Qi (fun r' (_ : Unit) => r' = r) (fun _ t => Wd G M' N' t) (AG G.2.1)) args s 0 0 (AG G.2.1)) (F0 m pc ls [.int r]) :=
  W.zret F.1 F.2.1 F.2.2.2.1 hn (fun t ht hW => ⟨⟨r, (), rfl, rfl, wd_call F S ht hW⟩, S.2.2.F ht⟩) S.2.2.2.2 hdg F.2.2.2.2.2.2.1
theorem r_vret (F : FX p s m args meth c own cc nL none G) (S : ST G M' N' s H locs) (hdg : decode cc pc = .ok (.return_, 1)) :
    W p l e R s m args below meth c H locs 0 0 (MQ below (va_Qv (fun _ : Unit => True) (fun _ t => Wd G M' N' t) (AG G.2.1)) args s 0 0 (AG G.2.1)) (F0 m pc ls []) :=
  W.vret F.1 F.2.1 F.2.2.2.1 (fun t ht hW => ⟨⟨(), rfl, trivial, wd_call F S ht hW⟩, S.2.2.F ht⟩) S.2.2.2.2 hdg F.2.2.2.2.2.2.1
theorem r_aret {C : String} {r : Option Nat} (F : FX p s m args meth c own cc nL (some (.object C)) G) (S : ST G M' N' s H locs) (hdg : decode cc pc = .ok (.areturn, 1)) :
    W p l e R s m args below meth c H locs 0 0 (MQ below (va_Qe G.2.1 (fun r' (_ : Unit) => r' = r) (fun _ t => Wd G M' N' t) (AG G.2.1)) args s 0 0 (AG G.2.1)) (F0 m pc ls [va_re G.2.1 r]) :=
  W.aret F.1 F.2.1 F.2.2.2.1 (Or.inl ⟨C, rfl⟩) (by cases r with | none => exact Or.inl rfl | some a => exact Or.inr ⟨_, rfl⟩) (fun t ht hW => ⟨⟨r, (), rfl, rfl, wd_call F S ht hW⟩, S.2.2.F ht⟩) S.2.2.2.2 hdg F.2.2.2.2.2.2.1
theorem ws_good {y : MethodName} {b : ByteArray} {n : Nat} {r : Option FieldType} (hc : Cond.code y b n r ∈ lw_good) : GoodIn lw_good (WS y b n r) := by
  intro w hw
  have h : w ∈ lw_good := by
    rcases List.mem_cons.mp hw with rfl | h
    · exact hc
    · exact h
  exact ⟨h, good_of_word (List.mem_filter.mp h).2⟩
theorem fx_fix (F : FX p s m args meth c own cc nL ret G) : CallFix p m c cc nL s args lw_good own := ⟨F.1, F.2.1, F.2.2.1, F.2.2.2.2.1, F.2.2.2.2.2.1⟩
theorem cw_v {inst : Bool} {y : MethodName} {C : String} {b : ByteArray} {n f k idx na : Nat} {r : Option FieldType} (F : FX p s m args meth c own cc nL ret G) (mf : MF true y C b n r na) (hl : Cond.methodLink own idx y ∈ lw_good) (hR : f + 1 ≤ R.frames ∧ 8 + (n + 11) + k ≤ R.locals) :
    CallW R s args own C idx y b n r (WS y b n r) (Rm f k) 0 0 na := by
  have hts := F.2.2.2.2.2.1
  obtain ⟨h1, h2, h3, h4, h5⟩ := mf
  simp only [if_true] at h3
  exact ⟨callB_of (ws' := lw_good) na hts (ws_good h1) rfl rfl rfl (hts _ h2) (hts _ hl) ⟨h4.1, h4.2, h5⟩ hR, hts _ h3.1, hts _ h3.2⟩
theorem recv (F : FX p s m args meth c own cc nL ret G) (S : ST G M N s H locs) {i ci NF : Nat} {C : String} {T : u_T} (hsh : shp i = ci) (hci : ci < 20) (hc : vwCl[ci]? = some (C, T, NF)) : ∃ cellB : Cell, H[G.2.1 i]? = some cellB ∧ cellB.vm.isStatics = false ∧ s.vm.findClass C = some cellB.cls := by
  have hK := F.2.2.2.2.2.2.2.1
  have hi : i < 741 := shp_lt hsh (by omega)
  have he : (wl G.2.1 G.2.2.1 M N)[i]? = some (G.2.1 i, .inr (ci, obF G.2.1 M N i ci)) := by rw [wl_get hi, ent_ob hsh hci]
  obtain ⟨r, h1, cell, q1, q2, q3, q4⟩ := S.1 i _ he
  have hr : r = (C, T, NF) := Option.some.inj (h1.symm.trans hc)
  subst hr
  obtain ⟨hS, hfc, kC, hkC, hkind⟩ := hK.1 ci _ hc
  exact ⟨cell, q1, by rw [q3]; rfl, by rw [q2]; exact hfc⟩
/-- virtual, an int answer -/
theorem c_vI {y : MethodName} {C : String} {b : ByteArray} {n f k idx na i ci NF : Nat} {t : FieldType} {T : u_T} {av st0 : List Value} {r : Int32} (F : FX p s m args meth c own cc nL ret G) (S : ST G M N s H locs) (hM : MI l y b n t f k G (.ref (G.2.1 i) :: av) M N r M' N') (mf : MF true y C b n (some t) na)
    (hsh : shp i = ci) (hci : ci < 20) (hc : vwCl[ci]? = some (C, T, NF)) (hl : Cond.methodLink own idx y ∈ lw_good) (hR : f + 1 ≤ R.frames ∧ 8 + (n + 11) + k ≤ R.locals) (hlen : av.length = na) (hls : ls.size = nL) (hst : st0 = av.reverse ++ .ref (G.2.1 i) :: rest) (hroom : (rest.map fun v => v.category).sum ≤ 8) (hdg : decode cc pc = .ok (.invokevirtual idx, 3))
    (kk : ∀ (H1 : Heap) (locs1 : List Loc), ST G M' N' s H1 locs1 → W p l e R s m args below meth c H1 locs1 0 0 Q (F0 m (pc + 3) ls (.int r :: rest))) : W p l e R s m args below meth c H locs 0 0 Q (F0 m pc ls st0) :=
  va_calli (va_runV (b := G.2.1 i) (As := av) (rest := rest) (fx_fix F) hM (cw_v (inst := true) F mf hl hR) ⟨wd_blind, recv F S hsh hci hc, fun U hU hW => ⟨rfl, wd_call F S hU hW⟩⟩ rfl hlen hls hst (lv_room hroom) hdg ⟨Nat.zero_le _, Nat.zero_le _⟩) S.2.2 (fun _ _ h => h) (fun _ h => h)
    (fun r' u t H1 locs1 ht _ hr hB _ _ hS => by rw [hr]; exact kk H1 locs1 (st_of hB ht hS))
/-- virtual, no answer -/
theorem c_vV {y : MethodName} {C : String} {b : ByteArray} {n f k idx na i ci NF : Nat} {T : u_T} {av st0 : List Value} (F : FX p s m args meth c own cc nL ret G) (S : ST G M N s H locs) (hM : MV l y b n f k G (.ref (G.2.1 i) :: av) M N M' N') (mf : MF true y C b n none na)
    (hsh : shp i = ci) (hci : ci < 20) (hc : vwCl[ci]? = some (C, T, NF)) (hl : Cond.methodLink own idx y ∈ lw_good) (hR : f + 1 ≤ R.frames ∧ 8 + (n + 11) + k ≤ R.locals) (hlen : av.length = na) (hls : ls.size = nL) (hst : st0 = av.reverse ++ .ref (G.2.1 i) :: rest) (hroom : (rest.map fun v => v.category).sum ≤ 8) (hdg : decode cc pc = .ok (.invokevirtual idx, 3))
    (kk : ∀ (H1 : Heap) (locs1 : List Loc), ST G M' N' s H1 locs1 → W p l e R s m args below meth c H1 locs1 0 0 Q (F0 m (pc + 3) ls rest)) : W p l e R s m args below meth c H locs 0 0 Q (F0 m pc ls st0) :=
  va_callv (va_runV (b := G.2.1 i) (As := av) (rest := rest) (fx_fix F) hM (cw_v (inst := true) F mf hl hR) ⟨wd_blind, recv F S hsh hci hc, fun U hU hW => ⟨rfl, wd_call F S hU hW⟩⟩ rfl hlen hls hst (lv_room hroom) hdg ⟨Nat.zero_le _, Nat.zero_le _⟩) S.2.2 (fun _ _ h => h) (fun _ h => h)
    (fun u t H1 locs1 ht _ _ hB _ _ hS => kk H1 locs1 (st_of hB ht hS))
/-- virtual, a cell or null -/
theorem c_vO {y : MethodName} {C CR : String} {b : ByteArray} {n f k idx na i ci NF : Nat} {T : u_T} {av st0 : List Value} {r : Option Nat} (F : FX p s m args meth c own cc nL ret G) (S : ST G M N s H locs) (hM : MO l y b n CR f k G (.ref (G.2.1 i) :: av) M N r M' N') (mf : MF true y C b n (some (.object CR)) na)
    (hsh : shp i = ci) (hci : ci < 20) (hc : vwCl[ci]? = some (C, T, NF)) (hl : Cond.methodLink own idx y ∈ lw_good) (hR : f + 1 ≤ R.frames ∧ 8 + (n + 11) + k ≤ R.locals) (hlen : av.length = na) (hls : ls.size = nL) (hst : st0 = av.reverse ++ .ref (G.2.1 i) :: rest) (hroom : (rest.map fun v => v.category).sum ≤ 8) (hdg : decode cc pc = .ok (.invokevirtual idx, 3))
    (kk : ∀ (H1 : Heap) (locs1 : List Loc), ST G M' N' s H1 locs1 → W p l e R s m args below meth c H1 locs1 0 0 Q (F0 m (pc + 3) ls (va_re G.2.1 r :: rest))) : W p l e R s m args below meth c H locs 0 0 Q (F0 m pc ls st0) :=
  va_calle (va_runV (b := G.2.1 i) (As := av) (rest := rest) (fx_fix F) hM (cw_v (inst := true) F mf hl hR) ⟨wd_blind, recv F S hsh hci hc, fun U hU hW => ⟨rfl, wd_call F S hU hW⟩⟩ rfl hlen hls hst (lv_room hroom) hdg ⟨Nat.zero_le _, Nat.zero_le _⟩) S.2.2 (fun _ _ h => h) (fun _ h => h)
    (fun r' u t H1 locs1 ht _ hr hB _ _ hS => by rw [hr]; exact kk H1 locs1 (st_of hB ht hS))
theorem cw_s {y : MethodName} {C : String} {b : ByteArray} {n f k idx na : Nat} {r : Option FieldType} (F : FX p s m args meth c own cc nL ret G) (mf : MF false y C b n r na) (hl : Cond.methodLink own idx y ∈ lw_good) (hR : f + 1 ≤ R.frames ∧ 8 + (n + 11) + k ≤ R.locals) :
    CallB R s args own idx y b n r (WS y b n r) (Rm f k) 0 0 na ∧ (Cond.static y).before args s = true := by
  have hts := F.2.2.2.2.2.1
  obtain ⟨h1, h2, h3, h4, h5⟩ := mf
  simp only [Bool.false_eq_true, if_false] at h3
  exact ⟨callB_of (ws' := lw_good) na hts (ws_good h1) rfl rfl rfl (hts _ h2) (hts _ hl) ⟨h4.1, h4.2, h5⟩ hR, hts _ h3⟩
theorem cw_n {y : MethodName} {C host : String} {b : ByteArray} {n f k idx na : Nat} {r : Option FieldType} (F : FX p s m args meth c own cc nL ret G) (mf : MF false y C b n r na) (hl : Cond.methodLinkNest own idx y host ∈ nestW) (hR : f + 1 ≤ R.frames ∧ 8 + (n + 11) + k ≤ R.locals) :
    va_CN R s args own idx y host b n r (WS y b n r) (Rm f k) 0 0 na ∧ (Cond.static y).before args s = true ∧ True := by
  have hts := F.2.2.2.2.2.1
  have hN := F.2.2.2.2.2.2.2.2.1
  obtain ⟨h1, h2, h3, h4, h5⟩ := mf
  simp only [Bool.false_eq_true, if_false] at h3
  exact ⟨va_cnB (ws' := lw_good) na hts (ws_good h1) rfl rfl rfl (hN _ hl) (hts _ h2) ⟨h4.1, h4.2, h5⟩ hR, hts _ h3, trivial⟩
/-- static, an int answer -/
theorem c_sI {y : MethodName} {C : String} {b : ByteArray} {n f k idx na : Nat} {t : FieldType} {av st0 : List Value} {r : Int32} (F : FX p s m args meth c own cc nL ret G) (S : ST G M N s H locs) (hM : MI l y b n t f k G av M N r M' N') (mf : MF false y C b n (some t) na)
    (hl : Cond.methodLink own idx y ∈ lw_good) (hR : f + 1 ≤ R.frames ∧ 8 + (n + 11) + k ≤ R.locals) (hlen : av.length = na) (hls : ls.size = nL) (hst : st0 = av.reverse ++ rest) (hroom : (rest.map fun v => v.category).sum ≤ 8) (hdg : decode cc pc = .ok (.invokestatic idx, 3))
    (kk : ∀ (H1 : Heap) (locs1 : List Loc), ST G M' N' s H1 locs1 → W p l e R s m args below meth c H1 locs1 0 0 Q (F0 m (pc + 3) ls (.int r :: rest))) : W p l e R s m args below meth c H locs 0 0 Q (F0 m pc ls st0) :=
  va_calli (va_runS (As := av) (rest := rest) (fx_fix F) hM (cw_s F mf hl hR) ⟨wd_blind, fun U hU hW => ⟨rfl, wd_call F S hU hW⟩⟩ rfl hlen hls hst (lv_room hroom) hdg ⟨Nat.zero_le _, Nat.zero_le _⟩) S.2.2 (fun _ _ h => h) (fun _ h => h)
    (fun r' u t H1 locs1 ht _ hr hB _ _ hS => by rw [hr]; exact kk H1 locs1 (st_of hB ht hS))
theorem c_sV {y : MethodName} {C : String} {b : ByteArray} {n f k idx na : Nat} {av st0 : List Value} (F : FX p s m args meth c own cc nL ret G) (S : ST G M N s H locs) (hM : MV l y b n f k G av M N M' N') (mf : MF false y C b n none na)
    (hl : Cond.methodLink own idx y ∈ lw_good) (hR : f + 1 ≤ R.frames ∧ 8 + (n + 11) + k ≤ R.locals) (hlen : av.length = na) (hls : ls.size = nL) (hst : st0 = av.reverse ++ rest) (hroom : (rest.map fun v => v.category).sum ≤ 8) (hdg : decode cc pc = .ok (.invokestatic idx, 3))
    (kk : ∀ (H1 : Heap) (locs1 : List Loc), ST G M' N' s H1 locs1 → W p l e R s m args below meth c H1 locs1 0 0 Q (F0 m (pc + 3) ls rest)) : W p l e R s m args below meth c H locs 0 0 Q (F0 m pc ls st0) :=
  va_callv (va_runS (As := av) (rest := rest) (fx_fix F) hM (cw_s F mf hl hR) ⟨wd_blind, fun U hU hW => ⟨rfl, wd_call F S hU hW⟩⟩ rfl hlen hls hst (lv_room hroom) hdg ⟨Nat.zero_le _, Nat.zero_le _⟩) S.2.2 (fun _ _ h => h) (fun _ h => h)
    (fun u t H1 locs1 ht _ _ hB _ _ hS => kk H1 locs1 (st_of hB ht hS))
/-- static of a nest mate -/
theorem c_nI {y : MethodName} {C host : String} {b : ByteArray} {n f k idx na : Nat} {t : FieldType} {av st0 : List Value} {r : Int32} (F : FX p s m args meth c own cc nL ret G) (S : ST G M N s H locs) (hM : MI l y b n t f k G av M N r M' N') (mf : MF false y C b n (some t) na)
    (hl : Cond.methodLinkNest own idx y host ∈ nestW) (hR : f + 1 ≤ R.frames ∧ 8 + (n + 11) + k ≤ R.locals) (hlen : av.length = na) (hls : ls.size = nL) (hst : st0 = av.reverse ++ rest) (hroom : (rest.map fun v => v.category).sum ≤ 8) (hdg : decode cc pc = .ok (.invokestatic idx, 3))
    (kk : ∀ (H1 : Heap) (locs1 : List Loc), ST G M' N' s H1 locs1 → W p l e R s m args below meth c H1 locs1 0 0 Q (F0 m (pc + 3) ls (.int r :: rest))) : W p l e R s m args below meth c H locs 0 0 Q (F0 m pc ls st0) :=
  va_calli (va_runSN (As := av) (rest := rest) (fx_fix F) hM (cw_n F mf hl hR) ⟨wd_blind, fun U hU hW => ⟨rfl, wd_call F S hU hW⟩⟩ rfl hlen hls hst (lv_room hroom) hdg ⟨Nat.zero_le _, Nat.zero_le _⟩) S.2.2 (fun _ _ h => h) (fun _ h => h)
    (fun r' u t H1 locs1 ht _ hr hB _ _ hS => by rw [hr]; exact kk H1 locs1 (st_of hB ht hS))
theorem c_nV {y : MethodName} {C host : String} {b : ByteArray} {n f k idx na : Nat} {av st0 : List Value} (F : FX p s m args meth c own cc nL ret G) (S : ST G M N s H locs) (hM : MV l y b n f k G av M N M' N') (mf : MF false y C b n none na)
    (hl : Cond.methodLinkNest own idx y host ∈ nestW) (hR : f + 1 ≤ R.frames ∧ 8 + (n + 11) + k ≤ R.locals) (hlen : av.length = na) (hls : ls.size = nL) (hst : st0 = av.reverse ++ rest) (hroom : (rest.map fun v => v.category).sum ≤ 8) (hdg : decode cc pc = .ok (.invokestatic idx, 3))
    (kk : ∀ (H1 : Heap) (locs1 : List Loc), ST G M' N' s H1 locs1 → W p l e R s m args below meth c H1 locs1 0 0 Q (F0 m (pc + 3) ls rest)) : W p l e R s m args below meth c H locs 0 0 Q (F0 m pc ls st0) :=
  va_callv (va_runSN (As := av) (rest := rest) (fx_fix F) hM (cw_n F mf hl hR) ⟨wd_blind, fun U hU hW => ⟨rfl, wd_call F S hU hW⟩⟩ rfl hlen hls hst (lv_room hroom) hdg ⟨Nat.zero_le _, Nat.zero_le _⟩) S.2.2 (fun _ _ h => h) (fun _ h => h)
    (fun u t H1 locs1 ht _ _ hB _ _ hS => kk H1 locs1 (st_of hB ht hS))
/-- Math.max, min, abs -/
theorem c_max (F : FX p s m args meth c own cc nL ret G) {idx : Nat} (hl : Cond.methodLink own idx Lib.Math.max.name ∈ lw_good) (h1 : Cond.static Lib.Math.max.name ∈ lw_good) (h2 : Cond.initialized "java/lang/Math" ∈ lw_good) (h3 : Cond.code Lib.Math.max.name Lib.Math.max.code 2 (some .int) ∈ lw_good)
    (hR : 1 ≤ R.frames) (hls : ls.size = nL) (hroom : (rest.map fun v => v.category).sum + 13 ≤ R.locals) {x y : Int32} (hdg : decode cc pc = .ok (.invokestatic idx, 3))
    (kk : W p l e R s m args below meth c H locs 0 0 Q (F0 m (pc + 3) ls (.int (if x < y then y else x) :: rest))) : W p l e R s m args below meth c H locs 0 0 Q (F0 m pc ls (.int y :: .int x :: rest)) :=
  va_mmax F.1 F.2.1 (by rw [hls]; exact F.2.2.1) F.2.2.2.2.1 (F.2.2.2.2.2.1 _ hl) (F.2.2.2.2.2.1 _ h1) (F.2.2.2.2.2.1 _ h2) (F.2.2.2.2.2.1 _ h3) hR hroom (Nat.zero_le _) (Nat.zero_le _) hdg kk
theorem c_min (F : FX p s m args meth c own cc nL ret G) {idx : Nat} (hl : Cond.methodLink own idx Lib.Math.min.name ∈ lw_good) (h1 : Cond.static Lib.Math.min.name ∈ lw_good) (h2 : Cond.initialized "java/lang/Math" ∈ lw_good) (h3 : Cond.code Lib.Math.min.name Lib.Math.min.code 2 (some .int) ∈ lw_good)
    (hR : 1 ≤ R.frames) (hls : ls.size = nL) (hroom : (rest.map fun v => v.category).sum + 13 ≤ R.locals) {x y : Int32} (hdg : decode cc pc = .ok (.invokestatic idx, 3))
    (kk : W p l e R s m args below meth c H locs 0 0 Q (F0 m (pc + 3) ls (.int (if y < x then y else x) :: rest))) : W p l e R s m args below meth c H locs 0 0 Q (F0 m pc ls (.int y :: .int x :: rest)) :=
  va_mmin F.1 F.2.1 (by rw [hls]; exact F.2.2.1) F.2.2.2.2.1 (F.2.2.2.2.2.1 _ hl) (F.2.2.2.2.2.1 _ h1) (F.2.2.2.2.2.1 _ h2) (F.2.2.2.2.2.1 _ h3) hR hroom (Nat.zero_le _) (Nat.zero_le _) hdg kk
theorem c_abs (F : FX p s m args meth c own cc nL ret G) {idx : Nat} (hl : Cond.methodLink own idx Lib.Math.abs.name ∈ lw_good) (h1 : Cond.static Lib.Math.abs.name ∈ lw_good) (h2 : Cond.initialized "java/lang/Math" ∈ lw_good) (h3 : Cond.code Lib.Math.abs.name Lib.Math.abs.code 1 (some .int) ∈ lw_good)
    (hR : 1 ≤ R.frames) (hls : ls.size = nL) (hroom : (rest.map fun v => v.category).sum + 13 ≤ R.locals) {x : Int32} (hdg : decode cc pc = .ok (.invokestatic idx, 3))
    (kk : W p l e R s m args below meth c H locs 0 0 Q (F0 m (pc + 3) ls (.int (if 0 ≤ x then x else 0 - x) :: rest))) : W p l e R s m args below meth c H locs 0 0 Q (F0 m pc ls (.int x :: rest)) :=
  va_mabs F.1 F.2.1 (by rw [hls]; exact F.2.2.1) F.2.2.2.2.1 (F.2.2.2.2.2.1 _ hl) (F.2.2.2.2.2.1 _ h1) (F.2.2.2.2.2.1 _ h2) (F.2.2.2.2.2.1 _ h3) hR hroom (Nat.zero_le _) (Nat.zero_le _) hdg kk
theorem iinc_n {x : Int32} {n : Int} {k : Int32} (h : Int32.ofInt n = k) : x + Int32.ofInt n = x + k := by rw [h]
theorem r_gS (F : FX p s m args meth c own cc nL ret G) (S : ST G M N s H locs) {t k idx : Nat} {n : String} (hZ : Zo (AG G.2.1) k t n s s.heap) (hl : Cond.fieldLink own idx "PhaseLights" n "[I" ∈ lw_good) (hdg : decode cc pc = .ok (.getstatic idx, 3))
    (kk : W p l e R s m args below meth c H locs 0 0 Q (F0 m (pc + 3) ls (.ref t :: rest))) : W p l e R s m args below meth c H locs 0 0 Q (F0 m pc ls rest) :=
  va_gets F.1 F.2.1 hZ.1 S.2.2 F.2.2.2.2.1 (F.2.2.2.2.2.1 _ hl) (fun _ h => h) hdg kk
end RW
end
section
/-! the words that the printed functions are made of -/
def rmd (x y : Int32) : Option Int32 := if y = 0 then none else some (x - x / y * y)
def ob2 {α β γ : Type} (x : Option (α × β)) (f : α → β → Option γ) : Option γ := x.bind fun p => f p.1 p.2
def ob3 {α β γ δ : Type} (x : Option (α × β × γ)) (f : α → β → γ → Option δ) : Option δ := x.bind fun p => f p.1 p.2.1 p.2.2
def ob4 {α β γ δ ε : Type} (x : Option (α × β × γ × δ)) (f : α → β → γ → δ → Option ε) : Option ε := x.bind fun p => f p.1 p.2.1 p.2.2.1 p.2.2.2
def ob5 {α β γ δ ε ζ : Type} (x : Option (α × β × γ × δ × ε)) (f : α → β → γ → δ → ε → Option ζ) : Option ζ := x.bind fun p => f p.1 p.2.1 p.2.2.1 p.2.2.2.1 p.2.2.2.2
theorem ob2_out {α β γ : Type} {x : Option (α × β)} {f : α → β → Option γ} {z : γ} (h : ob2 x f = some z) : ∃ a b, x = some (a, b) ∧ f a b = some z := by
  obtain ⟨p, h1, h2⟩ := ob_out h
  exact ⟨p.1, p.2, h1, h2⟩
theorem ob3_out {α β γ δ : Type} {x : Option (α × β × γ)} {f : α → β → γ → Option δ} {z : δ} (h : ob3 x f = some z) : ∃ a b c, x = some (a, b, c) ∧ f a b c = some z := by
  obtain ⟨p, h1, h2⟩ := ob_out h
  exact ⟨p.1, p.2.1, p.2.2, h1, h2⟩
theorem ob4_out {α β γ δ ε : Type} {x : Option (α × β × γ × δ)} {f : α → β → γ → δ → Option ε} {z : ε} (h : ob4 x f = some z) : ∃ a b c d, x = some (a, b, c, d) ∧ f a b c d = some z := by
  obtain ⟨p, h1, h2⟩ := ob_out h
  exact ⟨p.1, p.2.1, p.2.2.1, p.2.2.2, h1, h2⟩
theorem ob5_out {α β γ δ ε ζ : Type} {x : Option (α × β × γ × δ × ε)} {f : α → β → γ → δ → ε → Option ζ} {z : ζ} (h : ob5 x f = some z) : ∃ a b c d e, x = some (a, b, c, d, e) ∧ f a b c d e = some z := by
  obtain ⟨p, h1, h2⟩ := ob_out h
  exact ⟨p.1, p.2.1, p.2.2.1, p.2.2.2.1, p.2.2.2.2, h1, h2⟩
theorem dv_out {x y z : Int32} (h : dv x y = some z) : ¬ y = 0 ∧ x / y = z := by
  unfold dv at h
  split at h
  · cases h
  · exact ⟨by assumption, Option.some.inj h⟩
theorem rmd_out {x y z : Int32} (h : rmd x y = some z) : ¬ y = 0 ∧ x - x / y * y = z := by
  unfold rmd at h
  split at h
  · cases h
  · exact ⟨by assumption, Option.some.inj h⟩
/-- a name for a number -/
def lt1 {α β : Type} (x : α) (f : α → Option β) : Option β := f x
theorem lt1_out {α β : Type} {x : α} {f : α → Option β} {z : β} (h : lt1 x f = some z) : ∃ v, x = v ∧ f v = some z := ⟨x, rfl, h⟩
section RW
variable {p : Program} {l : Launch} {e : Env} {R : Room} {s : State} {m : MethodId} {args : Array Value} {below : List Frame} {meth : Method} {c : Code} {H : Heap} {locs : List Loc} {Q : State → Prop}
variable {cc : ByteArray} {pc nL : Nat} {ls : Array Slot} {rest : List Value} {G : GD} {M N M' N' : Mem} {own : String} {ret : Option FieldType}
theorem r_sL (F : FX p s m args meth c own cc nL ret G) (S : ST G M N s H locs) {t k : Nat} {n : String} {j x : Int32} (hZ : Zo (AG G.2.1) k t n s s.heap) (hg : sL k j = some x) (hdg : decode cc pc = .ok (.iaload, 1))
    (kk : W p l e R s m args below meth c H locs 0 0 Q (F0 m (pc + 1) ls (.int x :: rest))) : W p l e R s m args below meth c H locs 0 0 Q (F0 m pc ls (.int j :: .ref t :: rest)) := by
  unfold sL at hg
  split at hg
  · rename_i h
    cases hg
    exact va_ti F.1 F.2.1 hZ.2 S.2.2 (vp_of h) rfl hdg kk
  · cases hg
theorem r_sN (F : FX p s m args meth c own cc nL ret G) (S : ST G M N s H locs) {t k : Nat} {n : String} (hZ : Zo (AG G.2.1) k t n s s.heap) (hdg : decode cc pc = .ok (.arraylength, 1))
    (kk : W p l e R s m args below meth c H locs 0 0 Q (F0 m (pc + 1) ls (.int 3 :: rest))) : W p l e R s m args below meth c H locs 0 0 Q (F0 m pc ls (.ref t :: rest)) :=
  va_tlen F.1 F.2.1 hZ.2 S.2.2 rfl hdg kk
theorem tbl_out {x : Int32} {n : Int} (h : ∀ k : Int, 0 ≤ k → k ≤ n → ¬ x.toInt = k) : x.toInt < 0 ∨ n < x.toInt := by
  have h1 := h x.toInt
  omega
end RW
end
