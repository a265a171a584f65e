-- ===== PART A: goes FIRST, ahead of the names: the tables' words, and 'selects' of the private methods out of them =====
/-- a private method of a class that the tables say can be made, by its rows of tables_1 -/
def lw_okq (q : MethodName × Nat) : Prop := (q.1.cls ≠ "java/lang/invoke/MethodHandle" ∧ q.1.cls ≠ "java/lang/invoke/VarHandle") ∧ Cond.instantiable q.1.cls q.2 ∈ tables_1 ∧ Cond.privateMethod q.1 ∈ tables_1 ∧ Cond.instanceMethod q.1 ∈ tables_1
theorem lw_p0 : lw_okq (⟨"PhaseLights$History", "dropOldest", "()V"⟩, 2) := ⟨⟨by decide +kernel, by decide +kernel⟩, List.mem_of_getElem? (i := 180) (by decide +kernel), List.mem_of_getElem? (i := 363) (by decide +kernel), List.mem_of_getElem? (i := 364) (by decide +kernel)⟩
theorem lw_p1 : lw_okq (⟨"PhaseLights$Loads", "add", "(LPhaseLights$Premiere;II)V"⟩, 2) := ⟨⟨by decide +kernel, by decide +kernel⟩, List.mem_of_getElem? (i := 255) (by decide +kernel), List.mem_of_getElem? (i := 512) (by decide +kernel), List.mem_of_getElem? (i := 513) (by decide +kernel)⟩
theorem lw_p2 : lw_okq (⟨"PhaseLights$Premiere", "isFed", "(I)Z"⟩, 13) := ⟨⟨by decide +kernel, by decide +kernel⟩, List.mem_of_getElem? (i := 63) (by decide +kernel), List.mem_of_getElem? (i := 614) (by decide +kernel), List.mem_of_getElem? (i := 615) (by decide +kernel)⟩
theorem lw_p3 : lw_okq (⟨"PhaseLights$Orders", "stepTo", "(I)V"⟩, 11) := ⟨⟨by decide +kernel, by decide +kernel⟩, List.mem_of_getElem? (i := 197) (by decide +kernel), List.mem_of_getElem? (i := 637) (by decide +kernel), List.mem_of_getElem? (i := 638) (by decide +kernel)⟩
theorem lw_p4 : lw_okq (⟨"PhaseLights$Orders", "readOrder", "()Z"⟩, 11) := ⟨⟨by decide +kernel, by decide +kernel⟩, List.mem_of_getElem? (i := 197) (by decide +kernel), List.mem_of_getElem? (i := 641) (by decide +kernel), List.mem_of_getElem? (i := 642) (by decide +kernel)⟩
theorem lw_p5 : lw_okq (⟨"PhaseLights$Orders", "take", "(C)Z"⟩, 11) := ⟨⟨by decide +kernel, by decide +kernel⟩, List.mem_of_getElem? (i := 197) (by decide +kernel), List.mem_of_getElem? (i := 645) (by decide +kernel), List.mem_of_getElem? (i := 646) (by decide +kernel)⟩
theorem lw_p6 : lw_okq (⟨"PhaseLights$Orders", "readRecord", "()Z"⟩, 11) := ⟨⟨by decide +kernel, by decide +kernel⟩, List.mem_of_getElem? (i := 197) (by decide +kernel), List.mem_of_getElem? (i := 649) (by decide +kernel), List.mem_of_getElem? (i := 650) (by decide +kernel)⟩
theorem lw_p7 : lw_okq (⟨"PhaseLights$Orders", "readNumber", "(II)I"⟩, 11) := ⟨⟨by decide +kernel, by decide +kernel⟩, List.mem_of_getElem? (i := 197) (by decide +kernel), List.mem_of_getElem? (i := 653) (by decide +kernel), List.mem_of_getElem? (i := 654) (by decide +kernel)⟩
theorem lw_p8 : lw_okq (⟨"PhaseLights$Orders", "digitHere", "()I"⟩, 11) := ⟨⟨by decide +kernel, by decide +kernel⟩, List.mem_of_getElem? (i := 197) (by decide +kernel), List.mem_of_getElem? (i := 657) (by decide +kernel), List.mem_of_getElem? (i := 658) (by decide +kernel)⟩
theorem lw_p9 : lw_okq (⟨"PhaseLights$Orders", "note", "(III)Z"⟩, 11) := ⟨⟨by decide +kernel, by decide +kernel⟩, List.mem_of_getElem? (i := 197) (by decide +kernel), List.mem_of_getElem? (i := 661) (by decide +kernel), List.mem_of_getElem? (i := 662) (by decide +kernel)⟩
theorem lw_p10 : lw_okq (⟨"PhaseLights$Orders", "readGo", "()Z"⟩, 11) := ⟨⟨by decide +kernel, by decide +kernel⟩, List.mem_of_getElem? (i := 197) (by decide +kernel), List.mem_of_getElem? (i := 665) (by decide +kernel), List.mem_of_getElem? (i := 666) (by decide +kernel)⟩
theorem lw_p11 : lw_okq (⟨"PhaseLights$Orders", "readLevels", "()Z"⟩, 11) := ⟨⟨by decide +kernel, by decide +kernel⟩, List.mem_of_getElem? (i := 197) (by decide +kernel), List.mem_of_getElem? (i := 669) (by decide +kernel), List.mem_of_getElem? (i := 670) (by decide +kernel)⟩
theorem lw_p12 : lw_okq (⟨"PhaseLights$Orders", "readSpan", "()Z"⟩, 11) := ⟨⟨by decide +kernel, by decide +kernel⟩, List.mem_of_getElem? (i := 197) (by decide +kernel), List.mem_of_getElem? (i := 673) (by decide +kernel), List.mem_of_getElem? (i := 674) (by decide +kernel)⟩
theorem lw_p13 : lw_okq (⟨"PhaseLights$Orders", "carryOneOut", "(ILPhaseLights$Premiere;)Z"⟩, 11) := ⟨⟨by decide +kernel, by decide +kernel⟩, List.mem_of_getElem? (i := 197) (by decide +kernel), List.mem_of_getElem? (i := 681) (by decide +kernel), List.mem_of_getElem? (i := 682) (by decide +kernel)⟩
theorem lw_p14 : lw_okq (⟨"PhaseLights$Orders", "changeLevels", "(ILPhaseLights$Premiere;)Z"⟩, 11) := ⟨⟨by decide +kernel, by decide +kernel⟩, List.mem_of_getElem? (i := 197) (by decide +kernel), List.mem_of_getElem? (i := 685) (by decide +kernel), List.mem_of_getElem? (i := 686) (by decide +kernel)⟩
theorem lw_p15 : lw_okq (⟨"PhaseLights$Orders", "changeSpan", "(LPhaseLights$Premiere;III)Z"⟩, 11) := ⟨⟨by decide +kernel, by decide +kernel⟩, List.mem_of_getElem? (i := 197) (by decide +kernel), List.mem_of_getElem? (i := 689) (by decide +kernel), List.mem_of_getElem? (i := 690) (by decide +kernel)⟩
def lw_privs_1 : List (MethodName × Nat) := [(⟨"PhaseLights$History", "dropOldest", "()V"⟩, 2), (⟨"PhaseLights$Loads", "add", "(LPhaseLights$Premiere;II)V"⟩, 2), (⟨"PhaseLights$Premiere", "isFed", "(I)Z"⟩, 13), (⟨"PhaseLights$Orders", "stepTo", "(I)V"⟩, 11), (⟨"PhaseLights$Orders", "readOrder", "()Z"⟩, 11), (⟨"PhaseLights$Orders", "take", "(C)Z"⟩, 11), (⟨"PhaseLights$Orders", "readRecord", "()Z"⟩, 11), (⟨"PhaseLights$Orders", "readNumber", "(II)I"⟩, 11), (⟨"PhaseLights$Orders", "digitHere", "()I"⟩, 11), (⟨"PhaseLights$Orders", "note", "(III)Z"⟩, 11), (⟨"PhaseLights$Orders", "readGo", "()Z"⟩, 11), (⟨"PhaseLights$Orders", "readLevels", "()Z"⟩, 11), (⟨"PhaseLights$Orders", "readSpan", "()Z"⟩, 11), (⟨"PhaseLights$Orders", "carryOneOut", "(ILPhaseLights$Premiere;)Z"⟩, 11), (⟨"PhaseLights$Orders", "changeLevels", "(ILPhaseLights$Premiere;)Z"⟩, 11), (⟨"PhaseLights$Orders", "changeSpan", "(LPhaseLights$Premiere;III)Z"⟩, 11)]
theorem lw_r1 : ∀ q ∈ lw_privs_1, lw_okq q := List.forall_mem_cons.mpr ⟨lw_p0, List.forall_mem_cons.mpr ⟨lw_p1, List.forall_mem_cons.mpr ⟨lw_p2, List.forall_mem_cons.mpr ⟨lw_p3, List.forall_mem_cons.mpr ⟨lw_p4, List.forall_mem_cons.mpr ⟨lw_p5, List.forall_mem_cons.mpr ⟨lw_p6, List.forall_mem_cons.mpr ⟨lw_p7, List.forall_mem_cons.mpr ⟨lw_p8, List.forall_mem_cons.mpr ⟨lw_p9, List.forall_mem_cons.mpr ⟨lw_p10, List.forall_mem_cons.mpr ⟨lw_p11, List.forall_mem_cons.mpr ⟨lw_p12, List.forall_mem_cons.mpr ⟨lw_p13, List.forall_mem_cons.mpr ⟨lw_p14, List.forall_mem_cons.mpr ⟨lw_p15, fun _ h => absurd h List.not_mem_nil⟩⟩⟩⟩⟩⟩⟩⟩⟩⟩⟩⟩⟩⟩⟩⟩
theorem lw_p16 : lw_okq (⟨"PhaseLights$Orders", "startRecorded", "(ILPhaseLights$Premiere;)Z"⟩, 11) := ⟨⟨by decide +kernel, by decide +kernel⟩, List.mem_of_getElem? (i := 197) (by decide +kernel), List.mem_of_getElem? (i := 698) (by decide +kernel), List.mem_of_getElem? (i := 699) (by decide +kernel)⟩
theorem lw_p17 : lw_okq (⟨"PhaseLights$State", "neededOn", "(I)I"⟩, 3) := ⟨⟨by decide +kernel, by decide +kernel⟩, List.mem_of_getElem? (i := 25) (by decide +kernel), List.mem_of_getElem? (i := 813) (by decide +kernel), List.mem_of_getElem? (i := 814) (by decide +kernel)⟩
theorem lw_p18 : lw_okq (⟨"PhaseLights$Trial", "begin", "(LPhaseLights$Premiere;II)V"⟩, 5) := ⟨⟨by decide +kernel, by decide +kernel⟩, List.mem_of_getElem? (i := 292) (by decide +kernel), List.mem_of_getElem? (i := 826) (by decide +kernel), List.mem_of_getElem? (i := 827) (by decide +kernel)⟩
theorem lw_p19 : lw_okq (⟨"PhaseLightsModel", "know", "()V"⟩, 21) := ⟨⟨by decide +kernel, by decide +kernel⟩, List.mem_of_getElem? (i := 895) (by decide +kernel), List.mem_of_getElem? (i := 976) (by decide +kernel), List.mem_of_getElem? (i := 977) (by decide +kernel)⟩
theorem lw_p20 : lw_okq (⟨"PhaseLightsModel", "isLamp", "(II)Z"⟩, 21) := ⟨⟨by decide +kernel, by decide +kernel⟩, List.mem_of_getElem? (i := 895) (by decide +kernel), List.mem_of_getElem? (i := 1008) (by decide +kernel), List.mem_of_getElem? (i := 1009) (by decide +kernel)⟩
theorem lw_p21 : lw_okq (⟨"PhaseLightsModel", "worst", "(II)I"⟩, 21) := ⟨⟨by decide +kernel, by decide +kernel⟩, List.mem_of_getElem? (i := 895) (by decide +kernel), List.mem_of_getElem? (i := 1024) (by decide +kernel), List.mem_of_getElem? (i := 1025) (by decide +kernel)⟩
theorem lw_p22 : lw_okq (⟨"PhaseLightsModel", "loadBy", "(III)I"⟩, 21) := ⟨⟨by decide +kernel, by decide +kernel⟩, List.mem_of_getElem? (i := 895) (by decide +kernel), List.mem_of_getElem? (i := 1028) (by decide +kernel), List.mem_of_getElem? (i := 1029) (by decide +kernel)⟩
theorem lw_p23 : lw_okq (⟨"PhaseLightsModel", "watts", "(III)I"⟩, 21) := ⟨⟨by decide +kernel, by decide +kernel⟩, List.mem_of_getElem? (i := 895) (by decide +kernel), List.mem_of_getElem? (i := 1032) (by decide +kernel), List.mem_of_getElem? (i := 1033) (by decide +kernel)⟩
theorem lw_p24 : lw_okq (⟨"PhaseLightsModel", "atFault", "(III)I"⟩, 21) := ⟨⟨by decide +kernel, by decide +kernel⟩, List.mem_of_getElem? (i := 895) (by decide +kernel), List.mem_of_getElem? (i := 1040) (by decide +kernel), List.mem_of_getElem? (i := 1041) (by decide +kernel)⟩
theorem lw_p25 : lw_okq (⟨"PhaseLightsModel", "recordFault", "(III)I"⟩, 21) := ⟨⟨by decide +kernel, by decide +kernel⟩, List.mem_of_getElem? (i := 895) (by decide +kernel), List.mem_of_getElem? (i := 1048) (by decide +kernel), List.mem_of_getElem? (i := 1049) (by decide +kernel)⟩
theorem lw_p26 : lw_okq (⟨"PhaseLightsModel", "records", "(III)I"⟩, 21) := ⟨⟨by decide +kernel, by decide +kernel⟩, List.mem_of_getElem? (i := 895) (by decide +kernel), List.mem_of_getElem? (i := 1055) (by decide +kernel), List.mem_of_getElem? (i := 1056) (by decide +kernel)⟩
theorem lw_p27 : lw_okq (⟨"PhaseLightsModel", "goFault", "(II)I"⟩, 21) := ⟨⟨by decide +kernel, by decide +kernel⟩, List.mem_of_getElem? (i := 895) (by decide +kernel), List.mem_of_getElem? (i := 1063) (by decide +kernel), List.mem_of_getElem? (i := 1064) (by decide +kernel)⟩
theorem lw_p28 : lw_okq (⟨"PhaseLightsModel", "start", "(III)V"⟩, 21) := ⟨⟨by decide +kernel, by decide +kernel⟩, List.mem_of_getElem? (i := 895) (by decide +kernel), List.mem_of_getElem? (i := 1067) (by decide +kernel), List.mem_of_getElem? (i := 1068) (by decide +kernel)⟩
theorem lw_p29 : lw_okq (⟨"PhaseLightsModel", "resets", "(I)I"⟩, 21) := ⟨⟨by decide +kernel, by decide +kernel⟩, List.mem_of_getElem? (i := 895) (by decide +kernel), List.mem_of_getElem? (i := 1075) (by decide +kernel), List.mem_of_getElem? (i := 1076) (by decide +kernel)⟩
theorem lw_p30 : lw_okq (⟨"PhaseLightsModel", "turn", "(I)I"⟩, 21) := ⟨⟨by decide +kernel, by decide +kernel⟩, List.mem_of_getElem? (i := 895) (by decide +kernel), List.mem_of_getElem? (i := 1083) (by decide +kernel), List.mem_of_getElem? (i := 1084) (by decide +kernel)⟩
theorem lw_p31 : lw_okq (⟨"PhaseLightsModel", "trip", "(IIII)I"⟩, 21) := ⟨⟨by decide +kernel, by decide +kernel⟩, List.mem_of_getElem? (i := 895) (by decide +kernel), List.mem_of_getElem? (i := 1087) (by decide +kernel), List.mem_of_getElem? (i := 1088) (by decide +kernel)⟩
def lw_privs_2 : List (MethodName × Nat) := [(⟨"PhaseLights$Orders", "startRecorded", "(ILPhaseLights$Premiere;)Z"⟩, 11), (⟨"PhaseLights$State", "neededOn", "(I)I"⟩, 3), (⟨"PhaseLights$Trial", "begin", "(LPhaseLights$Premiere;II)V"⟩, 5), (⟨"PhaseLightsModel", "know", "()V"⟩, 21), (⟨"PhaseLightsModel", "isLamp", "(II)Z"⟩, 21), (⟨"PhaseLightsModel", "worst", "(II)I"⟩, 21), (⟨"PhaseLightsModel", "loadBy", "(III)I"⟩, 21), (⟨"PhaseLightsModel", "watts", "(III)I"⟩, 21), (⟨"PhaseLightsModel", "atFault", "(III)I"⟩, 21), (⟨"PhaseLightsModel", "recordFault", "(III)I"⟩, 21), (⟨"PhaseLightsModel", "records", "(III)I"⟩, 21), (⟨"PhaseLightsModel", "goFault", "(II)I"⟩, 21), (⟨"PhaseLightsModel", "start", "(III)V"⟩, 21), (⟨"PhaseLightsModel", "resets", "(I)I"⟩, 21), (⟨"PhaseLightsModel", "turn", "(I)I"⟩, 21), (⟨"PhaseLightsModel", "trip", "(IIII)I"⟩, 21)]
theorem lw_r2 : ∀ q ∈ lw_privs_2, lw_okq q := List.forall_mem_cons.mpr ⟨lw_p16, List.forall_mem_cons.mpr ⟨lw_p17, List.forall_mem_cons.mpr ⟨lw_p18, List.forall_mem_cons.mpr ⟨lw_p19, List.forall_mem_cons.mpr ⟨lw_p20, List.forall_mem_cons.mpr ⟨lw_p21, List.forall_mem_cons.mpr ⟨lw_p22, List.forall_mem_cons.mpr ⟨lw_p23, List.forall_mem_cons.mpr ⟨lw_p24, List.forall_mem_cons.mpr ⟨lw_p25, List.forall_mem_cons.mpr ⟨lw_p26, List.forall_mem_cons.mpr ⟨lw_p27, List.forall_mem_cons.mpr ⟨lw_p28, List.forall_mem_cons.mpr ⟨lw_p29, List.forall_mem_cons.mpr ⟨lw_p30, List.forall_mem_cons.mpr ⟨lw_p31, fun _ h => absurd h List.not_mem_nil⟩⟩⟩⟩⟩⟩⟩⟩⟩⟩⟩⟩⟩⟩⟩⟩
theorem lw_p32 : lw_okq (⟨"PhaseLightsModel", "load", "(II)I"⟩, 21) := ⟨⟨by decide +kernel, by decide +kernel⟩, List.mem_of_getElem? (i := 895) (by decide +kernel), List.mem_of_getElem? (i := 1091) (by decide +kernel), List.mem_of_getElem? (i := 1092) (by decide +kernel)⟩
theorem lw_p33 : lw_okq (⟨"PhaseLightsModel", "loadOfLamp", "(II)I"⟩, 21) := ⟨⟨by decide +kernel, by decide +kernel⟩, List.mem_of_getElem? (i := 895) (by decide +kernel), List.mem_of_getElem? (i := 1095) (by decide +kernel), List.mem_of_getElem? (i := 1096) (by decide +kernel)⟩
theorem lw_p34 : lw_okq (⟨"PhaseLightsModel", "goThrough", "(ZI)I"⟩, 21) := ⟨⟨by decide +kernel, by decide +kernel⟩, List.mem_of_getElem? (i := 895) (by decide +kernel), List.mem_of_getElem? (i := 1112) (by decide +kernel), List.mem_of_getElem? (i := 1113) (by decide +kernel)⟩
theorem lw_p35 : lw_okq (⟨"PhaseLightsModel", "order", "()V"⟩, 21) := ⟨⟨by decide +kernel, by decide +kernel⟩, List.mem_of_getElem? (i := 895) (by decide +kernel), List.mem_of_getElem? (i := 1116) (by decide +kernel), List.mem_of_getElem? (i := 1117) (by decide +kernel)⟩
theorem lw_p36 : lw_okq (⟨"PhaseLightsModel", "readLamps", "()V"⟩, 21) := ⟨⟨by decide +kernel, by decide +kernel⟩, List.mem_of_getElem? (i := 895) (by decide +kernel), List.mem_of_getElem? (i := 1120) (by decide +kernel), List.mem_of_getElem? (i := 1121) (by decide +kernel)⟩
theorem lw_p37 : lw_okq (⟨"PhaseLightsModel", "number", "(II)I"⟩, 21) := ⟨⟨by decide +kernel, by decide +kernel⟩, List.mem_of_getElem? (i := 895) (by decide +kernel), List.mem_of_getElem? (i := 1124) (by decide +kernel), List.mem_of_getElem? (i := 1125) (by decide +kernel)⟩
theorem lw_p38 : lw_okq (⟨"PhaseLightsModel", "sign", "(II)I"⟩, 21) := ⟨⟨by decide +kernel, by decide +kernel⟩, List.mem_of_getElem? (i := 895) (by decide +kernel), List.mem_of_getElem? (i := 1128) (by decide +kernel), List.mem_of_getElem? (i := 1129) (by decide +kernel)⟩
theorem lw_p39 : lw_okq (⟨"PhaseLightsModel", "isNext", "(II)Z"⟩, 21) := ⟨⟨by decide +kernel, by decide +kernel⟩, List.mem_of_getElem? (i := 895) (by decide +kernel), List.mem_of_getElem? (i := 1132) (by decide +kernel), List.mem_of_getElem? (i := 1133) (by decide +kernel)⟩
theorem lw_p40 : lw_okq (⟨"PhaseLightsModel", "does", "(I)Z"⟩, 21) := ⟨⟨by decide +kernel, by decide +kernel⟩, List.mem_of_getElem? (i := 895) (by decide +kernel), List.mem_of_getElem? (i := 1136) (by decide +kernel), List.mem_of_getElem? (i := 1137) (by decide +kernel)⟩
theorem lw_p41 : lw_okq (⟨"PhaseLightsModel", "wants", "(I)Z"⟩, 21) := ⟨⟨by decide +kernel, by decide +kernel⟩, List.mem_of_getElem? (i := 895) (by decide +kernel), List.mem_of_getElem? (i := 1140) (by decide +kernel), List.mem_of_getElem? (i := 1141) (by decide +kernel)⟩
theorem lw_p42 : lw_okq (⟨"PhaseLightsModel", "lampsOn", "(II)I"⟩, 21) := ⟨⟨by decide +kernel, by decide +kernel⟩, List.mem_of_getElem? (i := 895) (by decide +kernel), List.mem_of_getElem? (i := 1156) (by decide +kernel), List.mem_of_getElem? (i := 1157) (by decide +kernel)⟩
theorem lw_p43 : lw_okq (⟨"PhaseLightsModel", "dimmersOf", "(II)I"⟩, 21) := ⟨⟨by decide +kernel, by decide +kernel⟩, List.mem_of_getElem? (i := 895) (by decide +kernel), List.mem_of_getElem? (i := 1164) (by decide +kernel), List.mem_of_getElem? (i := 1165) (by decide +kernel)⟩
theorem lw_p44 : lw_okq (⟨"PhaseLightsModel", "recorded", "(I)I"⟩, 21) := ⟨⟨by decide +kernel, by decide +kernel⟩, List.mem_of_getElem? (i := 895) (by decide +kernel), List.mem_of_getElem? (i := 1180) (by decide +kernel), List.mem_of_getElem? (i := 1181) (by decide +kernel)⟩
theorem lw_p45 : lw_okq (⟨"PhaseLightsModel", "loadOf", "(I)I"⟩, 21) := ⟨⟨by decide +kernel, by decide +kernel⟩, List.mem_of_getElem? (i := 895) (by decide +kernel), List.mem_of_getElem? (i := 1184) (by decide +kernel), List.mem_of_getElem? (i := 1185) (by decide +kernel)⟩
theorem lw_p46 : lw_okq (⟨"PhaseLightsModel", "tripped", "(III)I"⟩, 21) := ⟨⟨by decide +kernel, by decide +kernel⟩, List.mem_of_getElem? (i := 895) (by decide +kernel), List.mem_of_getElem? (i := 1188) (by decide +kernel), List.mem_of_getElem? (i := 1189) (by decide +kernel)⟩
theorem lw_p47 : lw_okq (⟨"PhaseLightsModel", "apart", "(I)I"⟩, 21) := ⟨⟨by decide +kernel, by decide +kernel⟩, List.mem_of_getElem? (i := 895) (by decide +kernel), List.mem_of_getElem? (i := 1192) (by decide +kernel), List.mem_of_getElem? (i := 1193) (by decide +kernel)⟩
def lw_privs_3 : List (MethodName × Nat) := [(⟨"PhaseLightsModel", "load", "(II)I"⟩, 21), (⟨"PhaseLightsModel", "loadOfLamp", "(II)I"⟩, 21), (⟨"PhaseLightsModel", "goThrough", "(ZI)I"⟩, 21), (⟨"PhaseLightsModel", "order", "()V"⟩, 21), (⟨"PhaseLightsModel", "readLamps", "()V"⟩, 21), (⟨"PhaseLightsModel", "number", "(II)I"⟩, 21), (⟨"PhaseLightsModel", "sign", "(II)I"⟩, 21), (⟨"PhaseLightsModel", "isNext", "(II)Z"⟩, 21), (⟨"PhaseLightsModel", "does", "(I)Z"⟩, 21), (⟨"PhaseLightsModel", "wants", "(I)Z"⟩, 21), (⟨"PhaseLightsModel", "lampsOn", "(II)I"⟩, 21), (⟨"PhaseLightsModel", "dimmersOf", "(II)I"⟩, 21), (⟨"PhaseLightsModel", "recorded", "(I)I"⟩, 21), (⟨"PhaseLightsModel", "loadOf", "(I)I"⟩, 21), (⟨"PhaseLightsModel", "tripped", "(III)I"⟩, 21), (⟨"PhaseLightsModel", "apart", "(I)I"⟩, 21)]
theorem lw_r3 : ∀ q ∈ lw_privs_3, lw_okq q := List.forall_mem_cons.mpr ⟨lw_p32, List.forall_mem_cons.mpr ⟨lw_p33, List.forall_mem_cons.mpr ⟨lw_p34, List.forall_mem_cons.mpr ⟨lw_p35, List.forall_mem_cons.mpr ⟨lw_p36, List.forall_mem_cons.mpr ⟨lw_p37, List.forall_mem_cons.mpr ⟨lw_p38, List.forall_mem_cons.mpr ⟨lw_p39, List.forall_mem_cons.mpr ⟨lw_p40, List.forall_mem_cons.mpr ⟨lw_p41, List.forall_mem_cons.mpr ⟨lw_p42, List.forall_mem_cons.mpr ⟨lw_p43, List.forall_mem_cons.mpr ⟨lw_p44, List.forall_mem_cons.mpr ⟨lw_p45, List.forall_mem_cons.mpr ⟨lw_p46, List.forall_mem_cons.mpr ⟨lw_p47, fun _ h => absurd h List.not_mem_nil⟩⟩⟩⟩⟩⟩⟩⟩⟩⟩⟩⟩⟩⟩⟩⟩
theorem lw_p48 : lw_okq (⟨"PhaseLightsModel", "hired", "(III)I"⟩, 21) := ⟨⟨by decide +kernel, by decide +kernel⟩, List.mem_of_getElem? (i := 895) (by decide +kernel), List.mem_of_getElem? (i := 1200) (by decide +kernel), List.mem_of_getElem? (i := 1201) (by decide +kernel)⟩
theorem lw_p49 : lw_okq (⟨"PhaseLightsModel", "needed", "(II)I"⟩, 21) := ⟨⟨by decide +kernel, by decide +kernel⟩, List.mem_of_getElem? (i := 895) (by decide +kernel), List.mem_of_getElem? (i := 1204) (by decide +kernel), List.mem_of_getElem? (i := 1205) (by decide +kernel)⟩
theorem lw_p50 : lw_okq (⟨"PhaseLightsModel", "sum", "(I)I"⟩, 21) := ⟨⟨by decide +kernel, by decide +kernel⟩, List.mem_of_getElem? (i := 895) (by decide +kernel), List.mem_of_getElem? (i := 1212) (by decide +kernel), List.mem_of_getElem? (i := 1213) (by decide +kernel)⟩
theorem lw_p51 : lw_okq (⟨"PhaseLightsModel", "fullest", "()I"⟩, 21) := ⟨⟨by decide +kernel, by decide +kernel⟩, List.mem_of_getElem? (i := 895) (by decide +kernel), List.mem_of_getElem? (i := 1216) (by decide +kernel), List.mem_of_getElem? (i := 1217) (by decide +kernel)⟩
theorem lw_p52 : lw_okq (⟨"PhaseLightsModel", "tryOut", "(III)V"⟩, 21) := ⟨⟨by decide +kernel, by decide +kernel⟩, List.mem_of_getElem? (i := 895) (by decide +kernel), List.mem_of_getElem? (i := 1224) (by decide +kernel), List.mem_of_getElem? (i := 1225) (by decide +kernel)⟩
theorem lw_p53 : lw_okq (⟨"PhaseLightsModel", "putAside", "()V"⟩, 21) := ⟨⟨by decide +kernel, by decide +kernel⟩, List.mem_of_getElem? (i := 895) (by decide +kernel), List.mem_of_getElem? (i := 1228) (by decide +kernel), List.mem_of_getElem? (i := 1229) (by decide +kernel)⟩
theorem lw_p54 : lw_okq (⟨"PhaseLightsModel", "putBack", "()V"⟩, 21) := ⟨⟨by decide +kernel, by decide +kernel⟩, List.mem_of_getElem? (i := 895) (by decide +kernel), List.mem_of_getElem? (i := 1232) (by decide +kernel), List.mem_of_getElem? (i := 1233) (by decide +kernel)⟩
theorem lw_p55 : lw_okq (⟨"PhaseLightsModel", "lamps", "()I"⟩, 21) := ⟨⟨by decide +kernel, by decide +kernel⟩, List.mem_of_getElem? (i := 895) (by decide +kernel), List.mem_of_getElem? (i := 1256) (by decide +kernel), List.mem_of_getElem? (i := 1257) (by decide +kernel)⟩
def lw_privs_4 : List (MethodName × Nat) := [(⟨"PhaseLightsModel", "hired", "(III)I"⟩, 21), (⟨"PhaseLightsModel", "needed", "(II)I"⟩, 21), (⟨"PhaseLightsModel", "sum", "(I)I"⟩, 21), (⟨"PhaseLightsModel", "fullest", "()I"⟩, 21), (⟨"PhaseLightsModel", "tryOut", "(III)V"⟩, 21), (⟨"PhaseLightsModel", "putAside", "()V"⟩, 21), (⟨"PhaseLightsModel", "putBack", "()V"⟩, 21), (⟨"PhaseLightsModel", "lamps", "()I"⟩, 21)]
theorem lw_r4 : ∀ q ∈ lw_privs_4, lw_okq q := List.forall_mem_cons.mpr ⟨lw_p48, List.forall_mem_cons.mpr ⟨lw_p49, List.forall_mem_cons.mpr ⟨lw_p50, List.forall_mem_cons.mpr ⟨lw_p51, List.forall_mem_cons.mpr ⟨lw_p52, List.forall_mem_cons.mpr ⟨lw_p53, List.forall_mem_cons.mpr ⟨lw_p54, List.forall_mem_cons.mpr ⟨lw_p55, fun _ h => absurd h List.not_mem_nil⟩⟩⟩⟩⟩⟩⟩⟩
def lw_privs : List (MethodName × Nat) := lw_privs_1 ++ (lw_privs_2 ++ (lw_privs_3 ++ (lw_privs_4)))
def lw_tbl : List Cond := k2_sels lw_privs ++ tables_1
theorem lw_privs_ok : ∀ q ∈ lw_privs, lw_okq q := by
  show ∀ q ∈ lw_privs_1 ++ (lw_privs_2 ++ (lw_privs_3 ++ (lw_privs_4))), lw_okq q
  exact List.forall_mem_append.mpr ⟨lw_r1, List.forall_mem_append.mpr ⟨lw_r2, List.forall_mem_append.mpr ⟨lw_r3, lw_r4⟩⟩⟩
def RX0 : String := "PhaseLights$Breakers"
def TX0 : u_T := fun k => match k with
  | 0 => ("PhaseLights$Breakers", "counts", "[I", true)
  | _ => ("PhaseLights$Breakers", "tripped", "I", false)
def tyX0 : Nat → FieldType := fun k => match k with
  | 0 => .array .int
  | _ => .int
abbrev wsX00 : List Cond := u_ws RX0 TX0 2
theorem nmX0 : ∀ a, a < 2 → ∀ b, b < 2 → a ≠ b → (TX0 a).2.1 ≠ (TX0 b).2.1 := by decide +kernel
theorem tyX0_ok : ∀ k, k < 2 → parseFieldDescriptor (TX0 k).2.2.1 = some (tyX0 k) := by decide +kernel
abbrev cX0_init : ByteArray := prog_2_method_1_code
def yX0_init : MethodName := ⟨RX0, "<init>", "([I)V"⟩
abbrev cX0_hasTripped : ByteArray := prog_2_method_2_code
def yX0_hasTripped : MethodName := ⟨RX0, "hasTripped", "(I)Z"⟩
abbrev cX0_check : ByteArray := prog_2_method_3_code
def yX0_check : MethodName := ⟨RX0, "check", "([III)I"⟩
abbrev cX0_clearTrips : ByteArray := prog_2_method_4_code
def yX0_clearTrips : MethodName := ⟨RX0, "clearTrips", "()I"⟩
abbrev cX0_copyFrom : ByteArray := prog_2_method_5_code
def yX0_copyFrom : MethodName := ⟨RX0, "copyFrom", "(LPhaseLights$Breakers;)V"⟩
def RX1 : String := "PhaseLights$Fade"
def TX1 : u_T := fun k => match k with
  | 0 => ("PhaseLights$Fade", "ticks", "I", false)
  | 1 => ("PhaseLights$Fade", "gone", "I", false)
  | 2 => ("PhaseLights$Fade", "from", "[I", true)
  | _ => ("PhaseLights$Fade", "to", "[I", true)
def tyX1 : Nat → FieldType := fun k => match k with
  | 0 => .int
  | 1 => .int
  | 2 => .array .int
  | _ => .array .int
abbrev wsX10 : List Cond := u_ws RX1 TX1 4
theorem nmX1 : ∀ a, a < 4 → ∀ b, b < 4 → a ≠ b → (TX1 a).2.1 ≠ (TX1 b).2.1 := by decide +kernel
theorem tyX1_ok : ∀ k, k < 4 → parseFieldDescriptor (TX1 k).2.2.1 = some (tyX1 k) := by decide +kernel
abbrev cX1_init : ByteArray := prog_3_method_1_code
def yX1_init : MethodName := ⟨RX1, "<init>", "()V"⟩
abbrev cX1_start : ByteArray := prog_3_method_2_code
def yX1_start : MethodName := ⟨RX1, "start", "([I[II)V"⟩
abbrev cX1_ticksLeft : ByteArray := prog_3_method_3_code
def yX1_ticksLeft : MethodName := ⟨RX1, "ticksLeft", "()I"⟩
abbrev cX1_step : ByteArray := prog_3_method_4_code
def yX1_step : MethodName := ⟨RX1, "step", "([I)V"⟩
abbrev cX1_removeLamp : ByteArray := prog_3_method_5_code
def yX1_removeLamp : MethodName := ⟨RX1, "removeLamp", "(I)V"⟩
abbrev cX1_copyFrom : ByteArray := prog_3_method_6_code
def yX1_copyFrom : MethodName := ⟨RX1, "copyFrom", "(LPhaseLights$Fade;)V"⟩
def RX2 : String := "PhaseLights$History"
def TX2 : u_T := fun k => match k with
  | 0 => ("PhaseLights$History", "states", "[LPhaseLights$State;", true)
  | _ => ("PhaseLights$History", "size", "I", false)
def tyX2 : Nat → FieldType := fun k => match k with
  | 0 => .array (.object "PhaseLights$State")
  | _ => .int
abbrev wsX20 : List Cond := u_ws RX2 TX2 2
theorem nmX2 : ∀ a, a < 2 → ∀ b, b < 2 → a ≠ b → (TX2 a).2.1 ≠ (TX2 b).2.1 := by decide +kernel
theorem tyX2_ok : ∀ k, k < 2 → parseFieldDescriptor (TX2 k).2.2.1 = some (tyX2 k) := by decide +kernel
abbrev cX2_init : ByteArray := prog_4_method_1_code
def yX2_init : MethodName := ⟨RX2, "<init>", "()V"⟩
abbrev cX2_push : ByteArray := prog_4_method_2_code
def yX2_push : MethodName := ⟨RX2, "push", "(LPhaseLights$State;)V"⟩
abbrev cX2_pop : ByteArray := prog_4_method_3_code
def yX2_pop : MethodName := ⟨RX2, "pop", "(LPhaseLights$State;)Z"⟩
abbrev cX2_dropOldest : ByteArray := prog_4_method_4_code
def yX2_dropOldest : MethodName := ⟨RX2, "dropOldest", "()V"⟩
def RX3 : String := "PhaseLights$Loads"
def TX3 : u_T := fun k => match k with
  | 0 => ("PhaseLights$Loads", "ofDimmer", "[I", true)
  | _ => ("PhaseLights$Loads", "ofPhase", "[I", true)
def tyX3 : Nat → FieldType := fun k => match k with
  | 0 => .array .int
  | _ => .array .int
abbrev wsX30 : List Cond := u_ws RX3 TX3 2
theorem nmX3 : ∀ a, a < 2 → ∀ b, b < 2 → a ≠ b → (TX3 a).2.1 ≠ (TX3 b).2.1 := by decide +kernel
theorem tyX3_ok : ∀ k, k < 2 → parseFieldDescriptor (TX3 k).2.2.1 = some (tyX3 k) := by decide +kernel
abbrev cX3_init : ByteArray := prog_5_method_1_code
def yX3_init : MethodName := ⟨RX3, "<init>", "()V"⟩
abbrev cX3_measureNow : ByteArray := prog_5_method_2_code
def yX3_measureNow : MethodName := ⟨RX3, "measureNow", "(LPhaseLights$Premiere;LPhaseLights$Types;)V"⟩
abbrev cX3_measureCue : ByteArray := prog_5_method_3_code
def yX3_measureCue : MethodName := ⟨RX3, "measureCue", "(LPhaseLights$Premiere;ILPhaseLights$Types;)V"⟩
abbrev cX3_empty : ByteArray := prog_5_method_4_code
def yX3_empty : MethodName := ⟨RX3, "empty", "()V"⟩
abbrev cX3_sumOfPhases : ByteArray := prog_5_method_5_code
def yX3_sumOfPhases : MethodName := ⟨RX3, "sumOfPhases", "()I"⟩
abbrev cX3_add : ByteArray := prog_5_method_6_code
def yX3_add : MethodName := ⟨RX3, "add", "(LPhaseLights$Premiere;II)V"⟩
def RX4 : String := "PhaseLights$Orders"
def TX4 : u_T := fun k => match k with
  | 0 => ("PhaseLights$Orders", "pad", "LPhaseLights$Pad;", true)
  | 1 => ("PhaseLights$Orders", "place", "I", false)
  | 2 => ("PhaseLights$Orders", "sign", "I", false)
  | 3 => ("PhaseLights$Orders", "orders", "I", false)
  | 4 => ("PhaseLights$Orders", "kind", "[I", true)
  | 5 => ("PhaseLights$Orders", "levelOrCue", "[I", true)
  | 6 => ("PhaseLights$Orders", "cueTicks", "[I", true)
  | 7 => ("PhaseLights$Orders", "spansEnd", "[I", true)
  | 8 => ("PhaseLights$Orders", "spans", "I", false)
  | 9 => ("PhaseLights$Orders", "spanFirst", "[I", true)
  | _ => ("PhaseLights$Orders", "spanLast", "[I", true)
def tyX4 : Nat → FieldType := fun k => match k with
  | 0 => .object "PhaseLights$Pad"
  | 1 => .int
  | 2 => .int
  | 3 => .int
  | 4 => .array .int
  | 5 => .array .int
  | 6 => .array .int
  | 7 => .array .int
  | 8 => .int
  | 9 => .array .int
  | _ => .array .int
abbrev wsX40 : List Cond := u_ws RX4 TX4 11
theorem nmX4 : ∀ a, a < 11 → ∀ b, b < 11 → a ≠ b → (TX4 a).2.1 ≠ (TX4 b).2.1 := by decide +kernel
theorem tyX4_ok : ∀ k, k < 11 → parseFieldDescriptor (TX4 k).2.2.1 = some (tyX4 k) := by decide +kernel
abbrev cX4_init : ByteArray := prog_6_method_1_code
def yX4_init : MethodName := ⟨RX4, "<init>", "()V"⟩
abbrev cX4_read : ByteArray := prog_6_method_2_code
def yX4_read : MethodName := ⟨RX4, "read", "()Z"⟩
abbrev cX4_readOrder : ByteArray := prog_6_method_3_code
def yX4_readOrder : MethodName := ⟨RX4, "readOrder", "()Z"⟩
abbrev cX4_readRecord : ByteArray := prog_6_method_4_code
def yX4_readRecord : MethodName := ⟨RX4, "readRecord", "()Z"⟩
abbrev cX4_readGo : ByteArray := prog_6_method_5_code
def yX4_readGo : MethodName := ⟨RX4, "readGo", "()Z"⟩
abbrev cX4_readLevels : ByteArray := prog_6_method_6_code
def yX4_readLevels : MethodName := ⟨RX4, "readLevels", "()Z"⟩
abbrev cX4_readSpan : ByteArray := prog_6_method_7_code
def yX4_readSpan : MethodName := ⟨RX4, "readSpan", "()Z"⟩
abbrev cX4_readNumber : ByteArray := prog_6_method_8_code
def yX4_readNumber : MethodName := ⟨RX4, "readNumber", "(II)I"⟩
abbrev cX4_digitHere : ByteArray := prog_6_method_9_code
def yX4_digitHere : MethodName := ⟨RX4, "digitHere", "()I"⟩
abbrev cX4_take : ByteArray := prog_6_method_10_code
def yX4_take : MethodName := ⟨RX4, "take", "(C)Z"⟩
abbrev cX4_stepTo : ByteArray := prog_6_method_11_code
def yX4_stepTo : MethodName := ⟨RX4, "stepTo", "(I)V"⟩
abbrev cX4_note : ByteArray := prog_6_method_12_code
def yX4_note : MethodName := ⟨RX4, "note", "(III)Z"⟩
abbrev cX4_carryAllOut : ByteArray := prog_6_method_13_code
def yX4_carryAllOut : MethodName := ⟨RX4, "carryAllOut", "(LPhaseLights$Premiere;)I"⟩
abbrev cX4_carryOneOut : ByteArray := prog_6_method_14_code
def yX4_carryOneOut : MethodName := ⟨RX4, "carryOneOut", "(ILPhaseLights$Premiere;)Z"⟩
abbrev cX4_startRecorded : ByteArray := prog_6_method_15_code
def yX4_startRecorded : MethodName := ⟨RX4, "startRecorded", "(ILPhaseLights$Premiere;)Z"⟩
abbrev cX4_changeLevels : ByteArray := prog_6_method_16_code
def yX4_changeLevels : MethodName := ⟨RX4, "changeLevels", "(ILPhaseLights$Premiere;)Z"⟩
abbrev cX4_changeSpan : ByteArray := prog_6_method_17_code
def yX4_changeSpan : MethodName := ⟨RX4, "changeSpan", "(LPhaseLights$Premiere;III)Z"⟩
def RX5 : String := "PhaseLights$Pad"
def TX5 : u_T := fun k => match k with
  | 0 => ("PhaseLights$Pad", "signs", "[I", true)
  | _ => ("PhaseLights$Pad", "length", "I", false)
def tyX5 : Nat → FieldType := fun k => match k with
  | 0 => .array .int
  | _ => .int
abbrev wsX50 : List Cond := u_ws RX5 TX5 2
theorem nmX5 : ∀ a, a < 2 → ∀ b, b < 2 → a ≠ b → (TX5 a).2.1 ≠ (TX5 b).2.1 := by decide +kernel
theorem tyX5_ok : ∀ k, k < 2 → parseFieldDescriptor (TX5 k).2.2.1 = some (tyX5 k) := by decide +kernel
abbrev cX5_init : ByteArray := prog_7_method_1_code
def yX5_init : MethodName := ⟨RX5, "<init>", "()V"⟩
abbrev cX5_signsIn : ByteArray := prog_7_method_2_code
def yX5_signsIn : MethodName := ⟨RX5, "signsIn", "(J)I"⟩
abbrev cX5_append : ByteArray := prog_7_method_3_code
def yX5_append : MethodName := ⟨RX5, "append", "(JI)V"⟩
def RX6 : String := "PhaseLights$Premiere"
def TX6 : u_T := fun k => match k with
  | 0 => ("PhaseLights$Premiere", "first", "I", false)
  | 1 => ("PhaseLights$Premiere", "last", "I", false)
  | 2 => ("PhaseLights$Premiere", "lamps", "I", false)
  | 3 => ("PhaseLights$Premiere", "lampType", "[I", true)
  | 4 => ("PhaseLights$Premiere", "lampDimmer", "[I", true)
  | 5 => ("PhaseLights$Premiere", "wanted", "[I", true)
  | 6 => ("PhaseLights$Premiere", "level", "[I", true)
  | 7 => ("PhaseLights$Premiere", "dimmerPhase", "[I", true)
  | 8 => ("PhaseLights$Premiere", "cueTicks", "[I", true)
  | 9 => ("PhaseLights$Premiere", "cueLevel", "[[I", true)
  | 10 => ("PhaseLights$Premiere", "fade", "LPhaseLights$Fade;", true)
  | 11 => ("PhaseLights$Premiere", "dimmers", "LPhaseLights$Breakers;", true)
  | _ => ("PhaseLights$Premiere", "phases", "LPhaseLights$Breakers;", true)
def tyX6 : Nat → FieldType := fun k => match k with
  | 0 => .int
  | 1 => .int
  | 2 => .int
  | 3 => .array .int
  | 4 => .array .int
  | 5 => .array .int
  | 6 => .array .int
  | 7 => .array .int
  | 8 => .array .int
  | 9 => .array (.array .int)
  | 10 => .object "PhaseLights$Fade"
  | 11 => .object "PhaseLights$Breakers"
  | _ => .object "PhaseLights$Breakers"
abbrev wsX60 : List Cond := u_ws RX6 TX6 13
theorem nmX6 : ∀ a, a < 13 → ∀ b, b < 13 → a ≠ b → (TX6 a).2.1 ≠ (TX6 b).2.1 := by decide +kernel
theorem tyX6_ok : ∀ k, k < 13 → parseFieldDescriptor (TX6 k).2.2.1 = some (tyX6 k) := by decide +kernel
abbrev cX6_init : ByteArray := prog_8_method_1_code
def yX6_init : MethodName := ⟨RX6, "<init>", "()V"⟩
abbrev cX6_copyFrom : ByteArray := prog_8_method_2_code
def yX6_copyFrom : MethodName := ⟨RX6, "copyFrom", "(LPhaseLights$Premiere;)V"⟩
abbrev cX6_isOn : ByteArray := prog_8_method_3_code
def yX6_isOn : MethodName := ⟨RX6, "isOn", "(I)Z"⟩
abbrev cX6_isFull : ByteArray := prog_8_method_4_code
def yX6_isFull : MethodName := ⟨RX6, "isFull", "()Z"⟩
abbrev cX6_hasLamp : ByteArray := prog_8_method_5_code
def yX6_hasLamp : MethodName := ⟨RX6, "hasLamp", "(I)Z"⟩
abbrev cX6_addLamp : ByteArray := prog_8_method_6_code
def yX6_addLamp : MethodName := ⟨RX6, "addLamp", "(II)I"⟩
abbrev cX6_removeLamp : ByteArray := prog_8_method_7_code
def yX6_removeLamp : MethodName := ⟨RX6, "removeLamp", "(I)I"⟩
abbrev cX6_lampsOfType : ByteArray := prog_8_method_8_code
def yX6_lampsOfType : MethodName := ⟨RX6, "lampsOfType", "(I)I"⟩
abbrev cX6_lampsOn : ByteArray := prog_8_method_9_code
def yX6_lampsOn : MethodName := ⟨RX6, "lampsOn", "(I)I"⟩
abbrev cX6_dimmersOn : ByteArray := prog_8_method_10_code
def yX6_dimmersOn : MethodName := ⟨RX6, "dimmersOn", "(I)I"⟩
abbrev cX6_isRecorded : ByteArray := prog_8_method_11_code
def yX6_isRecorded : MethodName := ⟨RX6, "isRecorded", "(I)Z"⟩
abbrev cX6_recordedCues : ByteArray := prog_8_method_12_code
def yX6_recordedCues : MethodName := ⟨RX6, "recordedCues", "()I"⟩
abbrev cX6_recordCue : ByteArray := prog_8_method_13_code
def yX6_recordCue : MethodName := ⟨RX6, "recordCue", "(II)V"⟩
abbrev cX6_startCue : ByteArray := prog_8_method_14_code
def yX6_startCue : MethodName := ⟨RX6, "startCue", "(II)V"⟩
abbrev cX6_clearTrips : ByteArray := prog_8_method_15_code
def yX6_clearTrips : MethodName := ⟨RX6, "clearTrips", "()I"⟩
abbrev cX6_passTick : ByteArray := prog_8_method_16_code
def yX6_passTick : MethodName := ⟨RX6, "passTick", "(LPhaseLights$State;LPhaseLights$Loads;)I"⟩
abbrev cX6_loadOfLamp : ByteArray := prog_8_method_17_code
def yX6_loadOfLamp : MethodName := ⟨RX6, "loadOfLamp", "(ILPhaseLights$Types;)I"⟩
abbrev cX6_draw : ByteArray := prog_8_method_18_code
def yX6_draw : MethodName := ⟨RX6, "draw", "(I[ILPhaseLights$Types;)I"⟩
abbrev cX6_dimmerOf : ByteArray := prog_8_method_19_code
def yX6_dimmerOf : MethodName := ⟨RX6, "dimmerOf", "(I)I"⟩
abbrev cX6_phaseOf : ByteArray := prog_8_method_20_code
def yX6_phaseOf : MethodName := ⟨RX6, "phaseOf", "(I)I"⟩
abbrev cX6_isFed : ByteArray := prog_8_method_21_code
def yX6_isFed : MethodName := ⟨RX6, "isFed", "(I)Z"⟩
abbrev cX6_spreadDimmers : ByteArray := prog_8_method_22_code
def yX6_spreadDimmers : MethodName := ⟨RX6, "spreadDimmers", "([I[I)I"⟩
abbrev cX6_heaviestLeft : ByteArray := prog_8_method_23_code
def yX6_heaviestLeft : MethodName := ⟨RX6, "heaviestLeft", "([II)I"⟩
abbrev cX6_lightest : ByteArray := prog_8_method_24_code
def yX6_lightest : MethodName := ⟨RX6, "lightest", "([I)I"⟩
def RX7 : String := "PhaseLights$State"
def TX7 : u_T := fun k => match k with
  | 0 => ("PhaseLights$State", "settings", "[I", true)
  | 1 => ("PhaseLights$State", "types", "LPhaseLights$Types;", true)
  | _ => ("PhaseLights$State", "premieres", "[LPhaseLights$Premiere;", true)
def tyX7 : Nat → FieldType := fun k => match k with
  | 0 => .array .int
  | 1 => .object "PhaseLights$Types"
  | _ => .array (.object "PhaseLights$Premiere")
abbrev wsX70 : List Cond := u_ws RX7 TX7 3
theorem nmX7 : ∀ a, a < 3 → ∀ b, b < 3 → a ≠ b → (TX7 a).2.1 ≠ (TX7 b).2.1 := by decide +kernel
theorem tyX7_ok : ∀ k, k < 3 → parseFieldDescriptor (TX7 k).2.2.1 = some (tyX7 k) := by decide +kernel
abbrev cX7_init : ByteArray := prog_9_method_1_code
def yX7_init : MethodName := ⟨RX7, "<init>", "()V"⟩
abbrev cX7_find : ByteArray := prog_9_method_2_code
def yX7_find : MethodName := ⟨RX7, "find", "(I)LPhaseLights$Premiere;"⟩
abbrev cX7_copyFrom : ByteArray := prog_9_method_3_code
def yX7_copyFrom : MethodName := ⟨RX7, "copyFrom", "(LPhaseLights$State;)V"⟩
abbrev cX7_allLamps : ByteArray := prog_9_method_4_code
def yX7_allLamps : MethodName := ⟨RX7, "allLamps", "()I"⟩
abbrev cX7_needed : ByteArray := prog_9_method_5_code
def yX7_needed : MethodName := ⟨RX7, "needed", "(II)I"⟩
abbrev cX7_missing : ByteArray := prog_9_method_6_code
def yX7_missing : MethodName := ⟨RX7, "missing", "(II)I"⟩
abbrev cX7_cost : ByteArray := prog_9_method_7_code
def yX7_cost : MethodName := ⟨RX7, "cost", "(II)I"⟩
abbrev cX7_wholeCost : ByteArray := prog_9_method_8_code
def yX7_wholeCost : MethodName := ⟨RX7, "wholeCost", "()I"⟩
abbrev cX7_allMissing : ByteArray := prog_9_method_9_code
def yX7_allMissing : MethodName := ⟨RX7, "allMissing", "()I"⟩
abbrev cX7_busiestDay : ByteArray := prog_9_method_10_code
def yX7_busiestDay : MethodName := ⟨RX7, "busiestDay", "()I"⟩
abbrev cX7_neededOn : ByteArray := prog_9_method_11_code
def yX7_neededOn : MethodName := ⟨RX7, "neededOn", "(I)I"⟩
def RX8 : String := "PhaseLights$Trial"
def TX8 : u_T := fun k => match k with
  | 0 => ("PhaseLights$Trial", "aside", "LPhaseLights$Premiere;", true)
  | 1 => ("PhaseLights$Trial", "trips", "I", false)
  | 2 => ("PhaseLights$Trial", "firstTrip", "I", false)
  | 3 => ("PhaseLights$Trial", "greatestOfDimmers", "I", false)
  | _ => ("PhaseLights$Trial", "greatestOfPhases", "I", false)
def tyX8 : Nat → FieldType := fun k => match k with
  | 0 => .object "PhaseLights$Premiere"
  | 1 => .int
  | 2 => .int
  | 3 => .int
  | _ => .int
abbrev wsX80 : List Cond := u_ws RX8 TX8 5
theorem nmX8 : ∀ a, a < 5 → ∀ b, b < 5 → a ≠ b → (TX8 a).2.1 ≠ (TX8 b).2.1 := by decide +kernel
theorem tyX8_ok : ∀ k, k < 5 → parseFieldDescriptor (TX8 k).2.2.1 = some (tyX8 k) := by decide +kernel
abbrev cX8_init : ByteArray := prog_10_method_1_code
def yX8_init : MethodName := ⟨RX8, "<init>", "()V"⟩
abbrev cX8_playToTheEnd : ByteArray := prog_10_method_2_code
def yX8_playToTheEnd : MethodName := ⟨RX8, "playToTheEnd", "(LPhaseLights$State;LPhaseLights$Premiere;ILPhaseLights$Loads;)V"⟩
abbrev cX8_isSafe : ByteArray := prog_10_method_3_code
def yX8_isSafe : MethodName := ⟨RX8, "isSafe", "(LPhaseLights$State;LPhaseLights$Premiere;IILPhaseLights$Loads;)Z"⟩
abbrev cX8_begin : ByteArray := prog_10_method_4_code
def yX8_begin : MethodName := ⟨RX8, "begin", "(LPhaseLights$Premiere;II)V"⟩
def RX9 : String := "PhaseLights$Types"
def TX9 : u_T := fun k => match k with
  | 0 => ("PhaseLights$Types", "told", "I", false)
  | 1 => ("PhaseLights$Types", "watts", "[I", true)
  | 2 => ("PhaseLights$Types", "stock", "[I", true)
  | _ => ("PhaseLights$Types", "price", "[I", true)
def tyX9 : Nat → FieldType := fun k => match k with
  | 0 => .int
  | 1 => .array .int
  | 2 => .array .int
  | _ => .array .int
abbrev wsX90 : List Cond := u_ws RX9 TX9 4
theorem nmX9 : ∀ a, a < 4 → ∀ b, b < 4 → a ≠ b → (TX9 a).2.1 ≠ (TX9 b).2.1 := by decide +kernel
theorem tyX9_ok : ∀ k, k < 4 → parseFieldDescriptor (TX9 k).2.2.1 = some (tyX9 k) := by decide +kernel
abbrev cX9_init : ByteArray := prog_11_method_1_code
def yX9_init : MethodName := ⟨RX9, "<init>", "()V"⟩
abbrev cX9_isFull : ByteArray := prog_11_method_2_code
def yX9_isFull : MethodName := ⟨RX9, "isFull", "()Z"⟩
abbrev cX9_has : ByteArray := prog_11_method_3_code
def yX9_has : MethodName := ⟨RX9, "has", "(I)Z"⟩
abbrev cX9_add : ByteArray := prog_11_method_4_code
def yX9_add : MethodName := ⟨RX9, "add", "(III)I"⟩
abbrev cX9_wattsOf : ByteArray := prog_11_method_5_code
def yX9_wattsOf : MethodName := ⟨RX9, "wattsOf", "(I)I"⟩
abbrev cX9_stockOf : ByteArray := prog_11_method_6_code
def yX9_stockOf : MethodName := ⟨RX9, "stockOf", "(I)I"⟩
abbrev cX9_priceOf : ByteArray := prog_11_method_7_code
def yX9_priceOf : MethodName := ⟨RX9, "priceOf", "(I)I"⟩
abbrev cX9_copyFrom : ByteArray := prog_11_method_8_code
def yX9_copyFrom : MethodName := ⟨RX9, "copyFrom", "(LPhaseLights$Types;)V"⟩
def RX10 : String := "PhaseLights$Worst"
def TX10 : u_T := fun k => match k with
  | 0 => ("PhaseLights$Worst", "loads", "LPhaseLights$Loads;", true)
  | _ => ("PhaseLights$Worst", "byCue", "LPhaseLights$Loads;", true)
def tyX10 : Nat → FieldType := fun k => match k with
  | 0 => .object "PhaseLights$Loads"
  | _ => .object "PhaseLights$Loads"
abbrev wsX100 : List Cond := u_ws RX10 TX10 2
theorem nmX10 : ∀ a, a < 2 → ∀ b, b < 2 → a ≠ b → (TX10 a).2.1 ≠ (TX10 b).2.1 := by decide +kernel
theorem tyX10_ok : ∀ k, k < 2 → parseFieldDescriptor (TX10 k).2.2.1 = some (tyX10 k) := by decide +kernel
abbrev cX10_init : ByteArray := prog_12_method_1_code
def yX10_init : MethodName := ⟨RX10, "<init>", "()V"⟩
abbrev cX10_measure : ByteArray := prog_12_method_2_code
def yX10_measure : MethodName := ⟨RX10, "measure", "(LPhaseLights$Premiere;LPhaseLights$Types;)V"⟩
def RX11 : String := "PhaseLights"
def TX11 : u_T := fun k => match k with
  | 0 => ("PhaseLights", "state", "LPhaseLights$State;", true)
  | 1 => ("PhaseLights", "history", "LPhaseLights$History;", true)
  | 2 => ("PhaseLights", "slots", "[LPhaseLights$State;", true)
  | 3 => ("PhaseLights", "savedSlots", "I", false)
  | 4 => ("PhaseLights", "orders", "LPhaseLights$Orders;", true)
  | 5 => ("PhaseLights", "pad", "LPhaseLights$Pad;", true)
  | 6 => ("PhaseLights", "loads", "LPhaseLights$Loads;", true)
  | 7 => ("PhaseLights", "worst", "LPhaseLights$Worst;", true)
  | _ => ("PhaseLights", "trial", "LPhaseLights$Trial;", true)
def tyX11 : Nat → FieldType := fun k => match k with
  | 0 => .object "PhaseLights$State"
  | 1 => .object "PhaseLights$History"
  | 2 => .array (.object "PhaseLights$State")
  | 3 => .int
  | 4 => .object "PhaseLights$Orders"
  | 5 => .object "PhaseLights$Pad"
  | 6 => .object "PhaseLights$Loads"
  | 7 => .object "PhaseLights$Worst"
  | _ => .object "PhaseLights$Trial"
abbrev wsX110 : List Cond := u_ws RX11 TX11 9
theorem nmX11 : ∀ a, a < 9 → ∀ b, b < 9 → a ≠ b → (TX11 a).2.1 ≠ (TX11 b).2.1 := by decide +kernel
theorem tyX11_ok : ∀ k, k < 9 → parseFieldDescriptor (TX11 k).2.2.1 = some (tyX11 k) := by decide +kernel
abbrev cX11_init : ByteArray := prog_1_method_1_code
def yX11_init : MethodName := ⟨RX11, "<init>", "()V"⟩
abbrev cX11_set : ByteArray := prog_1_method_2_code
def yX11_set : MethodName := ⟨RX11, "set", "(II)I"⟩
abbrev cX11_type : ByteArray := prog_1_method_3_code
def yX11_type : MethodName := ⟨RX11, "type", "(III)I"⟩
abbrev cX11_days : ByteArray := prog_1_method_4_code
def yX11_days : MethodName := ⟨RX11, "days", "(III)I"⟩
abbrev cX11_hang : ByteArray := prog_1_method_5_code
def yX11_hang : MethodName := ⟨RX11, "hang", "(III)I"⟩
abbrev cX11_takeDown : ByteArray := prog_1_method_6_code
def yX11_takeDown : MethodName := ⟨RX11, "takeDown", "(II)I"⟩
abbrev cX11_patch : ByteArray := prog_1_method_7_code
def yX11_patch : MethodName := ⟨RX11, "patch", "(III)I"⟩
abbrev cX11_feed : ByteArray := prog_1_method_8_code
def yX11_feed : MethodName := ⟨RX11, "feed", "(III)I"⟩
abbrev cX11_spread : ByteArray := prog_1_method_9_code
def yX11_spread : MethodName := ⟨RX11, "spread", "(I)I"⟩
abbrev cX11_at : ByteArray := prog_1_method_10_code
def yX11_at : MethodName := ⟨RX11, "at", "(III)I"⟩
abbrev cX11_record : ByteArray := prog_1_method_11_code
def yX11_record : MethodName := ⟨RX11, "record", "(III)I"⟩
abbrev cX11_go : ByteArray := prog_1_method_12_code
def yX11_go : MethodName := ⟨RX11, "go", "(II)I"⟩
abbrev cX11_reset : ByteArray := prog_1_method_13_code
def yX11_reset : MethodName := ⟨RX11, "reset", "(I)I"⟩
abbrev cX11_tick : ByteArray := prog_1_method_14_code
def yX11_tick : MethodName := ⟨RX11, "tick", "(I)I"⟩
abbrev cX11_carryOut : ByteArray := prog_1_method_15_code
def yX11_carryOut : MethodName := ⟨RX11, "carryOut", "(I)I"⟩
abbrev cX11_lamp : ByteArray := prog_1_method_16_code
def yX11_lamp : MethodName := ⟨RX11, "lamp", "(III)I"⟩
abbrev cX11_dimmer : ByteArray := prog_1_method_17_code
def yX11_dimmer : MethodName := ⟨RX11, "dimmer", "(III)I"⟩
abbrev cX11_phase : ByteArray := prog_1_method_18_code
def yX11_phase : MethodName := ⟨RX11, "phase", "(III)I"⟩
abbrev cX11_cue : ByteArray := prog_1_method_19_code
def yX11_cue : MethodName := ⟨RX11, "cue", "(III)I"⟩
abbrev cX11_inCue : ByteArray := prog_1_method_20_code
def yX11_inCue : MethodName := ⟨RX11, "inCue", "(III)I"⟩
abbrev cX11_of : ByteArray := prog_1_method_21_code
def yX11_of : MethodName := ⟨RX11, "of", "(II)I"⟩
abbrev cX11_hire : ByteArray := prog_1_method_22_code
def yX11_hire : MethodName := ⟨RX11, "hire", "(III)I"⟩
abbrev cX11_count : ByteArray := prog_1_method_23_code
def yX11_count : MethodName := ⟨RX11, "count", "(I)I"⟩
abbrev cX11_ifGo : ByteArray := prog_1_method_24_code
def yX11_ifGo : MethodName := ⟨RX11, "ifGo", "(III)I"⟩
abbrev cX11_safeTicks : ByteArray := prog_1_method_25_code
def yX11_safeTicks : MethodName := ⟨RX11, "safeTicks", "(II)I"⟩
abbrev cX11_bestFeed : ByteArray := prog_1_method_26_code
def yX11_bestFeed : MethodName := ⟨RX11, "bestFeed", "(II)I"⟩
abbrev cX11_ifDays : ByteArray := prog_1_method_27_code
def yX11_ifDays : MethodName := ⟨RX11, "ifDays", "(III)I"⟩
abbrev cX11_put : ByteArray := prog_1_method_28_code
def yX11_put : MethodName := ⟨RX11, "put", "(J)I"⟩
abbrev cX11_wipe : ByteArray := prog_1_method_29_code
def yX11_wipe : MethodName := ⟨RX11, "wipe", "()I"⟩
abbrev cX11_fault : ByteArray := prog_1_method_30_code
def yX11_fault : MethodName := ⟨RX11, "fault", "()I"⟩
abbrev cX11_undo : ByteArray := prog_1_method_31_code
def yX11_undo : MethodName := ⟨RX11, "undo", "()I"⟩
abbrev cX11_save : ByteArray := prog_1_method_32_code
def yX11_save : MethodName := ⟨RX11, "save", "(I)I"⟩
abbrev cX11_restore : ByteArray := prog_1_method_33_code
def yX11_restore : MethodName := ⟨RX11, "restore", "(I)I"⟩
abbrev cX11_isIn : ByteArray := prog_1_method_34_code
def yX11_isIn : MethodName := ⟨RX11, "isIn", "(III)Z"⟩
abbrev cX11_isDimmer : ByteArray := prog_1_method_35_code
def yX11_isDimmer : MethodName := ⟨RX11, "isDimmer", "(I)Z"⟩
abbrev cX11_isDimmerOrNone : ByteArray := prog_1_method_36_code
def yX11_isDimmerOrNone : MethodName := ⟨RX11, "isDimmerOrNone", "(I)Z"⟩
abbrev cX11_isPhase : ByteArray := prog_1_method_37_code
def yX11_isPhase : MethodName := ⟨RX11, "isPhase", "(I)Z"⟩
abbrev cX11_isCue : ByteArray := prog_1_method_38_code
def yX11_isCue : MethodName := ⟨RX11, "isCue", "(I)Z"⟩
abbrev cX11_areDays : ByteArray := prog_1_method_39_code
def yX11_areDays : MethodName := ⟨RX11, "areDays", "(II)Z"⟩
abbrev cX11_hasBit : ByteArray := prog_1_method_40_code
def yX11_hasBit : MethodName := ⟨RX11, "hasBit", "(II)Z"⟩
abbrev cX11_greatest : ByteArray := prog_1_method_41_code
def yX11_greatest : MethodName := ⟨RX11, "greatest", "([I)I"⟩
abbrev cX11_least : ByteArray := prog_1_method_42_code
def yX11_least : MethodName := ⟨RX11, "least", "([I)I"⟩
abbrev cX11_clear : ByteArray := prog_1_method_43_code
def yX11_clear : MethodName := ⟨RX11, "clear", "([I)V"⟩
abbrev cX11_copy : ByteArray := prog_1_method_44_code
def yX11_copy : MethodName := ⟨RX11, "copy", "([I[I)V"⟩
abbrev cX11_closeGap : ByteArray := prog_1_method_45_code
def yX11_closeGap : MethodName := ⟨RX11, "closeGap", "([II)V"⟩
abbrev cX11_raise : ByteArray := prog_1_method_46_code
def yX11_raise : MethodName := ⟨RX11, "raise", "([I[I)V"⟩
def RX12 : String := "PhaseLightsModel"
def TX12 : u_T := fun k => match k with
  | 0 => ("PhaseLightsModel", "s", "[I", true)
  | 1 => ("PhaseLightsModel", "aside", "[I", true)
  | 2 => ("PhaseLightsModel", "before", "[I", true)
  | 3 => ("PhaseLightsModel", "known", "I", false)
  | 4 => ("PhaseLightsModel", "slots", "[I", true)
  | 5 => ("PhaseLightsModel", "isSaved", "[Z", true)
  | 6 => ("PhaseLightsModel", "pad", "[I", true)
  | 7 => ("PhaseLightsModel", "length", "I", false)
  | 8 => ("PhaseLightsModel", "worsts", "[I", true)
  | 9 => ("PhaseLightsModel", "sums", "[I", true)
  | 10 => ("PhaseLightsModel", "place", "I", false)
  | 11 => ("PhaseLightsModel", "isWrong", "Z", false)
  | 12 => ("PhaseLightsModel", "spans", "[I", true)
  | 13 => ("PhaseLightsModel", "spansMany", "I", false)
  | 14 => ("PhaseLightsModel", "letter", "I", false)
  | 15 => ("PhaseLightsModel", "one", "I", false)
  | 16 => ("PhaseLightsModel", "two", "I", false)
  | 17 => ("PhaseLightsModel", "trips", "I", false)
  | 18 => ("PhaseLightsModel", "firstTrip", "I", false)
  | 19 => ("PhaseLightsModel", "worstDimmer", "I", false)
  | _ => ("PhaseLightsModel", "worstPhase", "I", false)
def tyX12 : Nat → FieldType := fun k => match k with
  | 0 => .array .int
  | 1 => .array .int
  | 2 => .array .int
  | 3 => .int
  | 4 => .array .int
  | 5 => .array .boolean
  | 6 => .array .int
  | 7 => .int
  | 8 => .array .int
  | 9 => .array .int
  | 10 => .int
  | 11 => .boolean
  | 12 => .array .int
  | 13 => .int
  | 14 => .int
  | 15 => .int
  | 16 => .int
  | 17 => .int
  | 18 => .int
  | 19 => .int
  | _ => .int
abbrev wsX120 : List Cond := u_ws RX12 TX12 21
theorem nmX12 : ∀ a, a < 21 → ∀ b, b < 21 → a ≠ b → (TX12 a).2.1 ≠ (TX12 b).2.1 := by decide +kernel
theorem tyX12_ok : ∀ k, k < 21 → parseFieldDescriptor (TX12 k).2.2.1 = some (tyX12 k) := by decide +kernel
abbrev cX12_init : ByteArray := prog_14_method_1_code
def yX12_init : MethodName := ⟨RX12, "<init>", "()V"⟩
abbrev cX12_in : ByteArray := prog_14_method_3_code
def yX12_in : MethodName := ⟨RX12, "in", "(III)Z"⟩
abbrev cX12_at1 : ByteArray := prog_14_method_4_code
def yX12_at1 : MethodName := ⟨RX12, "at1", "(II)I"⟩
abbrev cX12_ofLamp : ByteArray := prog_14_method_5_code
def yX12_ofLamp : MethodName := ⟨RX12, "ofLamp", "(III)I"⟩
abbrev cX12_ofCue : ByteArray := prog_14_method_6_code
def yX12_ofCue : MethodName := ⟨RX12, "ofCue", "(II)I"⟩
abbrev cX12_isPremiere : ByteArray := prog_14_method_7_code
def yX12_isPremiere : MethodName := ⟨RX12, "isPremiere", "(I)Z"⟩
abbrev cX12_isLamp : ByteArray := prog_14_method_8_code
def yX12_isLamp : MethodName := ⟨RX12, "isLamp", "(II)Z"⟩
abbrev cX12_isDimmer : ByteArray := prog_14_method_9_code
def yX12_isDimmer : MethodName := ⟨RX12, "isDimmer", "(I)Z"⟩
abbrev cX12_know : ByteArray := prog_14_method_10_code
def yX12_know : MethodName := ⟨RX12, "know", "()V"⟩
abbrev cX12_putAside : ByteArray := prog_14_method_11_code
def yX12_putAside : MethodName := ⟨RX12, "putAside", "()V"⟩
abbrev cX12_putBack : ByteArray := prog_14_method_12_code
def yX12_putBack : MethodName := ⟨RX12, "putBack", "()V"⟩
abbrev cX12_watts : ByteArray := prog_14_method_13_code
def yX12_watts : MethodName := ⟨RX12, "watts", "(III)I"⟩
abbrev cX12_loadOfLamp : ByteArray := prog_14_method_14_code
def yX12_loadOfLamp : MethodName := ⟨RX12, "loadOfLamp", "(II)I"⟩
abbrev cX12_load : ByteArray := prog_14_method_15_code
def yX12_load : MethodName := ⟨RX12, "load", "(II)I"⟩
abbrev cX12_loadBy : ByteArray := prog_14_method_16_code
def yX12_loadBy : MethodName := ⟨RX12, "loadBy", "(III)I"⟩
abbrev cX12_worst : ByteArray := prog_14_method_17_code
def yX12_worst : MethodName := ⟨RX12, "worst", "(II)I"⟩
abbrev cX12_trip : ByteArray := prog_14_method_18_code
def yX12_trip : MethodName := ⟨RX12, "trip", "(IIII)I"⟩
abbrev cX12_turn : ByteArray := prog_14_method_19_code
def yX12_turn : MethodName := ⟨RX12, "turn", "(I)I"⟩
abbrev cX12_start : ByteArray := prog_14_method_20_code
def yX12_start : MethodName := ⟨RX12, "start", "(III)V"⟩
abbrev cX12_set : ByteArray := prog_14_method_21_code
def yX12_set : MethodName := ⟨RX12, "set", "(II)I"⟩
abbrev cX12_type : ByteArray := prog_14_method_22_code
def yX12_type : MethodName := ⟨RX12, "type", "(III)I"⟩
abbrev cX12_days : ByteArray := prog_14_method_23_code
def yX12_days : MethodName := ⟨RX12, "days", "(III)I"⟩
abbrev cX12_hang : ByteArray := prog_14_method_24_code
def yX12_hang : MethodName := ⟨RX12, "hang", "(III)I"⟩
abbrev cX12_takeDown : ByteArray := prog_14_method_25_code
def yX12_takeDown : MethodName := ⟨RX12, "takeDown", "(II)I"⟩
abbrev cX12_patch : ByteArray := prog_14_method_26_code
def yX12_patch : MethodName := ⟨RX12, "patch", "(III)I"⟩
abbrev cX12_feed : ByteArray := prog_14_method_27_code
def yX12_feed : MethodName := ⟨RX12, "feed", "(III)I"⟩
abbrev cX12_spread : ByteArray := prog_14_method_28_code
def yX12_spread : MethodName := ⟨RX12, "spread", "(I)I"⟩
abbrev cX12_atFault : ByteArray := prog_14_method_29_code
def yX12_atFault : MethodName := ⟨RX12, "atFault", "(III)I"⟩
abbrev cX12_at : ByteArray := prog_14_method_30_code
def yX12_at : MethodName := ⟨RX12, "at", "(III)I"⟩
abbrev cX12_isCue : ByteArray := prog_14_method_31_code
def yX12_isCue : MethodName := ⟨RX12, "isCue", "(II)Z"⟩
abbrev cX12_recordFault : ByteArray := prog_14_method_32_code
def yX12_recordFault : MethodName := ⟨RX12, "recordFault", "(III)I"⟩
abbrev cX12_records : ByteArray := prog_14_method_33_code
def yX12_records : MethodName := ⟨RX12, "records", "(III)I"⟩
abbrev cX12_record : ByteArray := prog_14_method_34_code
def yX12_record : MethodName := ⟨RX12, "record", "(III)I"⟩
abbrev cX12_goFault : ByteArray := prog_14_method_35_code
def yX12_goFault : MethodName := ⟨RX12, "goFault", "(II)I"⟩
abbrev cX12_go : ByteArray := prog_14_method_36_code
def yX12_go : MethodName := ⟨RX12, "go", "(II)I"⟩
abbrev cX12_resets : ByteArray := prog_14_method_37_code
def yX12_resets : MethodName := ⟨RX12, "resets", "(I)I"⟩
abbrev cX12_reset : ByteArray := prog_14_method_38_code
def yX12_reset : MethodName := ⟨RX12, "reset", "(I)I"⟩
abbrev cX12_tick : ByteArray := prog_14_method_39_code
def yX12_tick : MethodName := ⟨RX12, "tick", "(I)I"⟩
abbrev cX12_put : ByteArray := prog_14_method_40_code
def yX12_put : MethodName := ⟨RX12, "put", "(J)I"⟩
abbrev cX12_wipe : ByteArray := prog_14_method_41_code
def yX12_wipe : MethodName := ⟨RX12, "wipe", "()I"⟩
abbrev cX12_sign : ByteArray := prog_14_method_42_code
def yX12_sign : MethodName := ⟨RX12, "sign", "(II)I"⟩
abbrev cX12_isNext : ByteArray := prog_14_method_43_code
def yX12_isNext : MethodName := ⟨RX12, "isNext", "(II)Z"⟩
abbrev cX12_number : ByteArray := prog_14_method_44_code
def yX12_number : MethodName := ⟨RX12, "number", "(II)I"⟩
abbrev cX12_readLamps : ByteArray := prog_14_method_45_code
def yX12_readLamps : MethodName := ⟨RX12, "readLamps", "()V"⟩
abbrev cX12_order : ByteArray := prog_14_method_46_code
def yX12_order : MethodName := ⟨RX12, "order", "()V"⟩
abbrev cX12_wants : ByteArray := prog_14_method_47_code
def yX12_wants : MethodName := ⟨RX12, "wants", "(I)Z"⟩
abbrev cX12_does : ByteArray := prog_14_method_48_code
def yX12_does : MethodName := ⟨RX12, "does", "(I)Z"⟩
abbrev cX12_goThrough : ByteArray := prog_14_method_49_code
def yX12_goThrough : MethodName := ⟨RX12, "goThrough", "(ZI)I"⟩
abbrev cX12_fault : ByteArray := prog_14_method_50_code
def yX12_fault : MethodName := ⟨RX12, "fault", "()I"⟩
abbrev cX12_carryOut : ByteArray := prog_14_method_51_code
def yX12_carryOut : MethodName := ⟨RX12, "carryOut", "(I)I"⟩
abbrev cX12_lamp : ByteArray := prog_14_method_52_code
def yX12_lamp : MethodName := ⟨RX12, "lamp", "(III)I"⟩
abbrev cX12_lampsOn : ByteArray := prog_14_method_53_code
def yX12_lampsOn : MethodName := ⟨RX12, "lampsOn", "(II)I"⟩
abbrev cX12_dimmer : ByteArray := prog_14_method_54_code
def yX12_dimmer : MethodName := ⟨RX12, "dimmer", "(III)I"⟩
abbrev cX12_dimmersOf : ByteArray := prog_14_method_55_code
def yX12_dimmersOf : MethodName := ⟨RX12, "dimmersOf", "(II)I"⟩
abbrev cX12_phase : ByteArray := prog_14_method_56_code
def yX12_phase : MethodName := ⟨RX12, "phase", "(III)I"⟩
abbrev cX12_cue : ByteArray := prog_14_method_57_code
def yX12_cue : MethodName := ⟨RX12, "cue", "(III)I"⟩
abbrev cX12_inCue : ByteArray := prog_14_method_58_code
def yX12_inCue : MethodName := ⟨RX12, "inCue", "(III)I"⟩
abbrev cX12_loadOf : ByteArray := prog_14_method_59_code
def yX12_loadOf : MethodName := ⟨RX12, "loadOf", "(I)I"⟩
abbrev cX12_apart : ByteArray := prog_14_method_60_code
def yX12_apart : MethodName := ⟨RX12, "apart", "(I)I"⟩
abbrev cX12_tripped : ByteArray := prog_14_method_61_code
def yX12_tripped : MethodName := ⟨RX12, "tripped", "(III)I"⟩
abbrev cX12_recorded : ByteArray := prog_14_method_62_code
def yX12_recorded : MethodName := ⟨RX12, "recorded", "(I)I"⟩
abbrev cX12_of : ByteArray := prog_14_method_63_code
def yX12_of : MethodName := ⟨RX12, "of", "(II)I"⟩
abbrev cX12_needed : ByteArray := prog_14_method_64_code
def yX12_needed : MethodName := ⟨RX12, "needed", "(II)I"⟩
abbrev cX12_hired : ByteArray := prog_14_method_65_code
def yX12_hired : MethodName := ⟨RX12, "hired", "(III)I"⟩
abbrev cX12_hire : ByteArray := prog_14_method_66_code
def yX12_hire : MethodName := ⟨RX12, "hire", "(III)I"⟩
abbrev cX12_sum : ByteArray := prog_14_method_67_code
def yX12_sum : MethodName := ⟨RX12, "sum", "(I)I"⟩
abbrev cX12_fullest : ByteArray := prog_14_method_68_code
def yX12_fullest : MethodName := ⟨RX12, "fullest", "()I"⟩
abbrev cX12_count : ByteArray := prog_14_method_69_code
def yX12_count : MethodName := ⟨RX12, "count", "(I)I"⟩
abbrev cX12_tryOut : ByteArray := prog_14_method_70_code
def yX12_tryOut : MethodName := ⟨RX12, "tryOut", "(III)V"⟩
abbrev cX12_ifGo : ByteArray := prog_14_method_71_code
def yX12_ifGo : MethodName := ⟨RX12, "ifGo", "(III)I"⟩
abbrev cX12_safeTicks : ByteArray := prog_14_method_72_code
def yX12_safeTicks : MethodName := ⟨RX12, "safeTicks", "(II)I"⟩
abbrev cX12_bestFeed : ByteArray := prog_14_method_73_code
def yX12_bestFeed : MethodName := ⟨RX12, "bestFeed", "(II)I"⟩
abbrev cX12_ifDays : ByteArray := prog_14_method_74_code
def yX12_ifDays : MethodName := ⟨RX12, "ifDays", "(III)I"⟩
abbrev cX12_lamps : ByteArray := prog_14_method_75_code
def yX12_lamps : MethodName := ⟨RX12, "lamps", "()I"⟩
abbrev cX12_undo : ByteArray := prog_14_method_76_code
def yX12_undo : MethodName := ⟨RX12, "undo", "()I"⟩
abbrev cX12_save : ByteArray := prog_14_method_77_code
def yX12_save : MethodName := ⟨RX12, "save", "(I)I"⟩
abbrev cX12_restore : ByteArray := prog_14_method_78_code
def yX12_restore : MethodName := ⟨RX12, "restore", "(I)I"⟩
def RJx8e188 : String := "java/lang/Cloneable"
def TJx8e188 : u_T := fun k => match k with
  | _ => ("", "", "", false)
def tyJx8e188 : Nat → FieldType := fun k => match k with
  | _ => .int
abbrev wsJx8e1880 : List Cond := u_ws RJx8e188 TJx8e188 0
theorem nmJx8e188 : ∀ a, a < 0 → ∀ b, b < 0 → a ≠ b → (TJx8e188 a).2.1 ≠ (TJx8e188 b).2.1 := by decide +kernel
theorem tyJx8e188_ok : ∀ k, k < 0 → parseFieldDescriptor (TJx8e188 k).2.2.1 = some (tyJx8e188 k) := by decide +kernel
def RJ6 : String := "java/lang/Integer"
def TJ6 : u_T := fun k => match k with
  | _ => ("", "", "", false)
def tyJ6 : Nat → FieldType := fun k => match k with
  | _ => .int
abbrev wsJ60 : List Cond := u_ws RJ6 TJ6 0
theorem nmJ6 : ∀ a, a < 0 → ∀ b, b < 0 → a ≠ b → (TJ6 a).2.1 ≠ (TJ6 b).2.1 := by decide +kernel
theorem tyJ6_ok : ∀ k, k < 0 → parseFieldDescriptor (TJ6 k).2.2.1 = some (tyJ6 k) := by decide +kernel
abbrev cJ6_bitCount_0f7a4 : ByteArray := prog_16_method_49_code
def yJ6_bitCount_0f7a4 : MethodName := ⟨RJ6, "bitCount", "(I)I"⟩
def RJ9 : String := "java/lang/Math"
def TJ9 : u_T := fun k => match k with
  | _ => ("", "", "", false)
def tyJ9 : Nat → FieldType := fun k => match k with
  | _ => .int
abbrev wsJ90 : List Cond := u_ws RJ9 TJ9 0
theorem nmJ9 : ∀ a, a < 0 → ∀ b, b < 0 → a ≠ b → (TJ9 a).2.1 ≠ (TJ9 b).2.1 := by decide +kernel
theorem tyJ9_ok : ∀ k, k < 0 → parseFieldDescriptor (TJ9 k).2.2.1 = some (tyJ9 k) := by decide +kernel
abbrev cJ9_abs_0f7a4 : ByteArray := prog_17_method_59_code
def yJ9_abs_0f7a4 : MethodName := ⟨RJ9, "abs", "(I)I"⟩
abbrev cJ9_max_7cf53 : ByteArray := prog_17_method_65_code
def yJ9_max_7cf53 : MethodName := ⟨RJ9, "max", "(II)I"⟩
abbrev cJ9_min_7cf53 : ByteArray := prog_17_method_69_code
def yJ9_min_7cf53 : MethodName := ⟨RJ9, "min", "(II)I"⟩
def RL : String := "PhaseLightsLaw"
abbrev cL_law : ByteArray := code
def yL_law : MethodName := ⟨RL, "law", "([I)Z"⟩
abbrev vwCl : List vw_C := [(RX0, TX0, 2), (RX1, TX1, 4), (RX2, TX2, 2), (RX3, TX3, 2), (RX4, TX4, 11), (RX5, TX5, 2), (RX6, TX6, 13), (RX7, TX7, 3), (RX8, TX8, 5), (RX9, TX9, 4), (RX10, TX10, 2), (RX11, TX11, 9), (RX12, TX12, 21)]
