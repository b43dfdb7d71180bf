section
-- ===== PART A: goes FIRST, ahead of the names: the tables' words, and 'selects' of the private methods out of them =====
/-- a private method of a class that the tables say can be made, by its rows of tables_1 -/
def lw_okq (q : MethodName × Nat) : Prop := (q.1.cls ≠ "java/lang/invoke/MethodHandle" ∧ q.1.cls ≠ "java/lang/invoke/VarHandle") ∧ Cond.instantiable q.1.cls q.2 ∈ tables_1 ∧ Cond.privateMethod q.1 ∈ tables_1 ∧ Cond.instanceMethod q.1 ∈ tables_1
theorem lw_p0 : lw_okq (⟨"QuarrelWindows$Page", "fitsHouses", "(I)Z"⟩, 2) := ⟨⟨by decide +kernel, by decide +kernel⟩, List.mem_of_getElem? (i := 26) (by decide +kernel), List.mem_of_getElem? (i := 267) (by decide +kernel), List.mem_of_getElem? (i := 268) (by decide +kernel)⟩
theorem lw_p1 : lw_okq (⟨"QuarrelWindows$Page", "fitsAngers", "(II)Z"⟩, 2) := ⟨⟨by decide +kernel, by decide +kernel⟩, List.mem_of_getElem? (i := 26) (by decide +kernel), List.mem_of_getElem? (i := 367) (by decide +kernel), List.mem_of_getElem? (i := 368) (by decide +kernel)⟩
theorem lw_p2 : lw_okq (⟨"QuarrelWindows$Page", "housesEnd", "()I"⟩, 2) := ⟨⟨by decide +kernel, by decide +kernel⟩, List.mem_of_getElem? (i := 26) (by decide +kernel), List.mem_of_getElem? (i := 384) (by decide +kernel), List.mem_of_getElem? (i := 385) (by decide +kernel)⟩
theorem lw_p3 : lw_okq (⟨"QuarrelWindows$Square", "pickFront", "(I)I"⟩, 12) := ⟨⟨by decide +kernel, by decide +kernel⟩, List.mem_of_getElem? (i := 40) (by decide +kernel), List.mem_of_getElem? (i := 442) (by decide +kernel), List.mem_of_getElem? (i := 443) (by decide +kernel)⟩
theorem lw_p4 : lw_okq (⟨"QuarrelWindows$Square", "turnAll", "()I"⟩, 12) := ⟨⟨by decide +kernel, by decide +kernel⟩, List.mem_of_getElem? (i := 40) (by decide +kernel), List.mem_of_getElem? (i := 446) (by decide +kernel), List.mem_of_getElem? (i := 447) (by decide +kernel)⟩
theorem lw_p5 : lw_okq (⟨"QuarrelWindows$Square", "ringBits", "(I)I"⟩, 12) := ⟨⟨by decide +kernel, by decide +kernel⟩, List.mem_of_getElem? (i := 40) (by decide +kernel), List.mem_of_getElem? (i := 586) (by decide +kernel), List.mem_of_getElem? (i := 587) (by decide +kernel)⟩
theorem lw_p6 : lw_okq (⟨"QuarrelWindows$Square", "change", "(II)I"⟩, 12) := ⟨⟨by decide +kernel, by decide +kernel⟩, List.mem_of_getElem? (i := 40) (by decide +kernel), List.mem_of_getElem? (i := 607) (by decide +kernel), List.mem_of_getElem? (i := 608) (by decide +kernel)⟩
theorem lw_p7 : lw_okq (⟨"QuarrelWindows$Peacemaker", "behind", "(I)LQuarrelWindows$Square;"⟩, 9) := ⟨⟨by decide +kernel, by decide +kernel⟩, List.mem_of_getElem? (i := 136) (by decide +kernel), List.mem_of_getElem? (i := 655) (by decide +kernel), List.mem_of_getElem? (i := 656) (by decide +kernel)⟩
theorem lw_p8 : lw_okq (⟨"QuarrelWindows$Peacemaker", "isCalm", "(LQuarrelWindows$Square;)Z"⟩, 9) := ⟨⟨by decide +kernel, by decide +kernel⟩, List.mem_of_getElem? (i := 136) (by decide +kernel), List.mem_of_getElem? (i := 663) (by decide +kernel), List.mem_of_getElem? (i := 664) (by decide +kernel)⟩
theorem lw_p9 : lw_okq (⟨"QuarrelWindows$Peacemaker", "weigh", "(I)V"⟩, 9) := ⟨⟨by decide +kernel, by decide +kernel⟩, List.mem_of_getElem? (i := 136) (by decide +kernel), List.mem_of_getElem? (i := 708) (by decide +kernel), List.mem_of_getElem? (i := 709) (by decide +kernel)⟩
theorem lw_p10 : lw_okq (⟨"QuarrelWindows$Outlook", "weighWall", "(II)V"⟩, 7) := ⟨⟨by decide +kernel, by decide +kernel⟩, List.mem_of_getElem? (i := 106) (by decide +kernel), List.mem_of_getElem? (i := 740) (by decide +kernel), List.mem_of_getElem? (i := 741) (by decide +kernel)⟩
theorem lw_p11 : lw_okq (⟨"QuarrelWindows$Guess", "foresee", "()V"⟩, 6) := ⟨⟨by decide +kernel, by decide +kernel⟩, List.mem_of_getElem? (i := 172) (by decide +kernel), List.mem_of_getElem? (i := 777) (by decide +kernel), List.mem_of_getElem? (i := 778) (by decide +kernel)⟩
theorem lw_p12 : lw_okq (⟨"QuarrelWindows$Guess", "take", "(II)V"⟩, 6) := ⟨⟨by decide +kernel, by decide +kernel⟩, List.mem_of_getElem? (i := 172) (by decide +kernel), List.mem_of_getElem? (i := 788) (by decide +kernel), List.mem_of_getElem? (i := 789) (by decide +kernel)⟩
theorem lw_p13 : lw_okq (⟨"QuarrelWindows$Guess", "bestLook", "()I"⟩, 6) := ⟨⟨by decide +kernel, by decide +kernel⟩, List.mem_of_getElem? (i := 172) (by decide +kernel), List.mem_of_getElem? (i := 796) (by decide +kernel), List.mem_of_getElem? (i := 797) (by decide +kernel)⟩
theorem lw_p14 : lw_okq (⟨"QuarrelWindows$Outlook", "draw", "(I)I"⟩, 7) := ⟨⟨by decide +kernel, by decide +kernel⟩, List.mem_of_getElem? (i := 106) (by decide +kernel), List.mem_of_getElem? (i := 813) (by decide +kernel), List.mem_of_getElem? (i := 814) (by decide +kernel)⟩
theorem lw_p15 : lw_okq (⟨"QuarrelWindows", "mixHouse", "(JI)J"⟩, 12) := ⟨⟨by decide +kernel, by decide +kernel⟩, List.mem_of_getElem? (i := 18) (by decide +kernel), List.mem_of_getElem? (i := 892) (by decide +kernel), List.mem_of_getElem? (i := 893) (by decide +kernel)⟩
def lw_privs_1 : List (MethodName × Nat) := [(⟨"QuarrelWindows$Page", "fitsHouses", "(I)Z"⟩, 2), (⟨"QuarrelWindows$Page", "fitsAngers", "(II)Z"⟩, 2), (⟨"QuarrelWindows$Page", "housesEnd", "()I"⟩, 2), (⟨"QuarrelWindows$Square", "pickFront", "(I)I"⟩, 12), (⟨"QuarrelWindows$Square", "turnAll", "()I"⟩, 12), (⟨"QuarrelWindows$Square", "ringBits", "(I)I"⟩, 12), (⟨"QuarrelWindows$Square", "change", "(II)I"⟩, 12), (⟨"QuarrelWindows$Peacemaker", "behind", "(I)LQuarrelWindows$Square;"⟩, 9), (⟨"QuarrelWindows$Peacemaker", "isCalm", "(LQuarrelWindows$Square;)Z"⟩, 9), (⟨"QuarrelWindows$Peacemaker", "weigh", "(I)V"⟩, 9), (⟨"QuarrelWindows$Outlook", "weighWall", "(II)V"⟩, 7), (⟨"QuarrelWindows$Guess", "foresee", "()V"⟩, 6), (⟨"QuarrelWindows$Guess", "take", "(II)V"⟩, 6), (⟨"QuarrelWindows$Guess", "bestLook", "()I"⟩, 6), (⟨"QuarrelWindows$Outlook", "draw", "(I)I"⟩, 7), (⟨"QuarrelWindows", "mixHouse", "(JI)J"⟩, 12)]
theorem lw_r1 : ∀ q ∈ lw_privs_1, lw_okq q := List.forall_mem_cons.mpr ⟨lw_p0, List.forall_mem_cons.mpr ⟨lw_p1, List.forall_mem_cons.mpr ⟨lw_p2, List.forall_mem_cons.mpr ⟨lw_p3, List.forall_mem_cons.mpr ⟨lw_p4, List.forall_mem_cons.mpr ⟨lw_p5, List.forall_mem_cons.mpr ⟨lw_p6, List.forall_mem_cons.mpr ⟨lw_p7, List.forall_mem_cons.mpr ⟨lw_p8, List.forall_mem_cons.mpr ⟨lw_p9, List.forall_mem_cons.mpr ⟨lw_p10, List.forall_mem_cons.mpr ⟨lw_p11, List.forall_mem_cons.mpr ⟨lw_p12, List.forall_mem_cons.mpr ⟨lw_p13, List.forall_mem_cons.mpr ⟨lw_p14, List.forall_mem_cons.mpr ⟨lw_p15, fun _ h => absurd h List.not_mem_nil⟩⟩⟩⟩⟩⟩⟩⟩⟩⟩⟩⟩⟩⟩⟩⟩
theorem lw_p16 : lw_okq (⟨"QuarrelWindows", "mixWouldBe", "(J)J"⟩, 12) := ⟨⟨by decide +kernel, by decide +kernel⟩, List.mem_of_getElem? (i := 18) (by decide +kernel), List.mem_of_getElem? (i := 901) (by decide +kernel), List.mem_of_getElem? (i := 902) (by decide +kernel)⟩
theorem lw_p17 : lw_okq (⟨"QuarrelWindowsModel", "faultOf", "()I"⟩, 43) := ⟨⟨by decide +kernel, by decide +kernel⟩, List.mem_of_getElem? (i := 907) (by decide +kernel), List.mem_of_getElem? (i := 1059) (by decide +kernel), List.mem_of_getElem? (i := 1060) (by decide +kernel)⟩
theorem lw_p18 : lw_okq (⟨"QuarrelWindowsModel", "isHouseLetter", "(I)Z"⟩, 43) := ⟨⟨by decide +kernel, by decide +kernel⟩, List.mem_of_getElem? (i := 907) (by decide +kernel), List.mem_of_getElem? (i := 1063) (by decide +kernel), List.mem_of_getElem? (i := 1064) (by decide +kernel)⟩
theorem lw_p19 : lw_okq (⟨"QuarrelWindowsModel", "isAngerLetter", "(I)Z"⟩, 43) := ⟨⟨by decide +kernel, by decide +kernel⟩, List.mem_of_getElem? (i := 907) (by decide +kernel), List.mem_of_getElem? (i := 1072) (by decide +kernel), List.mem_of_getElem? (i := 1073) (by decide +kernel)⟩
theorem lw_p20 : lw_okq (⟨"QuarrelWindowsModel", "isHouse", "(I)Z"⟩, 43) := ⟨⟨by decide +kernel, by decide +kernel⟩, List.mem_of_getElem? (i := 907) (by decide +kernel), List.mem_of_getElem? (i := 1088) (by decide +kernel), List.mem_of_getElem? (i := 1089) (by decide +kernel)⟩
theorem lw_p21 : lw_okq (⟨"QuarrelWindowsModel", "tellHouse", "(II)I"⟩, 43) := ⟨⟨by decide +kernel, by decide +kernel⟩, List.mem_of_getElem? (i := 907) (by decide +kernel), List.mem_of_getElem? (i := 1092) (by decide +kernel), List.mem_of_getElem? (i := 1093) (by decide +kernel)⟩
theorem lw_p22 : lw_okq (⟨"QuarrelWindowsModel", "layFaces", "([I)V"⟩, 43) := ⟨⟨by decide +kernel, by decide +kernel⟩, List.mem_of_getElem? (i := 907) (by decide +kernel), List.mem_of_getElem? (i := 1096) (by decide +kernel), List.mem_of_getElem? (i := 1097) (by decide +kernel)⟩
theorem lw_p23 : lw_okq (⟨"QuarrelWindowsModel", "facesIn", "([II)I"⟩, 43) := ⟨⟨by decide +kernel, by decide +kernel⟩, List.mem_of_getElem? (i := 907) (by decide +kernel), List.mem_of_getElem? (i := 1100) (by decide +kernel), List.mem_of_getElem? (i := 1101) (by decide +kernel)⟩
theorem lw_p24 : lw_okq (⟨"QuarrelWindowsModel", "facedBy", "(I)I"⟩, 43) := ⟨⟨by decide +kernel, by decide +kernel⟩, List.mem_of_getElem? (i := 907) (by decide +kernel), List.mem_of_getElem? (i := 1104) (by decide +kernel), List.mem_of_getElem? (i := 1105) (by decide +kernel)⟩
theorem lw_p25 : lw_okq (⟨"QuarrelWindowsModel", "angerAll", "(I)I"⟩, 43) := ⟨⟨by decide +kernel, by decide +kernel⟩, List.mem_of_getElem? (i := 907) (by decide +kernel), List.mem_of_getElem? (i := 1108) (by decide +kernel), List.mem_of_getElem? (i := 1109) (by decide +kernel)⟩
theorem lw_p26 : lw_okq (⟨"QuarrelWindowsModel", "stares", "(I)Z"⟩, 43) := ⟨⟨by decide +kernel, by decide +kernel⟩, List.mem_of_getElem? (i := 907) (by decide +kernel), List.mem_of_getElem? (i := 1112) (by decide +kernel), List.mem_of_getElem? (i := 1113) (by decide +kernel)⟩
theorem lw_p27 : lw_okq (⟨"QuarrelWindowsModel", "ringOf", "(I)I"⟩, 43) := ⟨⟨by decide +kernel, by decide +kernel⟩, List.mem_of_getElem? (i := 907) (by decide +kernel), List.mem_of_getElem? (i := 1116) (by decide +kernel), List.mem_of_getElem? (i := 1117) (by decide +kernel)⟩
theorem lw_p28 : lw_okq (⟨"QuarrelWindowsModel", "layLine", "(I)I"⟩, 43) := ⟨⟨by decide +kernel, by decide +kernel⟩, List.mem_of_getElem? (i := 907) (by decide +kernel), List.mem_of_getElem? (i := 1120) (by decide +kernel), List.mem_of_getElem? (i := 1121) (by decide +kernel)⟩
theorem lw_p29 : lw_okq (⟨"QuarrelWindowsModel", "areTwo", "(II)Z"⟩, 43) := ⟨⟨by decide +kernel, by decide +kernel⟩, List.mem_of_getElem? (i := 907) (by decide +kernel), List.mem_of_getElem? (i := 1133) (by decide +kernel), List.mem_of_getElem? (i := 1134) (by decide +kernel)⟩
theorem lw_p30 : lw_okq (⟨"QuarrelWindowsModel", "lineAt", "(II)I"⟩, 43) := ⟨⟨by decide +kernel, by decide +kernel⟩, List.mem_of_getElem? (i := 907) (by decide +kernel), List.mem_of_getElem? (i := 1142) (by decide +kernel), List.mem_of_getElem? (i := 1143) (by decide +kernel)⟩
theorem lw_p31 : lw_okq (⟨"QuarrelWindowsModel", "layWall", "(III)V"⟩, 43) := ⟨⟨by decide +kernel, by decide +kernel⟩, List.mem_of_getElem? (i := 907) (by decide +kernel), List.mem_of_getElem? (i := 1163) (by decide +kernel), List.mem_of_getElem? (i := 1164) (by decide +kernel)⟩
def lw_privs_2 : List (MethodName × Nat) := [(⟨"QuarrelWindows", "mixWouldBe", "(J)J"⟩, 12), (⟨"QuarrelWindowsModel", "faultOf", "()I"⟩, 43), (⟨"QuarrelWindowsModel", "isHouseLetter", "(I)Z"⟩, 43), (⟨"QuarrelWindowsModel", "isAngerLetter", "(I)Z"⟩, 43), (⟨"QuarrelWindowsModel", "isHouse", "(I)Z"⟩, 43), (⟨"QuarrelWindowsModel", "tellHouse", "(II)I"⟩, 43), (⟨"QuarrelWindowsModel", "layFaces", "([I)V"⟩, 43), (⟨"QuarrelWindowsModel", "facesIn", "([II)I"⟩, 43), (⟨"QuarrelWindowsModel", "facedBy", "(I)I"⟩, 43), (⟨"QuarrelWindowsModel", "angerAll", "(I)I"⟩, 43), (⟨"QuarrelWindowsModel", "stares", "(I)Z"⟩, 43), (⟨"QuarrelWindowsModel", "ringOf", "(I)I"⟩, 43), (⟨"QuarrelWindowsModel", "layLine", "(I)I"⟩, 43), (⟨"QuarrelWindowsModel", "areTwo", "(II)Z"⟩, 43), (⟨"QuarrelWindowsModel", "lineAt", "(II)I"⟩, 43), (⟨"QuarrelWindowsModel", "layWall", "(III)V"⟩, 43)]
theorem lw_r2 : ∀ q ∈ lw_privs_2, lw_okq q := List.forall_mem_cons.mpr ⟨lw_p16, List.forall_mem_cons.mpr ⟨lw_p17, List.forall_mem_cons.mpr ⟨lw_p18, List.forall_mem_cons.mpr ⟨lw_p19, List.forall_mem_cons.mpr ⟨lw_p20, List.forall_mem_cons.mpr ⟨lw_p21, List.forall_mem_cons.mpr ⟨lw_p22, List.forall_mem_cons.mpr ⟨lw_p23, List.forall_mem_cons.mpr ⟨lw_p24, List.forall_mem_cons.mpr ⟨lw_p25, List.forall_mem_cons.mpr ⟨lw_p26, List.forall_mem_cons.mpr ⟨lw_p27, List.forall_mem_cons.mpr ⟨lw_p28, List.forall_mem_cons.mpr ⟨lw_p29, List.forall_mem_cons.mpr ⟨lw_p30, List.forall_mem_cons.mpr ⟨lw_p31, fun _ h => absurd h List.not_mem_nil⟩⟩⟩⟩⟩⟩⟩⟩⟩⟩⟩⟩⟩⟩⟩⟩
theorem lw_p32 : lw_okq (⟨"QuarrelWindowsModel", "lacks", "()Z"⟩, 43) := ⟨⟨by decide +kernel, by decide +kernel⟩, List.mem_of_getElem? (i := 907) (by decide +kernel), List.mem_of_getElem? (i := 1179) (by decide +kernel), List.mem_of_getElem? (i := 1180) (by decide +kernel)⟩
theorem lw_p33 : lw_okq (⟨"QuarrelWindowsModel", "goMorning", "([I)I"⟩, 43) := ⟨⟨by decide +kernel, by decide +kernel⟩, List.mem_of_getElem? (i := 907) (by decide +kernel), List.mem_of_getElem? (i := 1183) (by decide +kernel), List.mem_of_getElem? (i := 1184) (by decide +kernel)⟩
theorem lw_p34 : lw_okq (⟨"QuarrelWindowsModel", "moreOf", "(II)I"⟩, 43) := ⟨⟨by decide +kernel, by decide +kernel⟩, List.mem_of_getElem? (i := 907) (by decide +kernel), List.mem_of_getElem? (i := 1190) (by decide +kernel), List.mem_of_getElem? (i := 1191) (by decide +kernel)⟩
theorem lw_p35 : lw_okq (⟨"QuarrelWindowsModel", "settlesOf", "(I)I"⟩, 43) := ⟨⟨by decide +kernel, by decide +kernel⟩, List.mem_of_getElem? (i := 907) (by decide +kernel), List.mem_of_getElem? (i := 1200) (by decide +kernel), List.mem_of_getElem? (i := 1201) (by decide +kernel)⟩
theorem lw_p36 : lw_okq (⟨"QuarrelWindowsModel", "goMornings", "([II)V"⟩, 43) := ⟨⟨by decide +kernel, by decide +kernel⟩, List.mem_of_getElem? (i := 907) (by decide +kernel), List.mem_of_getElem? (i := 1204) (by decide +kernel), List.mem_of_getElem? (i := 1205) (by decide +kernel)⟩
theorem lw_p37 : lw_okq (⟨"QuarrelWindowsModel", "calmOf", "(III)I"⟩, 43) := ⟨⟨by decide +kernel, by decide +kernel⟩, List.mem_of_getElem? (i := 907) (by decide +kernel), List.mem_of_getElem? (i := 1213) (by decide +kernel), List.mem_of_getElem? (i := 1214) (by decide +kernel)⟩
theorem lw_p38 : lw_okq (⟨"QuarrelWindowsModel", "layCalm", "(II)I"⟩, 43) := ⟨⟨by decide +kernel, by decide +kernel⟩, List.mem_of_getElem? (i := 907) (by decide +kernel), List.mem_of_getElem? (i := 1217) (by decide +kernel), List.mem_of_getElem? (i := 1218) (by decide +kernel)⟩
theorem lw_p39 : lw_okq (⟨"QuarrelWindowsModel", "pairsMany", "()I"⟩, 43) := ⟨⟨by decide +kernel, by decide +kernel⟩, List.mem_of_getElem? (i := 907) (by decide +kernel), List.mem_of_getElem? (i := 1221) (by decide +kernel), List.mem_of_getElem? (i := 1222) (by decide +kernel)⟩
theorem lw_p40 : lw_okq (⟨"QuarrelWindowsModel", "isCalm", "(II[II)Z"⟩, 43) := ⟨⟨by decide +kernel, by decide +kernel⟩, List.mem_of_getElem? (i := 907) (by decide +kernel), List.mem_of_getElem? (i := 1225) (by decide +kernel), List.mem_of_getElem? (i := 1226) (by decide +kernel)⟩
theorem lw_p41 : lw_okq (⟨"QuarrelWindowsModel", "pairAt", "(I)I"⟩, 43) := ⟨⟨by decide +kernel, by decide +kernel⟩, List.mem_of_getElem? (i := 907) (by decide +kernel), List.mem_of_getElem? (i := 1229) (by decide +kernel), List.mem_of_getElem? (i := 1230) (by decide +kernel)⟩
theorem lw_p42 : lw_okq (⟨"QuarrelWindowsModel", "makePeace", "([II)V"⟩, 43) := ⟨⟨by decide +kernel, by decide +kernel⟩, List.mem_of_getElem? (i := 907) (by decide +kernel), List.mem_of_getElem? (i := 1233) (by decide +kernel), List.mem_of_getElem? (i := 1234) (by decide +kernel)⟩
theorem lw_p43 : lw_okq (⟨"QuarrelWindowsModel", "nextRow", "(II)Z"⟩, 43) := ⟨⟨by decide +kernel, by decide +kernel⟩, List.mem_of_getElem? (i := 907) (by decide +kernel), List.mem_of_getElem? (i := 1237) (by decide +kernel), List.mem_of_getElem? (i := 1238) (by decide +kernel)⟩
theorem lw_p44 : lw_okq (⟨"QuarrelWindowsModel", "arbiterOf", "(II)I"⟩, 43) := ⟨⟨by decide +kernel, by decide +kernel⟩, List.mem_of_getElem? (i := 907) (by decide +kernel), List.mem_of_getElem? (i := 1246) (by decide +kernel), List.mem_of_getElem? (i := 1247) (by decide +kernel)⟩
theorem lw_p45 : lw_okq (⟨"QuarrelWindowsModel", "wrongBy", "(II)I"⟩, 43) := ⟨⟨by decide +kernel, by decide +kernel⟩, List.mem_of_getElem? (i := 907) (by decide +kernel), List.mem_of_getElem? (i := 1250) (by decide +kernel), List.mem_of_getElem? (i := 1251) (by decide +kernel)⟩
theorem lw_p46 : lw_okq (⟨"QuarrelWindowsModel", "staresMany", "()I"⟩, 43) := ⟨⟨by decide +kernel, by decide +kernel⟩, List.mem_of_getElem? (i := 907) (by decide +kernel), List.mem_of_getElem? (i := 1254) (by decide +kernel), List.mem_of_getElem? (i := 1255) (by decide +kernel)⟩
theorem lw_p47 : lw_okq (⟨"QuarrelWindowsModel", "ringsMany", "()I"⟩, 43) := ⟨⟨by decide +kernel, by decide +kernel⟩, List.mem_of_getElem? (i := 907) (by decide +kernel), List.mem_of_getElem? (i := 1258) (by decide +kernel), List.mem_of_getElem? (i := 1259) (by decide +kernel)⟩
def lw_privs_3 : List (MethodName × Nat) := [(⟨"QuarrelWindowsModel", "lacks", "()Z"⟩, 43), (⟨"QuarrelWindowsModel", "goMorning", "([I)I"⟩, 43), (⟨"QuarrelWindowsModel", "moreOf", "(II)I"⟩, 43), (⟨"QuarrelWindowsModel", "settlesOf", "(I)I"⟩, 43), (⟨"QuarrelWindowsModel", "goMornings", "([II)V"⟩, 43), (⟨"QuarrelWindowsModel", "calmOf", "(III)I"⟩, 43), (⟨"QuarrelWindowsModel", "layCalm", "(II)I"⟩, 43), (⟨"QuarrelWindowsModel", "pairsMany", "()I"⟩, 43), (⟨"QuarrelWindowsModel", "isCalm", "(II[II)Z"⟩, 43), (⟨"QuarrelWindowsModel", "pairAt", "(I)I"⟩, 43), (⟨"QuarrelWindowsModel", "makePeace", "([II)V"⟩, 43), (⟨"QuarrelWindowsModel", "nextRow", "(II)Z"⟩, 43), (⟨"QuarrelWindowsModel", "arbiterOf", "(II)I"⟩, 43), (⟨"QuarrelWindowsModel", "wrongBy", "(II)I"⟩, 43), (⟨"QuarrelWindowsModel", "staresMany", "()I"⟩, 43), (⟨"QuarrelWindowsModel", "ringsMany", "()I"⟩, 43)]
theorem lw_r3 : ∀ q ∈ lw_privs_3, lw_okq q := List.forall_mem_cons.mpr ⟨lw_p32, List.forall_mem_cons.mpr ⟨lw_p33, List.forall_mem_cons.mpr ⟨lw_p34, List.forall_mem_cons.mpr ⟨lw_p35, List.forall_mem_cons.mpr ⟨lw_p36, List.forall_mem_cons.mpr ⟨lw_p37, List.forall_mem_cons.mpr ⟨lw_p38, List.forall_mem_cons.mpr ⟨lw_p39, List.forall_mem_cons.mpr ⟨lw_p40, List.forall_mem_cons.mpr ⟨lw_p41, List.forall_mem_cons.mpr ⟨lw_p42, List.forall_mem_cons.mpr ⟨lw_p43, List.forall_mem_cons.mpr ⟨lw_p44, List.forall_mem_cons.mpr ⟨lw_p45, List.forall_mem_cons.mpr ⟨lw_p46, List.forall_mem_cons.mpr ⟨lw_p47, fun _ h => absurd h List.not_mem_nil⟩⟩⟩⟩⟩⟩⟩⟩⟩⟩⟩⟩⟩⟩⟩⟩
theorem lw_p48 : lw_okq (⟨"QuarrelWindowsModel", "leadsRing", "(I)Z"⟩, 43) := ⟨⟨by decide +kernel, by decide +kernel⟩, List.mem_of_getElem? (i := 907) (by decide +kernel), List.mem_of_getElem? (i := 1262) (by decide +kernel), List.mem_of_getElem? (i := 1263) (by decide +kernel)⟩
theorem lw_p49 : lw_okq (⟨"QuarrelWindowsModel", "grudgeOf", "(III)I"⟩, 43) := ⟨⟨by decide +kernel, by decide +kernel⟩, List.mem_of_getElem? (i := 907) (by decide +kernel), List.mem_of_getElem? (i := 1270) (by decide +kernel), List.mem_of_getElem? (i := 1271) (by decide +kernel)⟩
theorem lw_p50 : lw_okq (⟨"QuarrelWindowsModel", "wallsOf", "(II)I"⟩, 43) := ⟨⟨by decide +kernel, by decide +kernel⟩, List.mem_of_getElem? (i := 907) (by decide +kernel), List.mem_of_getElem? (i := 1278) (by decide +kernel), List.mem_of_getElem? (i := 1279) (by decide +kernel)⟩
theorem lw_p51 : lw_okq (⟨"QuarrelWindowsModel", "riverBehind", "(I)I"⟩, 43) := ⟨⟨by decide +kernel, by decide +kernel⟩, List.mem_of_getElem? (i := 907) (by decide +kernel), List.mem_of_getElem? (i := 1282) (by decide +kernel), List.mem_of_getElem? (i := 1283) (by decide +kernel)⟩
theorem lw_p52 : lw_okq (⟨"QuarrelWindowsModel", "riverMany", "()I"⟩, 43) := ⟨⟨by decide +kernel, by decide +kernel⟩, List.mem_of_getElem? (i := 907) (by decide +kernel), List.mem_of_getElem? (i := 1286) (by decide +kernel), List.mem_of_getElem? (i := 1287) (by decide +kernel)⟩
theorem lw_p53 : lw_okq (⟨"QuarrelWindowsModel", "spanOf", "(III)I"⟩, 43) := ⟨⟨by decide +kernel, by decide +kernel⟩, List.mem_of_getElem? (i := 907) (by decide +kernel), List.mem_of_getElem? (i := 1302) (by decide +kernel), List.mem_of_getElem? (i := 1303) (by decide +kernel)⟩
theorem lw_p54 : lw_okq (⟨"QuarrelWindowsModel", "laySpan", "(II)V"⟩, 43) := ⟨⟨by decide +kernel, by decide +kernel⟩, List.mem_of_getElem? (i := 907) (by decide +kernel), List.mem_of_getElem? (i := 1306) (by decide +kernel), List.mem_of_getElem? (i := 1307) (by decide +kernel)⟩
theorem lw_p55 : lw_okq (⟨"QuarrelWindowsModel", "spanMany", "()I"⟩, 43) := ⟨⟨by decide +kernel, by decide +kernel⟩, List.mem_of_getElem? (i := 907) (by decide +kernel), List.mem_of_getElem? (i := 1310) (by decide +kernel), List.mem_of_getElem? (i := 1311) (by decide +kernel)⟩
theorem lw_p56 : lw_okq (⟨"QuarrelWindowsModel", "spanLeast", "()I"⟩, 43) := ⟨⟨by decide +kernel, by decide +kernel⟩, List.mem_of_getElem? (i := 907) (by decide +kernel), List.mem_of_getElem? (i := 1314) (by decide +kernel), List.mem_of_getElem? (i := 1315) (by decide +kernel)⟩
theorem lw_p57 : lw_okq (⟨"QuarrelWindowsModel", "spanMost", "()I"⟩, 43) := ⟨⟨by decide +kernel, by decide +kernel⟩, List.mem_of_getElem? (i := 907) (by decide +kernel), List.mem_of_getElem? (i := 1318) (by decide +kernel), List.mem_of_getElem? (i := 1319) (by decide +kernel)⟩
theorem lw_p58 : lw_okq (⟨"QuarrelWindowsModel", "lookOf", "()I"⟩, 43) := ⟨⟨by decide +kernel, by decide +kernel⟩, List.mem_of_getElem? (i := 907) (by decide +kernel), List.mem_of_getElem? (i := 1322) (by decide +kernel), List.mem_of_getElem? (i := 1323) (by decide +kernel)⟩
theorem lw_p59 : lw_okq (⟨"QuarrelWindowsModel", "draw", "(I)I"⟩, 43) := ⟨⟨by decide +kernel, by decide +kernel⟩, List.mem_of_getElem? (i := 907) (by decide +kernel), List.mem_of_getElem? (i := 1332) (by decide +kernel), List.mem_of_getElem? (i := 1333) (by decide +kernel)⟩
theorem lw_p60 : lw_okq (⟨"QuarrelWindowsModel", "countOf", "(I)I"⟩, 43) := ⟨⟨by decide +kernel, by decide +kernel⟩, List.mem_of_getElem? (i := 907) (by decide +kernel), List.mem_of_getElem? (i := 1352) (by decide +kernel), List.mem_of_getElem? (i := 1353) (by decide +kernel)⟩
theorem lw_p61 : lw_okq (⟨"QuarrelWindowsModel", "angersAbove", "()I"⟩, 43) := ⟨⟨by decide +kernel, by decide +kernel⟩, List.mem_of_getElem? (i := 907) (by decide +kernel), List.mem_of_getElem? (i := 1356) (by decide +kernel), List.mem_of_getElem? (i := 1357) (by decide +kernel)⟩
theorem lw_p62 : lw_okq (⟨"QuarrelWindowsModel", "sumOf", "([I)I"⟩, 43) := ⟨⟨by decide +kernel, by decide +kernel⟩, List.mem_of_getElem? (i := 907) (by decide +kernel), List.mem_of_getElem? (i := 1360) (by decide +kernel), List.mem_of_getElem? (i := 1361) (by decide +kernel)⟩
theorem lw_p63 : lw_okq (⟨"QuarrelWindowsModel", "viewsNow", "()I"⟩, 43) := ⟨⟨by decide +kernel, by decide +kernel⟩, List.mem_of_getElem? (i := 907) (by decide +kernel), List.mem_of_getElem? (i := 1364) (by decide +kernel), List.mem_of_getElem? (i := 1365) (by decide +kernel)⟩
def lw_privs_4 : List (MethodName × Nat) := [(⟨"QuarrelWindowsModel", "leadsRing", "(I)Z"⟩, 43), (⟨"QuarrelWindowsModel", "grudgeOf", "(III)I"⟩, 43), (⟨"QuarrelWindowsModel", "wallsOf", "(II)I"⟩, 43), (⟨"QuarrelWindowsModel", "riverBehind", "(I)I"⟩, 43), (⟨"QuarrelWindowsModel", "riverMany", "()I"⟩, 43), (⟨"QuarrelWindowsModel", "spanOf", "(III)I"⟩, 43), (⟨"QuarrelWindowsModel", "laySpan", "(II)V"⟩, 43), (⟨"QuarrelWindowsModel", "spanMany", "()I"⟩, 43), (⟨"QuarrelWindowsModel", "spanLeast", "()I"⟩, 43), (⟨"QuarrelWindowsModel", "spanMost", "()I"⟩, 43), (⟨"QuarrelWindowsModel", "lookOf", "()I"⟩, 43), (⟨"QuarrelWindowsModel", "draw", "(I)I"⟩, 43), (⟨"QuarrelWindowsModel", "countOf", "(I)I"⟩, 43), (⟨"QuarrelWindowsModel", "angersAbove", "()I"⟩, 43), (⟨"QuarrelWindowsModel", "sumOf", "([I)I"⟩, 43), (⟨"QuarrelWindowsModel", "viewsNow", "()I"⟩, 43)]
theorem lw_r4 : ∀ q ∈ lw_privs_4, lw_okq q := List.forall_mem_cons.mpr ⟨lw_p48, List.forall_mem_cons.mpr ⟨lw_p49, List.forall_mem_cons.mpr ⟨lw_p50, List.forall_mem_cons.mpr ⟨lw_p51, List.forall_mem_cons.mpr ⟨lw_p52, List.forall_mem_cons.mpr ⟨lw_p53, List.forall_mem_cons.mpr ⟨lw_p54, List.forall_mem_cons.mpr ⟨lw_p55, List.forall_mem_cons.mpr ⟨lw_p56, List.forall_mem_cons.mpr ⟨lw_p57, List.forall_mem_cons.mpr ⟨lw_p58, List.forall_mem_cons.mpr ⟨lw_p59, List.forall_mem_cons.mpr ⟨lw_p60, List.forall_mem_cons.mpr ⟨lw_p61, List.forall_mem_cons.mpr ⟨lw_p62, List.forall_mem_cons.mpr ⟨lw_p63, fun _ h => absurd h List.not_mem_nil⟩⟩⟩⟩⟩⟩⟩⟩⟩⟩⟩⟩⟩⟩⟩⟩
theorem lw_p64 : lw_okq (⟨"QuarrelWindowsModel", "priestsNow", "()I"⟩, 43) := ⟨⟨by decide +kernel, by decide +kernel⟩, List.mem_of_getElem? (i := 907) (by decide +kernel), List.mem_of_getElem? (i := 1368) (by decide +kernel), List.mem_of_getElem? (i := 1369) (by decide +kernel)⟩
theorem lw_p65 : lw_okq (⟨"QuarrelWindowsModel", "countMore", "(I)I"⟩, 43) := ⟨⟨by decide +kernel, by decide +kernel⟩, List.mem_of_getElem? (i := 907) (by decide +kernel), List.mem_of_getElem? (i := 1372) (by decide +kernel), List.mem_of_getElem? (i := 1373) (by decide +kernel)⟩
theorem lw_p66 : lw_okq (⟨"QuarrelWindowsModel", "sumHouses", "([I)I"⟩, 43) := ⟨⟨by decide +kernel, by decide +kernel⟩, List.mem_of_getElem? (i := 907) (by decide +kernel), List.mem_of_getElem? (i := 1376) (by decide +kernel), List.mem_of_getElem? (i := 1377) (by decide +kernel)⟩
theorem lw_p67 : lw_okq (⟨"QuarrelWindowsModel", "sayHouse", "(I)V"⟩, 43) := ⟨⟨by decide +kernel, by decide +kernel⟩, List.mem_of_getElem? (i := 907) (by decide +kernel), List.mem_of_getElem? (i := 1385) (by decide +kernel), List.mem_of_getElem? (i := 1386) (by decide +kernel)⟩
theorem lw_p68 : lw_okq (⟨"QuarrelWindowsModel", "say", "(J)V"⟩, 43) := ⟨⟨by decide +kernel, by decide +kernel⟩, List.mem_of_getElem? (i := 907) (by decide +kernel), List.mem_of_getElem? (i := 1389) (by decide +kernel), List.mem_of_getElem? (i := 1390) (by decide +kernel)⟩
theorem lw_p69 : lw_okq (⟨"QuarrelWindowsModel", "saySquare", "()V"⟩, 43) := ⟨⟨by decide +kernel, by decide +kernel⟩, List.mem_of_getElem? (i := 907) (by decide +kernel), List.mem_of_getElem? (i := 1394) (by decide +kernel), List.mem_of_getElem? (i := 1395) (by decide +kernel)⟩
def lw_privs_5 : List (MethodName × Nat) := [(⟨"QuarrelWindowsModel", "priestsNow", "()I"⟩, 43), (⟨"QuarrelWindowsModel", "countMore", "(I)I"⟩, 43), (⟨"QuarrelWindowsModel", "sumHouses", "([I)I"⟩, 43), (⟨"QuarrelWindowsModel", "sayHouse", "(I)V"⟩, 43), (⟨"QuarrelWindowsModel", "say", "(J)V"⟩, 43), (⟨"QuarrelWindowsModel", "saySquare", "()V"⟩, 43)]
theorem lw_r5 : ∀ q ∈ lw_privs_5, lw_okq q := List.forall_mem_cons.mpr ⟨lw_p64, List.forall_mem_cons.mpr ⟨lw_p65, List.forall_mem_cons.mpr ⟨lw_p66, List.forall_mem_cons.mpr ⟨lw_p67, List.forall_mem_cons.mpr ⟨lw_p68, List.forall_mem_cons.mpr ⟨lw_p69, fun _ h => absurd h List.not_mem_nil⟩⟩⟩⟩⟩⟩
def lw_privs : List (MethodName × Nat) := lw_privs_1 ++ (lw_privs_2 ++ (lw_privs_3 ++ (lw_privs_4 ++ (lw_privs_5))))
def lw_tbl : List Cond := k2_sels lw_privs ++ tables_1
theorem lw_privs_ok : ∀ q ∈ lw_privs, lw_okq q := by
  show ∀ q ∈ lw_privs_1 ++ (lw_privs_2 ++ (lw_privs_3 ++ (lw_privs_4 ++ (lw_privs_5)))), lw_okq q
  exact List.forall_mem_append.mpr ⟨lw_r1, List.forall_mem_append.mpr ⟨lw_r2, List.forall_mem_append.mpr ⟨lw_r3, List.forall_mem_append.mpr ⟨lw_r4, lw_r5⟩⟩⟩⟩
end
section
/-! The code of every method, a row an instruction: its place, the instruction, the place behind it, what it links (numbers). Printed by program. -/
abbrev Row : Type := Nat × Instr × Nat × List Nat
/-- 0: Guess.find -/
def code_0 : List Row := [(0, .aload_n 0, 1, []), (1, .iconst 0, 2, []), (2, .putfield 26, 5, [0, 0, 3, 0, 254]), (5, .aload_n 0, 6, []), (6, .iconst (-1), 7, []), (7, .putfield 30, 10, [0, 0, 4, 0, 255]), (10, .aload_n 0, 11, []), (11, .iconst (-1), 12, []), (12, .putfield 33, 15, [0, 0, 5, 0, 256]), (15, .iconst 0, 16, []), (16, .istore 5, 18, []), (18, .iload 5, 20, []), (20, .bipush 6, 22, []), (22, .if_icmp .ge 20, 25, [42]), (25, .aload_n 0, 26, []), (26, .getfield 23, 29, [1, 0, 2, 0, 253, 25, 1]), (29, .iload 5, 31, []), (31, .aaload, 32, []), (32, .iconst 0, 33, []), (33, .invokestatic 36, 36, [11, 224, 2, 0, 843]), (36, .iinc 5 1, 39, []), (39, .goto (-21), 42, [18]), (42, .iconst 0, 43, []), (43, .istore 5, 45, []), (45, .iload 5, 47, []), (47, .bipush 20, 49, []), (49, .if_icmp .gt 51, 52, [100]), (52, .aload_n 0, 53, []), (53, .getfield 12, 56, [1, 0, 0, 0, 251, 5, 8]), (56, .aload_n 1, 57, []), (57, .invokevirtual 42, 60, [10, 49, 2, 0, 844, 5]), (60, .aload_n 0, 61, []), (61, .getfield 12, 64, [1, 0, 0, 0, 251, 5, 8]), (64, .iload_n 3, 65, []), (65, .iload 4, 67, []), (67, .iload 5, 69, []), (69, .invokevirtual 46, 72, [10, 80, 4, 0, 845, 5]), (72, .aload_n 0, 73, []), (73, .invokevirtual 50, 76, [10, 1, 1, 0, 846, 0]), (76, .aload_n 2, 77, []), (77, .aload_n 0, 78, []), (78, .getfield 20, 81, [1, 0, 1, 0, 252, 23, 1]), (81, .invokevirtual 53, 84, [10, 47, 2, 0, 853, 4]), (84, .ifCond .eq 10, 87, [94]), (87, .aload_n 0, 88, []), (88, .iload_n 3, 89, []), (89, .iload 5, 91, []), (91, .invokevirtual 59, 94, [10, 2, 3, 0, 857, 0]), (94, .iinc 5 1, 97, []), (97, .goto (-52), 100, [45]), (100, .return_, 101, [])]
/-- 1: Guess.foresee -/
def code_1 : List Row := [(0, .iconst 0, 1, []), (1, .istore_n 1, 2, []), (2, .iload_n 1, 3, []), (3, .bipush 6, 5, []), (5, .if_icmp .ge 52, 8, [57]), (8, .iconst 0, 9, []), (9, .istore_n 2, 10, []), (10, .iload_n 2, 11, []), (11, .aload_n 0, 12, []), (12, .getfield 12, 15, [1, 0, 0, 0, 251, 5, 8]), (15, .invokevirtual 63, 18, [10, 51, 1, 0, 850, 5]), (18, .if_icmp .ge 25, 21, [43]), (21, .aload_n 0, 22, []), (22, .getfield 20, 25, [1, 0, 1, 0, 252, 23, 1]), (25, .iload_n 1, 26, []), (26, .aaload, 27, []), (27, .iload_n 2, 28, []), (28, .aload_n 0, 29, []), (29, .getfield 12, 32, [1, 0, 0, 0, 251, 5, 8]), (32, .iload_n 2, 33, []), (33, .invokevirtual 67, 36, [10, 56, 2, 0, 851, 5]), (36, .iastore, 37, []), (37, .iinc 2 1, 40, []), (40, .goto (-30), 43, [10]), (43, .aload_n 0, 44, []), (44, .getfield 12, 47, [1, 0, 0, 0, 251, 5, 8]), (47, .invokevirtual 71, 50, [10, 86, 1, 0, 852, 5]), (50, .pop, 51, []), (51, .iinc 1 1, 54, []), (54, .goto (-52), 57, [2]), (57, .return_, 58, [])]
/-- 2: Guess.take -/
def code_2 : List Row := [(0, .aload_n 0, 1, []), (1, .dup, 2, []), (2, .getfield 26, 5, [0, 0, 3, 0, 254]), (5, .iconst 1, 6, []), (6, .iadd, 7, []), (7, .putfield 26, 10, [0, 0, 3, 0, 254]), (10, .aload_n 0, 11, []), (11, .getfield 30, 14, [0, 0, 4, 0, 255]), (14, .iconst (-1), 15, []), (15, .if_icmp .ne 8, 18, [23]), (18, .aload_n 0, 19, []), (19, .iload_n 2, 20, []), (20, .putfield 30, 23, [0, 0, 4, 0, 255]), (23, .aload_n 0, 24, []), (24, .iload_n 2, 25, []), (25, .putfield 33, 28, [0, 0, 5, 0, 256]), (28, .iconst 0, 29, []), (29, .istore_n 3, 30, []), (30, .iload_n 3, 31, []), (31, .bipush 6, 33, []), (33, .if_icmp .ge 30, 36, [63]), (36, .aload_n 0, 37, []), (37, .getfield 23, 40, [1, 0, 2, 0, 253, 25, 1]), (40, .iload_n 3, 41, []), (41, .aaload, 42, []), (42, .aload_n 0, 43, []), (43, .getfield 20, 46, [1, 0, 1, 0, 252, 23, 1]), (46, .iload_n 3, 47, []), (47, .aaload, 48, []), (48, .iload_n 1, 49, []), (49, .iaload, 50, []), (50, .iconst 1, 51, []), (51, .iadd, 52, []), (52, .dup2, 53, []), (53, .iaload, 54, []), (54, .iconst 1, 55, []), (55, .iadd, 56, []), (56, .iastore, 57, []), (57, .iinc 3 1, 60, []), (60, .goto (-30), 63, [30]), (63, .return_, 64, [])]
/-- 3: Guess.found -/
def code_3 : List Row := [(0, .iload_n 1, 1, []), (1, .tableswitch 42 0 2 #[27, 32, 37], 28, [43, 28, 33, 38]), (28, .aload_n 0, 29, []), (29, .getfield 26, 32, [0, 0, 3, 0, 254]), (32, .ireturn, 33, [0]), (33, .aload_n 0, 34, []), (34, .getfield 30, 37, [0, 0, 4, 0, 255]), (37, .ireturn, 38, [0]), (38, .aload_n 0, 39, []), (39, .getfield 33, 42, [0, 0, 5, 0, 256]), (42, .ireturn, 43, [0]), (43, .aload_n 0, 44, []), (44, .invokevirtual 74, 47, [10, 4, 1, 0, 865, 0]), (47, .ireturn, 48, [0])]
/-- 4: Guess.bestLook -/
def code_4 : List Row := [(0, .iconst (-1), 1, []), (1, .istore_n 1, 2, []), (2, .bipush 22, 4, []), (4, .istore_n 2, 5, []), (5, .iconst 0, 6, []), (6, .istore_n 3, 7, []), (7, .iload_n 3, 8, []), (8, .bipush 6, 10, []), (10, .if_icmp .ge 38, 13, [48]), (13, .aload_n 0, 14, []), (14, .getfield 26, 17, [0, 0, 3, 0, 254]), (17, .ifCond .le 31, 20, [48]), (20, .aload_n 0, 21, []), (21, .getfield 23, 24, [1, 0, 2, 0, 253, 25, 1]), (24, .iload_n 3, 25, []), (25, .aaload, 26, []), (26, .invokestatic 77, 29, [11, 5, 1, 0, 869]), (29, .istore 4, 31, []), (31, .iload 4, 33, []), (33, .iload_n 2, 34, []), (34, .if_icmp .ge 8, 37, [42]), (37, .iload 4, 39, []), (39, .istore_n 2, 40, []), (40, .iload_n 3, 41, []), (41, .istore_n 1, 42, []), (42, .iinc 3 1, 45, []), (45, .goto (-38), 48, [7]), (48, .iload_n 1, 49, []), (49, .ireturn, 50, [0])]
/-- 5: Guess.worstOf -/
def code_5 : List Row := [(0, .iconst 0, 1, []), (1, .istore_n 1, 2, []), (2, .aload_n 0, 3, []), (3, .astore_n 2, 4, []), (4, .aload_n 2, 5, []), (5, .arraylength, 6, []), (6, .istore_n 3, 7, []), (7, .iconst 0, 8, []), (8, .istore 4, 10, []), (10, .iload 4, 12, []), (12, .iload_n 3, 13, []), (13, .if_icmp .ge 22, 16, [35]), (16, .aload_n 2, 17, []), (17, .iload 4, 19, []), (19, .iaload, 20, []), (20, .istore 5, 22, []), (22, .iload_n 1, 23, []), (23, .iload 5, 25, []), (25, .invokestatic 81, 28, [20, 872]), (28, .istore_n 1, 29, []), (29, .iinc 4 1, 32, []), (32, .goto (-22), 35, [10]), (35, .iload_n 1, 36, []), (36, .ireturn, 37, [0])]
/-- 6: Outlook.settle -/
def code_6 : List Row := [(0, .aload_n 0, 1, []), (1, .getfield 12, 4, [1, 1, 0, 0, 183, 5, 3]), (4, .aload_n 1, 5, []), (5, .invokevirtual 18, 8, [10, 49, 2, 0, 691, 5]), (8, .aload_n 0, 9, []), (9, .iconst (-1), 10, []), (10, .putfield 22, 13, [0, 1, 1, 0, 184]), (13, .iconst 0, 14, []), (14, .istore_n 2, 15, []), (15, .iconst 1, 16, []), (16, .istore_n 3, 17, []), (17, .iload_n 3, 18, []), (18, .bipush 60, 20, []), (20, .if_icmp .gt 35, 23, [55]), (23, .aload_n 0, 24, []), (24, .getfield 12, 27, [1, 1, 0, 0, 183, 5, 3]), (27, .invokevirtual 26, 30, [10, 86, 1, 0, 698, 5]), (30, .ifCond .le 5, 33, [35]), (33, .iload_n 3, 34, []), (34, .istore_n 2, 35, []), (35, .iload_n 3, 36, []), (36, .iload_n 2, 37, []), (37, .isub, 38, []), (38, .bipush 20, 40, []), (40, .if_icmp .ne 9, 43, [49]), (43, .aload_n 0, 44, []), (44, .iload_n 2, 45, []), (45, .putfield 22, 48, [0, 1, 1, 0, 184]), (48, .return_, 49, []), (49, .iinc 3 1, 52, []), (52, .goto (-35), 55, [17]), (55, .return_, 56, [])]
/-- 7: Outlook.settled -/
def code_7 : List Row := [(0, .aload_n 0, 1, []), (1, .getfield 22, 4, [0, 1, 1, 0, 184]), (4, .iconst (-1), 5, []), (5, .if_icmp .eq 7, 8, [12]), (8, .iload_n 1, 9, []), (9, .ifCond .ne 8, 12, [17]), (12, .aload_n 0, 13, []), (13, .getfield 22, 16, [0, 1, 1, 0, 184]), (16, .ireturn, 17, [0]), (17, .iload_n 1, 18, []), (18, .bipush 10, 20, []), (20, .isub, 21, []), (21, .istore_n 2, 22, []), (22, .aload_n 0, 23, []), (23, .getfield 12, 26, [1, 1, 0, 0, 183, 5, 3]), (26, .iload_n 2, 27, []), (27, .invokevirtual 30, 30, [10, 52, 2, 0, 703, 5]), (30, .ifCond .eq 14, 33, [44]), (33, .aload_n 0, 34, []), (34, .getfield 12, 37, [1, 1, 0, 0, 183, 5, 3]), (37, .iload_n 2, 38, []), (38, .invokevirtual 34, 41, [10, 56, 2, 0, 704, 5]), (41, .goto 4, 44, [45]), (44, .iconst (-1), 45, []), (45, .ireturn, 46, [0])]
/-- 8: Outlook.leastGrudge -/
def code_8 : List Row := [(0, .iconst 1, 1, []), (1, .istore 5, 3, []), (3, .iload 5, 5, []), (5, .bipush 9, 7, []), (7, .if_icmp .gt 52, 10, [59]), (10, .aload_n 0, 11, []), (11, .getfield 12, 14, [1, 1, 0, 0, 183, 5, 3]), (14, .aload_n 1, 15, []), (15, .invokevirtual 18, 18, [10, 49, 2, 0, 691, 5]), (18, .aload_n 0, 19, []), (19, .getfield 12, 22, [1, 1, 0, 0, 183, 5, 3]), (22, .iload_n 2, 23, []), (23, .iload_n 3, 24, []), (24, .iload 5, 26, []), (26, .invokevirtual 38, 29, [10, 79, 4, 0, 790, 5]), (29, .aload_n 0, 30, []), (30, .getfield 12, 33, [1, 1, 0, 0, 183, 5, 3]), (33, .iload 4, 35, []), (35, .invokevirtual 42, 38, [10, 87, 2, 0, 791, 5]), (38, .aload_n 0, 39, []), (39, .getfield 12, 42, [1, 1, 0, 0, 183, 5, 3]), (42, .iload_n 2, 43, []), (43, .invokevirtual 34, 46, [10, 56, 2, 0, 704, 5]), (46, .iload_n 3, 47, []), (47, .if_icmp .ne 6, 50, [53]), (50, .iload 5, 52, []), (52, .ireturn, 53, [0]), (53, .iinc 5 1, 56, []), (56, .goto (-53), 59, [3]), (59, .iconst (-1), 60, []), (60, .ireturn, 61, [0])]
/-- 9: Outlook.findWall -/
def code_9 : List Row := [(0, .aload_n 0, 1, []), (1, .getfield 12, 4, [1, 1, 0, 0, 183, 5, 3]), (4, .aload_n 1, 5, []), (5, .invokevirtual 18, 8, [10, 49, 2, 0, 691, 5]), (8, .aload_n 0, 9, []), (9, .getfield 12, 12, [1, 1, 0, 0, 183, 5, 3]), (12, .iload_n 2, 13, []), (13, .invokevirtual 42, 16, [10, 87, 2, 0, 791, 5]), (16, .aload_n 0, 17, []), (17, .iconst (-1), 18, []), (18, .putfield 46, 21, [0, 1, 2, 0, 185]), (21, .aload_n 0, 22, []), (22, .aload_n 0, 23, []), (23, .getfield 12, 26, [1, 1, 0, 0, 183, 5, 3]), (26, .invokevirtual 49, 29, [10, 70, 1, 0, 800, 5]), (29, .putfield 52, 32, [0, 1, 3, 0, 186]), (32, .iconst 0, 33, []), (33, .istore_n 3, 34, []), (34, .iload_n 3, 35, []), (35, .bipush 15, 37, []), (37, .if_icmp .ge 85, 40, [122]), (40, .getstatic 55, 43, [1, 60, 1, 0]), (43, .iload_n 3, 44, []), (44, .iaload, 45, []), (45, .istore 4, 47, []), (47, .getstatic 59, 50, [1, 61, 1, 1]), (50, .iload_n 3, 51, []), (51, .iaload, 52, []), (52, .istore 5, 54, []), (54, .aload_n 1, 55, []), (55, .iload 4, 57, []), (57, .iload 5, 59, []), (59, .invokevirtual 62, 62, [10, 53, 3, 0, 806, 5]), (62, .ifCond .eq 54, 65, [116]), (65, .aload_n 1, 66, []), (66, .iload 4, 68, []), (68, .iload 5, 70, []), (70, .invokevirtual 66, 73, [10, 67, 3, 0, 807, 5]), (73, .ifCond .ne 43, 76, [116]), (76, .aload_n 0, 77, []), (77, .getfield 12, 80, [1, 1, 0, 0, 183, 5, 3]), (80, .aload_n 1, 81, []), (81, .invokevirtual 18, 84, [10, 49, 2, 0, 691, 5]), (84, .aload_n 0, 85, []), (85, .getfield 12, 88, [1, 1, 0, 0, 183, 5, 3]), (88, .iload 4, 90, []), (90, .iload 5, 92, []), (92, .iconst 1, 93, []), (93, .invokevirtual 70, 96, [10, 82, 4, 0, 808, 5]), (96, .aload_n 0, 97, []), (97, .getfield 12, 100, [1, 1, 0, 0, 183, 5, 3]), (100, .iload_n 2, 101, []), (101, .invokevirtual 42, 104, [10, 87, 2, 0, 791, 5]), (104, .aload_n 0, 105, []), (105, .iload_n 3, 106, []), (106, .aload_n 0, 107, []), (107, .getfield 12, 110, [1, 1, 0, 0, 183, 5, 3]), (110, .invokevirtual 49, 113, [10, 70, 1, 0, 800, 5]), (113, .invokevirtual 73, 116, [10, 10, 3, 0, 809, 1]), (116, .iinc 3 1, 119, []), (119, .goto (-85), 122, [34]), (122, .return_, 123, [])]
/-- 10: Outlook.weighWall -/
def code_10 : List Row := [(0, .iload_n 2, 1, []), (1, .aload_n 0, 2, []), (2, .getfield 52, 5, [0, 1, 3, 0, 186]), (5, .if_icmp .le 13, 8, [18]), (8, .aload_n 0, 9, []), (9, .iload_n 1, 10, []), (10, .putfield 46, 13, [0, 1, 2, 0, 185]), (13, .aload_n 0, 14, []), (14, .iload_n 2, 15, []), (15, .putfield 52, 18, [0, 1, 3, 0, 186]), (18, .return_, 19, [])]
/-- 11: Outlook.walled -/
def code_11 : List Row := [(0, .aload_n 0, 1, []), (1, .getfield 46, 4, [0, 1, 2, 0, 185]), (4, .iconst (-1), 5, []), (5, .if_icmp .eq 7, 8, [12]), (8, .iload_n 1, 9, []), (9, .ifCond .ne 11, 12, [20]), (12, .aload_n 0, 13, []), (13, .getfield 46, 16, [0, 1, 2, 0, 185]), (16, .invokestatic 77, 19, [11, 130, 1, 1, 2]), (19, .ireturn, 20, [0]), (20, .aload_n 0, 21, []), (21, .getfield 52, 24, [0, 1, 3, 0, 186]), (24, .ireturn, 25, [0])]
/-- 12: Outlook.summer -/
def code_12 : List Row := [(0, .aload_n 0, 1, []), (1, .getfield 12, 4, [1, 1, 0, 0, 183, 5, 3]), (4, .aload_n 1, 5, []), (5, .invokevirtual 18, 8, [10, 49, 2, 0, 691, 5]), (8, .aload_n 0, 9, []), (9, .iconst 0, 10, []), (10, .putfield 80, 13, [0, 1, 4, 0, 187]), (13, .aload_n 0, 14, []), (14, .iconst 0, 15, []), (15, .putfield 83, 18, [0, 1, 5, 0, 188]), (18, .aload_n 0, 19, []), (19, .iload_n 3, 20, []), (20, .putfield 86, 23, [0, 1, 6, 0, 189]), (23, .iconst 0, 24, []), (24, .istore 4, 26, []), (26, .iload 4, 28, []), (28, .iload_n 2, 29, []), (29, .if_icmp .ge 95, 32, [124]), (32, .aload_n 0, 33, []), (33, .aload_n 1, 34, []), (34, .invokevirtual 89, 37, [10, 51, 1, 0, 881, 5]), (37, .invokevirtual 92, 40, [10, 13, 2, 0, 882, 1]), (40, .istore 5, 42, []), (42, .aload_n 0, 43, []), (43, .aload_n 1, 44, []), (44, .invokevirtual 89, 47, [10, 51, 1, 0, 881, 5]), (47, .invokevirtual 92, 50, [10, 13, 2, 0, 882, 1]), (50, .istore 6, 52, []), (52, .aload_n 0, 53, []), (53, .iconst 4, 54, []), (54, .invokevirtual 92, 57, [10, 13, 2, 0, 882, 1]), (57, .istore 7, 59, []), (59, .aload_n 0, 60, []), (60, .getfield 12, 63, [1, 1, 0, 0, 183, 5, 3]), (63, .iload 5, 65, []), (65, .iload 6, 67, []), (67, .invokevirtual 62, 70, [10, 53, 3, 0, 806, 5]), (70, .ifCond .eq 16, 73, [86]), (73, .aload_n 0, 74, []), (74, .getfield 12, 77, [1, 1, 0, 0, 183, 5, 3]), (77, .iload 5, 79, []), (79, .iload 6, 81, []), (81, .iload 7, 83, []), (83, .invokevirtual 38, 86, [10, 79, 4, 0, 790, 5]), (86, .aload_n 0, 87, []), (87, .dup, 88, []), (88, .getfield 83, 91, [0, 1, 5, 0, 188]), (91, .aload_n 0, 92, []), (92, .getfield 12, 95, [1, 1, 0, 0, 183, 5, 3]), (95, .invokevirtual 26, 98, [10, 86, 1, 0, 698, 5]), (98, .iadd, 99, []), (99, .putfield 83, 102, [0, 1, 5, 0, 188]), (102, .aload_n 0, 103, []), (103, .dup, 104, []), (104, .getfield 80, 107, [0, 1, 4, 0, 187]), (107, .aload_n 0, 108, []), (108, .getfield 12, 111, [1, 1, 0, 0, 183, 5, 3]), (111, .invokevirtual 95, 114, [10, 72, 1, 0, 890, 5]), (114, .iadd, 115, []), (115, .putfield 80, 118, [0, 1, 4, 0, 187]), (118, .iinc 4 1, 121, []), (121, .goto (-95), 124, [26]), (124, .return_, 125, [])]
/-- 13: Outlook.draw -/
def code_13 : List Row := [(0, .aload_n 0, 1, []), (1, .ldc2_w 98, 4, [1103515245, 886]), (4, .aload_n 0, 5, []), (5, .getfield 86, 8, [0, 1, 6, 0, 189]), (8, .i2l, 9, []), (9, .lmul, 10, []), (10, .ldc2_w 100, 13, [12345, 887]), (13, .ladd, 14, []), (14, .ldc2_w 102, 17, [2147483648, 888]), (17, .lrem, 18, []), (18, .l2i, 19, []), (19, .putfield 86, 22, [0, 1, 6, 0, 189]), (22, .iload_n 1, 23, []), (23, .ifCond .le 15, 26, [38]), (26, .aload_n 0, 27, []), (27, .getfield 86, 30, [0, 1, 6, 0, 189]), (30, .ldc 104, 32, [0, 65536, 889]), (32, .idiv, 33, []), (33, .iload_n 1, 34, []), (34, .irem, 35, []), (35, .goto 4, 38, [39]), (38, .iconst 0, 39, []), (39, .ireturn, 40, [0])]
/-- 14: Outlook.summered -/
def code_14 : List Row := [(0, .iload_n 1, 1, []), (1, .lookupswitch 37 #[(0, 27), (1, 32)], 28, [38, 28, 33]), (28, .aload_n 0, 29, []), (29, .getfield 80, 32, [0, 1, 4, 0, 187]), (32, .ireturn, 33, [0]), (33, .aload_n 0, 34, []), (34, .getfield 83, 37, [0, 1, 5, 0, 188]), (37, .ireturn, 38, [0]), (38, .aload_n 0, 39, []), (39, .getfield 86, 42, [0, 1, 6, 0, 189]), (42, .ireturn, 43, [0])]
/-- 15: Page.isFull -/
def code_15 : List Row := [(0, .aload_n 0, 1, []), (1, .getfield 15, 4, [0, 2, 1, 0, 102]), (4, .bipush 38, 6, []), (6, .if_icmp .lt 7, 9, [13]), (9, .iconst 1, 10, []), (10, .goto 4, 13, [14]), (13, .iconst 0, 14, []), (14, .ireturn, 15, [1])]
/-- 16: Page.size -/
def code_16 : List Row := [(0, .aload_n 0, 1, []), (1, .getfield 15, 4, [0, 2, 1, 0, 102]), (4, .ireturn, 5, [0])]
/-- 17: Page.add -/
def code_17 : List Row := [(0, .aload_n 0, 1, []), (1, .invokevirtual 19, 4, [10, 15, 1, 0, 319, 2]), (4, .ifCond .ne 23, 7, [27]), (7, .aload_n 0, 8, []), (8, .getfield 9, 11, [1, 2, 0, 0, 101, 10, 0]), (11, .aload_n 0, 12, []), (12, .getfield 15, 15, [0, 2, 1, 0, 102]), (15, .iload_n 1, 16, []), (16, .iastore, 17, []), (17, .aload_n 0, 18, []), (18, .dup, 19, []), (19, .getfield 15, 22, [0, 2, 1, 0, 102]), (22, .iconst 1, 23, []), (23, .iadd, 24, []), (24, .putfield 15, 27, [0, 2, 1, 0, 102]), (27, .aload_n 0, 28, []), (28, .getfield 15, 31, [0, 2, 1, 0, 102]), (31, .ireturn, 32, [0])]
/-- 18: Page.clear -/
def code_18 : List Row := [(0, .aload_n 0, 1, []), (1, .getfield 15, 4, [0, 2, 1, 0, 102]), (4, .istore_n 1, 5, []), (5, .aload_n 0, 6, []), (6, .iconst 0, 7, []), (7, .putfield 15, 10, [0, 2, 1, 0, 102]), (10, .iload_n 1, 11, []), (11, .ireturn, 12, [0])]
/-- 19: Page.faultPlace -/
def code_19 : List Row := [(0, .iconst (-1), 1, []), (1, .istore_n 1, 2, []), (2, .iconst 0, 3, []), (3, .istore_n 2, 4, []), (4, .iload_n 2, 5, []), (5, .aload_n 0, 6, []), (6, .getfield 15, 9, [0, 2, 1, 0, 102]), (9, .if_icmp .ge 48, 12, [57]), (12, .iload_n 1, 13, []), (13, .iconst (-1), 14, []), (14, .if_icmp .ne 11, 17, [25]), (17, .aload_n 0, 18, []), (18, .iload_n 2, 19, []), (19, .invokevirtual 23, 22, [10, 21, 2, 0, 336, 2]), (22, .goto 9, 25, [31]), (25, .aload_n 0, 26, []), (26, .iload_n 2, 27, []), (27, .iload_n 1, 28, []), (28, .invokevirtual 27, 31, [10, 23, 3, 0, 436, 2]), (31, .istore_n 3, 32, []), (32, .iload_n 3, 33, []), (33, .ifCond .ne 5, 36, [38]), (36, .iload_n 2, 37, []), (37, .ireturn, 38, [0]), (38, .aload_n 0, 39, []), (39, .getfield 9, 42, [1, 2, 0, 0, 101, 10, 0]), (42, .iload_n 2, 43, []), (43, .iaload, 44, []), (44, .bipush 59, 46, []), (46, .if_icmp .ne 5, 49, [51]), (49, .iload_n 2, 50, []), (50, .istore_n 1, 51, []), (51, .iinc 2 1, 54, []), (54, .goto (-50), 57, [4]), (57, .aload_n 0, 58, []), (58, .getfield 15, 61, [0, 2, 1, 0, 102]), (61, .ireturn, 62, [0])]
/-- 20: Page.isSquare -/
def code_20 : List Row := [(0, .aload_n 0, 1, []), (1, .invokevirtual 31, 4, [10, 24, 1, 0, 453, 2]), (4, .istore_n 1, 5, []), (5, .aload_n 0, 6, []), (6, .invokevirtual 35, 9, [10, 19, 1, 0, 457, 2]), (9, .aload_n 0, 10, []), (10, .getfield 15, 13, [0, 2, 1, 0, 102]), (13, .if_icmp .ne 25, 16, [38]), (16, .iload_n 1, 17, []), (17, .iconst (-1), 18, []), (18, .if_icmp .eq 20, 21, [38]), (21, .aload_n 0, 22, []), (22, .getfield 15, 25, [0, 2, 1, 0, 102]), (25, .iload_n 1, 26, []), (26, .isub, 27, []), (27, .iconst 1, 28, []), (28, .isub, 29, []), (29, .iconst 3, 30, []), (30, .irem, 31, []), (31, .ifCond .ne 7, 34, [38]), (34, .iconst 1, 35, []), (35, .goto 4, 38, [39]), (38, .iconst 0, 39, []), (39, .ireturn, 40, [1])]
/-- 21: Page.fitsHouses -/
def code_21 : List Row := [(0, .aload_n 0, 1, []), (1, .getfield 9, 4, [1, 2, 0, 0, 101, 10, 0]), (4, .iload_n 1, 5, []), (5, .iaload, 6, []), (6, .istore_n 2, 7, []), (7, .iload_n 1, 8, []), (8, .iconst 3, 9, []), (9, .irem, 10, []), (10, .lookupswitch 54 #[(0, 26), (1, 40)], 36, [64, 36, 50]), (36, .iload_n 2, 37, []), (37, .invokestatic 38, 40, [11, 31, 1, 0, 340]), (40, .iconst (-1), 41, []), (41, .if_icmp .eq 7, 44, [48]), (44, .iconst 1, 45, []), (45, .goto 4, 48, [49]), (48, .iconst 0, 49, []), (49, .ireturn, 50, [1]), (50, .iload_n 2, 51, []), (51, .invokestatic 42, 54, [11, 32, 1, 0, 430]), (54, .iconst (-1), 55, []), (55, .if_icmp .eq 7, 58, [62]), (58, .iconst 1, 59, []), (59, .goto 4, 62, [63]), (62, .iconst 0, 63, []), (63, .ireturn, 64, [1]), (64, .iload_n 2, 65, []), (65, .iload_n 1, 66, []), (66, .iconst 3, 67, []), (67, .idiv, 68, []), (68, .iconst 1, 69, []), (69, .iadd, 70, []), (70, .invokestatic 45, 73, [11, 22, 2, 0, 433]), (73, .ireturn, 74, [1])]
/-- 22: Page.mayFollow -/
def code_22 : List Row := [(0, .iload_n 0, 1, []), (1, .bipush 44, 3, []), (3, .if_icmp .ne 9, 6, [12]), (6, .iload_n 1, 7, []), (7, .bipush 6, 9, []), (9, .if_icmp .lt 14, 12, [23]), (12, .iload_n 0, 13, []), (13, .bipush 59, 15, []), (15, .if_icmp .ne 12, 18, [27]), (18, .iload_n 1, 19, []), (19, .iconst 3, 20, []), (20, .if_icmp .lt 7, 23, [27]), (23, .iconst 1, 24, []), (24, .goto 4, 27, [28]), (27, .iconst 0, 28, []), (28, .ireturn, 29, [1])]
/-- 23: Page.fitsAngers -/
def code_23 : List Row := [(0, .iload_n 1, 1, []), (1, .iload_n 2, 2, []), (2, .isub, 3, []), (3, .iconst 1, 4, []), (4, .isub, 5, []), (5, .istore_n 3, 6, []), (6, .aload_n 0, 7, []), (7, .getfield 9, 10, [1, 2, 0, 0, 101, 10, 0]), (10, .iload_n 1, 11, []), (11, .iaload, 12, []), (12, .invokestatic 42, 15, [11, 32, 1, 0, 430]), (15, .istore 4, 17, []), (17, .iload 4, 19, []), (19, .iconst (-1), 20, []), (20, .if_icmp .eq 9, 23, [29]), (23, .iload_n 3, 24, []), (24, .bipush 18, 26, []), (26, .if_icmp .lt 5, 29, [31]), (29, .iconst 0, 30, []), (30, .ireturn, 31, [1]), (31, .iload_n 2, 32, []), (32, .iconst 3, 33, []), (33, .idiv, 34, []), (34, .iconst 1, 35, []), (35, .iadd, 36, []), (36, .istore 5, 38, []), (38, .iload_n 3, 39, []), (39, .iconst 3, 40, []), (40, .irem, 41, []), (41, .lookupswitch 68 #[(0, 27), (1, 40)], 68, [109, 68, 81]), (68, .iload 4, 70, []), (70, .iload 5, 72, []), (72, .if_icmp .ge 7, 75, [79]), (75, .iconst 1, 76, []), (76, .goto 4, 79, [80]), (79, .iconst 0, 80, []), (80, .ireturn, 81, [1]), (81, .iload 4, 83, []), (83, .iload 5, 85, []), (85, .if_icmp .ge 22, 88, [107]), (88, .aload_n 0, 89, []), (89, .iload_n 1, 90, []), (90, .invokevirtual 48, 93, [10, 30, 2, 0, 440, 2]), (93, .aload_n 0, 94, []), (94, .iload_n 1, 95, []), (95, .iconst 1, 96, []), (96, .isub, 97, []), (97, .invokevirtual 48, 100, [10, 30, 2, 0, 440, 2]), (100, .if_icmp .eq 7, 103, [107]), (103, .iconst 1, 104, []), (104, .goto 4, 107, [108]), (107, .iconst 0, 108, []), (108, .ireturn, 109, [1]), (109, .iload 4, 111, []), (111, .ifCond .le 7, 114, [118]), (114, .iconst 1, 115, []), (115, .goto 4, 118, [119]), (118, .iconst 0, 119, []), (119, .ireturn, 120, [1])]
/-- 24: Page.housesEnd -/
def code_24 : List Row := [(0, .iconst 0, 1, []), (1, .istore_n 1, 2, []), (2, .iload_n 1, 3, []), (3, .aload_n 0, 4, []), (4, .getfield 15, 7, [0, 2, 1, 0, 102]), (7, .if_icmp .ge 22, 10, [29]), (10, .aload_n 0, 11, []), (11, .getfield 9, 14, [1, 2, 0, 0, 101, 10, 0]), (14, .iload_n 1, 15, []), (15, .iaload, 16, []), (16, .bipush 59, 18, []), (18, .if_icmp .ne 5, 21, [23]), (21, .iload_n 1, 22, []), (22, .ireturn, 23, [0]), (23, .iinc 1 1, 26, []), (26, .goto (-24), 29, [2]), (29, .iconst (-1), 30, []), (30, .ireturn, 31, [0])]
/-- 25: Page.countHouses -/
def code_25 : List Row := [(0, .aload_n 0, 1, []), (1, .invokevirtual 31, 4, [10, 24, 1, 0, 453, 2]), (4, .iconst 3, 5, []), (5, .idiv, 6, []), (6, .iconst 1, 7, []), (7, .iadd, 8, []), (8, .bipush 6, 10, []), (10, .invokestatic 51, 13, [21, 466]), (13, .ireturn, 14, [0])]
/-- 26: Page.kindOf -/
def code_26 : List Row := [(0, .aload_n 0, 1, []), (1, .iconst 3, 2, []), (2, .iload_n 1, 3, []), (3, .imul, 4, []), (4, .invokevirtual 48, 7, [10, 30, 2, 0, 440, 2]), (7, .invokestatic 38, 10, [11, 31, 1, 0, 340]), (10, .iconst 0, 11, []), (11, .invokestatic 57, 14, [20, 474]), (14, .ireturn, 15, [0])]
/-- 27: Page.viewOf -/
def code_27 : List Row := [(0, .aload_n 0, 1, []), (1, .iconst 3, 2, []), (2, .iload_n 1, 3, []), (3, .imul, 4, []), (4, .iconst 1, 5, []), (5, .iadd, 6, []), (6, .invokevirtual 48, 9, [10, 30, 2, 0, 440, 2]), (9, .invokestatic 42, 12, [11, 32, 1, 0, 430]), (12, .ireturn, 13, [0])]
/-- 28: Page.countTold -/
def code_28 : List Row := [(0, .aload_n 0, 1, []), (1, .getfield 15, 4, [0, 2, 1, 0, 102]), (4, .aload_n 0, 5, []), (5, .invokevirtual 31, 8, [10, 24, 1, 0, 453, 2]), (8, .isub, 9, []), (9, .iconst 1, 10, []), (10, .isub, 11, []), (11, .iconst 3, 12, []), (12, .idiv, 13, []), (13, .ireturn, 14, [0])]
/-- 29: Page.told -/
def code_29 : List Row := [(0, .aload_n 0, 1, []), (1, .aload_n 0, 2, []), (2, .invokevirtual 31, 5, [10, 24, 1, 0, 453, 2]), (5, .iconst 1, 6, []), (6, .iadd, 7, []), (7, .iconst 3, 8, []), (8, .iload_n 1, 9, []), (9, .imul, 10, []), (10, .iadd, 11, []), (11, .iload_n 2, 12, []), (12, .iadd, 13, []), (13, .invokevirtual 48, 16, [10, 30, 2, 0, 440, 2]), (16, .invokestatic 42, 19, [11, 32, 1, 0, 430]), (19, .ireturn, 20, [0])]
/-- 30: Page.letterAt -/
def code_30 : List Row := [(0, .iload_n 1, 1, []), (1, .ifCond .lt 20, 4, [21]), (4, .iload_n 1, 5, []), (5, .aload_n 0, 6, []), (6, .getfield 15, 9, [0, 2, 1, 0, 102]), (9, .if_icmp .ge 12, 12, [21]), (12, .aload_n 0, 13, []), (13, .getfield 9, 16, [1, 2, 0, 0, 101, 10, 0]), (16, .iload_n 1, 17, []), (17, .iaload, 18, []), (18, .goto 4, 21, [22]), (21, .iconst 0, 22, []), (22, .ireturn, 23, [0])]
/-- 31: Page.kindNamed -/
def code_31 : List Row := [(0, .ldc 60, 2, [1, 62, 343]), (2, .iload_n 0, 3, []), (3, .i2c, 4, []), (4, .invokevirtual 62, 7, [10, 216, 2, 0, 344, 62]), (7, .ireturn, 8, [0])]
/-- 32: Page.digitOf -/
def code_32 : List Row := [(0, .iload_n 0, 1, []), (1, .bipush 48, 3, []), (3, .if_icmp .lt 16, 6, [19]), (6, .iload_n 0, 7, []), (7, .bipush 57, 9, []), (9, .if_icmp .gt 10, 12, [19]), (12, .iload_n 0, 13, []), (13, .bipush 48, 15, []), (15, .isub, 16, []), (16, .goto 4, 19, [20]), (19, .iconst (-1), 20, []), (20, .ireturn, 21, [0])]
/-- 33: Peacemaker.findCalm -/
def code_33 : List Row := [(0, .aload_n 0, 1, []), (1, .iload_n 2, 2, []), (2, .putfield 34, 5, [0, 3, 7, 0, 220]), (5, .aload_n 0, 6, []), (6, .iload_n 3, 7, []), (7, .putfield 38, 10, [0, 3, 8, 0, 221]), (10, .aload_n 0, 11, []), (11, .iconst (-1), 12, []), (12, .putfield 41, 15, [0, 3, 6, 0, 219]), (15, .aload_n 0, 16, []), (16, .getfield 31, 19, [1, 3, 5, 0, 218, 22, 0]), (19, .iconst (-1), 20, []), (20, .invokestatic 44, 23, [11, 224, 2, 0, 719]), (23, .iconst 0, 24, []), (24, .istore 4, 26, []), (26, .iload 4, 28, []), (28, .iconst 3, 29, []), (29, .if_icmp .gt 57, 32, [86]), (32, .aload_n 0, 33, []), (33, .getfield 27, 36, [1, 3, 4, 0, 217, 21, 0]), (36, .iconst (-1), 37, []), (37, .invokestatic 44, 40, [11, 224, 2, 0, 719]), (40, .aload_n 0, 41, []), (41, .getfield 12, 44, [1, 3, 0, 0, 213, 5, 4]), (44, .aload_n 1, 45, []), (45, .invokevirtual 50, 48, [10, 49, 2, 0, 720, 5]), (48, .aload_n 0, 49, []), (49, .iload 4, 51, []), (51, .iconst 0, 52, []), (52, .iconst 0, 53, []), (53, .invokestatic 54, 56, [11, 34, 4, 0, 721]), (56, .ifCond .eq 24, 59, [80]), (59, .aload_n 0, 60, []), (60, .iload 4, 62, []), (62, .putfield 41, 65, [0, 3, 6, 0, 219]), (65, .aload_n 0, 66, []), (66, .getfield 27, 69, [1, 3, 4, 0, 217, 21, 0]), (69, .iconst 0, 70, []), (70, .aload_n 0, 71, []), (71, .getfield 31, 74, [1, 3, 5, 0, 218, 22, 0]), (74, .iconst 0, 75, []), (75, .iconst 3, 76, []), (76, .invokestatic 58, 79, [22, 748]), (79, .return_, 80, []), (80, .iinc 4 1, 83, []), (83, .goto (-57), 86, [26]), (86, .return_, 87, [])]
/-- 34: Peacemaker.calms -/
def code_34 : List Row := [(0, .aload_n 0, 1, []), (1, .iload_n 2, 2, []), (2, .invokevirtual 64, 5, [10, 40, 2, 0, 724, 3]), (5, .astore 4, 7, []), (7, .iload_n 2, 8, []), (8, .iload_n 1, 9, []), (9, .if_icmp .ge 8, 12, [17]), (12, .iload_n 2, 13, []), (13, .iconst 3, 14, []), (14, .if_icmp .lt 19, 17, [33]), (17, .aload 4, 19, []), (19, .aload_n 0, 20, []), (20, .getfield 38, 23, [0, 3, 8, 0, 221]), (23, .invokevirtual 68, 26, [10, 87, 2, 0, 728, 5]), (26, .aload_n 0, 27, []), (27, .aload 4, 29, []), (29, .invokevirtual 72, 32, [10, 35, 2, 0, 732, 3]), (32, .ireturn, 33, [1]), (33, .aload_n 0, 34, []), (34, .iload_n 2, 35, []), (35, .iconst 1, 36, []), (36, .iadd, 37, []), (37, .invokevirtual 64, 40, [10, 40, 2, 0, 724, 3]), (40, .astore 5, 42, []), (42, .iload_n 3, 43, []), (43, .istore 6, 45, []), (45, .iload 6, 47, []), (47, .bipush 15, 49, []), (49, .if_icmp .ge 46, 52, [95]), (52, .aload 4, 54, []), (54, .aload 5, 56, []), (56, .iload 6, 58, []), (58, .invokestatic 76, 61, [11, 39, 3, 0, 738]), (61, .ifCond .eq 28, 64, [89]), (64, .aload_n 0, 65, []), (65, .getfield 27, 68, [1, 3, 4, 0, 217, 21, 0]), (68, .iload_n 2, 69, []), (69, .iload 6, 71, []), (71, .iastore, 72, []), (72, .aload_n 0, 73, []), (73, .iload_n 1, 74, []), (74, .iload_n 2, 75, []), (75, .iconst 1, 76, []), (76, .iadd, 77, []), (77, .iload 6, 79, []), (79, .iconst 1, 80, []), (80, .iadd, 81, []), (81, .invokestatic 54, 84, [11, 34, 4, 0, 721]), (84, .ifCond .eq 5, 87, [89]), (87, .iconst 1, 88, []), (88, .ireturn, 89, [1]), (89, .iinc 6 1, 92, []), (92, .goto (-47), 95, [45]), (95, .iconst 0, 96, []), (96, .ireturn, 97, [1])]
/-- 35: Peacemaker.isCalm -/
def code_35 : List Row := [(0, .iconst 0, 1, []), (1, .istore_n 2, 2, []), (2, .iload_n 2, 3, []), (3, .aload_n 1, 4, []), (4, .invokevirtual 80, 7, [10, 51, 1, 0, 736, 5]), (7, .if_icmp .ge 32, 10, [39]), (10, .aload_n 0, 11, []), (11, .getfield 34, 14, [0, 3, 7, 0, 220]), (14, .iload_n 2, 15, []), (15, .ishr, 16, []), (16, .iconst 1, 17, []), (17, .iand, 18, []), (18, .iconst 1, 19, []), (19, .if_icmp .ne 14, 22, [33]), (22, .aload_n 1, 23, []), (23, .iload_n 2, 24, []), (24, .invokevirtual 84, 27, [10, 56, 2, 0, 737, 5]), (27, .iconst (-1), 28, []), (28, .if_icmp .eq 5, 31, [33]), (31, .iconst 0, 32, []), (32, .ireturn, 33, [1]), (33, .iinc 2 1, 36, []), (36, .goto (-34), 39, [2]), (39, .iconst 1, 40, []), (40, .ireturn, 41, [1])]
/-- 36: Peacemaker.arbitrate -/
def code_36 : List Row := [(0, .aload_n 0, 1, []), (1, .iload_n 2, 2, []), (2, .putfield 38, 5, [0, 3, 8, 0, 221]), (5, .aload_n 0, 6, []), (6, .bipush 99, 8, []), (8, .putfield 41, 11, [0, 3, 6, 0, 219]), (11, .aload_n 0, 12, []), (12, .getfield 31, 15, [1, 3, 5, 0, 218, 22, 0]), (15, .iconst (-1), 16, []), (16, .invokestatic 44, 19, [11, 224, 2, 0, 719]), (19, .aload_n 0, 20, []), (20, .getfield 27, 23, [1, 3, 4, 0, 217, 21, 0]), (23, .iconst (-1), 24, []), (24, .invokestatic 44, 27, [11, 224, 2, 0, 719]), (27, .aload_n 0, 28, []), (28, .getfield 12, 31, [1, 3, 0, 0, 213, 5, 4]), (31, .aload_n 1, 32, []), (32, .invokevirtual 50, 35, [10, 49, 2, 0, 720, 5]), (35, .aload_n 0, 36, []), (36, .iconst 0, 37, []), (37, .invokestatic 88, 40, [11, 37, 2, 0, 766]), (40, .return_, 41, [])]
/-- 37: Peacemaker.arbits -/
def code_37 : List Row := [(0, .aload_n 0, 1, []), (1, .iload_n 1, 2, []), (2, .invokevirtual 64, 5, [10, 40, 2, 0, 724, 3]), (5, .astore_n 2, 6, []), (6, .iload_n 1, 7, []), (7, .aload_n 0, 8, []), (8, .getfield 38, 11, [0, 3, 8, 0, 221]), (11, .if_icmp .ge 8, 14, [19]), (14, .iload_n 1, 15, []), (15, .iconst 3, 16, []), (16, .if_icmp .lt 17, 19, [33]), (19, .aload_n 0, 20, []), (20, .aload_n 2, 21, []), (21, .invokevirtual 92, 24, [10, 72, 1, 0, 769, 5]), (24, .aload_n 2, 25, []), (25, .invokevirtual 95, 28, [10, 73, 1, 0, 773, 5]), (28, .iadd, 29, []), (29, .invokevirtual 98, 32, [10, 38, 2, 0, 777, 3]), (32, .return_, 33, []), (33, .aload_n 0, 34, []), (34, .iload_n 1, 35, []), (35, .iconst 1, 36, []), (36, .iadd, 37, []), (37, .invokevirtual 64, 40, [10, 40, 2, 0, 724, 3]), (40, .astore_n 3, 41, []), (41, .iconst (-1), 42, []), (42, .istore 4, 44, []), (44, .iload 4, 46, []), (46, .bipush 15, 48, []), (48, .if_icmp .ge 46, 51, [94]), (51, .aload_n 0, 52, []), (52, .getfield 41, 55, [0, 3, 6, 0, 219]), (55, .ifCond .le 39, 58, [94]), (58, .aload_n 2, 59, []), (59, .aload_n 3, 60, []), (60, .iload 4, 62, []), (62, .invokestatic 76, 65, [11, 39, 3, 0, 738]), (65, .ifCond .eq 23, 68, [88]), (68, .aload_n 0, 69, []), (69, .getfield 27, 72, [1, 3, 4, 0, 217, 21, 0]), (72, .iload_n 1, 73, []), (73, .iload 4, 75, []), (75, .iastore, 76, []), (76, .aload_n 3, 77, []), (77, .invokevirtual 101, 80, [10, 86, 1, 0, 781, 5]), (80, .pop, 81, []), (81, .aload_n 0, 82, []), (82, .iload_n 1, 83, []), (83, .iconst 1, 84, []), (84, .iadd, 85, []), (85, .invokestatic 88, 88, [11, 37, 2, 0, 766]), (88, .iinc 4 1, 91, []), (91, .goto (-47), 94, [44]), (94, .return_, 95, [])]
/-- 38: Peacemaker.weigh -/
def code_38 : List Row := [(0, .iload_n 1, 1, []), (1, .aload_n 0, 2, []), (2, .getfield 41, 5, [0, 3, 6, 0, 219]), (5, .if_icmp .ge 22, 8, [27]), (8, .aload_n 0, 9, []), (9, .iload_n 1, 10, []), (10, .putfield 41, 13, [0, 3, 6, 0, 219]), (13, .aload_n 0, 14, []), (14, .getfield 27, 17, [1, 3, 4, 0, 217, 21, 0]), (17, .iconst 0, 18, []), (18, .aload_n 0, 19, []), (19, .getfield 31, 22, [1, 3, 5, 0, 218, 22, 0]), (22, .iconst 0, 23, []), (23, .iconst 3, 24, []), (24, .invokestatic 58, 27, [22, 748]), (27, .return_, 28, [])]
/-- 39: Peacemaker.makesPeace -/
def code_39 : List Row := [(0, .iload_n 2, 1, []), (1, .ifCond .lt 9, 4, [10]), (4, .iload_n 2, 5, []), (5, .bipush 15, 7, []), (7, .if_icmp .lt 10, 10, [17]), (10, .aload_n 1, 11, []), (11, .aload_n 0, 12, []), (12, .invokevirtual 50, 15, [10, 49, 2, 0, 720, 5]), (15, .iconst 1, 16, []), (16, .ireturn, 17, [1]), (17, .getstatic 104, 20, [1, 60, 1, 3]), (20, .iload_n 2, 21, []), (21, .iaload, 22, []), (22, .istore_n 3, 23, []), (23, .getstatic 107, 26, [1, 61, 1, 4]), (26, .iload_n 2, 27, []), (27, .iaload, 28, []), (28, .istore 4, 30, []), (30, .aload_n 0, 31, []), (31, .iload_n 3, 32, []), (32, .iload 4, 34, []), (34, .invokevirtual 110, 37, [10, 53, 3, 0, 745, 5]), (37, .ifCond .eq 21, 40, [58]), (40, .aload_n 0, 41, []), (41, .iload_n 3, 42, []), (42, .iload 4, 44, []), (44, .invokevirtual 114, 47, [10, 66, 3, 0, 746, 5]), (47, .aload_n 0, 48, []), (48, .iload 4, 50, []), (50, .iload_n 3, 51, []), (51, .invokevirtual 114, 54, [10, 66, 3, 0, 746, 5]), (54, .iadd, 55, []), (55, .ifCond .ne 5, 58, [60]), (58, .iconst 0, 59, []), (59, .ireturn, 60, [1]), (60, .aload_n 1, 61, []), (61, .aload_n 0, 62, []), (62, .invokevirtual 50, 65, [10, 49, 2, 0, 720, 5]), (65, .aload_n 1, 66, []), (66, .iload_n 3, 67, []), (67, .iload 4, 69, []), (69, .invokevirtual 118, 72, [10, 81, 3, 0, 747, 5]), (72, .iconst 1, 73, []), (73, .ireturn, 74, [1])]
/-- 40: Peacemaker.behind -/
def code_40 : List Row := [(0, .iload_n 1, 1, []), (1, .tableswitch 42 0 2 #[27, 32, 37], 28, [43, 28, 33, 38]), (28, .aload_n 0, 29, []), (29, .getfield 12, 32, [1, 3, 0, 0, 213, 5, 4]), (32, .areturn, 33, []), (33, .aload_n 0, 34, []), (34, .getfield 18, 37, [1, 3, 1, 0, 214, 5, 5]), (37, .areturn, 38, []), (38, .aload_n 0, 39, []), (39, .getfield 21, 42, [1, 3, 2, 0, 215, 5, 6]), (42, .areturn, 43, []), (43, .aload_n 0, 44, []), (44, .getfield 24, 47, [1, 3, 3, 0, 216, 5, 7]), (47, .areturn, 48, [])]
/-- 41: Peacemaker.found -/
def code_41 : List Row := [(0, .iload_n 1, 1, []), (1, .ifCond .ne 8, 4, [9]), (4, .aload_n 0, 5, []), (5, .getfield 41, 8, [0, 3, 6, 0, 219]), (8, .ireturn, 9, [0]), (9, .iload_n 1, 10, []), (10, .bipush 10, 12, []), (12, .isub, 13, []), (13, .istore_n 2, 14, []), (14, .iload_n 2, 15, []), (15, .ifCond .lt 20, 18, [35]), (18, .iload_n 2, 19, []), (19, .iconst 3, 20, []), (20, .if_icmp .ge 15, 23, [35]), (23, .aload_n 0, 24, []), (24, .getfield 31, 27, [1, 3, 5, 0, 218, 22, 0]), (27, .iload_n 2, 28, []), (28, .iaload, 29, []), (29, .invokestatic 122, 32, [11, 130, 1, 1, 5]), (32, .goto 4, 35, [36]), (35, .iconst (-1), 36, []), (36, .ireturn, 37, [0])]
/-- 42: Sights.isFull -/
def code_42 : List Row := [(0, .aload_n 0, 1, []), (1, .getfield 21, 4, [0, 4, 3, 0, 165]), (4, .bipush 8, 6, []), (6, .if_icmp .lt 7, 9, [13]), (9, .iconst 1, 10, []), (10, .goto 4, 13, [14]), (13, .iconst 0, 14, []), (14, .ireturn, 15, [1])]
/-- 43: Sights.size -/
def code_43 : List Row := [(0, .aload_n 0, 1, []), (1, .getfield 21, 4, [0, 4, 3, 0, 165]), (4, .ireturn, 5, [0])]
/-- 44: Sights.add -/
def code_44 : List Row := [(0, .aload_n 0, 1, []), (1, .invokevirtual 25, 4, [10, 42, 1, 0, 830, 4]), (4, .ifCond .ne 43, 7, [47]), (7, .aload_n 0, 8, []), (8, .getfield 9, 11, [1, 4, 0, 0, 162, 18, 0]), (11, .aload_n 0, 12, []), (12, .getfield 21, 15, [0, 4, 3, 0, 165]), (15, .iload_n 1, 16, []), (16, .iastore, 17, []), (17, .aload_n 0, 18, []), (18, .getfield 15, 21, [1, 4, 1, 0, 163, 19, 0]), (21, .aload_n 0, 22, []), (22, .getfield 21, 25, [0, 4, 3, 0, 165]), (25, .iload_n 2, 26, []), (26, .iastore, 27, []), (27, .aload_n 0, 28, []), (28, .getfield 18, 31, [1, 4, 2, 0, 164, 20, 0]), (31, .aload_n 0, 32, []), (32, .getfield 21, 35, [0, 4, 3, 0, 165]), (35, .iload_n 3, 36, []), (36, .iastore, 37, []), (37, .aload_n 0, 38, []), (38, .dup, 39, []), (39, .getfield 21, 42, [0, 4, 3, 0, 165]), (42, .iconst 1, 43, []), (43, .iadd, 44, []), (44, .putfield 21, 47, [0, 4, 3, 0, 165]), (47, .aload_n 0, 48, []), (48, .getfield 21, 51, [0, 4, 3, 0, 165]), (51, .ireturn, 52, [0])]
/-- 45: Sights.clear -/
def code_45 : List Row := [(0, .aload_n 0, 1, []), (1, .getfield 21, 4, [0, 4, 3, 0, 165]), (4, .istore_n 1, 5, []), (5, .aload_n 0, 6, []), (6, .iconst 0, 7, []), (7, .putfield 21, 10, [0, 4, 3, 0, 165]), (10, .iload_n 1, 11, []), (11, .ireturn, 12, [0])]
/-- 46: Sights.copyFrom -/
def code_46 : List Row := [(0, .aload_n 1, 1, []), (1, .getfield 9, 4, [1, 4, 0, 0, 162, 18, 0]), (4, .iconst 0, 5, []), (5, .aload_n 0, 6, []), (6, .getfield 9, 9, [1, 4, 0, 0, 162, 18, 0]), (9, .iconst 0, 10, []), (10, .bipush 8, 12, []), (12, .invokestatic 29, 15, [22, 904]), (15, .aload_n 1, 16, []), (16, .getfield 15, 19, [1, 4, 1, 0, 163, 19, 0]), (19, .iconst 0, 20, []), (20, .aload_n 0, 21, []), (21, .getfield 15, 24, [1, 4, 1, 0, 163, 19, 0]), (24, .iconst 0, 25, []), (25, .bipush 8, 27, []), (27, .invokestatic 29, 30, [22, 904]), (30, .aload_n 1, 31, []), (31, .getfield 18, 34, [1, 4, 2, 0, 164, 20, 0]), (34, .iconst 0, 35, []), (35, .aload_n 0, 36, []), (36, .getfield 18, 39, [1, 4, 2, 0, 164, 20, 0]), (39, .iconst 0, 40, []), (40, .bipush 8, 42, []), (42, .invokestatic 29, 45, [22, 904]), (45, .aload_n 0, 46, []), (46, .aload_n 1, 47, []), (47, .getfield 21, 50, [0, 4, 3, 0, 165]), (50, .putfield 21, 53, [0, 4, 3, 0, 165]), (53, .return_, 54, [])]
/-- 47: Sights.isSo -/
def code_47 : List Row := [(0, .iconst 0, 1, []), (1, .istore_n 2, 2, []), (2, .iload_n 2, 3, []), (3, .aload_n 0, 4, []), (4, .getfield 21, 7, [0, 4, 3, 0, 165]), (7, .if_icmp .ge 35, 10, [42]), (10, .aload_n 1, 11, []), (11, .aload_n 0, 12, []), (12, .getfield 18, 15, [1, 4, 2, 0, 164, 20, 0]), (15, .iload_n 2, 16, []), (16, .iaload, 17, []), (17, .aaload, 18, []), (18, .aload_n 0, 19, []), (19, .getfield 9, 22, [1, 4, 0, 0, 162, 18, 0]), (22, .iload_n 2, 23, []), (23, .iaload, 24, []), (24, .iaload, 25, []), (25, .aload_n 0, 26, []), (26, .getfield 15, 29, [1, 4, 1, 0, 163, 19, 0]), (29, .iload_n 2, 30, []), (30, .iaload, 31, []), (31, .if_icmp .eq 5, 34, [36]), (34, .iconst 0, 35, []), (35, .ireturn, 36, [1]), (36, .iinc 2 1, 39, []), (39, .goto (-37), 42, [2]), (42, .iconst 1, 43, []), (43, .ireturn, 44, [1])]
/-- 48: Square.readFrom -/
def code_48 : List Row := [(0, .aload_n 0, 1, []), (1, .aload_n 1, 2, []), (2, .invokevirtual 33, 5, [10, 25, 1, 0, 462, 2]), (5, .putfield 39, 8, [0, 5, 7, 0, 122]), (8, .aload_n 0, 9, []), (9, .getfield 21, 12, [1, 5, 3, 0, 118, 14, 0]), (12, .iconst 0, 13, []), (13, .invokestatic 43, 16, [11, 224, 2, 0, 467]), (16, .aload_n 0, 17, []), (17, .getfield 24, 20, [1, 5, 4, 0, 119, 15, 0]), (20, .iconst 0, 21, []), (21, .invokestatic 43, 24, [11, 224, 2, 0, 467]), (24, .aload_n 0, 25, []), (25, .getfield 27, 28, [1, 5, 5, 0, 120, 16, 0]), (28, .iconst 0, 29, []), (29, .invokestatic 43, 32, [11, 224, 2, 0, 467]), (32, .aload_n 0, 33, []), (33, .getfield 30, 36, [1, 5, 6, 0, 121, 17, 0]), (36, .iconst 0, 37, []), (37, .invokestatic 43, 40, [11, 224, 2, 0, 467]), (40, .aload_n 0, 41, []), (41, .iconst 0, 42, []), (42, .putfield 49, 45, [0, 5, 8, 0, 123]), (45, .aload_n 0, 46, []), (46, .iconst 0, 47, []), (47, .putfield 52, 50, [0, 5, 9, 0, 125]), (50, .aload_n 0, 51, []), (51, .iconst 0, 52, []), (52, .putfield 55, 55, [0, 5, 10, 0, 127]), (55, .aload_n 0, 56, []), (56, .iconst 0, 57, []), (57, .putfield 58, 60, [0, 5, 11, 0, 129]), (60, .iconst 0, 61, []), (61, .istore_n 2, 62, []), (62, .iload_n 2, 63, []), (63, .aload_n 0, 64, []), (64, .getfield 39, 67, [0, 5, 7, 0, 122]), (67, .if_icmp .ge 31, 70, [98]), (70, .aload_n 0, 71, []), (71, .getfield 9, 74, [1, 5, 0, 0, 115, 11, 0]), (74, .iload_n 2, 75, []), (75, .aload_n 1, 76, []), (76, .iload_n 2, 77, []), (77, .invokevirtual 61, 80, [10, 26, 2, 0, 470, 2]), (80, .iastore, 81, []), (81, .aload_n 0, 82, []), (82, .getfield 15, 85, [1, 5, 1, 0, 116, 12, 0]), (85, .iload_n 2, 86, []), (86, .aload_n 1, 87, []), (87, .iload_n 2, 88, []), (88, .invokevirtual 65, 91, [10, 27, 2, 0, 475, 2]), (91, .iastore, 92, []), (92, .iinc 2 1, 95, []), (95, .goto (-33), 98, [62]), (98, .iconst 0, 99, []), (99, .istore_n 2, 100, []), (100, .iload_n 2, 101, []), (101, .aload_n 1, 102, []), (102, .invokevirtual 68, 105, [10, 28, 1, 0, 479, 2]), (105, .if_icmp .ge 47, 108, [152]), (108, .aload_n 1, 109, []), (109, .iload_n 2, 110, []), (110, .iconst 0, 111, []), (111, .invokevirtual 71, 114, [10, 29, 3, 0, 483, 2]), (114, .istore_n 3, 115, []), (115, .aload_n 1, 116, []), (116, .iload_n 2, 117, []), (117, .iconst 1, 118, []), (118, .invokevirtual 71, 121, [10, 29, 3, 0, 483, 2]), (121, .istore 4, 123, []), (123, .aload_n 0, 124, []), (124, .iload_n 3, 125, []), (125, .iload 4, 127, []), (127, .invokevirtual 75, 130, [10, 53, 3, 0, 487, 5]), (130, .ifCond .eq 16, 133, [146]), (133, .aload_n 0, 134, []), (134, .iload_n 3, 135, []), (135, .iload 4, 137, []), (137, .aload_n 1, 138, []), (138, .iload_n 2, 139, []), (139, .iconst 2, 140, []), (140, .invokevirtual 71, 143, [10, 29, 3, 0, 483, 2]), (143, .invokevirtual 79, 146, [10, 79, 4, 0, 495, 5]), (146, .iinc 2 1, 149, []), (149, .goto (-49), 152, [100]), (152, .aload_n 0, 153, []), (153, .invokevirtual 83, 156, [10, 90, 1, 0, 515, 5]), (156, .pop, 157, []), (157, .return_, 158, [])]
/-- 49: Square.copyFrom -/
def code_49 : List Row := [(0, .aload_n 1, 1, []), (1, .getfield 9, 4, [1, 5, 0, 0, 115, 11, 0]), (4, .iconst 0, 5, []), (5, .aload_n 0, 6, []), (6, .getfield 9, 9, [1, 5, 0, 0, 115, 11, 0]), (9, .iconst 0, 10, []), (10, .bipush 6, 12, []), (12, .invokestatic 86, 15, [22, 695]), (15, .aload_n 1, 16, []), (16, .getfield 15, 19, [1, 5, 1, 0, 116, 12, 0]), (19, .iconst 0, 20, []), (20, .aload_n 0, 21, []), (21, .getfield 15, 24, [1, 5, 1, 0, 116, 12, 0]), (24, .iconst 0, 25, []), (25, .bipush 6, 27, []), (27, .invokestatic 86, 30, [22, 695]), (30, .aload_n 1, 31, []), (31, .getfield 18, 34, [1, 5, 2, 0, 117, 13, 0]), (34, .iconst 0, 35, []), (35, .aload_n 0, 36, []), (36, .getfield 18, 39, [1, 5, 2, 0, 117, 13, 0]), (39, .iconst 0, 40, []), (40, .bipush 6, 42, []), (42, .invokestatic 86, 45, [22, 695]), (45, .aload_n 1, 46, []), (46, .getfield 21, 49, [1, 5, 3, 0, 118, 14, 0]), (49, .iconst 0, 50, []), (50, .aload_n 0, 51, []), (51, .getfield 21, 54, [1, 5, 3, 0, 118, 14, 0]), (54, .iconst 0, 55, []), (55, .bipush 6, 57, []), (57, .invokestatic 86, 60, [22, 695]), (60, .aload_n 1, 61, []), (61, .getfield 24, 64, [1, 5, 4, 0, 119, 15, 0]), (64, .iconst 0, 65, []), (65, .aload_n 0, 66, []), (66, .getfield 24, 69, [1, 5, 4, 0, 119, 15, 0]), (69, .iconst 0, 70, []), (70, .bipush 6, 72, []), (72, .invokestatic 86, 75, [22, 695]), (75, .aload_n 1, 76, []), (76, .getfield 27, 79, [1, 5, 5, 0, 120, 16, 0]), (79, .iconst 0, 80, []), (80, .aload_n 0, 81, []), (81, .getfield 27, 84, [1, 5, 5, 0, 120, 16, 0]), (84, .iconst 0, 85, []), (85, .bipush 36, 87, []), (87, .invokestatic 86, 90, [22, 695]), (90, .aload_n 1, 91, []), (91, .getfield 30, 94, [1, 5, 6, 0, 121, 17, 0]), (94, .iconst 0, 95, []), (95, .aload_n 0, 96, []), (96, .getfield 30, 99, [1, 5, 6, 0, 121, 17, 0]), (99, .iconst 0, 100, []), (100, .bipush 36, 102, []), (102, .invokestatic 86, 105, [22, 695]), (105, .aload_n 0, 106, []), (106, .aload_n 1, 107, []), (107, .getfield 39, 110, [0, 5, 7, 0, 122]), (110, .putfield 39, 113, [0, 5, 7, 0, 122]), (113, .aload_n 0, 114, []), (114, .aload_n 1, 115, []), (115, .getfield 49, 118, [0, 5, 8, 0, 123]), (118, .putfield 49, 121, [0, 5, 8, 0, 123]), (121, .aload_n 0, 122, []), (122, .aload_n 1, 123, []), (123, .getfield 52, 126, [0, 5, 9, 0, 125]), (126, .putfield 52, 129, [0, 5, 9, 0, 125]), (129, .aload_n 0, 130, []), (130, .aload_n 1, 131, []), (131, .getfield 55, 134, [0, 5, 10, 0, 127]), (134, .putfield 55, 137, [0, 5, 10, 0, 127]), (137, .aload_n 0, 138, []), (138, .aload_n 1, 139, []), (139, .getfield 58, 142, [0, 5, 11, 0, 129]), (142, .putfield 58, 145, [0, 5, 11, 0, 129]), (145, .return_, 146, [])]
/-- 50: Square.stands -/
def code_50 : List Row := [(0, .aload_n 0, 1, []), (1, .getfield 39, 4, [0, 5, 7, 0, 122]), (4, .ifCond .le 7, 7, [11]), (7, .iconst 1, 8, []), (8, .goto 4, 11, [12]), (11, .iconst 0, 12, []), (12, .ireturn, 13, [1])]
/-- 51: Square.size -/
def code_51 : List Row := [(0, .aload_n 0, 1, []), (1, .getfield 39, 4, [0, 5, 7, 0, 122]), (4, .ireturn, 5, [0])]
/-- 52: Square.isHouse -/
def code_52 : List Row := [(0, .iload_n 1, 1, []), (1, .ifCond .lt 15, 4, [16]), (4, .iload_n 1, 5, []), (5, .aload_n 0, 6, []), (6, .getfield 39, 9, [0, 5, 7, 0, 122]), (9, .if_icmp .ge 7, 12, [16]), (12, .iconst 1, 13, []), (13, .goto 4, 16, [17]), (16, .iconst 0, 17, []), (17, .ireturn, 18, [1])]
/-- 53: Square.areTwo -/
def code_53 : List Row := [(0, .aload_n 0, 1, []), (1, .iload_n 1, 2, []), (2, .invokevirtual 92, 5, [10, 52, 2, 0, 491, 5]), (5, .ifCond .eq 20, 8, [25]), (8, .aload_n 0, 9, []), (9, .iload_n 2, 10, []), (10, .invokevirtual 92, 13, [10, 52, 2, 0, 491, 5]), (13, .ifCond .eq 12, 16, [25]), (16, .iload_n 1, 17, []), (17, .iload_n 2, 18, []), (18, .if_icmp .eq 7, 21, [25]), (21, .iconst 1, 22, []), (22, .goto 4, 25, [26]), (25, .iconst 0, 26, []), (26, .ireturn, 27, [1])]
/-- 54: Square.kindOf -/
def code_54 : List Row := [(0, .aload_n 0, 1, []), (1, .getfield 9, 4, [1, 5, 0, 0, 115, 11, 0]), (4, .iload_n 1, 5, []), (5, .iaload, 6, []), (6, .ireturn, 7, [0])]
/-- 55: Square.viewOf -/
def code_55 : List Row := [(0, .aload_n 0, 1, []), (1, .getfield 15, 4, [1, 5, 1, 0, 116, 12, 0]), (4, .iload_n 1, 5, []), (5, .iaload, 6, []), (6, .ireturn, 7, [0])]
/-- 56: Square.frontOf -/
def code_56 : List Row := [(0, .aload_n 0, 1, []), (1, .getfield 18, 4, [1, 5, 2, 0, 117, 13, 0]), (4, .iload_n 1, 5, []), (5, .iaload, 6, []), (6, .ireturn, 7, [0])]
/-- 57: Square.tornOf -/
def code_57 : List Row := [(0, .aload_n 0, 1, []), (1, .getfield 21, 4, [1, 5, 3, 0, 118, 14, 0]), (4, .iload_n 1, 5, []), (5, .iaload, 6, []), (6, .ireturn, 7, [0])]
/-- 58: Square.costOf -/
def code_58 : List Row := [(0, .aload_n 0, 1, []), (1, .getfield 24, 4, [1, 5, 4, 0, 119, 15, 0]), (4, .iload_n 1, 5, []), (5, .iaload, 6, []), (6, .ireturn, 7, [0])]
/-- 59: Square.frontersOf -/
def code_59 : List Row := [(0, .iconst 0, 1, []), (1, .istore_n 2, 2, []), (2, .iconst 0, 3, []), (3, .istore_n 3, 4, []), (4, .iload_n 3, 5, []), (5, .aload_n 0, 6, []), (6, .getfield 39, 9, [0, 5, 7, 0, 122]), (9, .if_icmp .ge 25, 12, [34]), (12, .aload_n 0, 13, []), (13, .getfield 18, 16, [1, 5, 2, 0, 117, 13, 0]), (16, .iload_n 3, 17, []), (17, .iaload, 18, []), (18, .iload_n 1, 19, []), (19, .if_icmp .ne 9, 22, [28]), (22, .iload_n 2, 23, []), (23, .iconst 1, 24, []), (24, .iload_n 3, 25, []), (25, .ishl, 26, []), (26, .ior, 27, []), (27, .istore_n 2, 28, []), (28, .iinc 3 1, 31, []), (31, .goto (-27), 34, [4]), (34, .iload_n 2, 35, []), (35, .ireturn, 36, [0])]
/-- 60: Square.angersOf -/
def code_60 : List Row := [(0, .iconst 0, 1, []), (1, .istore_n 2, 2, []), (2, .iconst 0, 3, []), (3, .istore_n 3, 4, []), (4, .iload_n 3, 5, []), (5, .aload_n 0, 6, []), (6, .getfield 39, 9, [0, 5, 7, 0, 122]), (9, .if_icmp .ge 22, 12, [31]), (12, .iload_n 2, 13, []), (13, .aload_n 0, 14, []), (14, .getfield 27, 17, [1, 5, 5, 0, 120, 16, 0]), (17, .iload_n 1, 18, []), (18, .iload_n 3, 19, []), (19, .invokestatic 96, 22, [11, 94, 2, 0, 499]), (22, .iaload, 23, []), (23, .iadd, 24, []), (24, .istore_n 2, 25, []), (25, .iinc 3 1, 28, []), (28, .goto (-24), 31, [4]), (31, .iload_n 2, 32, []), (32, .ireturn, 33, [0])]
/-- 61: Square.isStaring -/
def code_61 : List Row := [(0, .aload_n 0, 1, []), (1, .getfield 18, 4, [1, 5, 2, 0, 117, 13, 0]), (4, .iload_n 1, 5, []), (5, .iaload, 6, []), (6, .istore_n 2, 7, []), (7, .aload_n 0, 8, []), (8, .iload_n 2, 9, []), (9, .invokevirtual 92, 12, [10, 52, 2, 0, 491, 5]), (12, .ifCond .eq 17, 15, [29]), (15, .aload_n 0, 16, []), (16, .getfield 18, 19, [1, 5, 2, 0, 117, 13, 0]), (19, .iload_n 2, 20, []), (20, .iaload, 21, []), (21, .iload_n 1, 22, []), (22, .if_icmp .ne 7, 25, [29]), (25, .iconst 1, 26, []), (26, .goto 4, 29, [30]), (29, .iconst 0, 30, []), (30, .ireturn, 31, [1])]
/-- 62: Square.ringSize -/
def code_62 : List Row := [(0, .iload_n 1, 1, []), (1, .istore_n 2, 2, []), (2, .iconst 1, 3, []), (3, .istore_n 3, 4, []), (4, .iload_n 3, 5, []), (5, .aload_n 0, 6, []), (6, .getfield 39, 9, [0, 5, 7, 0, 122]), (9, .if_icmp .gt 42, 12, [51]), (12, .aload_n 0, 13, []), (13, .getfield 18, 16, [1, 5, 2, 0, 117, 13, 0]), (16, .iload_n 2, 17, []), (17, .iaload, 18, []), (18, .istore_n 2, 19, []), (19, .aload_n 0, 20, []), (20, .iload_n 2, 21, []), (21, .invokevirtual 92, 24, [10, 52, 2, 0, 491, 5]), (24, .ifCond .ne 5, 27, [29]), (27, .iconst 0, 28, []), (28, .ireturn, 29, [0]), (29, .iload_n 2, 30, []), (30, .iload_n 1, 31, []), (31, .if_icmp .ne 14, 34, [45]), (34, .iload_n 3, 35, []), (35, .iconst 3, 36, []), (36, .if_icmp .lt 7, 39, [43]), (39, .iload_n 3, 40, []), (40, .goto 4, 43, [44]), (43, .iconst 0, 44, []), (44, .ireturn, 45, [0]), (45, .iinc 3 1, 48, []), (48, .goto (-44), 51, [4]), (51, .iconst 0, 52, []), (52, .ireturn, 53, [0])]
/-- 63: Square.onLine -/
def code_63 : List Row := [(0, .iload_n 1, 1, []), (1, .istore_n 3, 2, []), (2, .iconst 0, 3, []), (3, .istore 4, 5, []), (5, .iconst 0, 6, []), (6, .istore 5, 8, []), (8, .iload 5, 10, []), (10, .aload_n 0, 11, []), (11, .getfield 39, 14, [0, 5, 7, 0, 122]), (14, .if_icmp .ge 52, 17, [66]), (17, .aload_n 0, 18, []), (18, .iload_n 3, 19, []), (19, .invokevirtual 92, 22, [10, 52, 2, 0, 491, 5]), (22, .ifCond .eq 13, 25, [35]), (25, .iload 4, 27, []), (27, .iload_n 3, 28, []), (28, .ishr, 29, []), (29, .iconst 1, 30, []), (30, .iand, 31, []), (31, .iconst 1, 32, []), (32, .if_icmp .ne 5, 35, [37]), (35, .iconst (-1), 36, []), (36, .ireturn, 37, [0]), (37, .iload 5, 39, []), (39, .iload_n 2, 40, []), (40, .if_icmp .ne 5, 43, [45]), (43, .iload_n 3, 44, []), (44, .ireturn, 45, [0]), (45, .iload 4, 47, []), (47, .iconst 1, 48, []), (48, .iload_n 3, 49, []), (49, .ishl, 50, []), (50, .ior, 51, []), (51, .istore 4, 53, []), (53, .aload_n 0, 54, []), (54, .getfield 18, 57, [1, 5, 2, 0, 117, 13, 0]), (57, .iload_n 3, 58, []), (58, .iaload, 59, []), (59, .istore_n 3, 60, []), (60, .iinc 5 1, 63, []), (63, .goto (-55), 66, [8]), (66, .iconst (-1), 67, []), (67, .ireturn, 68, [0])]
/-- 64: Square.lineLength -/
def code_64 : List Row := [(0, .iconst 0, 1, []), (1, .istore_n 2, 2, []), (2, .iconst 0, 3, []), (3, .istore_n 3, 4, []), (4, .iload_n 3, 5, []), (5, .aload_n 0, 6, []), (6, .getfield 39, 9, [0, 5, 7, 0, 122]), (9, .if_icmp .ge 23, 12, [32]), (12, .aload_n 0, 13, []), (13, .iload_n 1, 14, []), (14, .iload_n 3, 15, []), (15, .invokevirtual 99, 18, [10, 63, 3, 0, 564, 5]), (18, .iconst (-1), 19, []), (19, .if_icmp .eq 7, 22, [26]), (22, .iload_n 3, 23, []), (23, .iconst 1, 24, []), (24, .iadd, 25, []), (25, .istore_n 2, 26, []), (26, .iinc 3 1, 29, []), (29, .goto (-25), 32, [4]), (32, .iload_n 2, 33, []), (33, .ireturn, 34, [0])]
/-- 65: Square.lineEnd -/
def code_65 : List Row := [(0, .aload_n 0, 1, []), (1, .iload_n 1, 2, []), (2, .aload_n 0, 3, []), (3, .iload_n 1, 4, []), (4, .invokevirtual 102, 7, [10, 64, 2, 0, 572, 5]), (7, .iconst 1, 8, []), (8, .isub, 9, []), (9, .invokevirtual 99, 12, [10, 63, 3, 0, 564, 5]), (12, .ireturn, 13, [0])]
/-- 66: Square.angerAt -/
def code_66 : List Row := [(0, .aload_n 0, 1, []), (1, .getfield 27, 4, [1, 5, 5, 0, 120, 16, 0]), (4, .iload_n 1, 5, []), (5, .iload_n 2, 6, []), (6, .invokestatic 96, 9, [11, 94, 2, 0, 499]), (9, .iaload, 10, []), (10, .ireturn, 11, [0])]
/-- 67: Square.wallBetween -/
def code_67 : List Row := [(0, .aload_n 0, 1, []), (1, .getfield 30, 4, [1, 5, 6, 0, 121, 17, 0]), (4, .iload_n 1, 5, []), (5, .iload_n 2, 6, []), (6, .invokestatic 96, 9, [11, 94, 2, 0, 499]), (9, .iaload, 10, []), (10, .ireturn, 11, [0])]
/-- 68: Square.countAngers -/
def code_68 : List Row := [(0, .iconst 0, 1, []), (1, .istore_n 1, 2, []), (2, .iconst 0, 3, []), (3, .istore_n 2, 4, []), (4, .iload_n 2, 5, []), (5, .bipush 36, 7, []), (7, .if_icmp .ge 21, 10, [28]), (10, .aload_n 0, 11, []), (11, .getfield 27, 14, [1, 5, 5, 0, 120, 16, 0]), (14, .iload_n 2, 15, []), (15, .iaload, 16, []), (16, .ifCond .le 6, 19, [22]), (19, .iinc 1 1, 22, []), (22, .iinc 2 1, 25, []), (25, .goto (-21), 28, [4]), (28, .iload_n 1, 29, []), (29, .ireturn, 30, [0])]
/-- 69: Square.sumAngers -/
def code_69 : List Row := [(0, .iconst 0, 1, []), (1, .istore_n 1, 2, []), (2, .iconst 0, 3, []), (3, .istore_n 2, 4, []), (4, .iload_n 2, 5, []), (5, .aload_n 0, 6, []), (6, .getfield 39, 9, [0, 5, 7, 0, 122]), (9, .if_icmp .ge 17, 12, [26]), (12, .iload_n 1, 13, []), (13, .aload_n 0, 14, []), (14, .iload_n 2, 15, []), (15, .invokevirtual 105, 18, [10, 60, 2, 0, 921, 5]), (18, .iadd, 19, []), (19, .istore_n 1, 20, []), (20, .iinc 2 1, 23, []), (23, .goto (-19), 26, [4]), (26, .iload_n 1, 27, []), (27, .ireturn, 28, [0])]
/-- 70: Square.countAtRiver -/
def code_70 : List Row := [(0, .iconst 0, 1, []), (1, .istore_n 1, 2, []), (2, .iconst 0, 3, []), (3, .istore_n 2, 4, []), (4, .iload_n 2, 5, []), (5, .aload_n 0, 6, []), (6, .getfield 39, 9, [0, 5, 7, 0, 122]), (9, .if_icmp .ge 22, 12, [31]), (12, .aload_n 0, 13, []), (13, .getfield 18, 16, [1, 5, 2, 0, 117, 13, 0]), (16, .iload_n 2, 17, []), (17, .iaload, 18, []), (18, .iconst (-1), 19, []), (19, .if_icmp .ne 6, 22, [25]), (22, .iinc 1 1, 25, []), (25, .iinc 2 1, 28, []), (28, .goto (-24), 31, [4]), (31, .iload_n 1, 32, []), (32, .ireturn, 33, [0])]
/-- 71: Square.worthOfViews -/
def code_71 : List Row := [(0, .iconst 0, 1, []), (1, .istore_n 1, 2, []), (2, .iconst 0, 3, []), (3, .istore_n 2, 4, []), (4, .iload_n 2, 5, []), (5, .aload_n 0, 6, []), (6, .getfield 39, 9, [0, 5, 7, 0, 122]), (9, .if_icmp .ge 28, 12, [37]), (12, .aload_n 0, 13, []), (13, .getfield 18, 16, [1, 5, 2, 0, 117, 13, 0]), (16, .iload_n 2, 17, []), (17, .iaload, 18, []), (18, .iconst (-1), 19, []), (19, .if_icmp .ne 12, 22, [31]), (22, .iload_n 1, 23, []), (23, .aload_n 0, 24, []), (24, .getfield 15, 27, [1, 5, 1, 0, 116, 12, 0]), (27, .iload_n 2, 28, []), (28, .iaload, 29, []), (29, .iadd, 30, []), (30, .istore_n 1, 31, []), (31, .iinc 2 1, 34, []), (34, .goto (-30), 37, [4]), (37, .iload_n 1, 38, []), (38, .ireturn, 39, [0])]
/-- 72: Square.countStares -/
def code_72 : List Row := [(0, .iconst 0, 1, []), (1, .istore_n 1, 2, []), (2, .iconst 0, 3, []), (3, .istore_n 2, 4, []), (4, .iload_n 2, 5, []), (5, .aload_n 0, 6, []), (6, .getfield 39, 9, [0, 5, 7, 0, 122]), (9, .if_icmp .ge 30, 12, [39]), (12, .aload_n 0, 13, []), (13, .iload_n 2, 14, []), (14, .invokevirtual 108, 17, [10, 61, 2, 0, 671, 5]), (17, .ifCond .eq 16, 20, [33]), (20, .iload_n 2, 21, []), (21, .aload_n 0, 22, []), (22, .getfield 18, 25, [1, 5, 2, 0, 117, 13, 0]), (25, .iload_n 2, 26, []), (26, .iaload, 27, []), (27, .if_icmp .ge 6, 30, [33]), (30, .iinc 1 1, 33, []), (33, .iinc 2 1, 36, []), (36, .goto (-32), 39, [4]), (39, .iload_n 1, 40, []), (40, .ireturn, 41, [0])]
/-- 73: Square.countRings -/
def code_73 : List Row := [(0, .iconst 0, 1, []), (1, .istore_n 1, 2, []), (2, .iconst 0, 3, []), (3, .istore_n 2, 4, []), (4, .iconst 0, 5, []), (5, .istore_n 3, 6, []), (6, .iload_n 3, 7, []), (7, .aload_n 0, 8, []), (8, .getfield 39, 11, [0, 5, 7, 0, 122]), (11, .if_icmp .ge 36, 14, [47]), (14, .iload_n 2, 15, []), (15, .iload_n 3, 16, []), (16, .ishr, 17, []), (17, .iconst 1, 18, []), (18, .iand, 19, []), (19, .ifCond .ne 22, 22, [41]), (22, .aload_n 0, 23, []), (23, .iload_n 3, 24, []), (24, .invokevirtual 111, 27, [10, 62, 2, 0, 650, 5]), (27, .ifCond .le 14, 30, [41]), (30, .iload_n 2, 31, []), (31, .aload_n 0, 32, []), (32, .iload_n 3, 33, []), (33, .invokevirtual 114, 36, [10, 92, 2, 0, 655, 5]), (36, .ior, 37, []), (37, .istore_n 2, 38, []), (38, .iinc 1 1, 41, []), (41, .iinc 3 1, 44, []), (44, .goto (-38), 47, [6]), (47, .iload_n 1, 48, []), (48, .ireturn, 49, [0])]
/-- 74: Square.countPriests -/
def code_74 : List Row := [(0, .iconst 0, 1, []), (1, .istore_n 1, 2, []), (2, .iconst 0, 3, []), (3, .istore_n 2, 4, []), (4, .iload_n 2, 5, []), (5, .aload_n 0, 6, []), (6, .getfield 39, 9, [0, 5, 7, 0, 122]), (9, .if_icmp .ge 20, 12, [29]), (12, .aload_n 0, 13, []), (13, .iload_n 2, 14, []), (14, .invokevirtual 117, 17, [10, 59, 2, 0, 933, 5]), (17, .ifCond .ne 6, 20, [23]), (20, .iinc 1 1, 23, []), (23, .iinc 2 1, 26, []), (26, .goto (-22), 29, [4]), (29, .iload_n 1, 30, []), (30, .ireturn, 31, [0])]
/-- 75: Square.countWalls -/
def code_75 : List Row := [(0, .iconst 0, 1, []), (1, .istore_n 1, 2, []), (2, .iconst 0, 3, []), (3, .istore_n 2, 4, []), (4, .iload_n 2, 5, []), (5, .bipush 15, 7, []), (7, .if_icmp .ge 30, 10, [37]), (10, .iload_n 1, 11, []), (11, .aload_n 0, 12, []), (12, .getfield 30, 15, [1, 5, 6, 0, 121, 17, 0]), (15, .getstatic 120, 18, [1, 60, 1, 6]), (18, .iload_n 2, 19, []), (19, .iaload, 20, []), (20, .getstatic 123, 23, [1, 61, 1, 7]), (23, .iload_n 2, 24, []), (24, .iaload, 25, []), (25, .invokestatic 96, 28, [11, 94, 2, 0, 499]), (28, .iaload, 29, []), (29, .iadd, 30, []), (30, .istore_n 1, 31, []), (31, .iinc 2 1, 34, []), (34, .goto (-30), 37, [4]), (37, .iload_n 1, 38, []), (38, .ireturn, 39, [0])]
/-- 76: Square.sumTorn -/
def code_76 : List Row := [(0, .iconst 0, 1, []), (1, .istore_n 1, 2, []), (2, .iconst 0, 3, []), (3, .istore_n 2, 4, []), (4, .iload_n 2, 5, []), (5, .aload_n 0, 6, []), (6, .getfield 39, 9, [0, 5, 7, 0, 122]), (9, .if_icmp .ge 18, 12, [27]), (12, .iload_n 1, 13, []), (13, .aload_n 0, 14, []), (14, .getfield 21, 17, [1, 5, 3, 0, 118, 14, 0]), (17, .iload_n 2, 18, []), (18, .iaload, 19, []), (19, .iadd, 20, []), (20, .istore_n 1, 21, []), (21, .iinc 2 1, 24, []), (24, .goto (-20), 27, [4]), (27, .iload_n 1, 28, []), (28, .ireturn, 29, [0])]
/-- 77: Square.sumCosts -/
def code_77 : List Row := [(0, .iconst 0, 1, []), (1, .istore_n 1, 2, []), (2, .iconst 0, 3, []), (3, .istore_n 2, 4, []), (4, .iload_n 2, 5, []), (5, .aload_n 0, 6, []), (6, .getfield 39, 9, [0, 5, 7, 0, 122]), (9, .if_icmp .ge 18, 12, [27]), (12, .iload_n 1, 13, []), (13, .aload_n 0, 14, []), (14, .getfield 24, 17, [1, 5, 4, 0, 119, 15, 0]), (17, .iload_n 2, 18, []), (18, .iaload, 19, []), (19, .iadd, 20, []), (20, .istore_n 1, 21, []), (21, .iinc 2 1, 24, []), (24, .goto (-20), 27, [4]), (27, .iload_n 1, 28, []), (28, .ireturn, 29, [0])]
/-- 78: Square.leastInRing -/
def code_78 : List Row := [(0, .iconst 0, 1, []), (1, .istore_n 1, 2, []), (2, .iload_n 1, 3, []), (3, .aload_n 0, 4, []), (4, .getfield 39, 7, [0, 5, 7, 0, 122]), (7, .if_icmp .ge 19, 10, [26]), (10, .aload_n 0, 11, []), (11, .iload_n 1, 12, []), (12, .invokevirtual 111, 15, [10, 62, 2, 0, 650, 5]), (15, .ifCond .le 5, 18, [20]), (18, .iload_n 1, 19, []), (19, .ireturn, 20, [0]), (20, .iinc 1 1, 23, []), (23, .goto (-21), 26, [2]), (26, .iconst (-1), 27, []), (27, .ireturn, 28, [0])]
/-- 79: Square.provoke -/
def code_79 : List Row := [(0, .aload_n 0, 1, []), (1, .iload_n 1, 2, []), (2, .iload_n 2, 3, []), (3, .aload_n 0, 4, []), (4, .getfield 27, 7, [1, 5, 5, 0, 120, 16, 0]), (7, .iload_n 1, 8, []), (8, .iload_n 2, 9, []), (9, .invokestatic 96, 12, [11, 94, 2, 0, 499]), (12, .iaload, 13, []), (13, .iload_n 3, 14, []), (14, .iadd, 15, []), (15, .invokevirtual 126, 18, [10, 80, 4, 0, 502, 5]), (18, .return_, 19, [])]
/-- 80: Square.setAnger -/
def code_80 : List Row := [(0, .aload_n 0, 1, []), (1, .getfield 27, 4, [1, 5, 5, 0, 120, 16, 0]), (4, .iload_n 1, 5, []), (5, .iload_n 2, 6, []), (6, .invokestatic 96, 9, [11, 94, 2, 0, 499]), (9, .iload_n 3, 10, []), (10, .invokestatic 129, 13, [11, 93, 1, 0, 506]), (13, .iastore, 14, []), (14, .aload_n 0, 15, []), (15, .getfield 18, 18, [1, 5, 2, 0, 117, 13, 0]), (18, .iload_n 1, 19, []), (19, .aload_n 0, 20, []), (20, .iload_n 1, 21, []), (21, .invokevirtual 132, 24, [10, 91, 2, 0, 511, 5]), (24, .iastore, 25, []), (25, .return_, 26, [])]
/-- 81: Square.reconcile -/
def code_81 : List Row := [(0, .aload_n 0, 1, []), (1, .iload_n 1, 2, []), (2, .iload_n 2, 3, []), (3, .iconst 0, 4, []), (4, .invokevirtual 126, 7, [10, 80, 4, 0, 502, 5]), (7, .aload_n 0, 8, []), (8, .iload_n 2, 9, []), (9, .iload_n 1, 10, []), (10, .iconst 0, 11, []), (11, .invokevirtual 126, 14, [10, 80, 4, 0, 502, 5]), (14, .return_, 15, [])]
/-- 82: Square.setWall -/
def code_82 : List Row := [(0, .aload_n 0, 1, []), (1, .getfield 30, 4, [1, 5, 6, 0, 121, 17, 0]), (4, .iload_n 1, 5, []), (5, .iload_n 2, 6, []), (6, .invokestatic 96, 9, [11, 94, 2, 0, 499]), (9, .iload_n 3, 10, []), (10, .iastore, 11, []), (11, .aload_n 0, 12, []), (12, .getfield 30, 15, [1, 5, 6, 0, 121, 17, 0]), (15, .iload_n 2, 16, []), (16, .iload_n 1, 17, []), (17, .invokestatic 96, 20, [11, 94, 2, 0, 499]), (20, .iload_n 3, 21, []), (21, .iastore, 22, []), (22, .aload_n 0, 23, []), (23, .getfield 18, 26, [1, 5, 2, 0, 117, 13, 0]), (26, .iload_n 1, 27, []), (27, .aload_n 0, 28, []), (28, .iload_n 1, 29, []), (29, .invokevirtual 132, 32, [10, 91, 2, 0, 511, 5]), (32, .iastore, 33, []), (33, .aload_n 0, 34, []), (34, .getfield 18, 37, [1, 5, 2, 0, 117, 13, 0]), (37, .iload_n 2, 38, []), (38, .aload_n 0, 39, []), (39, .iload_n 2, 40, []), (40, .invokevirtual 132, 43, [10, 91, 2, 0, 511, 5]), (43, .iastore, 44, []), (44, .return_, 45, [])]
/-- 83: Square.moveIn -/
def code_83 : List Row := [(0, .aload_n 0, 1, []), (1, .getfield 9, 4, [1, 5, 0, 0, 115, 11, 0]), (4, .iload_n 1, 5, []), (5, .iload_n 2, 6, []), (6, .iastore, 7, []), (7, .iconst 0, 8, []), (8, .istore_n 3, 9, []), (9, .iload_n 3, 10, []), (10, .aload_n 0, 11, []), (11, .getfield 39, 14, [0, 5, 7, 0, 122]), (14, .if_icmp .ge 20, 17, [34]), (17, .aload_n 0, 18, []), (18, .getfield 27, 21, [1, 5, 5, 0, 120, 16, 0]), (21, .iload_n 1, 22, []), (22, .iload_n 3, 23, []), (23, .invokestatic 96, 26, [11, 94, 2, 0, 499]), (26, .iconst 0, 27, []), (27, .iastore, 28, []), (28, .iinc 3 1, 31, []), (31, .goto (-22), 34, [9]), (34, .aload_n 0, 35, []), (35, .getfield 18, 38, [1, 5, 2, 0, 117, 13, 0]), (38, .iload_n 1, 39, []), (39, .iconst (-1), 40, []), (40, .iastore, 41, []), (41, .return_, 42, [])]
/-- 84: Square.endRing -/
def code_84 : List Row := [(0, .aload_n 0, 1, []), (1, .iload_n 1, 2, []), (2, .invokevirtual 111, 5, [10, 62, 2, 0, 650, 5]), (5, .istore_n 2, 6, []), (6, .aload_n 0, 7, []), (7, .iload_n 1, 8, []), (8, .invokevirtual 114, 11, [10, 92, 2, 0, 655, 5]), (11, .istore_n 3, 12, []), (12, .iconst 0, 13, []), (13, .istore 4, 15, []), (15, .iload 4, 17, []), (17, .aload_n 0, 18, []), (18, .getfield 39, 21, [0, 5, 7, 0, 122]), (21, .if_icmp .ge 46, 24, [67]), (24, .aload_n 0, 25, []), (25, .getfield 18, 28, [1, 5, 2, 0, 117, 13, 0]), (28, .iload 4, 30, []), (30, .iaload, 31, []), (31, .istore 5, 33, []), (33, .iload_n 3, 34, []), (34, .iload 4, 36, []), (36, .ishr, 37, []), (37, .iconst 1, 38, []), (38, .iand, 39, []), (39, .iconst 1, 40, []), (40, .if_icmp .ne 21, 43, [61]), (43, .aload_n 0, 44, []), (44, .iload 5, 46, []), (46, .invokevirtual 92, 49, [10, 52, 2, 0, 491, 5]), (49, .ifCond .eq 12, 52, [61]), (52, .aload_n 0, 53, []), (53, .iload 4, 55, []), (55, .iload 5, 57, []), (57, .iconst 0, 58, []), (58, .invokevirtual 126, 61, [10, 80, 4, 0, 502, 5]), (61, .iinc 4 1, 64, []), (64, .goto (-49), 67, [15]), (67, .iload_n 2, 68, []), (68, .ireturn, 69, [0])]
/-- 85: Square.liveMorning -/
def code_85 : List Row := [(0, .iconst 0, 1, []), (1, .istore_n 1, 2, []), (2, .iload_n 1, 3, []), (3, .aload_n 0, 4, []), (4, .getfield 39, 7, [0, 5, 7, 0, 122]), (7, .if_icmp .ge 45, 10, [52]), (10, .aload_n 0, 11, []), (11, .iload_n 1, 12, []), (12, .invokevirtual 108, 15, [10, 61, 2, 0, 671, 5]), (15, .ifCond .eq 13, 18, [28]), (18, .aload_n 0, 19, []), (19, .getfield 21, 22, [1, 5, 3, 0, 118, 14, 0]), (22, .iload_n 1, 23, []), (23, .dup2, 24, []), (24, .iaload, 25, []), (25, .iconst 1, 26, []), (26, .iadd, 27, []), (27, .iastore, 28, []), (28, .aload_n 0, 29, []), (29, .iload_n 1, 30, []), (30, .invokevirtual 111, 33, [10, 62, 2, 0, 650, 5]), (33, .ifCond .le 13, 36, [46]), (36, .aload_n 0, 37, []), (37, .getfield 24, 40, [1, 5, 4, 0, 119, 15, 0]), (40, .iload_n 1, 41, []), (41, .dup2, 42, []), (42, .iaload, 43, []), (43, .iconst 1, 44, []), (44, .iadd, 45, []), (45, .iastore, 46, []), (46, .iinc 1 1, 49, []), (49, .goto (-47), 52, [2]), (52, .aload_n 0, 53, []), (53, .dup, 54, []), (54, .getfield 49, 57, [0, 5, 8, 0, 123]), (57, .iconst 1, 58, []), (58, .iadd, 59, []), (59, .putfield 49, 62, [0, 5, 8, 0, 123]), (62, .aload_n 0, 63, []), (63, .invokevirtual 135, 66, [10, 86, 1, 0, 672, 5]), (66, .istore_n 1, 67, []), (67, .aload_n 0, 68, []), (68, .dup, 69, []), (69, .getfield 52, 72, [0, 5, 9, 0, 125]), (72, .iload_n 1, 73, []), (73, .iadd, 74, []), (74, .putfield 52, 77, [0, 5, 9, 0, 125]), (77, .iload_n 1, 78, []), (78, .ireturn, 79, [0])]
/-- 86: Square.changeAngers -/
def code_86 : List Row := [(0, .iconst 0, 1, []), (1, .istore_n 1, 2, []), (2, .iload_n 1, 3, []), (3, .aload_n 0, 4, []), (4, .getfield 39, 7, [0, 5, 7, 0, 122]), (7, .if_icmp .ge 60, 10, [67]), (10, .iconst 0, 11, []), (11, .istore_n 2, 12, []), (12, .iload_n 2, 13, []), (13, .aload_n 0, 14, []), (14, .getfield 39, 17, [0, 5, 7, 0, 122]), (17, .if_icmp .ge 44, 20, [61]), (20, .iload_n 1, 21, []), (21, .iload_n 2, 22, []), (22, .if_icmp .eq 33, 25, [55]), (25, .aload_n 0, 26, []), (26, .getfield 27, 29, [1, 5, 5, 0, 120, 16, 0]), (29, .iload_n 1, 30, []), (30, .iload_n 2, 31, []), (31, .invokestatic 96, 34, [11, 94, 2, 0, 499]), (34, .aload_n 0, 35, []), (35, .getfield 27, 38, [1, 5, 5, 0, 120, 16, 0]), (38, .iload_n 1, 39, []), (39, .iload_n 2, 40, []), (40, .invokestatic 96, 43, [11, 94, 2, 0, 499]), (43, .iaload, 44, []), (44, .aload_n 0, 45, []), (45, .iload_n 1, 46, []), (46, .iload_n 2, 47, []), (47, .invokevirtual 138, 50, [10, 88, 3, 0, 676, 5]), (50, .iadd, 51, []), (51, .invokestatic 129, 54, [11, 93, 1, 0, 506]), (54, .iastore, 55, []), (55, .iinc 2 1, 58, []), (58, .goto (-46), 61, [12]), (61, .iinc 1 1, 64, []), (64, .goto (-62), 67, [2]), (67, .aload_n 0, 68, []), (68, .invokevirtual 83, 71, [10, 90, 1, 0, 515, 5]), (71, .ireturn, 72, [0])]
/-- 87: Square.letPass -/
def code_87 : List Row := [(0, .iconst 0, 1, []), (1, .istore_n 2, 2, []), (2, .iload_n 2, 3, []), (3, .iload_n 1, 4, []), (4, .if_icmp .ge 14, 7, [18]), (7, .aload_n 0, 8, []), (8, .invokevirtual 135, 11, [10, 86, 1, 0, 672, 5]), (11, .pop, 12, []), (12, .iinc 2 1, 15, []), (15, .goto (-13), 18, [2]), (18, .return_, 19, [])]
/-- 88: Square.change -/
def code_88 : List Row := [(0, .aload_n 0, 1, []), (1, .getfield 9, 4, [1, 5, 0, 0, 115, 11, 0]), (4, .iload_n 1, 5, []), (5, .iaload, 6, []), (6, .iconst 2, 7, []), (7, .if_icmp .ne 6, 10, [13]), (10, .bipush (-2), 12, []), (12, .ireturn, 13, [0]), (13, .aload_n 0, 14, []), (14, .getfield 18, 17, [1, 5, 2, 0, 117, 13, 0]), (17, .iload_n 2, 18, []), (18, .iaload, 19, []), (19, .iload_n 1, 20, []), (20, .if_icmp .ne 7, 23, [27]), (23, .iconst 1, 24, []), (24, .goto 4, 27, [28]), (27, .iconst 0, 28, []), (28, .istore_n 3, 29, []), (29, .iload_n 3, 30, []), (30, .ifCond .eq 7, 33, [37]), (33, .iconst 1, 34, []), (34, .goto 4, 37, [38]), (37, .iconst 0, 38, []), (38, .istore 4, 40, []), (40, .aload_n 0, 41, []), (41, .getfield 18, 44, [1, 5, 2, 0, 117, 13, 0]), (44, .iload_n 1, 45, []), (45, .iaload, 46, []), (46, .iload_n 2, 47, []), (47, .if_icmp .eq 8, 50, [55]), (50, .iload 4, 52, []), (52, .iconst 1, 53, []), (53, .isub, 54, []), (54, .ireturn, 55, [0]), (55, .iload 4, 57, []), (57, .aload_n 0, 58, []), (58, .getfield 9, 61, [1, 5, 0, 0, 115, 11, 0]), (61, .iload_n 1, 62, []), (62, .iaload, 63, []), (63, .iload_n 3, 64, []), (64, .invokestatic 141, 67, [11, 89, 2, 0, 680]), (67, .iadd, 68, []), (68, .ireturn, 69, [0])]
/-- 89: Square.growth -/
def code_89 : List Row := [(0, .iload_n 0, 1, []), (1, .lookupswitch 39 #[(1, 27), (4, 29)], 28, [40, 28, 30]), (28, .iconst 1, 29, []), (29, .ireturn, 30, [0]), (30, .iload_n 1, 31, []), (31, .ifCond .eq 7, 34, [38]), (34, .iconst 2, 35, []), (35, .goto 4, 38, [39]), (38, .iconst 1, 39, []), (39, .ireturn, 40, [0]), (40, .iconst 0, 41, []), (41, .ireturn, 42, [0])]
/-- 90: Square.turnAll -/
def code_90 : List Row := [(0, .iconst 0, 1, []), (1, .istore_n 1, 2, []), (2, .iconst 0, 3, []), (3, .istore_n 2, 4, []), (4, .iload_n 2, 5, []), (5, .aload_n 0, 6, []), (6, .getfield 39, 9, [0, 5, 7, 0, 122]), (9, .if_icmp .ge 35, 12, [44]), (12, .aload_n 0, 13, []), (13, .iload_n 2, 14, []), (14, .invokevirtual 132, 17, [10, 91, 2, 0, 511, 5]), (17, .istore_n 3, 18, []), (18, .iload_n 3, 19, []), (19, .aload_n 0, 20, []), (20, .getfield 18, 23, [1, 5, 2, 0, 117, 13, 0]), (23, .iload_n 2, 24, []), (24, .iaload, 25, []), (25, .if_icmp .eq 6, 28, [31]), (28, .iinc 1 1, 31, []), (31, .aload_n 0, 32, []), (32, .getfield 18, 35, [1, 5, 2, 0, 117, 13, 0]), (35, .iload_n 2, 36, []), (36, .iload_n 3, 37, []), (37, .iastore, 38, []), (38, .iinc 2 1, 41, []), (41, .goto (-37), 44, [4]), (44, .iload_n 1, 45, []), (45, .ireturn, 46, [0])]
/-- 91: Square.pickFront -/
def code_91 : List Row := [(0, .iload_n 1, 1, []), (1, .bipush 6, 3, []), (3, .imul, 4, []), (4, .istore_n 2, 5, []), (5, .iconst (-1), 6, []), (6, .istore_n 3, 7, []), (7, .iconst 0, 8, []), (8, .istore 4, 10, []), (10, .iconst 0, 11, []), (11, .istore 5, 13, []), (13, .iload 5, 15, []), (15, .aload_n 0, 16, []), (16, .getfield 39, 19, [0, 5, 7, 0, 122]), (19, .if_icmp .ge 93, 22, [112]), (22, .aload_n 0, 23, []), (23, .getfield 27, 26, [1, 5, 5, 0, 120, 16, 0]), (26, .iload_n 2, 27, []), (27, .iload 5, 29, []), (29, .iadd, 30, []), (30, .iaload, 31, []), (31, .istore 6, 33, []), (33, .aload_n 0, 34, []), (34, .getfield 9, 37, [1, 5, 0, 0, 115, 11, 0]), (37, .iload_n 1, 38, []), (38, .iaload, 39, []), (39, .iconst 3, 40, []), (40, .if_icmp .ne 18, 43, [58]), (43, .iload 6, 45, []), (45, .iload 4, 47, []), (47, .if_icmp .ge 7, 50, [54]), (50, .iconst 1, 51, []), (51, .goto 19, 54, [70]), (54, .iconst 0, 55, []), (55, .goto 15, 58, [70]), (58, .iload 6, 60, []), (60, .iload 4, 62, []), (62, .if_icmp .le 7, 65, [69]), (65, .iconst 1, 66, []), (66, .goto 4, 69, [70]), (69, .iconst 0, 70, []), (70, .istore 7, 72, []), (72, .iload 6, 74, []), (74, .ifCond .le 32, 77, [106]), (77, .aload_n 0, 78, []), (78, .getfield 30, 81, [1, 5, 6, 0, 121, 17, 0]), (81, .iload_n 2, 82, []), (82, .iload 5, 84, []), (84, .iadd, 85, []), (85, .iaload, 86, []), (86, .ifCond .ne 20, 89, [106]), (89, .iload_n 3, 90, []), (90, .iconst (-1), 91, []), (91, .if_icmp .eq 8, 94, [99]), (94, .iload 7, 96, []), (96, .ifCond .eq 10, 99, [106]), (99, .iload 5, 101, []), (101, .istore_n 3, 102, []), (102, .iload 6, 104, []), (104, .istore 4, 106, []), (106, .iinc 5 1, 109, []), (109, .goto (-96), 112, [13]), (112, .iload_n 3, 113, []), (113, .ireturn, 114, [0])]
/-- 92: Square.ringBits -/
def code_92 : List Row := [(0, .iconst 0, 1, []), (1, .istore_n 2, 2, []), (2, .iload_n 1, 3, []), (3, .istore_n 3, 4, []), (4, .iconst 0, 5, []), (5, .istore 4, 7, []), (7, .iload 4, 9, []), (9, .aload_n 0, 10, []), (10, .getfield 39, 13, [0, 5, 7, 0, 122]), (13, .if_icmp .ge 30, 16, [43]), (16, .aload_n 0, 17, []), (17, .iload_n 3, 18, []), (18, .invokevirtual 92, 21, [10, 52, 2, 0, 491, 5]), (21, .ifCond .eq 22, 24, [43]), (24, .iload_n 2, 25, []), (25, .iconst 1, 26, []), (26, .iload_n 3, 27, []), (27, .ishl, 28, []), (28, .ior, 29, []), (29, .istore_n 2, 30, []), (30, .aload_n 0, 31, []), (31, .getfield 18, 34, [1, 5, 2, 0, 117, 13, 0]), (34, .iload_n 3, 35, []), (35, .iaload, 36, []), (36, .istore_n 3, 37, []), (37, .iinc 4 1, 40, []), (40, .goto (-33), 43, [7]), (43, .iload_n 2, 44, []), (44, .ireturn, 45, [0])]
/-- 93: Square.bounded -/
def code_93 : List Row := [(0, .iconst 0, 1, []), (1, .bipush 20, 3, []), (3, .iload_n 0, 4, []), (4, .invokestatic 145, 7, [21, 509]), (7, .invokestatic 150, 10, [20, 510]), (10, .ireturn, 11, [0])]
/-- 94: Square.cell -/
def code_94 : List Row := [(0, .iload_n 0, 1, []), (1, .bipush 6, 3, []), (3, .imul, 4, []), (4, .iload_n 1, 5, []), (5, .iadd, 6, []), (6, .ireturn, 7, [0])]
/-- 95: QW.letter -/
def code_95 : List Row := [(0, .iload_n 1, 1, []), (1, .iconst 1, 2, []), (2, .if_icmp .lt 9, 5, [11]), (5, .iload_n 1, 6, []), (6, .bipush 126, 8, []), (8, .if_icmp .le 6, 11, [14]), (11, .bipush (-102), 13, []), (13, .ireturn, 14, [0]), (14, .aload_n 0, 15, []), (15, .getfield 12, 18, [1, 6, 0, 0, 270, 2, 1]), (18, .invokevirtual 57, 21, [10, 15, 1, 0, 311, 2]), (21, .ifCond .eq 6, 24, [27]), (24, .bipush (-104), 26, []), (26, .ireturn, 27, [0]), (27, .aload_n 0, 28, []), (28, .getfield 12, 31, [1, 6, 0, 0, 270, 2, 1]), (31, .iload_n 1, 32, []), (32, .invokevirtual 61, 35, [10, 17, 2, 0, 315, 2]), (35, .ireturn, 36, [0])]
/-- 96: QW.blank -/
def code_96 : List Row := [(0, .aload_n 0, 1, []), (1, .getfield 12, 4, [1, 6, 0, 0, 270, 2, 1]), (4, .invokevirtual 65, 7, [10, 18, 1, 0, 324, 2]), (7, .ireturn, 8, [0])]
/-- 97: QW.fault -/
def code_97 : List Row := [(0, .aload_n 0, 1, []), (1, .getfield 12, 4, [1, 6, 0, 0, 270, 2, 1]), (4, .invokevirtual 69, 7, [10, 19, 1, 0, 332, 2]), (7, .ireturn, 8, [0])]
/-- 98: QW.square -/
def code_98 : List Row := [(0, .aload_n 0, 1, []), (1, .getfield 12, 4, [1, 6, 0, 0, 270, 2, 1]), (4, .invokevirtual 72, 7, [10, 20, 1, 0, 449, 2]), (7, .ifCond .ne 6, 10, [13]), (10, .bipush (-103), 12, []), (12, .ireturn, 13, [0]), (13, .aload_n 0, 14, []), (14, .getfield 19, 17, [1, 6, 1, 0, 271, 5, 1]), (17, .aload_n 0, 18, []), (18, .getfield 12, 21, [1, 6, 0, 0, 270, 2, 1]), (21, .invokevirtual 75, 24, [10, 48, 2, 0, 458, 5]), (24, .aload_n 0, 25, []), (25, .getfield 12, 28, [1, 6, 0, 0, 270, 2, 1]), (28, .invokevirtual 65, 31, [10, 18, 1, 0, 324, 2]), (31, .pop, 32, []), (32, .aload_n 0, 33, []), (33, .getfield 29, 36, [1, 6, 3, 0, 273, 4, 1]), (36, .invokevirtual 79, 39, [10, 45, 1, 0, 519, 4]), (39, .pop, 40, []), (40, .aload_n 0, 41, []), (41, .iconst 0, 42, []), (42, .putfield 80, 45, [3, 6, 8, 0, 278]), (45, .aload_n 0, 46, []), (46, .dup, 47, []), (47, .getfield 84, 50, [0, 6, 9, 0, 279]), (50, .iconst 1, 51, []), (51, .iadd, 52, []), (52, .putfield 84, 55, [0, 6, 9, 0, 279]), (55, .aload_n 0, 56, []), (56, .getfield 19, 59, [1, 6, 1, 0, 271, 5, 1]), (59, .invokevirtual 88, 62, [10, 51, 1, 0, 523, 5]), (62, .ireturn, 63, [0])]
/-- 99: QW.house -/
def code_99 : List Row := [(0, .aload_n 0, 1, []), (1, .getfield 19, 4, [1, 6, 1, 0, 271, 5, 1]), (4, .iload_n 1, 5, []), (5, .invokevirtual 91, 8, [10, 52, 2, 0, 531, 5]), (8, .ifCond .ne 6, 11, [14]), (11, .bipush (-101), 13, []), (13, .ireturn, 14, [0]), (14, .iload_n 2, 15, []), (15, .tableswitch 164 0 10 #[57, 66, 75, 84, 93, 102, 119, 128, 137, 146, 155], 72, [179, 72, 81, 90, 99, 108, 117, 134, 143, 152, 161, 170]), (72, .aload_n 0, 73, []), (73, .getfield 19, 76, [1, 6, 1, 0, 271, 5, 1]), (76, .iload_n 1, 77, []), (77, .invokevirtual 95, 80, [10, 54, 2, 0, 532, 5]), (80, .ireturn, 81, [0]), (81, .aload_n 0, 82, []), (82, .getfield 19, 85, [1, 6, 1, 0, 271, 5, 1]), (85, .iload_n 1, 86, []), (86, .invokevirtual 98, 89, [10, 55, 2, 0, 536, 5]), (89, .ireturn, 90, [0]), (90, .aload_n 0, 91, []), (91, .getfield 19, 94, [1, 6, 1, 0, 271, 5, 1]), (94, .iload_n 1, 95, []), (95, .invokevirtual 101, 98, [10, 56, 2, 0, 540, 5]), (98, .ireturn, 99, [0]), (99, .aload_n 0, 100, []), (100, .getfield 19, 103, [1, 6, 1, 0, 271, 5, 1]), (103, .iload_n 1, 104, []), (104, .invokevirtual 104, 107, [10, 59, 2, 0, 544, 5]), (107, .ireturn, 108, [0]), (108, .aload_n 0, 109, []), (109, .getfield 19, 112, [1, 6, 1, 0, 271, 5, 1]), (112, .iload_n 1, 113, []), (113, .invokevirtual 107, 116, [10, 60, 2, 0, 548, 5]), (116, .ireturn, 117, [0]), (117, .aload_n 0, 118, []), (118, .getfield 19, 121, [1, 6, 1, 0, 271, 5, 1]), (121, .iload_n 1, 122, []), (122, .invokevirtual 110, 125, [10, 61, 2, 0, 552, 5]), (125, .ifCond .eq 7, 128, [132]), (128, .iconst 1, 129, []), (129, .goto 4, 132, [133]), (132, .iconst 0, 133, []), (133, .ireturn, 134, [0]), (134, .aload_n 0, 135, []), (135, .getfield 19, 138, [1, 6, 1, 0, 271, 5, 1]), (138, .iload_n 1, 139, []), (139, .invokevirtual 113, 142, [10, 62, 2, 0, 556, 5]), (142, .ireturn, 143, [0]), (143, .aload_n 0, 144, []), (144, .getfield 19, 147, [1, 6, 1, 0, 271, 5, 1]), (147, .iload_n 1, 148, []), (148, .invokevirtual 116, 151, [10, 64, 2, 0, 560, 5]), (151, .ireturn, 152, [0]), (152, .aload_n 0, 153, []), (153, .getfield 19, 156, [1, 6, 1, 0, 271, 5, 1]), (156, .iload_n 1, 157, []), (157, .invokevirtual 119, 160, [10, 65, 2, 0, 568, 5]), (160, .ireturn, 161, [0]), (161, .aload_n 0, 162, []), (162, .getfield 19, 165, [1, 6, 1, 0, 271, 5, 1]), (165, .iload_n 1, 166, []), (166, .invokevirtual 122, 169, [10, 57, 2, 0, 573, 5]), (169, .ireturn, 170, [0]), (170, .aload_n 0, 171, []), (171, .getfield 19, 174, [1, 6, 1, 0, 271, 5, 1]), (174, .iload_n 1, 175, []), (175, .invokevirtual 125, 178, [10, 58, 2, 0, 577, 5]), (178, .ireturn, 179, [0]), (179, .bipush (-102), 181, []), (181, .ireturn, 182, [0])]
/-- 100: QW.as -/
def code_100 : List Row := [(0, .aload_n 0, 1, []), (1, .getfield 19, 4, [1, 6, 1, 0, 271, 5, 1]), (4, .iload_n 1, 5, []), (5, .invokevirtual 91, 8, [10, 52, 2, 0, 531, 5]), (8, .ifCond .ne 6, 11, [14]), (11, .bipush (-101), 13, []), (13, .ireturn, 14, [0]), (14, .iload_n 2, 15, []), (15, .invokestatic 128, 18, [11, 126, 1, 0, 585]), (18, .ifCond .ne 6, 21, [24]), (21, .bipush (-102), 23, []), (23, .ireturn, 24, [0]), (24, .aload_n 0, 25, []), (25, .getfield 19, 28, [1, 6, 1, 0, 271, 5, 1]), (28, .iload_n 1, 29, []), (29, .invokevirtual 95, 32, [10, 54, 2, 0, 532, 5]), (32, .iload_n 2, 33, []), (33, .invokestatic 131, 36, [11, 127, 2, 0, 588]), (36, .ifCond .eq 7, 39, [43]), (39, .iload_n 1, 40, []), (40, .goto 4, 43, [44]), (43, .iconst (-1), 44, []), (44, .ireturn, 45, [0])]
/-- 101: QW.anger -/
def code_101 : List Row := [(0, .aload_n 0, 1, []), (1, .getfield 19, 4, [1, 6, 1, 0, 271, 5, 1]), (4, .iload_n 1, 5, []), (5, .iload_n 2, 6, []), (6, .invokevirtual 135, 9, [10, 53, 3, 0, 595, 5]), (9, .ifCond .eq 15, 12, [24]), (12, .aload_n 0, 13, []), (13, .getfield 19, 16, [1, 6, 1, 0, 271, 5, 1]), (16, .iload_n 1, 17, []), (17, .iload_n 2, 18, []), (18, .invokevirtual 138, 21, [10, 66, 3, 0, 596, 5]), (21, .goto 5, 24, [26]), (24, .bipush (-101), 26, []), (26, .ireturn, 27, [0])]
/-- 102: QW.line -/
def code_102 : List Row := [(0, .aload_n 0, 1, []), (1, .getfield 19, 4, [1, 6, 1, 0, 271, 5, 1]), (4, .iload_n 1, 5, []), (5, .invokevirtual 91, 8, [10, 52, 2, 0, 531, 5]), (8, .ifCond .ne 6, 11, [14]), (11, .bipush (-101), 13, []), (13, .ireturn, 14, [0]), (14, .iload_n 2, 15, []), (15, .ifCond .lt 9, 18, [24]), (18, .iload_n 2, 19, []), (19, .bipush 6, 21, []), (21, .if_icmp .lt 6, 24, [27]), (24, .bipush (-102), 26, []), (26, .ireturn, 27, [0]), (27, .aload_n 0, 28, []), (28, .getfield 19, 31, [1, 6, 1, 0, 271, 5, 1]), (31, .iload_n 1, 32, []), (32, .iload_n 2, 33, []), (33, .invokevirtual 142, 36, [10, 63, 3, 0, 604, 5]), (36, .ireturn, 37, [0])]
/-- 103: QW.wall -/
def code_103 : List Row := [(0, .aload_n 0, 1, []), (1, .getfield 19, 4, [1, 6, 1, 0, 271, 5, 1]), (4, .iload_n 1, 5, []), (5, .iload_n 2, 6, []), (6, .invokevirtual 135, 9, [10, 53, 3, 0, 595, 5]), (9, .ifCond .eq 15, 12, [24]), (12, .aload_n 0, 13, []), (13, .getfield 19, 16, [1, 6, 1, 0, 271, 5, 1]), (16, .iload_n 1, 17, []), (17, .iload_n 2, 18, []), (18, .invokevirtual 145, 21, [10, 67, 3, 0, 609, 5]), (21, .goto 5, 24, [26]), (24, .bipush (-101), 26, []), (26, .ireturn, 27, [0])]
/-- 104: QW.quarrel -/
def code_104 : List Row := [(0, .aload_n 0, 1, []), (1, .getfield 19, 4, [1, 6, 1, 0, 271, 5, 1]), (4, .iload_n 1, 5, []), (5, .iload_n 2, 6, []), (6, .invokevirtual 135, 9, [10, 53, 3, 0, 595, 5]), (9, .ifCond .ne 6, 12, [15]), (12, .bipush (-101), 14, []), (14, .ireturn, 15, [0]), (15, .iload_n 3, 16, []), (16, .iconst 1, 17, []), (17, .if_icmp .lt 9, 20, [26]), (20, .iload_n 3, 21, []), (21, .bipush 9, 23, []), (23, .if_icmp .le 6, 26, [29]), (26, .bipush (-102), 28, []), (28, .ireturn, 29, [0]), (29, .aload_n 0, 30, []), (30, .getfield 19, 33, [1, 6, 1, 0, 271, 5, 1]), (33, .iload_n 1, 34, []), (34, .iload_n 2, 35, []), (35, .iload_n 3, 36, []), (36, .invokevirtual 148, 39, [10, 79, 4, 0, 617, 5]), (39, .aload_n 0, 40, []), (40, .getfield 19, 43, [1, 6, 1, 0, 271, 5, 1]), (43, .dup, 44, []), (44, .getfield 152, 47, [0, 5, 10, 1, 8]), (47, .iconst 1, 48, []), (48, .iadd, 49, []), (49, .putfield 152, 52, [0, 5, 10, 1, 8]), (52, .aload_n 0, 53, []), (53, .getfield 19, 56, [1, 6, 1, 0, 271, 5, 1]), (56, .iload_n 1, 57, []), (57, .iload_n 2, 58, []), (58, .invokevirtual 138, 61, [10, 66, 3, 0, 596, 5]), (61, .ireturn, 62, [0])]
/-- 105: QW.peace -/
def code_105 : List Row := [(0, .aload_n 0, 1, []), (1, .getfield 19, 4, [1, 6, 1, 0, 271, 5, 1]), (4, .iload_n 1, 5, []), (5, .iload_n 2, 6, []), (6, .invokevirtual 135, 9, [10, 53, 3, 0, 595, 5]), (9, .ifCond .ne 6, 12, [15]), (12, .bipush (-101), 14, []), (14, .ireturn, 15, [0]), (15, .aload_n 0, 16, []), (16, .getfield 19, 19, [1, 6, 1, 0, 271, 5, 1]), (19, .iload_n 1, 20, []), (20, .iload_n 2, 21, []), (21, .invokevirtual 138, 24, [10, 66, 3, 0, 596, 5]), (24, .aload_n 0, 25, []), (25, .getfield 19, 28, [1, 6, 1, 0, 271, 5, 1]), (28, .iload_n 2, 29, []), (29, .iload_n 1, 30, []), (30, .invokevirtual 138, 33, [10, 66, 3, 0, 596, 5]), (33, .iadd, 34, []), (34, .istore_n 3, 35, []), (35, .iload_n 3, 36, []), (36, .ifCond .ne 6, 39, [42]), (39, .bipush (-103), 41, []), (41, .ireturn, 42, [0]), (42, .aload_n 0, 43, []), (43, .getfield 19, 46, [1, 6, 1, 0, 271, 5, 1]), (46, .iload_n 1, 47, []), (47, .iload_n 2, 48, []), (48, .invokevirtual 155, 51, [10, 81, 3, 0, 622, 5]), (51, .aload_n 0, 52, []), (52, .getfield 19, 55, [1, 6, 1, 0, 271, 5, 1]), (55, .dup, 56, []), (56, .getfield 159, 59, [0, 5, 11, 1, 9]), (59, .iconst 1, 60, []), (60, .iadd, 61, []), (61, .putfield 159, 64, [0, 5, 11, 1, 9]), (64, .iload_n 3, 65, []), (65, .ireturn, 66, [0])]
/-- 106: QW.build -/
def code_106 : List Row := [(0, .aload_n 0, 1, []), (1, .getfield 19, 4, [1, 6, 1, 0, 271, 5, 1]), (4, .iload_n 1, 5, []), (5, .iload_n 2, 6, []), (6, .invokevirtual 135, 9, [10, 53, 3, 0, 595, 5]), (9, .ifCond .ne 6, 12, [15]), (12, .bipush (-101), 14, []), (14, .ireturn, 15, [0]), (15, .aload_n 0, 16, []), (16, .getfield 19, 19, [1, 6, 1, 0, 271, 5, 1]), (19, .iload_n 1, 20, []), (20, .iload_n 2, 21, []), (21, .invokevirtual 145, 24, [10, 67, 3, 0, 609, 5]), (24, .istore 4, 26, []), (26, .aload_n 0, 27, []), (27, .getfield 19, 30, [1, 6, 1, 0, 271, 5, 1]), (30, .iload_n 1, 31, []), (31, .iload_n 2, 32, []), (32, .iload_n 3, 33, []), (33, .ifCond .eq 7, 36, [40]), (36, .iconst 1, 37, []), (37, .goto 4, 40, [41]), (40, .iconst 0, 41, []), (41, .invokevirtual 162, 44, [10, 82, 4, 0, 630, 5]), (44, .iload 4, 46, []), (46, .ireturn, 47, [0])]
/-- 107: QW.tenant -/
def code_107 : List Row := [(0, .aload_n 0, 1, []), (1, .getfield 19, 4, [1, 6, 1, 0, 271, 5, 1]), (4, .iload_n 1, 5, []), (5, .invokevirtual 91, 8, [10, 52, 2, 0, 531, 5]), (8, .ifCond .ne 6, 11, [14]), (11, .bipush (-101), 13, []), (13, .ireturn, 14, [0]), (14, .iload_n 2, 15, []), (15, .invokestatic 128, 18, [11, 126, 1, 0, 585]), (18, .ifCond .ne 6, 21, [24]), (21, .bipush (-102), 23, []), (23, .ireturn, 24, [0]), (24, .aload_n 0, 25, []), (25, .getfield 19, 28, [1, 6, 1, 0, 271, 5, 1]), (28, .iload_n 1, 29, []), (29, .invokevirtual 95, 32, [10, 54, 2, 0, 532, 5]), (32, .istore_n 3, 33, []), (33, .aload_n 0, 34, []), (34, .getfield 19, 37, [1, 6, 1, 0, 271, 5, 1]), (37, .iload_n 1, 38, []), (38, .iload_n 2, 39, []), (39, .invokevirtual 165, 42, [10, 83, 3, 0, 638, 5]), (42, .iload_n 3, 43, []), (43, .ireturn, 44, [0])]
/-- 108: QW.court -/
def code_108 : List Row := [(0, .aload_n 0, 1, []), (1, .getfield 19, 4, [1, 6, 1, 0, 271, 5, 1]), (4, .invokevirtual 168, 7, [10, 78, 1, 0, 646, 5]), (7, .istore_n 1, 8, []), (8, .iload_n 1, 9, []), (9, .iconst (-1), 10, []), (10, .if_icmp .ne 8, 13, [18]), (13, .bipush (-103), 15, []), (15, .goto 11, 18, [26]), (18, .aload_n 0, 19, []), (19, .getfield 19, 22, [1, 6, 1, 0, 271, 5, 1]), (22, .iload_n 1, 23, []), (23, .invokevirtual 171, 26, [10, 84, 2, 0, 651, 5]), (26, .ireturn, 27, [0])]
/-- 109: QW.morning -/
def code_109 : List Row := [(0, .aload_n 0, 1, []), (1, .getfield 19, 4, [1, 6, 1, 0, 271, 5, 1]), (4, .invokevirtual 174, 7, [10, 50, 1, 0, 663, 5]), (7, .ifCond .ne 6, 10, [13]), (10, .bipush (-103), 12, []), (12, .ireturn, 13, [0]), (13, .aload_n 0, 14, []), (14, .getfield 19, 17, [1, 6, 1, 0, 271, 5, 1]), (17, .getfield 177, 20, [0, 5, 8, 1, 10]), (20, .sipush 999, 23, []), (23, .if_icmp .lt 6, 26, [29]), (26, .bipush (-104), 28, []), (28, .ireturn, 29, [0]), (29, .aload_n 0, 30, []), (30, .getfield 19, 33, [1, 6, 1, 0, 271, 5, 1]), (33, .invokevirtual 180, 36, [10, 85, 1, 0, 667, 5]), (36, .ireturn, 37, [0])]
/-- 110: QW.settles -/
def code_110 : List Row := [(0, .iload_n 1, 1, []), (1, .ifCond .eq 18, 4, [19]), (4, .iload_n 1, 5, []), (5, .bipush 10, 7, []), (7, .if_icmp .lt 9, 10, [16]), (10, .iload_n 1, 11, []), (11, .bipush 15, 13, []), (13, .if_icmp .le 6, 16, [19]), (16, .bipush (-102), 18, []), (18, .ireturn, 19, [0]), (19, .aload_n 0, 20, []), (20, .getfield 19, 23, [1, 6, 1, 0, 271, 5, 1]), (23, .invokevirtual 174, 26, [10, 50, 1, 0, 663, 5]), (26, .ifCond .ne 6, 29, [32]), (29, .bipush (-103), 31, []), (31, .ireturn, 32, [0]), (32, .aload_n 0, 33, []), (33, .getfield 39, 36, [1, 6, 5, 0, 275, 1, 1]), (36, .aload_n 0, 37, []), (37, .getfield 19, 40, [1, 6, 1, 0, 271, 5, 1]), (40, .invokevirtual 183, 43, [10, 6, 2, 0, 687, 1]), (43, .aload_n 0, 44, []), (44, .getfield 39, 47, [1, 6, 5, 0, 275, 1, 1]), (47, .iload_n 1, 48, []), (48, .invokevirtual 187, 51, [10, 7, 2, 0, 699, 1]), (51, .ireturn, 52, [0])]
/-- 111: QW.calm -/
def code_111 : List Row := [(0, .iload_n 1, 1, []), (1, .iconst 1, 2, []), (2, .if_icmp .lt 16, 5, [18]), (5, .iload_n 1, 6, []), (6, .iconst 1, 7, []), (7, .aload_n 0, 8, []), (8, .getfield 19, 11, [1, 6, 1, 0, 271, 5, 1]), (11, .invokevirtual 88, 14, [10, 51, 1, 0, 523, 5]), (14, .ishl, 15, []), (15, .if_icmp .lt 6, 18, [21]), (18, .bipush (-102), 20, []), (20, .ireturn, 21, [0]), (21, .iload_n 2, 22, []), (22, .invokestatic 190, 25, [11, 128, 1, 0, 709]), (25, .ifCond .eq 10, 28, [35]), (28, .iload_n 3, 29, []), (29, .invokestatic 193, 32, [11, 129, 1, 0, 712]), (32, .ifCond .ne 6, 35, [38]), (35, .bipush (-102), 37, []), (37, .ireturn, 38, [0]), (38, .aload_n 0, 39, []), (39, .getfield 196, 42, [0, 6, 10, 0, 280]), (42, .bipush 20, 44, []), (44, .if_icmp .lt 6, 47, [50]), (47, .bipush (-103), 49, []), (49, .ireturn, 50, [0]), (50, .aload_n 0, 51, []), (51, .dup, 52, []), (52, .getfield 196, 55, [0, 6, 10, 0, 280]), (55, .iconst 1, 56, []), (56, .iadd, 57, []), (57, .putfield 196, 60, [0, 6, 10, 0, 280]), (60, .aload_n 0, 61, []), (61, .getfield 46, 64, [1, 6, 6, 0, 276, 3, 1]), (64, .aload_n 0, 65, []), (65, .getfield 19, 68, [1, 6, 1, 0, 271, 5, 1]), (68, .iload_n 1, 69, []), (69, .iload_n 2, 70, []), (70, .invokevirtual 199, 73, [10, 33, 4, 0, 715, 3]), (73, .aload_n 0, 74, []), (74, .getfield 46, 77, [1, 6, 6, 0, 276, 3, 1]), (77, .iload_n 3, 78, []), (78, .invokevirtual 203, 81, [10, 41, 2, 0, 749, 3]), (81, .ireturn, 82, [0])]
/-- 112: QW.arbiter -/
def code_112 : List Row := [(0, .iload_n 1, 1, []), (1, .iconst 1, 2, []), (2, .if_icmp .lt 15, 5, [17]), (5, .iload_n 1, 6, []), (6, .iconst 3, 7, []), (7, .if_icmp .gt 10, 10, [17]), (10, .iload_n 2, 11, []), (11, .invokestatic 193, 14, [11, 129, 1, 0, 712]), (14, .ifCond .ne 6, 17, [20]), (17, .bipush (-102), 19, []), (19, .ireturn, 20, [0]), (20, .aload_n 0, 21, []), (21, .getfield 19, 24, [1, 6, 1, 0, 271, 5, 1]), (24, .invokevirtual 174, 27, [10, 50, 1, 0, 663, 5]), (27, .ifCond .eq 12, 30, [39]), (30, .aload_n 0, 31, []), (31, .getfield 206, 34, [0, 6, 11, 0, 281]), (34, .bipush 12, 36, []), (36, .if_icmp .lt 6, 39, [42]), (39, .bipush (-103), 41, []), (41, .ireturn, 42, [0]), (42, .aload_n 0, 43, []), (43, .dup, 44, []), (44, .getfield 206, 47, [0, 6, 11, 0, 281]), (47, .iconst 1, 48, []), (48, .iadd, 49, []), (49, .putfield 206, 52, [0, 6, 11, 0, 281]), (52, .aload_n 0, 53, []), (53, .getfield 46, 56, [1, 6, 6, 0, 276, 3, 1]), (56, .aload_n 0, 57, []), (57, .getfield 19, 60, [1, 6, 1, 0, 271, 5, 1]), (60, .iload_n 1, 61, []), (61, .invokevirtual 209, 64, [10, 36, 3, 0, 762, 3]), (64, .aload_n 0, 65, []), (65, .getfield 46, 68, [1, 6, 6, 0, 276, 3, 1]), (68, .iload_n 2, 69, []), (69, .invokevirtual 203, 72, [10, 41, 2, 0, 749, 3]), (72, .ireturn, 73, [0])]
/-- 113: QW.grudge -/
def code_113 : List Row := [(0, .aload_n 0, 1, []), (1, .getfield 19, 4, [1, 6, 1, 0, 271, 5, 1]), (4, .iload_n 1, 5, []), (5, .iload_n 2, 6, []), (6, .invokevirtual 135, 9, [10, 53, 3, 0, 595, 5]), (9, .ifCond .ne 6, 12, [15]), (12, .bipush (-101), 14, []), (14, .ireturn, 15, [0]), (15, .iload_n 3, 16, []), (16, .invokestatic 190, 19, [11, 128, 1, 0, 709]), (19, .ifCond .ne 6, 22, [25]), (22, .bipush (-102), 24, []), (24, .ireturn, 25, [0]), (25, .aload_n 0, 26, []), (26, .getfield 39, 29, [1, 6, 5, 0, 275, 1, 1]), (29, .aload_n 0, 30, []), (30, .getfield 19, 33, [1, 6, 1, 0, 271, 5, 1]), (33, .iload_n 1, 34, []), (34, .iload_n 2, 35, []), (35, .iload_n 3, 36, []), (36, .invokevirtual 213, 39, [10, 8, 5, 0, 786, 1]), (39, .ireturn, 40, [0])]
/-- 114: QW.walls -/
def code_114 : List Row := [(0, .iload_n 1, 1, []), (1, .invokestatic 190, 4, [11, 128, 1, 0, 709]), (4, .ifCond .eq 12, 7, [16]), (7, .iload_n 2, 8, []), (8, .ifCond .lt 8, 11, [16]), (11, .iload_n 2, 12, []), (12, .iconst 1, 13, []), (13, .if_icmp .le 6, 16, [19]), (16, .bipush (-102), 18, []), (18, .ireturn, 19, [0]), (19, .aload_n 0, 20, []), (20, .getfield 19, 23, [1, 6, 1, 0, 271, 5, 1]), (23, .invokevirtual 174, 26, [10, 50, 1, 0, 663, 5]), (26, .ifCond .ne 6, 29, [32]), (29, .bipush (-103), 31, []), (31, .ireturn, 32, [0]), (32, .aload_n 0, 33, []), (33, .getfield 39, 36, [1, 6, 5, 0, 275, 1, 1]), (36, .aload_n 0, 37, []), (37, .getfield 19, 40, [1, 6, 1, 0, 271, 5, 1]), (40, .iload_n 1, 41, []), (41, .invokevirtual 217, 44, [10, 9, 3, 0, 796, 1]), (44, .aload_n 0, 45, []), (45, .getfield 39, 48, [1, 6, 5, 0, 275, 1, 1]), (48, .iload_n 2, 49, []), (49, .invokevirtual 220, 52, [10, 11, 2, 0, 813, 1]), (52, .ireturn, 53, [0])]
/-- 115: QW.see -/
def code_115 : List Row := [(0, .aload_n 0, 1, []), (1, .getfield 19, 4, [1, 6, 1, 0, 271, 5, 1]), (4, .iload_n 1, 5, []), (5, .invokevirtual 91, 8, [10, 52, 2, 0, 531, 5]), (8, .ifCond .ne 6, 11, [14]), (11, .bipush (-101), 13, []), (13, .ireturn, 14, [0]), (14, .iload_n 2, 15, []), (15, .iconst (-1), 16, []), (16, .if_icmp .eq 18, 19, [34]), (19, .aload_n 0, 20, []), (20, .getfield 19, 23, [1, 6, 1, 0, 271, 5, 1]), (23, .iload_n 1, 24, []), (24, .iload_n 2, 25, []), (25, .invokevirtual 135, 28, [10, 53, 3, 0, 595, 5]), (28, .ifCond .ne 6, 31, [34]), (31, .bipush (-101), 33, []), (33, .ireturn, 34, [0]), (34, .iload_n 3, 35, []), (35, .invokestatic 190, 38, [11, 128, 1, 0, 709]), (38, .ifCond .ne 6, 41, [44]), (41, .bipush (-102), 43, []), (43, .ireturn, 44, [0]), (44, .aload_n 0, 45, []), (45, .getfield 29, 48, [1, 6, 3, 0, 273, 4, 1]), (48, .invokevirtual 223, 51, [10, 42, 1, 0, 822, 4]), (51, .ifCond .eq 6, 54, [57]), (54, .bipush (-104), 56, []), (56, .ireturn, 57, [0]), (57, .aload_n 0, 58, []), (58, .getfield 29, 61, [1, 6, 3, 0, 273, 4, 1]), (61, .iload_n 1, 62, []), (62, .iload_n 2, 63, []), (63, .iload_n 3, 64, []), (64, .invokevirtual 224, 67, [10, 44, 4, 0, 826, 4]), (67, .ireturn, 68, [0])]
/-- 116: QW.forget -/
def code_116 : List Row := [(0, .aload_n 0, 1, []), (1, .getfield 29, 4, [1, 6, 3, 0, 273, 4, 1]), (4, .invokevirtual 79, 7, [10, 45, 1, 0, 519, 4]), (7, .ireturn, 8, [0])]
/-- 117: QW.span -/
def code_117 : List Row := [(0, .aload_n 0, 1, []), (1, .getfield 19, 4, [1, 6, 1, 0, 271, 5, 1]), (4, .iload_n 1, 5, []), (5, .iload_n 2, 6, []), (6, .invokevirtual 135, 9, [10, 53, 3, 0, 595, 5]), (9, .ifCond .ne 6, 12, [15]), (12, .bipush (-101), 14, []), (14, .ireturn, 15, [0]), (15, .iload_n 3, 16, []), (16, .ifCond .lt 8, 19, [24]), (19, .iload_n 3, 20, []), (20, .iconst 3, 21, []), (21, .if_icmp .le 6, 24, [27]), (24, .bipush (-102), 26, []), (26, .ireturn, 27, [0]), (27, .aload_n 0, 28, []), (28, .getfield 53, 31, [1, 6, 7, 0, 277, 0, 1]), (31, .aload_n 0, 32, []), (32, .getfield 19, 35, [1, 6, 1, 0, 271, 5, 1]), (35, .aload_n 0, 36, []), (36, .getfield 29, 39, [1, 6, 3, 0, 273, 4, 1]), (39, .iload_n 1, 40, []), (40, .iload_n 2, 41, []), (41, .invokevirtual 227, 44, [10, 0, 5, 0, 839, 0]), (44, .aload_n 0, 45, []), (45, .getfield 53, 48, [1, 6, 7, 0, 277, 0, 1]), (48, .iload_n 3, 49, []), (49, .invokevirtual 231, 52, [10, 3, 2, 0, 861, 0]), (52, .ireturn, 53, [0])]
/-- 118: QW.summers -/
def code_118 : List Row := [(0, .iload_n 1, 1, []), (1, .iconst 1, 2, []), (2, .if_icmp .lt 13, 5, [15]), (5, .iload_n 1, 6, []), (6, .bipush 40, 8, []), (8, .if_icmp .gt 7, 11, [15]), (11, .iload_n 2, 12, []), (12, .ifCond .ge 6, 15, [18]), (15, .bipush (-102), 17, []), (17, .ireturn, 18, [0]), (18, .iload_n 3, 19, []), (19, .ifCond .lt 8, 22, [27]), (22, .iload_n 3, 23, []), (23, .iconst 2, 24, []), (24, .if_icmp .le 6, 27, [30]), (27, .bipush (-102), 29, []), (29, .ireturn, 30, [0]), (30, .aload_n 0, 31, []), (31, .getfield 19, 34, [1, 6, 1, 0, 271, 5, 1]), (34, .invokevirtual 174, 37, [10, 50, 1, 0, 663, 5]), (37, .ifCond .ne 6, 40, [43]), (40, .bipush (-103), 42, []), (42, .ireturn, 43, [0]), (43, .aload_n 0, 44, []), (44, .getfield 39, 47, [1, 6, 5, 0, 275, 1, 1]), (47, .aload_n 0, 48, []), (48, .getfield 19, 51, [1, 6, 1, 0, 271, 5, 1]), (51, .iload_n 1, 52, []), (52, .iload_n 2, 53, []), (53, .invokevirtual 232, 56, [10, 12, 4, 0, 877, 1]), (56, .aload_n 0, 57, []), (57, .getfield 39, 60, [1, 6, 5, 0, 275, 1, 1]), (60, .iload_n 3, 61, []), (61, .invokevirtual 235, 64, [10, 14, 2, 0, 891, 1]), (64, .ireturn, 65, [0])]
/-- 119: QW.image -/
def code_119 : List Row := [(0, .aload_n 0, 1, []), (1, .getfield 19, 4, [1, 6, 1, 0, 271, 5, 1]), (4, .invokevirtual 174, 7, [10, 50, 1, 0, 663, 5]), (7, .ifCond .ne 6, 10, [13]), (10, .bipush (-103), 12, []), (12, .ireturn, 13, [0]), (13, .aload_n 0, 14, []), (14, .getfield 23, 17, [1, 6, 2, 0, 272, 5, 2]), (17, .aload_n 0, 18, []), (18, .getfield 19, 21, [1, 6, 1, 0, 271, 5, 1]), (21, .invokevirtual 238, 24, [10, 49, 2, 0, 899, 5]), (24, .aload_n 0, 25, []), (25, .getfield 33, 28, [1, 6, 4, 0, 274, 4, 2]), (28, .aload_n 0, 29, []), (29, .getfield 29, 32, [1, 6, 3, 0, 273, 4, 1]), (32, .invokevirtual 241, 35, [10, 46, 2, 0, 900, 4]), (35, .aload_n 0, 36, []), (36, .iconst 1, 37, []), (37, .putfield 80, 40, [3, 6, 8, 0, 278]), (40, .aload_n 0, 41, []), (41, .getfield 19, 44, [1, 6, 1, 0, 271, 5, 1]), (44, .getfield 177, 47, [0, 5, 8, 1, 10]), (47, .ireturn, 48, [0])]
/-- 120: QW.restore -/
def code_120 : List Row := [(0, .aload_n 0, 1, []), (1, .getfield 80, 4, [0, 6, 8, 0, 278]), (4, .ifCond .ne 6, 7, [10]), (7, .bipush (-103), 9, []), (9, .ireturn, 10, [0]), (10, .aload_n 0, 11, []), (11, .getfield 19, 14, [1, 6, 1, 0, 271, 5, 1]), (14, .aload_n 0, 15, []), (15, .getfield 23, 18, [1, 6, 2, 0, 272, 5, 2]), (18, .invokevirtual 238, 21, [10, 49, 2, 0, 899, 5]), (21, .aload_n 0, 22, []), (22, .getfield 29, 25, [1, 6, 3, 0, 273, 4, 1]), (25, .aload_n 0, 26, []), (26, .getfield 33, 29, [1, 6, 4, 0, 274, 4, 2]), (29, .invokevirtual 241, 32, [10, 46, 2, 0, 900, 4]), (32, .aload_n 0, 33, []), (33, .getfield 19, 36, [1, 6, 1, 0, 271, 5, 1]), (36, .getfield 177, 39, [0, 5, 8, 1, 10]), (39, .ireturn, 40, [0])]
/-- 121: QW.count -/
def code_121 : List Row := [(0, .iload_n 1, 1, []), (1, .tableswitch 246 0 19 #[95, 103, 111, 119, 127, 135, 143, 151, 159, 167, 175, 183, 191, 199, 207, 215, 223, 231, 236, 241], 96, [247, 96, 104, 112, 120, 128, 136, 144, 152, 160, 168, 176, 184, 192, 200, 208, 216, 224, 232, 237, 242]), (96, .aload_n 0, 97, []), (97, .getfield 19, 100, [1, 6, 1, 0, 271, 5, 1]), (100, .invokevirtual 88, 103, [10, 51, 1, 0, 523, 5]), (103, .ireturn, 104, [0]), (104, .aload_n 0, 105, []), (105, .getfield 19, 108, [1, 6, 1, 0, 271, 5, 1]), (108, .invokevirtual 244, 111, [10, 68, 1, 0, 913, 5]), (111, .ireturn, 112, [0]), (112, .aload_n 0, 113, []), (113, .getfield 19, 116, [1, 6, 1, 0, 271, 5, 1]), (116, .invokevirtual 247, 119, [10, 69, 1, 0, 917, 5]), (119, .ireturn, 120, [0]), (120, .aload_n 0, 121, []), (121, .getfield 19, 124, [1, 6, 1, 0, 271, 5, 1]), (124, .invokevirtual 250, 127, [10, 70, 1, 0, 922, 5]), (127, .ireturn, 128, [0]), (128, .aload_n 0, 129, []), (129, .getfield 19, 132, [1, 6, 1, 0, 271, 5, 1]), (132, .invokevirtual 253, 135, [10, 71, 1, 0, 923, 5]), (135, .ireturn, 136, [0]), (136, .aload_n 0, 137, []), (137, .getfield 19, 140, [1, 6, 1, 0, 271, 5, 1]), (140, .invokevirtual 256, 143, [10, 72, 1, 0, 927, 5]), (143, .ireturn, 144, [0]), (144, .aload_n 0, 145, []), (145, .getfield 19, 148, [1, 6, 1, 0, 271, 5, 1]), (148, .invokevirtual 259, 151, [10, 73, 1, 0, 928, 5]), (151, .ireturn, 152, [0]), (152, .aload_n 0, 153, []), (153, .getfield 19, 156, [1, 6, 1, 0, 271, 5, 1]), (156, .invokevirtual 262, 159, [10, 74, 1, 0, 929, 5]), (159, .ireturn, 160, [0]), (160, .aload_n 0, 161, []), (161, .getfield 19, 164, [1, 6, 1, 0, 271, 5, 1]), (164, .invokevirtual 265, 167, [10, 75, 1, 0, 934, 5]), (167, .ireturn, 168, [0]), (168, .aload_n 0, 169, []), (169, .getfield 19, 172, [1, 6, 1, 0, 271, 5, 1]), (172, .getfield 177, 175, [0, 5, 8, 1, 10]), (175, .ireturn, 176, [0]), (176, .aload_n 0, 177, []), (177, .getfield 19, 180, [1, 6, 1, 0, 271, 5, 1]), (180, .getfield 268, 183, [0, 5, 9, 1, 11]), (183, .ireturn, 184, [0]), (184, .aload_n 0, 185, []), (185, .getfield 19, 188, [1, 6, 1, 0, 271, 5, 1]), (188, .getfield 152, 191, [0, 5, 10, 1, 8]), (191, .ireturn, 192, [0]), (192, .aload_n 0, 193, []), (193, .getfield 19, 196, [1, 6, 1, 0, 271, 5, 1]), (196, .getfield 159, 199, [0, 5, 11, 1, 9]), (199, .ireturn, 200, [0]), (200, .aload_n 0, 201, []), (201, .getfield 19, 204, [1, 6, 1, 0, 271, 5, 1]), (204, .invokevirtual 271, 207, [10, 76, 1, 0, 940, 5]), (207, .ireturn, 208, [0]), (208, .aload_n 0, 209, []), (209, .getfield 19, 212, [1, 6, 1, 0, 271, 5, 1]), (212, .invokevirtual 274, 215, [10, 77, 1, 0, 944, 5]), (215, .ireturn, 216, [0]), (216, .aload_n 0, 217, []), (217, .getfield 29, 220, [1, 6, 3, 0, 273, 4, 1]), (220, .invokevirtual 277, 223, [10, 43, 1, 0, 948, 4]), (223, .ireturn, 224, [0]), (224, .aload_n 0, 225, []), (225, .getfield 12, 228, [1, 6, 0, 0, 270, 2, 1]), (228, .invokevirtual 278, 231, [10, 16, 1, 0, 952, 2]), (231, .ireturn, 232, [0]), (232, .aload_n 0, 233, []), (233, .getfield 84, 236, [0, 6, 9, 0, 279]), (236, .ireturn, 237, [0]), (237, .aload_n 0, 238, []), (238, .getfield 196, 241, [0, 6, 10, 0, 280]), (241, .ireturn, 242, [0]), (242, .aload_n 0, 243, []), (243, .getfield 206, 246, [0, 6, 11, 0, 281]), (246, .ireturn, 247, [0]), (247, .bipush (-102), 249, []), (249, .ireturn, 250, [0])]
/-- 122: QW.digest -/
def code_122 : List Row := [(0, .ldc2_w 279, 3, [1093, 960]), (3, .lstore_n 1, 4, []), (4, .iconst 0, 5, []), (5, .istore_n 3, 6, []), (6, .iload_n 3, 7, []), (7, .aload_n 0, 8, []), (8, .getfield 19, 11, [1, 6, 1, 0, 271, 5, 1]), (11, .invokevirtual 88, 14, [10, 51, 1, 0, 523, 5]), (14, .if_icmp .ge 16, 17, [30]), (17, .aload_n 0, 18, []), (18, .lload_n 1, 19, []), (19, .iload_n 3, 20, []), (20, .invokevirtual 281, 23, [10, 123, 3, 0, 961, 6]), (23, .lstore_n 1, 24, []), (24, .iinc 3 1, 27, []), (27, .goto (-21), 30, [6]), (30, .aload_n 0, 31, []), (31, .getfield 19, 34, [1, 6, 1, 0, 271, 5, 1]), (34, .invokevirtual 174, 37, [10, 50, 1, 0, 663, 5]), (37, .ifCond .eq 9, 40, [46]), (40, .aload_n 0, 41, []), (41, .lload_n 1, 42, []), (42, .invokevirtual 285, 45, [10, 124, 2, 0, 970, 6]), (45, .lstore_n 1, 46, []), (46, .iconst 0, 47, []), (47, .istore_n 3, 48, []), (48, .iload_n 3, 49, []), (49, .aload_n 0, 50, []), (50, .getfield 12, 53, [1, 6, 0, 0, 270, 2, 1]), (53, .invokevirtual 278, 56, [10, 16, 1, 0, 952, 2]), (56, .if_icmp .ge 22, 59, [78]), (59, .lload_n 1, 60, []), (60, .aload_n 0, 61, []), (61, .getfield 12, 64, [1, 6, 0, 0, 270, 2, 1]), (64, .iload_n 3, 65, []), (65, .invokevirtual 289, 68, [10, 30, 2, 0, 974, 2]), (68, .invokestatic 292, 71, [11, 125, 2, 0, 966]), (71, .lstore_n 1, 72, []), (72, .iinc 3 1, 75, []), (75, .goto (-27), 78, [48]), (78, .iconst 0, 79, []), (79, .istore_n 3, 80, []), (80, .iload_n 3, 81, []), (81, .bipush 20, 83, []), (83, .if_icmp .ge 19, 86, [102]), (86, .lload_n 1, 87, []), (87, .aload_n 0, 88, []), (88, .iload_n 3, 89, []), (89, .invokevirtual 295, 92, [10, 121, 2, 0, 975, 6]), (92, .invokestatic 292, 95, [11, 125, 2, 0, 966]), (95, .lstore_n 1, 96, []), (96, .iinc 3 1, 99, []), (99, .goto (-19), 102, [80]), (102, .lload_n 1, 103, []), (103, .lreturn, 104, [])]
/-- 123: QW.mixHouse -/
def code_123 : List Row := [(0, .lload_n 1, 1, []), (1, .lstore 4, 3, []), (3, .iconst 0, 4, []), (4, .istore 6, 6, []), (6, .iload 6, 8, []), (8, .bipush 11, 10, []), (10, .if_icmp .ge 23, 13, [33]), (13, .lload 4, 15, []), (15, .aload_n 0, 16, []), (16, .iload_n 3, 17, []), (17, .iload 6, 19, []), (19, .invokevirtual 298, 22, [10, 99, 3, 0, 965, 6]), (22, .invokestatic 292, 25, [11, 125, 2, 0, 966]), (25, .lstore 4, 27, []), (27, .iinc 6 1, 30, []), (30, .goto (-24), 33, [6]), (33, .iconst 0, 34, []), (34, .istore 6, 36, []), (36, .iload 6, 38, []), (38, .aload_n 0, 39, []), (39, .getfield 19, 42, [1, 6, 1, 0, 271, 5, 1]), (42, .invokevirtual 88, 45, [10, 51, 1, 0, 523, 5]), (45, .if_icmp .ge 49, 48, [94]), (48, .iload 6, 50, []), (50, .iload_n 3, 51, []), (51, .if_icmp .eq 37, 54, [88]), (54, .lload 4, 56, []), (56, .aload_n 0, 57, []), (57, .getfield 19, 60, [1, 6, 1, 0, 271, 5, 1]), (60, .iload_n 3, 61, []), (61, .iload 6, 63, []), (63, .invokevirtual 138, 66, [10, 66, 3, 0, 596, 5]), (66, .invokestatic 292, 69, [11, 125, 2, 0, 966]), (69, .lstore 4, 71, []), (71, .lload 4, 73, []), (73, .aload_n 0, 74, []), (74, .getfield 19, 77, [1, 6, 1, 0, 271, 5, 1]), (77, .iload_n 3, 78, []), (78, .iload 6, 80, []), (80, .invokevirtual 145, 83, [10, 67, 3, 0, 609, 5]), (83, .invokestatic 292, 86, [11, 125, 2, 0, 966]), (86, .lstore 4, 88, []), (88, .iinc 6 1, 91, []), (91, .goto (-55), 94, [36]), (94, .lload 4, 96, []), (96, .lreturn, 97, [])]
/-- 124: QW.mixWouldBe -/
def code_124 : List Row := [(0, .aload_n 0, 1, []), (1, .getfield 39, 4, [1, 6, 5, 0, 275, 1, 1]), (4, .aload_n 0, 5, []), (5, .getfield 19, 8, [1, 6, 1, 0, 271, 5, 1]), (8, .invokevirtual 183, 11, [10, 6, 2, 0, 687, 1]), (11, .lload_n 1, 12, []), (12, .aload_n 0, 13, []), (13, .getfield 39, 16, [1, 6, 5, 0, 275, 1, 1]), (16, .iconst 0, 17, []), (17, .invokevirtual 187, 20, [10, 7, 2, 0, 699, 1]), (20, .invokestatic 292, 23, [11, 125, 2, 0, 966]), (23, .lstore_n 3, 24, []), (24, .bipush 10, 26, []), (26, .istore 5, 28, []), (28, .iload 5, 30, []), (30, .bipush 15, 32, []), (32, .if_icmp .gt 23, 35, [55]), (35, .lload_n 3, 36, []), (36, .aload_n 0, 37, []), (37, .getfield 39, 40, [1, 6, 5, 0, 275, 1, 1]), (40, .iload 5, 42, []), (42, .invokevirtual 187, 45, [10, 7, 2, 0, 699, 1]), (45, .invokestatic 292, 48, [11, 125, 2, 0, 966]), (48, .lstore_n 3, 49, []), (49, .iinc 5 1, 52, []), (52, .goto (-24), 55, [28]), (55, .aload_n 0, 56, []), (56, .getfield 39, 59, [1, 6, 5, 0, 275, 1, 1]), (59, .aload_n 0, 60, []), (60, .getfield 19, 63, [1, 6, 1, 0, 271, 5, 1]), (63, .iconst 1, 64, []), (64, .invokevirtual 217, 67, [10, 9, 3, 0, 796, 1]), (67, .lload_n 3, 68, []), (68, .aload_n 0, 69, []), (69, .getfield 39, 72, [1, 6, 5, 0, 275, 1, 1]), (72, .iconst 0, 73, []), (73, .invokevirtual 220, 76, [10, 11, 2, 0, 813, 1]), (76, .invokestatic 292, 79, [11, 125, 2, 0, 966]), (79, .lstore_n 3, 80, []), (80, .lload_n 3, 81, []), (81, .aload_n 0, 82, []), (82, .getfield 39, 85, [1, 6, 5, 0, 275, 1, 1]), (85, .iconst 1, 86, []), (86, .invokevirtual 220, 89, [10, 11, 2, 0, 813, 1]), (89, .invokestatic 292, 92, [11, 125, 2, 0, 966]), (92, .lstore_n 3, 93, []), (93, .lload_n 3, 94, []), (94, .aload_n 0, 95, []), (95, .getfield 39, 98, [1, 6, 5, 0, 275, 1, 1]), (98, .aload_n 0, 99, []), (99, .getfield 19, 102, [1, 6, 1, 0, 271, 5, 1]), (102, .iconst 0, 103, []), (103, .iconst 1, 104, []), (104, .iconst 2, 105, []), (105, .invokevirtual 213, 108, [10, 8, 5, 0, 786, 1]), (108, .invokestatic 292, 111, [11, 125, 2, 0, 966]), (111, .lstore_n 3, 112, []), (112, .aload_n 0, 113, []), (113, .getfield 53, 116, [1, 6, 7, 0, 277, 0, 1]), (116, .aload_n 0, 117, []), (117, .getfield 19, 120, [1, 6, 1, 0, 271, 5, 1]), (120, .aload_n 0, 121, []), (121, .getfield 29, 124, [1, 6, 3, 0, 273, 4, 1]), (124, .iconst 1, 125, []), (125, .iconst 0, 126, []), (126, .invokevirtual 227, 129, [10, 0, 5, 0, 839, 0]), (129, .iconst 0, 130, []), (130, .istore 5, 132, []), (132, .iload 5, 134, []), (134, .iconst 2, 135, []), (135, .if_icmp .gt 23, 138, [158]), (138, .lload_n 3, 139, []), (139, .aload_n 0, 140, []), (140, .getfield 53, 143, [1, 6, 7, 0, 277, 0, 1]), (143, .iload 5, 145, []), (145, .invokevirtual 231, 148, [10, 3, 2, 0, 861, 0]), (148, .invokestatic 292, 151, [11, 125, 2, 0, 966]), (151, .lstore_n 3, 152, []), (152, .iinc 5 1, 155, []), (155, .goto (-23), 158, [132]), (158, .lload_n 3, 159, []), (159, .lreturn, 160, [])]
/-- 125: QW.mix -/
def code_125 : List Row := [(0, .ldc2_w 301, 3, [31, 969]), (3, .lload_n 0, 4, []), (4, .lmul, 5, []), (5, .iload_n 2, 6, []), (6, .i2l, 7, []), (7, .ladd, 8, []), (8, .lreturn, 9, [])]
/-- 126: QW.isKind -/
def code_126 : List Row := [(0, .iload_n 0, 1, []), (1, .ifCond .lt 12, 4, [13]), (4, .iload_n 0, 5, []), (5, .iconst 5, 6, []), (6, .if_icmp .ge 7, 9, [13]), (9, .iconst 1, 10, []), (10, .goto 4, 13, [14]), (13, .iconst 0, 14, []), (14, .ireturn, 15, [1])]
/-- 127: QW.isSuch -/
def code_127 : List Row := [(0, .iload_n 1, 1, []), (1, .ifCond .eq 18, 4, [19]), (4, .iload_n 1, 5, []), (5, .iload_n 0, 6, []), (6, .if_icmp .eq 13, 9, [19]), (9, .iload_n 1, 10, []), (10, .iconst 1, 11, []), (11, .if_icmp .ne 12, 14, [23]), (14, .iload_n 0, 15, []), (15, .iconst 4, 16, []), (16, .if_icmp .ne 7, 19, [23]), (19, .iconst 1, 20, []), (20, .goto 4, 23, [24]), (23, .iconst 0, 24, []), (24, .ireturn, 25, [1])]
/-- 128: QW.isSoon -/
def code_128 : List Row := [(0, .iload_n 0, 1, []), (1, .ifCond .lt 12, 4, [13]), (4, .iload_n 0, 5, []), (5, .iconst 5, 6, []), (6, .if_icmp .gt 7, 9, [13]), (9, .iconst 1, 10, []), (10, .goto 4, 13, [14]), (13, .iconst 0, 14, []), (14, .ireturn, 15, [1])]
/-- 129: QW.isPeaceTell -/
def code_129 : List Row := [(0, .iload_n 0, 1, []), (1, .ifCond .eq 15, 4, [16]), (4, .iload_n 0, 5, []), (5, .bipush 10, 7, []), (7, .if_icmp .lt 13, 10, [20]), (10, .iload_n 0, 11, []), (11, .bipush 12, 13, []), (13, .if_icmp .gt 7, 16, [20]), (16, .iconst 1, 17, []), (17, .goto 4, 20, [21]), (20, .iconst 0, 21, []), (21, .ireturn, 22, [1])]
/-- 130: QW.pairNumber -/
def code_130 : List Row := [(0, .iload_n 0, 1, []), (1, .ifCond .lt 9, 4, [10]), (4, .iload_n 0, 5, []), (5, .bipush 15, 7, []), (7, .if_icmp .lt 5, 10, [12]), (10, .iconst (-1), 11, []), (11, .ireturn, 12, [0]), (12, .bipush 10, 14, []), (14, .getstatic 303, 17, [1, 60, 0, 756]), (17, .iload_n 0, 18, []), (18, .iaload, 19, []), (19, .imul, 20, []), (20, .getstatic 307, 23, [1, 61, 0, 757]), (23, .iload_n 0, 24, []), (24, .iaload, 25, []), (25, .iadd, 26, []), (26, .ireturn, 27, [0])]
/-- 131: Model.in -/
def code_131 : List Row := [(0, .lload_n 0, 1, []), (1, .lload_n 2, 2, []), (2, .lcmp, 3, []), (3, .ifCond .lt 14, 6, [17]), (6, .lload_n 0, 7, []), (7, .lload 4, 9, []), (9, .lcmp, 10, []), (10, .ifCond .gt 7, 13, [17]), (13, .iconst 1, 14, []), (14, .goto 4, 17, [18]), (17, .iconst 0, 18, []), (18, .ireturn, 19, [1])]
/-- 132: Model.copy -/
def code_132 : List Row := [(0, .iconst 0, 1, []), (1, .istore_n 2, 2, []), (2, .iload_n 2, 3, []), (3, .aload_n 0, 4, []), (4, .arraylength, 5, []), (5, .if_icmp .ge 15, 8, [20]), (8, .aload_n 1, 9, []), (9, .iload_n 2, 10, []), (10, .aload_n 0, 11, []), (11, .iload_n 2, 12, []), (12, .iaload, 13, []), (13, .iastore, 14, []), (14, .iinc 2 1, 17, []), (17, .goto (-15), 20, [2]), (20, .return_, 21, [])]
/-- 133: Model.letter -/
def code_133 : List Row := [(0, .iload_n 1, 1, []), (1, .i2l, 2, []), (2, .lconst 1, 3, []), (3, .ldc2_w 86, 6, [126, 1116]), (6, .invokestatic 88, 9, [11, 131, 3, 0, 1117]), (9, .ifCond .ne 6, 12, [15]), (12, .bipush (-102), 14, []), (14, .ireturn, 15, [0]), (15, .aload_n 0, 16, []), (16, .getfield 92, 19, [0, 7, 1, 0, 983]), (19, .bipush 38, 21, []), (21, .if_icmp .ne 6, 24, [27]), (24, .bipush (-104), 26, []), (26, .ireturn, 27, [0]), (27, .aload_n 0, 28, []), (28, .getfield 7, 31, [1, 7, 0, 0, 982, 30, 0]), (31, .aload_n 0, 32, []), (32, .getfield 92, 35, [0, 7, 1, 0, 983]), (35, .iload_n 1, 36, []), (36, .iastore, 37, []), (37, .aload_n 0, 38, []), (38, .dup, 39, []), (39, .getfield 92, 42, [0, 7, 1, 0, 983]), (42, .iconst 1, 43, []), (43, .iadd, 44, []), (44, .putfield 92, 47, [0, 7, 1, 0, 983]), (47, .aload_n 0, 48, []), (48, .getfield 92, 51, [0, 7, 1, 0, 983]), (51, .ireturn, 52, [0])]
/-- 134: Model.blank -/
def code_134 : List Row := [(0, .aload_n 0, 1, []), (1, .getfield 92, 4, [0, 7, 1, 0, 983]), (4, .istore_n 1, 5, []), (5, .aload_n 0, 6, []), (6, .iconst 0, 7, []), (7, .putfield 92, 10, [0, 7, 1, 0, 983]), (10, .iload_n 1, 11, []), (11, .ireturn, 12, [0])]
/-- 135: Model.kindBy -/
def code_135 : List Row := [(0, .iload_n 0, 1, []), (1, .tableswitch 85 102 116 #[83, 85, 75, 85, 85, 85, 85, 79, 85, 85, 85, 85, 85, 81, 77], 76, [86, 84, 86, 76, 86, 86, 86, 86, 80, 86, 86, 86, 86, 86, 82, 78]), (76, .iconst 0, 77, []), (77, .ireturn, 78, [0]), (78, .iconst 1, 79, []), (79, .ireturn, 80, [0]), (80, .iconst 2, 81, []), (81, .ireturn, 82, [0]), (82, .iconst 3, 83, []), (83, .ireturn, 84, [0]), (84, .iconst 4, 85, []), (85, .ireturn, 86, [0]), (86, .iconst (-1), 87, []), (87, .ireturn, 88, [0])]
/-- 136: Model.isHouseLetter -/
def code_136 : List Row := [(0, .aload_n 0, 1, []), (1, .getfield 7, 4, [1, 7, 0, 0, 982, 30, 0]), (4, .iload_n 1, 5, []), (5, .iaload, 6, []), (6, .istore_n 2, 7, []), (7, .iload_n 1, 8, []), (8, .iconst 3, 9, []), (9, .irem, 10, []), (10, .lookupswitch 52 #[(0, 26), (1, 40)], 36, [62, 36, 50]), (36, .iload_n 2, 37, []), (37, .invokestatic 95, 40, [11, 135, 1, 0, 1136]), (40, .iconst (-1), 41, []), (41, .if_icmp .eq 7, 44, [48]), (44, .iconst 1, 45, []), (45, .goto 4, 48, [49]), (48, .iconst 0, 49, []), (49, .ireturn, 50, [1]), (50, .iload_n 2, 51, []), (51, .i2l, 52, []), (52, .ldc2_w 99, 55, [48, 1139]), (55, .ldc2_w 101, 58, [57, 1140]), (58, .invokestatic 88, 61, [11, 131, 3, 0, 1117]), (61, .ireturn, 62, [1]), (62, .iload_n 2, 63, []), (63, .bipush 44, 65, []), (65, .if_icmp .ne 9, 68, [74]), (68, .iload_n 1, 69, []), (69, .bipush 17, 71, []), (71, .if_icmp .lt 15, 74, [86]), (74, .iload_n 2, 75, []), (75, .bipush 59, 77, []), (77, .if_icmp .ne 13, 80, [90]), (80, .iload_n 1, 81, []), (81, .bipush 7, 83, []), (83, .if_icmp .le 7, 86, [90]), (86, .iconst 1, 87, []), (87, .goto 4, 90, [91]), (90, .iconst 0, 91, []), (91, .ireturn, 92, [1])]
/-- 137: Model.isAngerLetter -/
def code_137 : List Row := [(0, .aload_n 0, 1, []), (1, .getfield 7, 4, [1, 7, 0, 0, 982, 30, 0]), (4, .iload_n 1, 5, []), (5, .iaload, 6, []), (6, .istore_n 2, 7, []), (7, .iload_n 1, 8, []), (8, .aload_n 0, 9, []), (9, .getfield 103, 12, [0, 7, 2, 0, 984]), (12, .isub, 13, []), (13, .iconst 1, 14, []), (14, .isub, 15, []), (15, .istore_n 3, 16, []), (16, .aload_n 0, 17, []), (17, .getfield 103, 20, [0, 7, 2, 0, 984]), (20, .iconst 1, 21, []), (21, .iadd, 22, []), (22, .iconst 3, 23, []), (23, .idiv, 24, []), (24, .istore 4, 26, []), (26, .iload_n 3, 27, []), (27, .bipush 18, 29, []), (29, .if_icmp .lt 5, 32, [34]), (32, .iconst 0, 33, []), (33, .ireturn, 34, [1]), (34, .iload_n 3, 35, []), (35, .iconst 3, 36, []), (36, .irem, 37, []), (37, .lookupswitch 77 #[(0, 27), (1, 42)], 64, [114, 64, 79]), (64, .iload_n 2, 65, []), (65, .bipush 48, 67, []), (67, .isub, 68, []), (68, .i2l, 69, []), (69, .lconst 0, 70, []), (70, .iload 4, 72, []), (72, .iconst 1, 73, []), (73, .isub, 74, []), (74, .i2l, 75, []), (75, .invokestatic 88, 78, [11, 131, 3, 0, 1117]), (78, .ireturn, 79, [1]), (79, .iload_n 2, 80, []), (80, .bipush 48, 82, []), (82, .isub, 83, []), (83, .i2l, 84, []), (84, .lconst 0, 85, []), (85, .iload 4, 87, []), (87, .iconst 1, 88, []), (88, .isub, 89, []), (89, .i2l, 90, []), (90, .invokestatic 88, 93, [11, 131, 3, 0, 1117]), (93, .ifCond .eq 19, 96, [112]), (96, .iload_n 2, 97, []), (97, .aload_n 0, 98, []), (98, .getfield 7, 101, [1, 7, 0, 0, 982, 30, 0]), (101, .iload_n 1, 102, []), (102, .iconst 1, 103, []), (103, .isub, 104, []), (104, .iaload, 105, []), (105, .if_icmp .eq 7, 108, [112]), (108, .iconst 1, 109, []), (109, .goto 4, 112, [113]), (112, .iconst 0, 113, []), (113, .ireturn, 114, [1]), (114, .iload_n 2, 115, []), (115, .i2l, 116, []), (116, .ldc2_w 106, 119, [49, 1145]), (119, .ldc2_w 101, 122, [57, 1140]), (122, .invokestatic 88, 125, [11, 131, 3, 0, 1117]), (125, .ireturn, 126, [1])]
/-- 138: Model.faultOf -/
def code_138 : List Row := [(0, .aload_n 0, 1, []), (1, .iconst (-1), 2, []), (2, .putfield 103, 5, [0, 7, 2, 0, 984]), (5, .iconst 0, 6, []), (6, .istore_n 1, 7, []), (7, .iconst 1, 8, []), (8, .istore_n 2, 9, []), (9, .iload_n 1, 10, []), (10, .aload_n 0, 11, []), (11, .getfield 92, 14, [0, 7, 1, 0, 983]), (14, .if_icmp .ge 71, 17, [85]), (17, .iload_n 2, 18, []), (18, .ifCond .eq 67, 21, [85]), (21, .aload_n 0, 22, []), (22, .getfield 103, 25, [0, 7, 2, 0, 984]), (25, .iconst (-1), 26, []), (26, .if_icmp .ne 11, 29, [37]), (29, .aload_n 0, 30, []), (30, .iload_n 1, 31, []), (31, .invokevirtual 108, 34, [10, 136, 2, 0, 1132, 7]), (34, .goto 8, 37, [42]), (37, .aload_n 0, 38, []), (38, .iload_n 1, 39, []), (39, .invokevirtual 112, 42, [10, 137, 2, 0, 1141, 7]), (42, .istore_n 2, 43, []), (43, .aload_n 0, 44, []), (44, .iload_n 2, 45, []), (45, .ifCond .eq 18, 48, [63]), (48, .aload_n 0, 49, []), (49, .getfield 7, 52, [1, 7, 0, 0, 982, 30, 0]), (52, .iload_n 1, 53, []), (53, .iaload, 54, []), (54, .bipush 59, 56, []), (56, .if_icmp .ne 7, 59, [63]), (59, .iload_n 1, 60, []), (60, .goto 7, 63, [67]), (63, .aload_n 0, 64, []), (64, .getfield 103, 67, [0, 7, 2, 0, 984]), (67, .putfield 103, 70, [0, 7, 2, 0, 984]), (70, .iload_n 1, 71, []), (71, .iload_n 2, 72, []), (72, .ifCond .eq 7, 75, [79]), (75, .iconst 1, 76, []), (76, .goto 4, 79, [80]), (79, .iconst 0, 80, []), (80, .iadd, 81, []), (81, .istore_n 1, 82, []), (82, .goto (-73), 85, [9]), (85, .iload_n 1, 86, []), (86, .ireturn, 87, [0])]
/-- 139: Model.fault -/
def code_139 : List Row := [(0, .aload_n 0, 1, []), (1, .invokevirtual 115, 4, [10, 138, 1, 0, 1128, 7]), (4, .ireturn, 5, [0])]
/-- 140: Model.topped -/
def code_140 : List Row := [(0, .iload_n 0, 1, []), (1, .ifCond .ge 7, 4, [8]), (4, .iconst 0, 5, []), (5, .goto 15, 8, [20]), (8, .iload_n 0, 9, []), (9, .bipush 20, 11, []), (11, .if_icmp .le 8, 14, [19]), (14, .bipush 20, 16, []), (16, .goto 4, 19, [20]), (19, .iload_n 0, 20, []), (20, .ireturn, 21, [0])]
/-- 141: Model.square -/
def code_141_0 : List Row := [(0, .aload_n 0, 1, []), (1, .invokevirtual 115, 4, [10, 138, 1, 0, 1128, 7]), (4, .aload_n 0, 5, []), (5, .getfield 92, 8, [0, 7, 1, 0, 983]), (8, .if_icmp .lt 26, 11, [34]), (11, .aload_n 0, 12, []), (12, .getfield 103, 15, [0, 7, 2, 0, 984]), (15, .iconst (-1), 16, []), (16, .if_icmp .eq 18, 19, [34]), (19, .aload_n 0, 20, []), (20, .getfield 92, 23, [0, 7, 1, 0, 983]), (23, .aload_n 0, 24, []), (24, .getfield 103, 27, [0, 7, 2, 0, 984]), (27, .isub, 28, []), (28, .iconst 3, 29, []), (29, .irem, 30, []), (30, .iconst 1, 31, []), (31, .if_icmp .eq 6, 34, [37]), (34, .bipush (-103), 36, []), (36, .ireturn, 37, [0]), (37, .aload_n 0, 38, []), (38, .aload_n 0, 39, []), (39, .getfield 103, 42, [0, 7, 2, 0, 984]), (42, .iconst 1, 43, []), (43, .iadd, 44, []), (44, .iconst 3, 45, []), (45, .idiv, 46, []), (46, .putfield 119, 49, [0, 7, 3, 0, 985]), (49, .iconst 0, 50, []), (50, .istore_n 1, 51, []), (51, .iload_n 1, 52, []), (52, .bipush 36, 54, []), (54, .if_icmp .ge 23, 57, [77]), (57, .aload_n 0, 58, []), (58, .getfield 25, 61, [1, 7, 13, 0, 995, 35, 0]), (61, .iload_n 1, 62, []), (62, .iconst 0, 63, []), (63, .iastore, 64, []), (64, .aload_n 0, 65, []), (65, .getfield 28, 68, [1, 7, 14, 0, 996, 36, 0]), (68, .iload_n 1, 69, []), (69, .iconst 0, 70, []), (70, .iastore, 71, []), (71, .iinc 1 1, 74, []), (74, .goto (-23), 77, [51]), (77, .iconst 0, 78, []), (78, .istore_n 1, 79, []), (79, .iload_n 1, 80, []), (80, .aload_n 0, 81, []), (81, .getfield 119, 84, [0, 7, 3, 0, 985]), (84, .if_icmp .ge 59, 87, [143]), (87, .aload_n 0, 88, []), (88, .getfield 13, 91, [1, 7, 9, 0, 991, 31, 0]), (91, .iload_n 1, 92, []), (92, .aload_n 0, 93, []), (93, .getfield 7, 96, [1, 7, 0, 0, 982, 30, 0]), (96, .iconst 3, 97, []), (97, .iload_n 1, 98, []), (98, .imul, 99, []), (99, .iaload, 100, []), (100, .invokestatic 95, 103, [11, 135, 1, 0, 1136]), (103, .iastore, 104, []), (104, .aload_n 0, 105, []), (105, .getfield 16, 108, [1, 7, 10, 0, 992, 32, 0]), (108, .iload_n 1, 109, []), (109, .aload_n 0, 110, []), (110, .getfield 7, 113, [1, 7, 0, 0, 982, 30, 0]), (113, .iconst 3, 114, []), (114, .iload_n 1, 115, []), (115, .imul, 116, []), (116, .iconst 1, 117, []), (117, .iadd, 118, []), (118, .iaload, 119, []), (119, .bipush 48, 121, []), (121, .isub, 122, []), (122, .iastore, 123, []), (123, .aload_n 0, 124, []), (124, .getfield 19, 127, [1, 7, 11, 0, 993, 33, 0]), (127, .iload_n 1, 128, []), (128, .iconst 0, 129, []), (129, .iastore, 130, []), (130, .aload_n 0, 131, []), (131, .getfield 22, 134, [1, 7, 12, 0, 994, 34, 0]), (134, .iload_n 1, 135, []), (135, .iconst 0, 136, []), (136, .iastore, 137, []), (137, .iinc 1 1, 140, []), (140, .goto (-61), 143, [79]), (143, .aload_n 0, 144, []), (144, .getfield 103, 147, [0, 7, 2, 0, 984]), (147, .iconst 1, 148, []), (148, .iadd, 149, []), (149, .istore_n 1, 150, []), (150, .iload_n 1, 151, []), (151, .aload_n 0, 152, []), (152, .getfield 92, 155, [0, 7, 1, 0, 983]), (155, .if_icmp .ge 61, 158, [216]), (158, .bipush 6, 160, []), (160, .aload_n 0, 161, []), (161, .getfield 7, 164, [1, 7, 0, 0, 982, 30, 0]), (164, .iload_n 1, 165, []), (165, .iaload, 166, []), (166, .bipush 48, 168, []), (168, .isub, 169, []), (169, .imul, 170, []), (170, .aload_n 0, 171, []), (171, .getfield 7, 174, [1, 7, 0, 0, 982, 30, 0]), (174, .iload_n 1, 175, []), (175, .iconst 1, 176, []), (176, .iadd, 177, []), (177, .iaload, 178, []), (178, .iadd, 179, []), (179, .bipush 48, 181, []), (181, .isub, 182, []), (182, .istore_n 2, 183, []), (183, .aload_n 0, 184, []), (184, .getfield 25, 187, [1, 7, 13, 0, 995, 35, 0]), (187, .iload_n 2, 188, []), (188, .aload_n 0, 189, []), (189, .getfield 25, 192, [1, 7, 13, 0, 995, 35, 0])]
def code_141_1 : List Row := [(192, .iload_n 2, 193, []), (193, .iaload, 194, []), (194, .aload_n 0, 195, []), (195, .getfield 7, 198, [1, 7, 0, 0, 982, 30, 0]), (198, .iload_n 1, 199, []), (199, .iconst 2, 200, []), (200, .iadd, 201, []), (201, .iaload, 202, []), (202, .iadd, 203, []), (203, .bipush 48, 205, []), (205, .isub, 206, []), (206, .invokestatic 122, 209, [11, 140, 1, 0, 1150]), (209, .iastore, 210, []), (210, .iinc 1 3, 213, []), (213, .goto (-63), 216, [150]), (216, .aload_n 0, 217, []), (217, .iconst 0, 218, []), (218, .putfield 125, 221, [0, 7, 4, 0, 986]), (221, .aload_n 0, 222, []), (222, .iconst 0, 223, []), (223, .putfield 128, 226, [0, 7, 5, 0, 987]), (226, .aload_n 0, 227, []), (227, .iconst 0, 228, []), (228, .putfield 131, 231, [0, 7, 6, 0, 988]), (231, .aload_n 0, 232, []), (232, .iconst 0, 233, []), (233, .putfield 134, 236, [0, 7, 7, 0, 989]), (236, .aload_n 0, 237, []), (237, .iconst 0, 238, []), (238, .putfield 137, 241, [0, 7, 24, 0, 1006]), (241, .aload_n 0, 242, []), (242, .dup, 243, []), (243, .getfield 140, 246, [0, 7, 8, 0, 990]), (246, .iconst 1, 247, []), (247, .iadd, 248, []), (248, .putfield 140, 251, [0, 7, 8, 0, 990]), (251, .aload_n 0, 252, []), (252, .iconst 0, 253, []), (253, .putfield 92, 256, [0, 7, 1, 0, 983]), (256, .aload_n 0, 257, []), (257, .getfield 119, 260, [0, 7, 3, 0, 985]), (260, .ireturn, 261, [0])]
def code_141 : List Row := code_141_0 ++ code_141_1
/-- 142: Model.lacks -/
def code_142 : List Row := [(0, .aload_n 0, 1, []), (1, .getfield 119, 4, [0, 7, 3, 0, 985]), (4, .ifCond .ne 7, 7, [11]), (7, .iconst 1, 8, []), (8, .goto 4, 11, [12]), (11, .iconst 0, 12, []), (12, .ireturn, 13, [1])]
/-- 143: Model.isHouse -/
def code_143 : List Row := [(0, .iload_n 1, 1, []), (1, .i2l, 2, []), (2, .lconst 0, 3, []), (3, .aload_n 0, 4, []), (4, .getfield 119, 7, [0, 7, 3, 0, 985]), (7, .iconst 1, 8, []), (8, .isub, 9, []), (9, .i2l, 10, []), (10, .invokestatic 88, 13, [11, 131, 3, 0, 1117]), (13, .ireturn, 14, [1])]
/-- 144: Model.areTwo -/
def code_144 : List Row := [(0, .aload_n 0, 1, []), (1, .iload_n 1, 2, []), (2, .invokevirtual 143, 5, [10, 143, 2, 0, 1157, 7]), (5, .ifCond .eq 20, 8, [25]), (8, .aload_n 0, 9, []), (9, .iload_n 2, 10, []), (10, .invokevirtual 143, 13, [10, 143, 2, 0, 1157, 7]), (13, .ifCond .eq 12, 16, [25]), (16, .iload_n 1, 17, []), (17, .iload_n 2, 18, []), (18, .if_icmp .eq 7, 21, [25]), (21, .iconst 1, 22, []), (22, .goto 4, 25, [26]), (25, .iconst 0, 26, []), (26, .ireturn, 27, [1])]
/-- 145: Model.facesIn -/
def code_145 : List Row := [(0, .iconst (-1), 1, []), (1, .istore_n 3, 2, []), (2, .iconst 0, 3, []), (3, .istore 4, 5, []), (5, .iload 4, 7, []), (7, .aload_n 0, 8, []), (8, .getfield 119, 11, [0, 7, 3, 0, 985]), (11, .if_icmp .ge 120, 14, [131]), (14, .aload_n 0, 15, []), (15, .getfield 28, 18, [1, 7, 14, 0, 996, 36, 0]), (18, .bipush 6, 20, []), (20, .iload_n 2, 21, []), (21, .imul, 22, []), (22, .iload 4, 24, []), (24, .iadd, 25, []), (25, .iaload, 26, []), (26, .iconst 1, 27, []), (27, .if_icmp .ne 7, 30, [34]), (30, .iconst 0, 31, []), (31, .goto 12, 34, [43]), (34, .aload_n 1, 35, []), (35, .bipush 6, 37, []), (37, .iload_n 2, 38, []), (38, .imul, 39, []), (39, .iload 4, 41, []), (41, .iadd, 42, []), (42, .iaload, 43, []), (43, .istore 5, 45, []), (45, .iload_n 3, 46, []), (46, .iconst (-1), 47, []), (47, .if_icmp .ne 7, 50, [54]), (50, .iconst 0, 51, []), (51, .goto 11, 54, [62]), (54, .aload_n 1, 55, []), (55, .bipush 6, 57, []), (57, .iload_n 2, 58, []), (58, .imul, 59, []), (59, .iload_n 3, 60, []), (60, .iadd, 61, []), (61, .iaload, 62, []), (62, .istore 6, 64, []), (64, .aload_n 0, 65, []), (65, .getfield 13, 68, [1, 7, 9, 0, 991, 31, 0]), (68, .iload_n 2, 69, []), (69, .iaload, 70, []), (70, .iconst 3, 71, []), (71, .if_icmp .ne 18, 74, [89]), (74, .iload 5, 76, []), (76, .iload 6, 78, []), (78, .if_icmp .ge 7, 81, [85]), (81, .iconst 1, 82, []), (82, .goto 19, 85, [101]), (85, .iconst 0, 86, []), (86, .goto 15, 89, [101]), (89, .iload 5, 91, []), (91, .iload 6, 93, []), (93, .if_icmp .le 7, 96, [100]), (96, .iconst 1, 97, []), (97, .goto 4, 100, [101]), (100, .iconst 0, 101, []), (101, .istore 7, 103, []), (103, .iload 5, 105, []), (105, .ifCond .le 18, 108, [123]), (108, .iload_n 3, 109, []), (109, .iconst (-1), 110, []), (110, .if_icmp .eq 8, 113, [118]), (113, .iload 7, 115, []), (115, .ifCond .eq 8, 118, [123]), (118, .iload 4, 120, []), (120, .goto 4, 123, [124]), (123, .iload_n 3, 124, []), (124, .istore_n 3, 125, []), (125, .iinc 4 1, 128, []), (128, .goto (-123), 131, [5]), (131, .iload_n 3, 132, []), (132, .ireturn, 133, [0])]
/-- 146: Model.layFaces -/
def code_146 : List Row := [(0, .iconst 0, 1, []), (1, .istore_n 2, 2, []), (2, .iload_n 2, 3, []), (3, .aload_n 0, 4, []), (4, .getfield 119, 7, [0, 7, 3, 0, 985]), (7, .if_icmp .ge 21, 10, [28]), (10, .aload_n 0, 11, []), (11, .getfield 31, 14, [1, 7, 15, 0, 997, 37, 0]), (14, .iload_n 2, 15, []), (15, .aload_n 0, 16, []), (16, .aload_n 1, 17, []), (17, .iload_n 2, 18, []), (18, .invokevirtual 146, 21, [10, 145, 3, 0, 1169, 7]), (21, .iastore, 22, []), (22, .iinc 2 1, 25, []), (25, .goto (-23), 28, [2]), (28, .return_, 29, [])]
/-- 147: Model.stares -/
def code_147 : List Row := [(0, .aload_n 0, 1, []), (1, .getfield 31, 4, [1, 7, 15, 0, 997, 37, 0]), (4, .iload_n 1, 5, []), (5, .iaload, 6, []), (6, .iconst (-1), 7, []), (7, .if_icmp .eq 22, 10, [29]), (10, .aload_n 0, 11, []), (11, .getfield 31, 14, [1, 7, 15, 0, 997, 37, 0]), (14, .aload_n 0, 15, []), (15, .getfield 31, 18, [1, 7, 15, 0, 997, 37, 0]), (18, .iload_n 1, 19, []), (19, .iaload, 20, []), (20, .iaload, 21, []), (21, .iload_n 1, 22, []), (22, .if_icmp .ne 7, 25, [29]), (25, .iconst 1, 26, []), (26, .goto 4, 29, [30]), (29, .iconst 0, 30, []), (30, .ireturn, 31, [1])]
/-- 148: Model.staresMany -/
def code_148 : List Row := [(0, .iconst 0, 1, []), (1, .istore_n 1, 2, []), (2, .iconst 0, 3, []), (3, .istore_n 2, 4, []), (4, .iload_n 2, 5, []), (5, .aload_n 0, 6, []), (6, .getfield 119, 9, [0, 7, 3, 0, 985]), (9, .if_icmp .ge 35, 12, [44]), (12, .iload_n 1, 13, []), (13, .aload_n 0, 14, []), (14, .iload_n 2, 15, []), (15, .invokevirtual 150, 18, [10, 147, 2, 0, 1181, 7]), (18, .ifCond .eq 17, 21, [35]), (21, .aload_n 0, 22, []), (22, .getfield 31, 25, [1, 7, 15, 0, 997, 37, 0]), (25, .iload_n 2, 26, []), (26, .iaload, 27, []), (27, .iload_n 2, 28, []), (28, .if_icmp .le 7, 31, [35]), (31, .iconst 1, 32, []), (32, .goto 4, 35, [36]), (35, .iconst 0, 36, []), (36, .iadd, 37, []), (37, .istore_n 1, 38, []), (38, .iinc 2 1, 41, []), (41, .goto (-37), 44, [4]), (44, .iload_n 1, 45, []), (45, .ireturn, 46, [0])]
/-- 149: Model.ringOf -/
def code_149 : List Row := [(0, .aload_n 0, 1, []), (1, .getfield 31, 4, [1, 7, 15, 0, 997, 37, 0]), (4, .iload_n 1, 5, []), (5, .iaload, 6, []), (6, .istore_n 2, 7, []), (7, .iconst 1, 8, []), (8, .istore_n 3, 9, []), (9, .iload_n 2, 10, []), (10, .iconst (-1), 11, []), (11, .if_icmp .eq 29, 14, [40]), (14, .iload_n 2, 15, []), (15, .iload_n 1, 16, []), (16, .if_icmp .eq 24, 19, [40]), (19, .iload_n 3, 20, []), (20, .aload_n 0, 21, []), (21, .getfield 119, 24, [0, 7, 3, 0, 985]), (24, .if_icmp .gt 16, 27, [40]), (27, .aload_n 0, 28, []), (28, .getfield 31, 31, [1, 7, 15, 0, 997, 37, 0]), (31, .iload_n 2, 32, []), (32, .iaload, 33, []), (33, .istore_n 2, 34, []), (34, .iinc 3 1, 37, []), (37, .goto (-28), 40, [9]), (40, .iload_n 2, 41, []), (41, .iload_n 1, 42, []), (42, .if_icmp .ne 12, 45, [54]), (45, .iload_n 3, 46, []), (46, .iconst 2, 47, []), (47, .if_icmp .le 7, 50, [54]), (50, .iload_n 3, 51, []), (51, .goto 4, 54, [55]), (54, .iconst 0, 55, []), (55, .ireturn, 56, [0])]
/-- 150: Model.leadsRing -/
def code_150 : List Row := [(0, .aload_n 0, 1, []), (1, .getfield 31, 4, [1, 7, 15, 0, 997, 37, 0]), (4, .iload_n 1, 5, []), (5, .iaload, 6, []), (6, .istore_n 2, 7, []), (7, .aload_n 0, 8, []), (8, .iload_n 1, 9, []), (9, .invokevirtual 153, 12, [10, 149, 2, 0, 1185, 7]), (12, .ifCond .le 7, 15, [19]), (15, .iconst 1, 16, []), (16, .goto 4, 19, [20]), (19, .iconst 0, 20, []), (20, .istore_n 3, 21, []), (21, .iload_n 3, 22, []), (22, .ifCond .eq 29, 25, [51]), (25, .iload_n 2, 26, []), (26, .iload_n 1, 27, []), (27, .if_icmp .eq 24, 30, [51]), (30, .iload_n 2, 31, []), (31, .iload_n 1, 32, []), (32, .if_icmp .le 7, 35, [39]), (35, .iconst 1, 36, []), (36, .goto 4, 39, [40]), (39, .iconst 0, 40, []), (40, .istore_n 3, 41, []), (41, .aload_n 0, 42, []), (42, .getfield 31, 45, [1, 7, 15, 0, 997, 37, 0]), (45, .iload_n 2, 46, []), (46, .iaload, 47, []), (47, .istore_n 2, 48, []), (48, .goto (-27), 51, [21]), (51, .iload_n 3, 52, []), (52, .ireturn, 53, [1])]
/-- 151: Model.ringsMany -/
def code_151 : List Row := [(0, .iconst 0, 1, []), (1, .istore_n 1, 2, []), (2, .iconst 0, 3, []), (3, .istore_n 2, 4, []), (4, .iload_n 2, 5, []), (5, .aload_n 0, 6, []), (6, .getfield 119, 9, [0, 7, 3, 0, 985]), (9, .if_icmp .ge 25, 12, [34]), (12, .iload_n 1, 13, []), (13, .aload_n 0, 14, []), (14, .iload_n 2, 15, []), (15, .invokevirtual 156, 18, [10, 150, 2, 0, 1331, 7]), (18, .ifCond .eq 7, 21, [25]), (21, .iconst 1, 22, []), (22, .goto 4, 25, [26]), (25, .iconst 0, 26, []), (26, .iadd, 27, []), (27, .istore_n 1, 28, []), (28, .iinc 2 1, 31, []), (31, .goto (-27), 34, [4]), (34, .iload_n 1, 35, []), (35, .ireturn, 36, [0])]
/-- 152: Model.facedBy -/
def code_152 : List Row := [(0, .iconst 0, 1, []), (1, .istore_n 2, 2, []), (2, .iconst 0, 3, []), (3, .istore_n 3, 4, []), (4, .iload_n 3, 5, []), (5, .aload_n 0, 6, []), (6, .getfield 119, 9, [0, 7, 3, 0, 985]), (9, .if_icmp .ge 29, 12, [38]), (12, .iload_n 2, 13, []), (13, .aload_n 0, 14, []), (14, .getfield 31, 17, [1, 7, 15, 0, 997, 37, 0]), (17, .iload_n 3, 18, []), (18, .iaload, 19, []), (19, .iload_n 1, 20, []), (20, .if_icmp .ne 9, 23, [29]), (23, .iconst 1, 24, []), (24, .iload_n 3, 25, []), (25, .ishl, 26, []), (26, .goto 4, 29, [30]), (29, .iconst 0, 30, []), (30, .ior, 31, []), (31, .istore_n 2, 32, []), (32, .iinc 3 1, 35, []), (35, .goto (-31), 38, [4]), (38, .iload_n 2, 39, []), (39, .ireturn, 40, [0])]
/-- 153: Model.riverMany -/
def code_153 : List Row := [(0, .iconst 0, 1, []), (1, .istore_n 1, 2, []), (2, .iconst 0, 3, []), (3, .istore_n 2, 4, []), (4, .iload_n 2, 5, []), (5, .aload_n 0, 6, []), (6, .getfield 119, 9, [0, 7, 3, 0, 985]), (9, .if_icmp .ge 27, 12, [36]), (12, .iload_n 1, 13, []), (13, .aload_n 0, 14, []), (14, .getfield 31, 17, [1, 7, 15, 0, 997, 37, 0]), (17, .iload_n 2, 18, []), (18, .iaload, 19, []), (19, .iconst (-1), 20, []), (20, .if_icmp .ne 7, 23, [27]), (23, .iconst 1, 24, []), (24, .goto 4, 27, [28]), (27, .iconst 0, 28, []), (28, .iadd, 29, []), (29, .istore_n 1, 30, []), (30, .iinc 2 1, 33, []), (33, .goto (-29), 36, [4]), (36, .iload_n 1, 37, []), (37, .ireturn, 38, [0])]
/-- 154: Model.layLine -/
def code_154 : List Row := [(0, .iconst 0, 1, []), (1, .istore_n 2, 2, []), (2, .iconst 0, 3, []), (3, .istore_n 3, 4, []), (4, .iload_n 1, 5, []), (5, .istore 4, 7, []), (7, .iload 4, 9, []), (9, .iconst (-1), 10, []), (10, .if_icmp .eq 42, 13, [52]), (13, .iload_n 3, 14, []), (14, .iload 4, 16, []), (16, .ishr, 17, []), (17, .iconst 1, 18, []), (18, .iand, 19, []), (19, .ifCond .ne 33, 22, [52]), (22, .aload_n 0, 23, []), (23, .getfield 34, 26, [1, 7, 16, 0, 998, 38, 0]), (26, .iload_n 2, 27, []), (27, .iload 4, 29, []), (29, .iastore, 30, []), (30, .iload_n 3, 31, []), (31, .iconst 1, 32, []), (32, .iload 4, 34, []), (34, .ishl, 35, []), (35, .ior, 36, []), (36, .istore_n 3, 37, []), (37, .iinc 2 1, 40, []), (40, .aload_n 0, 41, []), (41, .getfield 31, 44, [1, 7, 15, 0, 997, 37, 0]), (44, .iload 4, 46, []), (46, .iaload, 47, []), (47, .istore 4, 49, []), (49, .goto (-42), 52, [7]), (52, .iload_n 2, 53, []), (53, .ireturn, 54, [0])]
/-- 155: Model.angerAll -/
def code_155 : List Row := [(0, .iconst 0, 1, []), (1, .istore_n 2, 2, []), (2, .iconst 0, 3, []), (3, .istore_n 3, 4, []), (4, .iload_n 3, 5, []), (5, .aload_n 0, 6, []), (6, .getfield 119, 9, [0, 7, 3, 0, 985]), (9, .if_icmp .ge 23, 12, [32]), (12, .iload_n 2, 13, []), (13, .aload_n 0, 14, []), (14, .getfield 25, 17, [1, 7, 13, 0, 995, 35, 0]), (17, .bipush 6, 19, []), (19, .iload_n 1, 20, []), (20, .imul, 21, []), (21, .iload_n 3, 22, []), (22, .iadd, 23, []), (23, .iaload, 24, []), (24, .iadd, 25, []), (25, .istore_n 2, 26, []), (26, .iinc 3 1, 29, []), (29, .goto (-25), 32, [4]), (32, .iload_n 2, 33, []), (33, .ireturn, 34, [0])]
/-- 156: Model.tellHouse -/
def code_156 : List Row := [(0, .aload_n 0, 1, []), (1, .aload_n 0, 2, []), (2, .getfield 25, 5, [1, 7, 13, 0, 995, 35, 0]), (5, .invokevirtual 159, 8, [10, 146, 2, 0, 1165, 7]), (8, .iload_n 2, 9, []), (9, .tableswitch 145 0 10 #[59, 66, 73, 80, 86, 92, 106, 112, 118, 131, 138], 68, [154, 68, 75, 82, 89, 95, 101, 115, 121, 127, 140, 147]), (68, .aload_n 0, 69, []), (69, .getfield 13, 72, [1, 7, 9, 0, 991, 31, 0]), (72, .iload_n 1, 73, []), (73, .iaload, 74, []), (74, .ireturn, 75, [0]), (75, .aload_n 0, 76, []), (76, .getfield 16, 79, [1, 7, 10, 0, 992, 32, 0]), (79, .iload_n 1, 80, []), (80, .iaload, 81, []), (81, .ireturn, 82, [0]), (82, .aload_n 0, 83, []), (83, .getfield 31, 86, [1, 7, 15, 0, 997, 37, 0]), (86, .iload_n 1, 87, []), (87, .iaload, 88, []), (88, .ireturn, 89, [0]), (89, .aload_n 0, 90, []), (90, .iload_n 1, 91, []), (91, .invokevirtual 163, 94, [10, 152, 2, 0, 1173, 7]), (94, .ireturn, 95, [0]), (95, .aload_n 0, 96, []), (96, .iload_n 1, 97, []), (97, .invokevirtual 166, 100, [10, 155, 2, 0, 1177, 7]), (100, .ireturn, 101, [0]), (101, .aload_n 0, 102, []), (102, .iload_n 1, 103, []), (103, .invokevirtual 150, 106, [10, 147, 2, 0, 1181, 7]), (106, .ifCond .eq 7, 109, [113]), (109, .iconst 1, 110, []), (110, .goto 4, 113, [114]), (113, .iconst 0, 114, []), (114, .ireturn, 115, [0]), (115, .aload_n 0, 116, []), (116, .iload_n 1, 117, []), (117, .invokevirtual 153, 120, [10, 149, 2, 0, 1185, 7]), (120, .ireturn, 121, [0]), (121, .aload_n 0, 122, []), (122, .iload_n 1, 123, []), (123, .invokevirtual 169, 126, [10, 154, 2, 0, 1189, 7]), (126, .ireturn, 127, [0]), (127, .aload_n 0, 128, []), (128, .getfield 34, 131, [1, 7, 16, 0, 998, 38, 0]), (131, .aload_n 0, 132, []), (132, .iload_n 1, 133, []), (133, .invokevirtual 169, 136, [10, 154, 2, 0, 1189, 7]), (136, .iconst 1, 137, []), (137, .isub, 138, []), (138, .iaload, 139, []), (139, .ireturn, 140, [0]), (140, .aload_n 0, 141, []), (141, .getfield 19, 144, [1, 7, 11, 0, 993, 33, 0]), (144, .iload_n 1, 145, []), (145, .iaload, 146, []), (146, .ireturn, 147, [0]), (147, .aload_n 0, 148, []), (148, .getfield 22, 151, [1, 7, 12, 0, 994, 34, 0]), (151, .iload_n 1, 152, []), (152, .iaload, 153, []), (153, .ireturn, 154, [0]), (154, .bipush (-102), 156, []), (156, .ireturn, 157, [0])]
/-- 157: Model.house -/
def code_157 : List Row := [(0, .aload_n 0, 1, []), (1, .iload_n 1, 2, []), (2, .invokevirtual 143, 5, [10, 143, 2, 0, 1157, 7]), (5, .ifCond .eq 12, 8, [17]), (8, .aload_n 0, 9, []), (9, .iload_n 1, 10, []), (10, .iload_n 2, 11, []), (11, .invokevirtual 172, 14, [10, 156, 3, 0, 1161, 7]), (14, .goto 5, 17, [19]), (17, .bipush (-101), 19, []), (19, .ireturn, 20, [0])]
/-- 158: Model.as -/
def code_158 : List Row := [(0, .aload_n 0, 1, []), (1, .iload_n 1, 2, []), (2, .invokevirtual 143, 5, [10, 143, 2, 0, 1157, 7]), (5, .ifCond .ne 6, 8, [11]), (8, .bipush (-101), 10, []), (10, .ireturn, 11, [0]), (11, .iload_n 2, 12, []), (12, .i2l, 13, []), (13, .lconst 0, 14, []), (14, .ldc2_w 176, 17, [4, 1197]), (17, .invokestatic 88, 20, [11, 131, 3, 0, 1117]), (20, .ifCond .ne 6, 23, [26]), (23, .bipush (-102), 25, []), (25, .ireturn, 26, [0]), (26, .iload_n 2, 27, []), (27, .ifCond .eq 28, 30, [55]), (30, .iload_n 2, 31, []), (31, .aload_n 0, 32, []), (32, .getfield 13, 35, [1, 7, 9, 0, 991, 31, 0]), (35, .iload_n 1, 36, []), (36, .iaload, 37, []), (37, .if_icmp .eq 18, 40, [55]), (40, .iload_n 2, 41, []), (41, .iconst 1, 42, []), (42, .if_icmp .ne 17, 45, [59]), (45, .aload_n 0, 46, []), (46, .getfield 13, 49, [1, 7, 9, 0, 991, 31, 0]), (49, .iload_n 1, 50, []), (50, .iaload, 51, []), (51, .iconst 4, 52, []), (52, .if_icmp .ne 7, 55, [59]), (55, .iconst 1, 56, []), (56, .goto 4, 59, [60]), (59, .iconst 0, 60, []), (60, .istore_n 3, 61, []), (61, .iload_n 3, 62, []), (62, .ifCond .eq 7, 65, [69]), (65, .iload_n 1, 66, []), (66, .goto 4, 69, [70]), (69, .iconst (-1), 70, []), (70, .ireturn, 71, [0])]
/-- 159: Model.anger -/
def code_159 : List Row := [(0, .aload_n 0, 1, []), (1, .iload_n 1, 2, []), (2, .iload_n 2, 3, []), (3, .invokevirtual 178, 6, [10, 144, 3, 0, 1202, 7]), (6, .ifCond .eq 17, 9, [23]), (9, .aload_n 0, 10, []), (10, .getfield 25, 13, [1, 7, 13, 0, 995, 35, 0]), (13, .bipush 6, 15, []), (15, .iload_n 1, 16, []), (16, .imul, 17, []), (17, .iload_n 2, 18, []), (18, .iadd, 19, []), (19, .iaload, 20, []), (20, .goto 5, 23, [25]), (23, .bipush (-101), 25, []), (25, .ireturn, 26, [0])]
/-- 160: Model.lineAt -/
def code_160 : List Row := [(0, .aload_n 0, 1, []), (1, .aload_n 0, 2, []), (2, .getfield 25, 5, [1, 7, 13, 0, 995, 35, 0]), (5, .invokevirtual 159, 8, [10, 146, 2, 0, 1165, 7]), (8, .iload_n 2, 9, []), (9, .aload_n 0, 10, []), (10, .iload_n 1, 11, []), (11, .invokevirtual 169, 14, [10, 154, 2, 0, 1189, 7]), (14, .if_icmp .ge 12, 17, [26]), (17, .aload_n 0, 18, []), (18, .getfield 34, 21, [1, 7, 16, 0, 998, 38, 0]), (21, .iload_n 2, 22, []), (22, .iaload, 23, []), (23, .goto 4, 26, [27]), (26, .iconst (-1), 27, []), (27, .ireturn, 28, [0])]
/-- 161: Model.line -/
def code_161 : List Row := [(0, .aload_n 0, 1, []), (1, .iload_n 1, 2, []), (2, .invokevirtual 143, 5, [10, 143, 2, 0, 1157, 7]), (5, .ifCond .ne 6, 8, [11]), (8, .bipush (-101), 10, []), (10, .ireturn, 11, [0]), (11, .iload_n 2, 12, []), (12, .i2l, 13, []), (13, .lconst 0, 14, []), (14, .ldc2_w 182, 17, [5, 1210]), (17, .invokestatic 88, 20, [11, 131, 3, 0, 1117]), (20, .ifCond .eq 12, 23, [32]), (23, .aload_n 0, 24, []), (24, .iload_n 1, 25, []), (25, .iload_n 2, 26, []), (26, .invokevirtual 184, 29, [10, 160, 3, 0, 1211, 7]), (29, .goto 5, 32, [34]), (32, .bipush (-102), 34, []), (34, .ireturn, 35, [0])]
/-- 162: Model.wall -/
def code_162 : List Row := [(0, .aload_n 0, 1, []), (1, .iload_n 1, 2, []), (2, .iload_n 2, 3, []), (3, .invokevirtual 178, 6, [10, 144, 3, 0, 1202, 7]), (6, .ifCond .eq 17, 9, [23]), (9, .aload_n 0, 10, []), (10, .getfield 28, 13, [1, 7, 14, 0, 996, 36, 0]), (13, .bipush 6, 15, []), (15, .iload_n 1, 16, []), (16, .imul, 17, []), (17, .iload_n 2, 18, []), (18, .iadd, 19, []), (19, .iaload, 20, []), (20, .goto 5, 23, [25]), (23, .bipush (-101), 25, []), (25, .ireturn, 26, [0])]
/-- 163: Model.quarrel -/
def code_163 : List Row := [(0, .aload_n 0, 1, []), (1, .iload_n 1, 2, []), (2, .iload_n 2, 3, []), (3, .invokevirtual 178, 6, [10, 144, 3, 0, 1202, 7]), (6, .ifCond .ne 6, 9, [12]), (9, .bipush (-101), 11, []), (11, .ireturn, 12, [0]), (12, .iload_n 3, 13, []), (13, .i2l, 14, []), (14, .lconst 1, 15, []), (15, .ldc2_w 187, 18, [9, 1223]), (18, .invokestatic 88, 21, [11, 131, 3, 0, 1117]), (21, .ifCond .ne 6, 24, [27]), (24, .bipush (-102), 26, []), (26, .ireturn, 27, [0]), (27, .aload_n 0, 28, []), (28, .getfield 25, 31, [1, 7, 13, 0, 995, 35, 0]), (31, .bipush 6, 33, []), (33, .iload_n 1, 34, []), (34, .imul, 35, []), (35, .iload_n 2, 36, []), (36, .iadd, 37, []), (37, .aload_n 0, 38, []), (38, .getfield 25, 41, [1, 7, 13, 0, 995, 35, 0]), (41, .bipush 6, 43, []), (43, .iload_n 1, 44, []), (44, .imul, 45, []), (45, .iload_n 2, 46, []), (46, .iadd, 47, []), (47, .iaload, 48, []), (48, .iload_n 3, 49, []), (49, .iadd, 50, []), (50, .invokestatic 122, 53, [11, 140, 1, 0, 1150]), (53, .iastore, 54, []), (54, .aload_n 0, 55, []), (55, .dup, 56, []), (56, .getfield 131, 59, [0, 7, 6, 0, 988]), (59, .iconst 1, 60, []), (60, .iadd, 61, []), (61, .putfield 131, 64, [0, 7, 6, 0, 988]), (64, .aload_n 0, 65, []), (65, .getfield 25, 68, [1, 7, 13, 0, 995, 35, 0]), (68, .bipush 6, 70, []), (70, .iload_n 1, 71, []), (71, .imul, 72, []), (72, .iload_n 2, 73, []), (73, .iadd, 74, []), (74, .iaload, 75, []), (75, .ireturn, 76, [0])]
/-- 164: Model.peace -/
def code_164 : List Row := [(0, .aload_n 0, 1, []), (1, .iload_n 1, 2, []), (2, .iload_n 2, 3, []), (3, .invokevirtual 178, 6, [10, 144, 3, 0, 1202, 7]), (6, .ifCond .ne 6, 9, [12]), (9, .bipush (-101), 11, []), (11, .ireturn, 12, [0]), (12, .aload_n 0, 13, []), (13, .getfield 25, 16, [1, 7, 13, 0, 995, 35, 0]), (16, .bipush 6, 18, []), (18, .iload_n 1, 19, []), (19, .imul, 20, []), (20, .iload_n 2, 21, []), (21, .iadd, 22, []), (22, .iaload, 23, []), (23, .aload_n 0, 24, []), (24, .getfield 25, 27, [1, 7, 13, 0, 995, 35, 0]), (27, .bipush 6, 29, []), (29, .iload_n 2, 30, []), (30, .imul, 31, []), (31, .iload_n 1, 32, []), (32, .iadd, 33, []), (33, .iaload, 34, []), (34, .iadd, 35, []), (35, .istore_n 3, 36, []), (36, .iload_n 3, 37, []), (37, .ifCond .ne 6, 40, [43]), (40, .bipush (-103), 42, []), (42, .ireturn, 43, [0]), (43, .aload_n 0, 44, []), (44, .getfield 25, 47, [1, 7, 13, 0, 995, 35, 0]), (47, .bipush 6, 49, []), (49, .iload_n 1, 50, []), (50, .imul, 51, []), (51, .iload_n 2, 52, []), (52, .iadd, 53, []), (53, .iconst 0, 54, []), (54, .iastore, 55, []), (55, .aload_n 0, 56, []), (56, .getfield 25, 59, [1, 7, 13, 0, 995, 35, 0]), (59, .bipush 6, 61, []), (61, .iload_n 2, 62, []), (62, .imul, 63, []), (63, .iload_n 1, 64, []), (64, .iadd, 65, []), (65, .iconst 0, 66, []), (66, .iastore, 67, []), (67, .aload_n 0, 68, []), (68, .dup, 69, []), (69, .getfield 134, 72, [0, 7, 7, 0, 989]), (72, .iconst 1, 73, []), (73, .iadd, 74, []), (74, .putfield 134, 77, [0, 7, 7, 0, 989]), (77, .iload_n 3, 78, []), (78, .ireturn, 79, [0])]
/-- 165: Model.layWall -/
def code_165 : List Row := [(0, .aload_n 0, 1, []), (1, .getfield 28, 4, [1, 7, 14, 0, 996, 36, 0]), (4, .bipush 6, 6, []), (6, .iload_n 1, 7, []), (7, .imul, 8, []), (8, .iload_n 2, 9, []), (9, .iadd, 10, []), (10, .iload_n 3, 11, []), (11, .iastore, 12, []), (12, .aload_n 0, 13, []), (13, .getfield 28, 16, [1, 7, 14, 0, 996, 36, 0]), (16, .bipush 6, 18, []), (18, .iload_n 2, 19, []), (19, .imul, 20, []), (20, .iload_n 1, 21, []), (21, .iadd, 22, []), (22, .iload_n 3, 23, []), (23, .iastore, 24, []), (24, .return_, 25, [])]
/-- 166: Model.build -/
def code_166 : List Row := [(0, .aload_n 0, 1, []), (1, .iload_n 1, 2, []), (2, .iload_n 2, 3, []), (3, .invokevirtual 178, 6, [10, 144, 3, 0, 1202, 7]), (6, .ifCond .ne 6, 9, [12]), (9, .bipush (-101), 11, []), (11, .ireturn, 12, [0]), (12, .aload_n 0, 13, []), (13, .getfield 28, 16, [1, 7, 14, 0, 996, 36, 0]), (16, .bipush 6, 18, []), (18, .iload_n 1, 19, []), (19, .imul, 20, []), (20, .iload_n 2, 21, []), (21, .iadd, 22, []), (22, .iaload, 23, []), (23, .istore 4, 25, []), (25, .aload_n 0, 26, []), (26, .iload_n 1, 27, []), (27, .iload_n 2, 28, []), (28, .iload_n 3, 29, []), (29, .ifCond .eq 7, 32, [36]), (32, .iconst 1, 33, []), (33, .goto 4, 36, [37]), (36, .iconst 0, 37, []), (37, .invokevirtual 189, 40, [10, 165, 4, 0, 1232, 7]), (40, .iload 4, 42, []), (42, .ireturn, 43, [0])]
/-- 167: Model.tenant -/
def code_167 : List Row := [(0, .aload_n 0, 1, []), (1, .iload_n 1, 2, []), (2, .invokevirtual 143, 5, [10, 143, 2, 0, 1157, 7]), (5, .ifCond .ne 6, 8, [11]), (8, .bipush (-101), 10, []), (10, .ireturn, 11, [0]), (11, .iload_n 2, 12, []), (12, .i2l, 13, []), (13, .lconst 0, 14, []), (14, .ldc2_w 176, 17, [4, 1197]), (17, .invokestatic 88, 20, [11, 131, 3, 0, 1117]), (20, .ifCond .ne 6, 23, [26]), (23, .bipush (-102), 25, []), (25, .ireturn, 26, [0]), (26, .aload_n 0, 27, []), (27, .getfield 13, 30, [1, 7, 9, 0, 991, 31, 0]), (30, .iload_n 1, 31, []), (31, .iaload, 32, []), (32, .istore_n 3, 33, []), (33, .aload_n 0, 34, []), (34, .getfield 13, 37, [1, 7, 9, 0, 991, 31, 0]), (37, .iload_n 1, 38, []), (38, .iload_n 2, 39, []), (39, .iastore, 40, []), (40, .iconst 0, 41, []), (41, .istore 4, 43, []), (43, .iload 4, 45, []), (45, .aload_n 0, 46, []), (46, .getfield 119, 49, [0, 7, 3, 0, 985]), (49, .if_icmp .ge 22, 52, [71]), (52, .aload_n 0, 53, []), (53, .getfield 25, 56, [1, 7, 13, 0, 995, 35, 0]), (56, .bipush 6, 58, []), (58, .iload_n 1, 59, []), (59, .imul, 60, []), (60, .iload 4, 62, []), (62, .iadd, 63, []), (63, .iconst 0, 64, []), (64, .iastore, 65, []), (65, .iinc 4 1, 68, []), (68, .goto (-25), 71, [43]), (71, .iload_n 3, 72, []), (72, .ireturn, 73, [0])]
/-- 168: Model.court -/
def code_168 : List Row := [(0, .aload_n 0, 1, []), (1, .aload_n 0, 2, []), (2, .getfield 25, 5, [1, 7, 13, 0, 995, 35, 0]), (5, .invokevirtual 159, 8, [10, 146, 2, 0, 1165, 7]), (8, .iconst (-1), 9, []), (9, .istore_n 1, 10, []), (10, .aload_n 0, 11, []), (11, .getfield 119, 14, [0, 7, 3, 0, 985]), (14, .iconst 1, 15, []), (15, .isub, 16, []), (16, .istore_n 2, 17, []), (17, .iload_n 2, 18, []), (18, .ifCond .lt 23, 21, [41]), (21, .aload_n 0, 22, []), (22, .iload_n 2, 23, []), (23, .invokevirtual 153, 26, [10, 149, 2, 0, 1185, 7]), (26, .ifCond .le 7, 29, [33]), (29, .iload_n 2, 30, []), (30, .goto 4, 33, [34]), (33, .iload_n 1, 34, []), (34, .istore_n 1, 35, []), (35, .iinc 2 (-1), 38, []), (38, .goto (-21), 41, [17]), (41, .iload_n 1, 42, []), (42, .iconst (-1), 43, []), (43, .if_icmp .ne 6, 46, [49]), (46, .bipush (-103), 48, []), (48, .ireturn, 49, [0]), (49, .aload_n 0, 50, []), (50, .iload_n 1, 51, []), (51, .invokevirtual 153, 54, [10, 149, 2, 0, 1185, 7]), (54, .istore_n 2, 55, []), (55, .iload_n 1, 56, []), (56, .istore_n 3, 57, []), (57, .iconst 0, 58, []), (58, .istore 4, 60, []), (60, .iload 4, 62, []), (62, .iload_n 2, 63, []), (63, .if_icmp .ge 33, 66, [96]), (66, .aload_n 0, 67, []), (67, .getfield 31, 70, [1, 7, 15, 0, 997, 37, 0]), (70, .iload_n 3, 71, []), (71, .iaload, 72, []), (72, .istore 5, 74, []), (74, .aload_n 0, 75, []), (75, .getfield 25, 78, [1, 7, 13, 0, 995, 35, 0]), (78, .bipush 6, 80, []), (80, .iload_n 3, 81, []), (81, .imul, 82, []), (82, .iload 5, 84, []), (84, .iadd, 85, []), (85, .iconst 0, 86, []), (86, .iastore, 87, []), (87, .iload 5, 89, []), (89, .istore_n 3, 90, []), (90, .iinc 4 1, 93, []), (93, .goto (-33), 96, [60]), (96, .iload_n 2, 97, []), (97, .ireturn, 98, [0])]
/-- 169: Model.moreOf -/
def code_169 : List Row := [(0, .aload_n 0, 1, []), (1, .getfield 31, 4, [1, 7, 15, 0, 997, 37, 0]), (4, .iload_n 1, 5, []), (5, .iaload, 6, []), (6, .iload_n 2, 7, []), (7, .if_icmp .ne 7, 10, [14]), (10, .iconst 1, 11, []), (11, .goto 4, 14, [15]), (14, .iconst 0, 15, []), (15, .istore_n 3, 16, []), (16, .iload_n 3, 17, []), (17, .ifCond .eq 7, 20, [24]), (20, .iconst 0, 21, []), (21, .goto 4, 24, [25]), (24, .iconst (-1), 25, []), (25, .istore 4, 27, []), (27, .aload_n 0, 28, []), (28, .getfield 13, 31, [1, 7, 9, 0, 991, 31, 0]), (31, .iload_n 1, 32, []), (32, .iaload, 33, []), (33, .iconst 2, 34, []), (34, .if_icmp .ne 6, 37, [40]), (37, .bipush (-2), 39, []), (39, .ireturn, 40, [0]), (40, .iload_n 3, 41, []), (41, .ifCond .eq 48, 44, [89]), (44, .aload_n 0, 45, []), (45, .getfield 13, 48, [1, 7, 9, 0, 991, 31, 0]), (48, .iload_n 1, 49, []), (49, .iaload, 50, []), (50, .iconst 1, 51, []), (51, .if_icmp .eq 13, 54, [64]), (54, .aload_n 0, 55, []), (55, .getfield 13, 58, [1, 7, 9, 0, 991, 31, 0]), (58, .iload_n 1, 59, []), (59, .iaload, 60, []), (60, .iconst 4, 61, []), (61, .if_icmp .ne 28, 64, [89]), (64, .aload_n 0, 65, []), (65, .getfield 13, 68, [1, 7, 9, 0, 991, 31, 0]), (68, .iload_n 1, 69, []), (69, .iaload, 70, []), (70, .iconst 4, 71, []), (71, .if_icmp .ne 15, 74, [86]), (74, .aload_n 0, 75, []), (75, .iload_n 1, 76, []), (76, .invokevirtual 150, 79, [10, 147, 2, 0, 1181, 7]), (79, .ifCond .eq 7, 82, [86]), (82, .iconst 2, 83, []), (83, .goto 4, 86, [87]), (86, .iconst 1, 87, []), (87, .istore 4, 89, []), (89, .aload_n 0, 90, []), (90, .getfield 31, 93, [1, 7, 15, 0, 997, 37, 0]), (93, .iload_n 2, 94, []), (94, .iaload, 95, []), (95, .iload_n 1, 96, []), (96, .if_icmp .ne 10, 99, [106]), (99, .iload 4, 101, []), (101, .iconst 1, 102, []), (102, .iadd, 103, []), (103, .goto 5, 106, [108]), (106, .iload 4, 108, []), (108, .ireturn, 109, [0])]
/-- 170: Model.goMorning -/
def code_170 : List Row := [(0, .aload_n 0, 1, []), (1, .aload_n 1, 2, []), (2, .invokevirtual 159, 5, [10, 146, 2, 0, 1165, 7]), (5, .aload_n 0, 6, []), (6, .getfield 31, 9, [1, 7, 15, 0, 997, 37, 0]), (9, .aload_n 0, 10, []), (10, .getfield 37, 13, [1, 7, 17, 0, 999, 39, 0]), (13, .invokestatic 193, 16, [11, 132, 2, 0, 1256]), (16, .aload_n 1, 17, []), (17, .aload_n 0, 18, []), (18, .getfield 40, 21, [1, 7, 18, 0, 1000, 40, 0]), (21, .invokestatic 193, 24, [11, 132, 2, 0, 1256]), (24, .iconst 0, 25, []), (25, .istore_n 2, 26, []), (26, .iload_n 2, 27, []), (27, .aload_n 0, 28, []), (28, .getfield 119, 31, [0, 7, 3, 0, 985]), (31, .if_icmp .ge 63, 34, [94]), (34, .iconst 0, 35, []), (35, .istore_n 3, 36, []), (36, .iload_n 3, 37, []), (37, .aload_n 0, 38, []), (38, .getfield 119, 41, [0, 7, 3, 0, 985]), (41, .if_icmp .ge 47, 44, [88]), (44, .aload_n 1, 45, []), (45, .bipush 6, 47, []), (47, .iload_n 2, 48, []), (48, .imul, 49, []), (49, .iload_n 3, 50, []), (50, .iadd, 51, []), (51, .iload_n 2, 52, []), (52, .iload_n 3, 53, []), (53, .if_icmp .ne 7, 56, [60]), (56, .iconst 0, 57, []), (57, .goto 24, 60, [81]), (60, .aload_n 0, 61, []), (61, .getfield 40, 64, [1, 7, 18, 0, 1000, 40, 0]), (64, .bipush 6, 66, []), (66, .iload_n 2, 67, []), (67, .imul, 68, []), (68, .iload_n 3, 69, []), (69, .iadd, 70, []), (70, .iaload, 71, []), (71, .aload_n 0, 72, []), (72, .iload_n 2, 73, []), (73, .iload_n 3, 74, []), (74, .invokevirtual 197, 77, [10, 169, 3, 0, 1259, 7]), (77, .iadd, 78, []), (78, .invokestatic 122, 81, [11, 140, 1, 0, 1150]), (81, .iastore, 82, []), (82, .iinc 3 1, 85, []), (85, .goto (-49), 88, [36]), (88, .iinc 2 1, 91, []), (91, .goto (-65), 94, [26]), (94, .aload_n 0, 95, []), (95, .aload_n 1, 96, []), (96, .invokevirtual 159, 99, [10, 146, 2, 0, 1165, 7]), (99, .iconst 0, 100, []), (100, .istore_n 2, 101, []), (101, .iconst 0, 102, []), (102, .istore_n 3, 103, []), (103, .iload_n 3, 104, []), (104, .aload_n 0, 105, []), (105, .getfield 119, 108, [0, 7, 3, 0, 985]), (108, .if_icmp .ge 32, 111, [140]), (111, .iload_n 2, 112, []), (112, .aload_n 0, 113, []), (113, .getfield 31, 116, [1, 7, 15, 0, 997, 37, 0]), (116, .iload_n 3, 117, []), (117, .iaload, 118, []), (118, .aload_n 0, 119, []), (119, .getfield 37, 122, [1, 7, 17, 0, 999, 39, 0]), (122, .iload_n 3, 123, []), (123, .iaload, 124, []), (124, .if_icmp .ne 7, 127, [131]), (127, .iconst 0, 128, []), (128, .goto 4, 131, [132]), (131, .iconst 1, 132, []), (132, .iadd, 133, []), (133, .istore_n 2, 134, []), (134, .iinc 3 1, 137, []), (137, .goto (-34), 140, [103]), (140, .iload_n 2, 141, []), (141, .ireturn, 142, [0])]
/-- 171: Model.goMornings -/
def code_171 : List Row := [(0, .iconst 0, 1, []), (1, .istore_n 3, 2, []), (2, .iload_n 3, 3, []), (3, .iload_n 2, 4, []), (4, .if_icmp .ge 15, 7, [19]), (7, .aload_n 0, 8, []), (8, .aload_n 1, 9, []), (9, .invokevirtual 200, 12, [10, 170, 2, 0, 1252, 7]), (12, .pop, 13, []), (13, .iinc 3 1, 16, []), (16, .goto (-14), 19, [2]), (19, .aload_n 0, 20, []), (20, .aload_n 1, 21, []), (21, .invokevirtual 159, 24, [10, 146, 2, 0, 1165, 7]), (24, .return_, 25, [])]
/-- 172: Model.morning -/
def code_172 : List Row := [(0, .aload_n 0, 1, []), (1, .invokevirtual 204, 4, [10, 142, 1, 0, 1248, 7]), (4, .ifCond .eq 6, 7, [10]), (7, .bipush (-103), 9, []), (9, .ireturn, 10, [0]), (10, .aload_n 0, 11, []), (11, .getfield 125, 14, [0, 7, 4, 0, 986]), (14, .sipush 999, 17, []), (17, .if_icmp .ne 6, 20, [23]), (20, .bipush (-104), 22, []), (22, .ireturn, 23, [0]), (23, .aload_n 0, 24, []), (24, .aload_n 0, 25, []), (25, .getfield 25, 28, [1, 7, 13, 0, 995, 35, 0]), (28, .invokevirtual 159, 31, [10, 146, 2, 0, 1165, 7]), (31, .iconst 0, 32, []), (32, .istore_n 1, 33, []), (33, .iload_n 1, 34, []), (34, .aload_n 0, 35, []), (35, .getfield 119, 38, [0, 7, 3, 0, 985]), (38, .if_icmp .ge 53, 41, [91]), (41, .aload_n 0, 42, []), (42, .getfield 19, 45, [1, 7, 11, 0, 993, 33, 0]), (45, .iload_n 1, 46, []), (46, .dup2, 47, []), (47, .iaload, 48, []), (48, .aload_n 0, 49, []), (49, .iload_n 1, 50, []), (50, .invokevirtual 150, 53, [10, 147, 2, 0, 1181, 7]), (53, .ifCond .eq 7, 56, [60]), (56, .iconst 1, 57, []), (57, .goto 4, 60, [61]), (60, .iconst 0, 61, []), (61, .iadd, 62, []), (62, .iastore, 63, []), (63, .aload_n 0, 64, []), (64, .getfield 22, 67, [1, 7, 12, 0, 994, 34, 0]), (67, .iload_n 1, 68, []), (68, .dup2, 69, []), (69, .iaload, 70, []), (70, .aload_n 0, 71, []), (71, .iload_n 1, 72, []), (72, .invokevirtual 153, 75, [10, 149, 2, 0, 1185, 7]), (75, .ifCond .le 7, 78, [82]), (78, .iconst 1, 79, []), (79, .goto 4, 82, [83]), (82, .iconst 0, 83, []), (83, .iadd, 84, []), (84, .iastore, 85, []), (85, .iinc 1 1, 88, []), (88, .goto (-55), 91, [33]), (91, .aload_n 0, 92, []), (92, .aload_n 0, 93, []), (93, .getfield 25, 96, [1, 7, 13, 0, 995, 35, 0]), (96, .invokevirtual 200, 99, [10, 170, 2, 0, 1252, 7]), (99, .istore_n 1, 100, []), (100, .aload_n 0, 101, []), (101, .dup, 102, []), (102, .getfield 125, 105, [0, 7, 4, 0, 986]), (105, .iconst 1, 106, []), (106, .iadd, 107, []), (107, .putfield 125, 110, [0, 7, 4, 0, 986]), (110, .aload_n 0, 111, []), (111, .dup, 112, []), (112, .getfield 128, 115, [0, 7, 5, 0, 987]), (115, .iload_n 1, 116, []), (116, .iadd, 117, []), (117, .putfield 128, 120, [0, 7, 5, 0, 987]), (120, .iload_n 1, 121, []), (121, .ireturn, 122, [0])]
/-- 173: Model.settlesOf -/
def code_173 : List Row := [(0, .aload_n 0, 1, []), (1, .getfield 25, 4, [1, 7, 13, 0, 995, 35, 0]), (4, .aload_n 0, 5, []), (5, .getfield 43, 8, [1, 7, 19, 0, 1001, 41, 0]), (8, .invokestatic 193, 11, [11, 132, 2, 0, 1256]), (11, .iconst 0, 12, []), (12, .istore_n 2, 13, []), (13, .iconst 1, 14, []), (14, .istore_n 3, 15, []), (15, .iload_n 3, 16, []), (16, .bipush 61, 18, []), (18, .if_icmp .ge 34, 21, [52]), (21, .iload_n 3, 22, []), (22, .iload_n 2, 23, []), (23, .isub, 24, []), (24, .bipush 21, 26, []), (26, .if_icmp .ge 18, 29, [44]), (29, .aload_n 0, 30, []), (30, .aload_n 0, 31, []), (31, .getfield 43, 34, [1, 7, 19, 0, 1001, 41, 0]), (34, .invokevirtual 200, 37, [10, 170, 2, 0, 1252, 7]), (37, .ifCond .le 7, 40, [44]), (40, .iload_n 3, 41, []), (41, .goto 4, 44, [45]), (44, .iload_n 2, 45, []), (45, .istore_n 2, 46, []), (46, .iinc 3 1, 49, []), (49, .goto (-34), 52, [15]), (52, .iload_n 2, 53, []), (53, .bipush 40, 55, []), (55, .if_icmp .le 5, 58, [60]), (58, .iconst (-1), 59, []), (59, .ireturn, 60, [0]), (60, .iload_n 1, 61, []), (61, .ifCond .ne 5, 64, [66]), (64, .iload_n 2, 65, []), (65, .ireturn, 66, [0]), (66, .aload_n 0, 67, []), (67, .getfield 25, 70, [1, 7, 13, 0, 995, 35, 0]), (70, .aload_n 0, 71, []), (71, .getfield 43, 74, [1, 7, 19, 0, 1001, 41, 0]), (74, .invokestatic 193, 77, [11, 132, 2, 0, 1256]), (77, .aload_n 0, 78, []), (78, .aload_n 0, 79, []), (79, .getfield 43, 82, [1, 7, 19, 0, 1001, 41, 0]), (82, .iload_n 2, 83, []), (83, .invokevirtual 208, 86, [10, 171, 3, 0, 1273, 7]), (86, .iload_n 1, 87, []), (87, .bipush 10, 89, []), (89, .isub, 90, []), (90, .aload_n 0, 91, []), (91, .getfield 119, 94, [0, 7, 3, 0, 985]), (94, .if_icmp .ge 15, 97, [109]), (97, .aload_n 0, 98, []), (98, .getfield 31, 101, [1, 7, 15, 0, 997, 37, 0]), (101, .iload_n 1, 102, []), (102, .bipush 10, 104, []), (104, .isub, 105, []), (105, .iaload, 106, []), (106, .goto 4, 109, [110]), (109, .iconst (-1), 110, []), (110, .ireturn, 111, [0])]
/-- 174: Model.settles -/
def code_174 : List Row := [(0, .iload_n 1, 1, []), (1, .ifCond .eq 20, 4, [21]), (4, .iload_n 1, 5, []), (5, .i2l, 6, []), (6, .ldc2_w 212, 9, [10, 1267]), (9, .ldc2_w 214, 12, [15, 1268]), (12, .invokestatic 88, 15, [11, 131, 3, 0, 1117]), (15, .ifCond .ne 6, 18, [21]), (18, .bipush (-102), 20, []), (20, .ireturn, 21, [0]), (21, .aload_n 0, 22, []), (22, .invokevirtual 204, 25, [10, 142, 1, 0, 1248, 7]), (25, .ifCond .eq 8, 28, [33]), (28, .bipush (-103), 30, []), (30, .goto 8, 33, [38]), (33, .aload_n 0, 34, []), (34, .iload_n 1, 35, []), (35, .invokevirtual 216, 38, [10, 173, 2, 0, 1269, 7]), (38, .ireturn, 39, [0])]
/-- 175: Model.pairsMany -/
def code_175 : List Row := [(0, .aload_n 0, 1, []), (1, .getfield 119, 4, [0, 7, 3, 0, 985]), (4, .aload_n 0, 5, []), (5, .getfield 119, 8, [0, 7, 3, 0, 985]), (8, .iconst 1, 9, []), (9, .isub, 10, []), (10, .imul, 11, []), (11, .iconst 2, 12, []), (12, .idiv, 13, []), (13, .ireturn, 14, [0])]
/-- 176: Model.pairAt -/
def code_176 : List Row := [(0, .iload_n 1, 1, []), (1, .istore_n 2, 2, []), (2, .iconst 0, 3, []), (3, .istore_n 3, 4, []), (4, .iload_n 2, 5, []), (5, .aload_n 0, 6, []), (6, .getfield 119, 9, [0, 7, 3, 0, 985]), (9, .iconst 1, 10, []), (10, .isub, 11, []), (11, .iload_n 3, 12, []), (12, .isub, 13, []), (13, .if_icmp .lt 20, 16, [33]), (16, .iload_n 2, 17, []), (17, .aload_n 0, 18, []), (18, .getfield 119, 21, [0, 7, 3, 0, 985]), (21, .iconst 1, 22, []), (22, .isub, 23, []), (23, .iload_n 3, 24, []), (24, .isub, 25, []), (25, .isub, 26, []), (26, .istore_n 2, 27, []), (27, .iinc 3 1, 30, []), (30, .goto (-26), 33, [4]), (33, .bipush 10, 35, []), (35, .iload_n 3, 36, []), (36, .imul, 37, []), (37, .iload_n 3, 38, []), (38, .iadd, 39, []), (39, .iconst 1, 40, []), (40, .iadd, 41, []), (41, .iload_n 2, 42, []), (42, .iadd, 43, []), (43, .ireturn, 44, [0])]
/-- 177: Model.makePeace -/
def code_177 : List Row := [(0, .iload_n 2, 1, []), (1, .bipush 10, 3, []), (3, .idiv, 4, []), (4, .istore_n 3, 5, []), (5, .iload_n 2, 6, []), (6, .bipush 10, 8, []), (8, .irem, 9, []), (9, .istore 4, 11, []), (11, .aload_n 1, 12, []), (12, .bipush 6, 14, []), (14, .iload_n 3, 15, []), (15, .imul, 16, []), (16, .iload 4, 18, []), (18, .iadd, 19, []), (19, .iconst 0, 20, []), (20, .iastore, 21, []), (21, .aload_n 1, 22, []), (22, .bipush 6, 24, []), (24, .iload 4, 26, []), (26, .imul, 27, []), (27, .iload_n 3, 28, []), (28, .iadd, 29, []), (29, .iconst 0, 30, []), (30, .iastore, 31, []), (31, .return_, 32, [])]
/-- 178: Model.isCalm -/
def code_178 : List Row := [(0, .aload_n 0, 1, []), (1, .getfield 25, 4, [1, 7, 13, 0, 995, 35, 0]), (4, .aload_n 0, 5, []), (5, .getfield 43, 8, [1, 7, 19, 0, 1001, 41, 0]), (8, .invokestatic 193, 11, [11, 132, 2, 0, 1256]), (11, .iconst 0, 12, []), (12, .istore 5, 14, []), (14, .iload 5, 16, []), (16, .iload 4, 18, []), (18, .if_icmp .ge 25, 21, [43]), (21, .aload_n 0, 22, []), (22, .aload_n 0, 23, []), (23, .getfield 43, 26, [1, 7, 19, 0, 1001, 41, 0]), (26, .aload_n 0, 27, []), (27, .aload_n 3, 28, []), (28, .iload 5, 30, []), (30, .iaload, 31, []), (31, .invokevirtual 219, 34, [10, 176, 2, 0, 1298, 7]), (34, .invokevirtual 222, 37, [10, 177, 3, 0, 1302, 7]), (37, .iinc 5 1, 40, []), (40, .goto (-26), 43, [14]), (43, .aload_n 0, 44, []), (44, .aload_n 0, 45, []), (45, .getfield 43, 48, [1, 7, 19, 0, 1001, 41, 0]), (48, .iload_n 2, 49, []), (49, .invokevirtual 208, 52, [10, 171, 3, 0, 1273, 7]), (52, .iconst 1, 53, []), (53, .istore 5, 55, []), (55, .iconst 0, 56, []), (56, .istore 6, 58, []), (58, .iload 6, 60, []), (60, .aload_n 0, 61, []), (61, .getfield 119, 64, [0, 7, 3, 0, 985]), (64, .if_icmp .ge 41, 67, [105]), (67, .iload 5, 69, []), (69, .ifCond .eq 27, 72, [96]), (72, .iload_n 1, 73, []), (73, .iload 6, 75, []), (75, .ishr, 76, []), (76, .iconst 1, 77, []), (77, .iand, 78, []), (78, .ifCond .eq 14, 81, [92]), (81, .aload_n 0, 82, []), (82, .getfield 31, 85, [1, 7, 15, 0, 997, 37, 0]), (85, .iload 6, 87, []), (87, .iaload, 88, []), (88, .iconst (-1), 89, []), (89, .if_icmp .ne 7, 92, [96]), (92, .iconst 1, 93, []), (93, .goto 4, 96, [97]), (96, .iconst 0, 97, []), (97, .istore 5, 99, []), (99, .iinc 6 1, 102, []), (102, .goto (-44), 105, [58]), (105, .iload 5, 107, []), (107, .ireturn, 108, [1])]
/-- 179: Model.nextRow -/
def code_179 : List Row := [(0, .iload_n 1, 1, []), (1, .iconst 1, 2, []), (2, .isub, 3, []), (3, .istore_n 3, 4, []), (4, .iload_n 3, 5, []), (5, .ifCond .lt 23, 8, [28]), (8, .aload_n 0, 9, []), (9, .getfield 49, 12, [1, 7, 22, 0, 1004, 43, 0]), (12, .iload_n 3, 13, []), (13, .iaload, 14, []), (14, .iload_n 2, 15, []), (15, .iload_n 1, 16, []), (16, .isub, 17, []), (17, .iload_n 3, 18, []), (18, .iadd, 19, []), (19, .if_icmp .ne 9, 22, [28]), (22, .iinc 3 (-1), 25, []), (25, .goto (-21), 28, [4]), (28, .iload_n 3, 29, []), (29, .ifCond .ge 5, 32, [34]), (32, .iconst 0, 33, []), (33, .ireturn, 34, [1]), (34, .aload_n 0, 35, []), (35, .getfield 49, 38, [1, 7, 22, 0, 1004, 43, 0]), (38, .iload_n 3, 39, []), (39, .dup2, 40, []), (40, .iaload, 41, []), (41, .iconst 1, 42, []), (42, .iadd, 43, []), (43, .iastore, 44, []), (44, .iload_n 3, 45, []), (45, .iconst 1, 46, []), (46, .iadd, 47, []), (47, .istore 4, 49, []), (49, .iload 4, 51, []), (51, .iload_n 1, 52, []), (52, .if_icmp .ge 27, 55, [79]), (55, .aload_n 0, 56, []), (56, .getfield 49, 59, [1, 7, 22, 0, 1004, 43, 0]), (59, .iload 4, 61, []), (61, .aload_n 0, 62, []), (62, .getfield 49, 65, [1, 7, 22, 0, 1004, 43, 0]), (65, .iload 4, 67, []), (67, .iconst 1, 68, []), (68, .isub, 69, []), (69, .iaload, 70, []), (70, .iconst 1, 71, []), (71, .iadd, 72, []), (72, .iastore, 73, []), (73, .iinc 4 1, 76, []), (76, .goto (-27), 79, [49]), (79, .iconst 1, 80, []), (80, .ireturn, 81, [1])]
/-- 180: Model.layCalm -/
def code_180 : List Row := [(0, .iconst 0, 1, []), (1, .istore_n 3, 2, []), (2, .iload_n 3, 3, []), (3, .iconst 4, 4, []), (4, .if_icmp .ge 94, 7, [98]), (7, .iconst 0, 8, []), (8, .istore 4, 10, []), (10, .iload 4, 12, []), (12, .iconst 3, 13, []), (13, .if_icmp .ge 18, 16, [31]), (16, .aload_n 0, 17, []), (17, .getfield 49, 20, [1, 7, 22, 0, 1004, 43, 0]), (20, .iload 4, 22, []), (22, .iload 4, 24, []), (24, .iastore, 25, []), (25, .iinc 4 1, 28, []), (28, .goto (-18), 31, [10]), (31, .iload_n 3, 32, []), (32, .aload_n 0, 33, []), (33, .invokevirtual 225, 36, [10, 175, 1, 0, 1290, 7]), (36, .if_icmp .gt 7, 39, [43]), (39, .iconst 1, 40, []), (40, .goto 4, 43, [44]), (43, .iconst 0, 44, []), (44, .istore 4, 46, []), (46, .iload 4, 48, []), (48, .ifCond .eq 44, 51, [92]), (51, .aload_n 0, 52, []), (52, .iload_n 1, 53, []), (53, .iload_n 2, 54, []), (54, .aload_n 0, 55, []), (55, .getfield 49, 58, [1, 7, 22, 0, 1004, 43, 0]), (58, .iload_n 3, 59, []), (59, .invokevirtual 228, 62, [10, 178, 5, 0, 1294, 7]), (62, .ifCond .eq 16, 65, [78]), (65, .aload_n 0, 66, []), (66, .getfield 49, 69, [1, 7, 22, 0, 1004, 43, 0]), (69, .aload_n 0, 70, []), (70, .getfield 46, 73, [1, 7, 21, 0, 1003, 42, 0]), (73, .invokestatic 193, 76, [11, 132, 2, 0, 1256]), (76, .iload_n 3, 77, []), (77, .ireturn, 78, [0]), (78, .aload_n 0, 79, []), (79, .iload_n 3, 80, []), (80, .aload_n 0, 81, []), (81, .invokevirtual 225, 84, [10, 175, 1, 0, 1290, 7]), (84, .invokevirtual 232, 87, [10, 179, 3, 0, 1306, 7]), (87, .istore 4, 89, []), (89, .goto (-43), 92, [46]), (92, .iinc 3 1, 95, []), (95, .goto (-93), 98, [2]), (98, .iconst (-1), 99, []), (99, .ireturn, 100, [0])]
/-- 181: Model.calmOf -/
def code_181 : List Row := [(0, .aload_n 0, 1, []), (1, .iload_n 1, 2, []), (2, .iload_n 2, 3, []), (3, .invokevirtual 235, 6, [10, 180, 3, 0, 1286, 7]), (6, .istore 4, 8, []), (8, .iload_n 3, 9, []), (9, .ifCond .ne 8, 12, [17]), (12, .iload 4, 14, []), (14, .goto 29, 17, [43]), (17, .iload_n 3, 18, []), (18, .bipush 10, 20, []), (20, .isub, 21, []), (21, .iload 4, 23, []), (23, .if_icmp .ge 19, 26, [42]), (26, .aload_n 0, 27, []), (27, .aload_n 0, 28, []), (28, .getfield 46, 31, [1, 7, 21, 0, 1003, 42, 0]), (31, .iload_n 3, 32, []), (32, .bipush 10, 34, []), (34, .isub, 35, []), (35, .iaload, 36, []), (36, .invokevirtual 219, 39, [10, 176, 2, 0, 1298, 7]), (39, .goto 4, 42, [43]), (42, .iconst (-1), 43, []), (43, .ireturn, 44, [0])]
/-- 182: Model.calm -/
def code_182 : List Row := [(0, .iload_n 1, 1, []), (1, .i2l, 2, []), (2, .lconst 1, 3, []), (3, .iconst 1, 4, []), (4, .aload_n 0, 5, []), (5, .getfield 119, 8, [0, 7, 3, 0, 985]), (8, .ishl, 9, []), (9, .iconst 1, 10, []), (10, .isub, 11, []), (11, .i2l, 12, []), (12, .invokestatic 88, 15, [11, 131, 3, 0, 1117]), (15, .ifCond .eq 33, 18, [48]), (18, .iload_n 2, 19, []), (19, .i2l, 20, []), (20, .lconst 0, 21, []), (21, .ldc2_w 182, 24, [5, 1210]), (24, .invokestatic 88, 27, [11, 131, 3, 0, 1117]), (27, .ifCond .eq 21, 30, [48]), (30, .iload_n 3, 31, []), (31, .ifCond .eq 20, 34, [51]), (34, .iload_n 3, 35, []), (35, .i2l, 36, []), (36, .ldc2_w 212, 39, [10, 1267]), (39, .ldc2_w 238, 42, [12, 1281]), (42, .invokestatic 88, 45, [11, 131, 3, 0, 1117]), (45, .ifCond .ne 6, 48, [51]), (48, .bipush (-102), 50, []), (50, .ireturn, 51, [0]), (51, .aload_n 0, 52, []), (52, .getfield 240, 55, [0, 7, 20, 0, 1002]), (55, .bipush 20, 57, []), (57, .if_icmp .ne 6, 60, [63]), (60, .bipush (-103), 62, []), (62, .ireturn, 63, [0]), (63, .aload_n 0, 64, []), (64, .dup, 65, []), (65, .getfield 240, 68, [0, 7, 20, 0, 1002]), (68, .iconst 1, 69, []), (69, .iadd, 70, []), (70, .putfield 240, 73, [0, 7, 20, 0, 1002]), (73, .aload_n 0, 74, []), (74, .iload_n 1, 75, []), (75, .iload_n 2, 76, []), (76, .iload_n 3, 77, []), (77, .invokevirtual 243, 80, [10, 181, 4, 0, 1282, 7]), (80, .ireturn, 81, [0])]
/-- 183: Model.wrongBy -/
def code_183 : List Row := [(0, .aload_n 0, 1, []), (1, .getfield 25, 4, [1, 7, 13, 0, 995, 35, 0]), (4, .aload_n 0, 5, []), (5, .getfield 43, 8, [1, 7, 19, 0, 1001, 41, 0]), (8, .invokestatic 193, 11, [11, 132, 2, 0, 1256]), (11, .iconst 1, 12, []), (12, .istore_n 3, 13, []), (13, .iconst 1, 14, []), (14, .istore 4, 16, []), (16, .iload 4, 18, []), (18, .iload_n 2, 19, []), (19, .if_icmp .ge 18, 22, [37]), (22, .iload_n 3, 23, []), (23, .aload_n 0, 24, []), (24, .invokevirtual 225, 27, [10, 175, 1, 0, 1290, 7]), (27, .iconst 1, 28, []), (28, .iadd, 29, []), (29, .imul, 30, []), (30, .istore_n 3, 31, []), (31, .iinc 4 1, 34, []), (34, .goto (-18), 37, [16]), (37, .iload_n 1, 38, []), (38, .istore 4, 40, []), (40, .iconst 0, 41, []), (41, .istore 5, 43, []), (43, .iload 5, 45, []), (45, .iload_n 2, 46, []), (46, .if_icmp .ge 60, 49, [106]), (49, .iload 4, 51, []), (51, .iload_n 3, 52, []), (52, .idiv, 53, []), (53, .istore 6, 55, []), (55, .iload 4, 57, []), (57, .iload_n 3, 58, []), (58, .irem, 59, []), (59, .istore 4, 61, []), (61, .iload_n 3, 62, []), (62, .aload_n 0, 63, []), (63, .invokevirtual 225, 66, [10, 175, 1, 0, 1290, 7]), (66, .iconst 1, 67, []), (67, .iadd, 68, []), (68, .idiv, 69, []), (69, .istore_n 3, 70, []), (70, .iload 6, 72, []), (72, .ifCond .le 19, 75, [91]), (75, .aload_n 0, 76, []), (76, .aload_n 0, 77, []), (77, .getfield 43, 80, [1, 7, 19, 0, 1001, 41, 0]), (80, .aload_n 0, 81, []), (81, .iload 6, 83, []), (83, .iconst 1, 84, []), (84, .isub, 85, []), (85, .invokevirtual 219, 88, [10, 176, 2, 0, 1298, 7]), (88, .invokevirtual 222, 91, [10, 177, 3, 0, 1302, 7]), (91, .aload_n 0, 92, []), (92, .aload_n 0, 93, []), (93, .getfield 43, 96, [1, 7, 19, 0, 1001, 41, 0]), (96, .invokevirtual 200, 99, [10, 170, 2, 0, 1252, 7]), (99, .pop, 100, []), (100, .iinc 5 1, 103, []), (103, .goto (-60), 106, [43]), (106, .aload_n 0, 107, []), (107, .invokevirtual 247, 110, [10, 148, 1, 0, 1323, 7]), (110, .aload_n 0, 111, []), (111, .invokevirtual 250, 114, [10, 151, 1, 0, 1327, 7]), (114, .iadd, 115, []), (115, .ireturn, 116, [0])]
/-- 184: Model.arbiterOf -/
def code_184 : List Row := [(0, .iconst 1, 1, []), (1, .istore_n 3, 2, []), (2, .iconst 0, 3, []), (3, .istore 4, 5, []), (5, .iload 4, 7, []), (7, .iload_n 1, 8, []), (8, .if_icmp .ge 18, 11, [26]), (11, .iload_n 3, 12, []), (12, .aload_n 0, 13, []), (13, .invokevirtual 225, 16, [10, 175, 1, 0, 1290, 7]), (16, .iconst 1, 17, []), (17, .iadd, 18, []), (18, .imul, 19, []), (19, .istore_n 3, 20, []), (20, .iinc 4 1, 23, []), (23, .goto (-18), 26, [5]), (26, .iconst 0, 27, []), (27, .istore 4, 29, []), (29, .bipush 99, 31, []), (31, .istore 5, 33, []), (33, .iconst 0, 34, []), (34, .istore 6, 36, []), (36, .iload 6, 38, []), (38, .iload_n 3, 39, []), (39, .if_icmp .ge 55, 42, [94]), (42, .iload 5, 44, []), (44, .ifCond .le 50, 47, [94]), (47, .aload_n 0, 48, []), (48, .iload 6, 50, []), (50, .iload_n 1, 51, []), (51, .invokevirtual 253, 54, [10, 183, 3, 0, 1319, 7]), (54, .istore 7, 56, []), (56, .iload 7, 58, []), (58, .iload 5, 60, []), (60, .if_icmp .ge 8, 63, [68]), (63, .iload 6, 65, []), (65, .goto 5, 68, [70]), (68, .iload 4, 70, []), (70, .istore 4, 72, []), (72, .iload 7, 74, []), (74, .iload 5, 76, []), (76, .if_icmp .ge 8, 79, [84]), (79, .iload 7, 81, []), (81, .goto 5, 84, [86]), (84, .iload 5, 86, []), (86, .istore 5, 88, []), (88, .iinc 6 1, 91, []), (91, .goto (-55), 94, [36]), (94, .iload_n 2, 95, []), (95, .ifCond .ne 6, 98, [101]), (98, .iload 5, 100, []), (100, .ireturn, 101, [0]), (101, .iload_n 2, 102, []), (102, .bipush 10, 104, []), (104, .isub, 105, []), (105, .iload_n 1, 106, []), (106, .if_icmp .lt 5, 109, [111]), (109, .iconst (-1), 110, []), (110, .ireturn, 111, [0]), (111, .iload_n 1, 112, []), (112, .iconst 1, 113, []), (113, .isub, 114, []), (114, .istore 6, 116, []), (116, .iload 6, 118, []), (118, .iload_n 2, 119, []), (119, .bipush 10, 121, []), (121, .isub, 122, []), (122, .if_icmp .le 20, 125, [142]), (125, .iload 4, 127, []), (127, .aload_n 0, 128, []), (128, .invokevirtual 225, 131, [10, 175, 1, 0, 1290, 7]), (131, .iconst 1, 132, []), (132, .iadd, 133, []), (133, .idiv, 134, []), (134, .istore 4, 136, []), (136, .iinc 6 (-1), 139, []), (139, .goto (-23), 142, [116]), (142, .iload 4, 144, []), (144, .aload_n 0, 145, []), (145, .invokevirtual 225, 148, [10, 175, 1, 0, 1290, 7]), (148, .iconst 1, 149, []), (149, .iadd, 150, []), (150, .irem, 151, []), (151, .istore 6, 153, []), (153, .iload 6, 155, []), (155, .ifCond .ne 7, 158, [162]), (158, .iconst (-1), 159, []), (159, .goto 11, 162, [170]), (162, .aload_n 0, 163, []), (163, .iload 6, 165, []), (165, .iconst 1, 166, []), (166, .isub, 167, []), (167, .invokevirtual 219, 170, [10, 176, 2, 0, 1298, 7]), (170, .ireturn, 171, [0])]
/-- 185: Model.arbiter -/
def code_185 : List Row := [(0, .iload_n 1, 1, []), (1, .i2l, 2, []), (2, .lconst 1, 3, []), (3, .ldc2_w 256, 6, [3, 1314]), (6, .invokestatic 88, 9, [11, 131, 3, 0, 1117]), (9, .ifCond .eq 21, 12, [30]), (12, .iload_n 2, 13, []), (13, .ifCond .eq 20, 16, [33]), (16, .iload_n 2, 17, []), (17, .i2l, 18, []), (18, .ldc2_w 212, 21, [10, 1267]), (21, .ldc2_w 238, 24, [12, 1281]), (24, .invokestatic 88, 27, [11, 131, 3, 0, 1117]), (27, .ifCond .ne 6, 30, [33]), (30, .bipush (-102), 32, []), (32, .ireturn, 33, [0]), (33, .aload_n 0, 34, []), (34, .invokevirtual 204, 37, [10, 142, 1, 0, 1248, 7]), (37, .ifCond .ne 12, 40, [49]), (40, .aload_n 0, 41, []), (41, .getfield 258, 44, [0, 7, 23, 0, 1005]), (44, .bipush 12, 46, []), (46, .if_icmp .ne 6, 49, [52]), (49, .bipush (-103), 51, []), (51, .ireturn, 52, [0]), (52, .aload_n 0, 53, []), (53, .dup, 54, []), (54, .getfield 258, 57, [0, 7, 23, 0, 1005]), (57, .iconst 1, 58, []), (58, .iadd, 59, []), (59, .putfield 258, 62, [0, 7, 23, 0, 1005]), (62, .aload_n 0, 63, []), (63, .iload_n 1, 64, []), (64, .iload_n 2, 65, []), (65, .invokevirtual 261, 68, [10, 184, 3, 0, 1315, 7]), (68, .ireturn, 69, [0])]
/-- 186: Model.grudgeOf -/
def code_186 : List Row := [(0, .iconst 1, 1, []), (1, .istore 4, 3, []), (3, .iload 4, 5, []), (5, .bipush 10, 7, []), (7, .if_icmp .ge 70, 10, [77]), (10, .aload_n 0, 11, []), (11, .getfield 25, 14, [1, 7, 13, 0, 995, 35, 0]), (14, .aload_n 0, 15, []), (15, .getfield 43, 18, [1, 7, 19, 0, 1001, 41, 0]), (18, .invokestatic 193, 21, [11, 132, 2, 0, 1256]), (21, .aload_n 0, 22, []), (22, .getfield 43, 25, [1, 7, 19, 0, 1001, 41, 0]), (25, .bipush 6, 27, []), (27, .iload_n 1, 28, []), (28, .imul, 29, []), (29, .iload_n 2, 30, []), (30, .iadd, 31, []), (31, .aload_n 0, 32, []), (32, .getfield 43, 35, [1, 7, 19, 0, 1001, 41, 0]), (35, .bipush 6, 37, []), (37, .iload_n 1, 38, []), (38, .imul, 39, []), (39, .iload_n 2, 40, []), (40, .iadd, 41, []), (41, .iaload, 42, []), (42, .iload 4, 44, []), (44, .iadd, 45, []), (45, .invokestatic 122, 48, [11, 140, 1, 0, 1150]), (48, .iastore, 49, []), (49, .aload_n 0, 50, []), (50, .aload_n 0, 51, []), (51, .getfield 43, 54, [1, 7, 19, 0, 1001, 41, 0]), (54, .iload_n 3, 55, []), (55, .invokevirtual 208, 58, [10, 171, 3, 0, 1273, 7]), (58, .aload_n 0, 59, []), (59, .getfield 31, 62, [1, 7, 15, 0, 997, 37, 0]), (62, .iload_n 1, 63, []), (63, .iaload, 64, []), (64, .iload_n 2, 65, []), (65, .if_icmp .ne 6, 68, [71]), (68, .iload 4, 70, []), (70, .ireturn, 71, [0]), (71, .iinc 4 1, 74, []), (74, .goto (-71), 77, [3]), (77, .iconst (-1), 78, []), (78, .ireturn, 79, [0])]
/-- 187: Model.grudge -/
def code_187 : List Row := [(0, .aload_n 0, 1, []), (1, .iload_n 1, 2, []), (2, .iload_n 2, 3, []), (3, .invokevirtual 178, 6, [10, 144, 3, 0, 1202, 7]), (6, .ifCond .ne 6, 9, [12]), (9, .bipush (-101), 11, []), (11, .ireturn, 12, [0]), (12, .iload_n 3, 13, []), (13, .i2l, 14, []), (14, .lconst 0, 15, []), (15, .ldc2_w 182, 18, [5, 1210]), (18, .invokestatic 88, 21, [11, 131, 3, 0, 1117]), (21, .ifCond .eq 13, 24, [34]), (24, .aload_n 0, 25, []), (25, .iload_n 1, 26, []), (26, .iload_n 2, 27, []), (27, .iload_n 3, 28, []), (28, .invokevirtual 264, 31, [10, 186, 4, 0, 1339, 7]), (31, .goto 5, 34, [36]), (34, .bipush (-102), 36, []), (36, .ireturn, 37, [0])]
/-- 188: Model.riverBehind -/
def code_188 : List Row := [(0, .aload_n 0, 1, []), (1, .getfield 25, 4, [1, 7, 13, 0, 995, 35, 0]), (4, .aload_n 0, 5, []), (5, .getfield 43, 8, [1, 7, 19, 0, 1001, 41, 0]), (8, .invokestatic 193, 11, [11, 132, 2, 0, 1256]), (11, .aload_n 0, 12, []), (12, .aload_n 0, 13, []), (13, .getfield 43, 16, [1, 7, 19, 0, 1001, 41, 0]), (16, .iload_n 1, 17, []), (17, .invokevirtual 208, 20, [10, 171, 3, 0, 1273, 7]), (20, .aload_n 0, 21, []), (21, .invokevirtual 267, 24, [10, 153, 1, 0, 1355, 7]), (24, .ireturn, 25, [0])]
/-- 189: Model.wallsOf -/
def code_189 : List Row := [(0, .iconst (-1), 1, []), (1, .istore_n 3, 2, []), (2, .aload_n 0, 3, []), (3, .iload_n 1, 4, []), (4, .invokevirtual 270, 7, [10, 188, 2, 0, 1351, 7]), (7, .istore 4, 9, []), (9, .iconst 0, 10, []), (10, .istore 5, 12, []), (12, .iload 5, 14, []), (14, .aload_n 0, 15, []), (15, .invokevirtual 225, 18, [10, 175, 1, 0, 1290, 7]), (18, .if_icmp .ge 106, 21, [124]), (21, .aload_n 0, 22, []), (22, .iload 5, 24, []), (24, .invokevirtual 219, 27, [10, 176, 2, 0, 1298, 7]), (27, .bipush 10, 29, []), (29, .idiv, 30, []), (30, .istore 6, 32, []), (32, .aload_n 0, 33, []), (33, .iload 5, 35, []), (35, .invokevirtual 219, 38, [10, 176, 2, 0, 1298, 7]), (38, .bipush 10, 40, []), (40, .irem, 41, []), (41, .istore 7, 43, []), (43, .aload_n 0, 44, []), (44, .getfield 28, 47, [1, 7, 14, 0, 996, 36, 0]), (47, .bipush 6, 49, []), (49, .iload 6, 51, []), (51, .imul, 52, []), (52, .iload 7, 54, []), (54, .iadd, 55, []), (55, .iaload, 56, []), (56, .ifCond .ne 62, 59, [118]), (59, .aload_n 0, 60, []), (60, .iload 6, 62, []), (62, .iload 7, 64, []), (64, .iconst 1, 65, []), (65, .invokevirtual 189, 68, [10, 165, 4, 0, 1232, 7]), (68, .aload_n 0, 69, []), (69, .iload_n 1, 70, []), (70, .invokevirtual 270, 73, [10, 188, 2, 0, 1351, 7]), (73, .istore 8, 75, []), (75, .aload_n 0, 76, []), (76, .iload 6, 78, []), (78, .iload 7, 80, []), (80, .iconst 0, 81, []), (81, .invokevirtual 189, 84, [10, 165, 4, 0, 1232, 7]), (84, .iload 8, 86, []), (86, .iload 4, 88, []), (88, .if_icmp .le 12, 91, [100]), (91, .aload_n 0, 92, []), (92, .iload 5, 94, []), (94, .invokevirtual 219, 97, [10, 176, 2, 0, 1298, 7]), (97, .goto 4, 100, [101]), (100, .iload_n 3, 101, []), (101, .istore_n 3, 102, []), (102, .iload 8, 104, []), (104, .iload 4, 106, []), (106, .if_icmp .le 8, 109, [114]), (109, .iload 8, 111, []), (111, .goto 5, 114, [116]), (114, .iload 4, 116, []), (116, .istore 4, 118, []), (118, .iinc 5 1, 121, []), (121, .goto (-109), 124, [12]), (124, .iload_n 3, 125, []), (125, .iconst (-1), 126, []), (126, .if_icmp .eq 7, 129, [133]), (129, .iload_n 2, 130, []), (130, .ifCond .ne 7, 133, [137]), (133, .iload_n 3, 134, []), (134, .goto 5, 137, [139]), (137, .iload 4, 139, []), (139, .ireturn, 140, [0])]
/-- 190: Model.walls -/
def code_190 : List Row := [(0, .iload_n 1, 1, []), (1, .i2l, 2, []), (2, .lconst 0, 3, []), (3, .ldc2_w 182, 6, [5, 1210]), (6, .invokestatic 88, 9, [11, 131, 3, 0, 1117]), (9, .ifCond .eq 13, 12, [22]), (12, .iload_n 2, 13, []), (13, .i2l, 14, []), (14, .lconst 0, 15, []), (15, .lconst 1, 16, []), (16, .invokestatic 88, 19, [11, 131, 3, 0, 1117]), (19, .ifCond .ne 6, 22, [25]), (22, .bipush (-102), 24, []), (24, .ireturn, 25, [0]), (25, .aload_n 0, 26, []), (26, .invokevirtual 204, 29, [10, 142, 1, 0, 1248, 7]), (29, .ifCond .eq 8, 32, [37]), (32, .bipush (-103), 34, []), (34, .goto 9, 37, [43]), (37, .aload_n 0, 38, []), (38, .iload_n 1, 39, []), (39, .iload_n 2, 40, []), (40, .invokevirtual 273, 43, [10, 189, 3, 0, 1347, 7]), (43, .ireturn, 44, [0])]
/-- 191: Model.see -/
def code_191 : List Row := [(0, .aload_n 0, 1, []), (1, .iload_n 1, 2, []), (2, .invokevirtual 143, 5, [10, 143, 2, 0, 1157, 7]), (5, .ifCond .eq 17, 8, [22]), (8, .iload_n 2, 9, []), (9, .iconst (-1), 10, []), (10, .if_icmp .eq 15, 13, [25]), (13, .aload_n 0, 14, []), (14, .iload_n 1, 15, []), (15, .iload_n 2, 16, []), (16, .invokevirtual 178, 19, [10, 144, 3, 0, 1202, 7]), (19, .ifCond .ne 6, 22, [25]), (22, .bipush (-101), 24, []), (24, .ireturn, 25, [0]), (25, .iload_n 3, 26, []), (26, .i2l, 27, []), (27, .lconst 0, 28, []), (28, .ldc2_w 182, 31, [5, 1210]), (31, .invokestatic 88, 34, [11, 131, 3, 0, 1117]), (34, .ifCond .ne 6, 37, [40]), (37, .bipush (-102), 39, []), (39, .ireturn, 40, [0]), (40, .aload_n 0, 41, []), (41, .getfield 137, 44, [0, 7, 24, 0, 1006]), (44, .bipush 8, 46, []), (46, .if_icmp .ne 6, 49, [52]), (49, .bipush (-104), 51, []), (51, .ireturn, 52, [0]), (52, .aload_n 0, 53, []), (53, .getfield 52, 56, [1, 7, 25, 0, 1007, 44, 0]), (56, .iconst 3, 57, []), (57, .aload_n 0, 58, []), (58, .getfield 137, 61, [0, 7, 24, 0, 1006]), (61, .imul, 62, []), (62, .iload_n 1, 63, []), (63, .iastore, 64, []), (64, .aload_n 0, 65, []), (65, .getfield 52, 68, [1, 7, 25, 0, 1007, 44, 0]), (68, .iconst 3, 69, []), (69, .aload_n 0, 70, []), (70, .getfield 137, 73, [0, 7, 24, 0, 1006]), (73, .imul, 74, []), (74, .iconst 1, 75, []), (75, .iadd, 76, []), (76, .iload_n 2, 77, []), (77, .iastore, 78, []), (78, .aload_n 0, 79, []), (79, .getfield 52, 82, [1, 7, 25, 0, 1007, 44, 0]), (82, .iconst 3, 83, []), (83, .aload_n 0, 84, []), (84, .getfield 137, 87, [0, 7, 24, 0, 1006]), (87, .imul, 88, []), (88, .iconst 2, 89, []), (89, .iadd, 90, []), (90, .iload_n 3, 91, []), (91, .iastore, 92, []), (92, .aload_n 0, 93, []), (93, .dup, 94, []), (94, .getfield 137, 97, [0, 7, 24, 0, 1006]), (97, .iconst 1, 98, []), (98, .iadd, 99, []), (99, .putfield 137, 102, [0, 7, 24, 0, 1006]), (102, .aload_n 0, 103, []), (103, .getfield 137, 106, [0, 7, 24, 0, 1006]), (106, .ireturn, 107, [0])]
/-- 192: Model.forget -/
def code_192 : List Row := [(0, .aload_n 0, 1, []), (1, .getfield 137, 4, [0, 7, 24, 0, 1006]), (4, .istore_n 1, 5, []), (5, .aload_n 0, 6, []), (6, .iconst 0, 7, []), (7, .putfield 137, 10, [0, 7, 24, 0, 1006]), (10, .iload_n 1, 11, []), (11, .ireturn, 12, [0])]
/-- 193: Model.laySpan -/
def code_193 : List Row := [(0, .iconst 0, 1, []), (1, .istore_n 3, 2, []), (2, .iload_n 3, 3, []), (3, .bipush 21, 5, []), (5, .if_icmp .ge 176, 8, [181]), (8, .aload_n 0, 9, []), (9, .getfield 25, 12, [1, 7, 13, 0, 995, 35, 0]), (12, .aload_n 0, 13, []), (13, .getfield 43, 16, [1, 7, 19, 0, 1001, 41, 0]), (16, .invokestatic 193, 19, [11, 132, 2, 0, 1256]), (19, .aload_n 0, 20, []), (20, .getfield 43, 23, [1, 7, 19, 0, 1001, 41, 0]), (23, .bipush 6, 25, []), (25, .iload_n 1, 26, []), (26, .imul, 27, []), (27, .iload_n 2, 28, []), (28, .iadd, 29, []), (29, .iload_n 3, 30, []), (30, .iastore, 31, []), (31, .aload_n 0, 32, []), (32, .getfield 58, 35, [1, 7, 27, 0, 1009, 46, 0]), (35, .iload_n 3, 36, []), (36, .iconst 1, 37, []), (37, .iastore, 38, []), (38, .aload_n 0, 39, []), (39, .aload_n 0, 40, []), (40, .getfield 43, 43, [1, 7, 19, 0, 1001, 41, 0]), (43, .invokevirtual 159, 46, [10, 146, 2, 0, 1165, 7]), (46, .iconst 0, 47, []), (47, .istore 4, 49, []), (49, .iload 4, 51, []), (51, .bipush 6, 53, []), (53, .if_icmp .ge 122, 56, [175]), (56, .aload_n 0, 57, []), (57, .getfield 55, 60, [1, 7, 26, 0, 1008, 45, 0]), (60, .bipush 6, 62, []), (62, .iload_n 3, 63, []), (63, .imul, 64, []), (64, .iload 4, 66, []), (66, .iadd, 67, []), (67, .aload_n 0, 68, []), (68, .getfield 31, 71, [1, 7, 15, 0, 997, 37, 0]), (71, .iload_n 1, 72, []), (72, .iaload, 73, []), (73, .iastore, 74, []), (74, .iconst 0, 75, []), (75, .istore 5, 77, []), (77, .iload 5, 79, []), (79, .iconst 3, 80, []), (80, .aload_n 0, 81, []), (81, .getfield 137, 84, [0, 7, 24, 0, 1006]), (84, .imul, 85, []), (85, .if_icmp .ge 75, 88, [160]), (88, .aload_n 0, 89, []), (89, .getfield 52, 92, [1, 7, 25, 0, 1007, 44, 0]), (92, .iload 5, 94, []), (94, .iconst 2, 95, []), (95, .iadd, 96, []), (96, .iaload, 97, []), (97, .iload 4, 99, []), (99, .if_icmp .ne 27, 102, [126]), (102, .aload_n 0, 103, []), (103, .getfield 31, 106, [1, 7, 15, 0, 997, 37, 0]), (106, .aload_n 0, 107, []), (107, .getfield 52, 110, [1, 7, 25, 0, 1007, 44, 0]), (110, .iload 5, 112, []), (112, .iaload, 113, []), (113, .iaload, 114, []), (114, .aload_n 0, 115, []), (115, .getfield 52, 118, [1, 7, 25, 0, 1007, 44, 0]), (118, .iload 5, 120, []), (120, .iconst 1, 121, []), (121, .iadd, 122, []), (122, .iaload, 123, []), (123, .if_icmp .ne 7, 126, [130]), (126, .iconst 1, 127, []), (127, .goto 4, 130, [131]), (130, .iconst 0, 131, []), (131, .istore 6, 133, []), (133, .aload_n 0, 134, []), (134, .getfield 58, 137, [1, 7, 27, 0, 1009, 46, 0]), (137, .iload_n 3, 138, []), (138, .iload 6, 140, []), (140, .ifCond .eq 12, 143, [152]), (143, .aload_n 0, 144, []), (144, .getfield 58, 147, [1, 7, 27, 0, 1009, 46, 0]), (147, .iload_n 3, 148, []), (148, .iaload, 149, []), (149, .goto 4, 152, [153]), (152, .iconst 0, 153, []), (153, .iastore, 154, []), (154, .iinc 5 3, 157, []), (157, .goto (-80), 160, [77]), (160, .aload_n 0, 161, []), (161, .aload_n 0, 162, []), (162, .getfield 43, 165, [1, 7, 19, 0, 1001, 41, 0]), (165, .invokevirtual 200, 168, [10, 170, 2, 0, 1252, 7]), (168, .pop, 169, []), (169, .iinc 4 1, 172, []), (172, .goto (-123), 175, [49]), (175, .iinc 3 1, 178, []), (178, .goto (-176), 181, [2]), (181, .return_, 182, [])]
/-- 194: Model.spanMany -/
def code_194 : List Row := [(0, .iconst 0, 1, []), (1, .istore_n 1, 2, []), (2, .iconst 0, 3, []), (3, .istore_n 2, 4, []), (4, .iload_n 2, 5, []), (5, .bipush 21, 7, []), (7, .if_icmp .ge 18, 10, [25]), (10, .iload_n 1, 11, []), (11, .aload_n 0, 12, []), (12, .getfield 58, 15, [1, 7, 27, 0, 1009, 46, 0]), (15, .iload_n 2, 16, []), (16, .iaload, 17, []), (17, .iadd, 18, []), (18, .istore_n 1, 19, []), (19, .iinc 2 1, 22, []), (22, .goto (-18), 25, [4]), (25, .iload_n 1, 26, []), (26, .ireturn, 27, [0])]
/-- 195: Model.spanLeast -/
def code_195 : List Row := [(0, .iconst 0, 1, []), (1, .istore_n 1, 2, []), (2, .iload_n 1, 3, []), (3, .bipush 21, 5, []), (5, .if_icmp .ge 18, 8, [23]), (8, .aload_n 0, 9, []), (9, .getfield 58, 12, [1, 7, 27, 0, 1009, 46, 0]), (12, .iload_n 1, 13, []), (13, .iaload, 14, []), (14, .ifCond .ne 9, 17, [23]), (17, .iinc 1 1, 20, []), (20, .goto (-18), 23, [2]), (23, .iload_n 1, 24, []), (24, .bipush 21, 26, []), (26, .if_icmp .ne 7, 29, [33]), (29, .iconst (-1), 30, []), (30, .goto 4, 33, [34]), (33, .iload_n 1, 34, []), (34, .ireturn, 35, [0])]
/-- 196: Model.spanMost -/
def code_196 : List Row := [(0, .bipush 20, 2, []), (2, .istore_n 1, 3, []), (3, .iload_n 1, 4, []), (4, .ifCond .lt 18, 7, [22]), (7, .aload_n 0, 8, []), (8, .getfield 58, 11, [1, 7, 27, 0, 1009, 46, 0]), (11, .iload_n 1, 12, []), (12, .iaload, 13, []), (13, .ifCond .ne 9, 16, [22]), (16, .iinc 1 (-1), 19, []), (19, .goto (-16), 22, [3]), (22, .iload_n 1, 23, []), (23, .ireturn, 24, [0])]
/-- 197: Model.lookOf -/
def code_197 : List Row := [(0, .iconst (-1), 1, []), (1, .istore_n 1, 2, []), (2, .bipush 99, 4, []), (4, .istore_n 2, 5, []), (5, .iconst 0, 6, []), (6, .istore_n 3, 7, []), (7, .iload_n 3, 8, []), (8, .bipush 6, 10, []), (10, .if_icmp .ge 143, 13, [153]), (13, .aload_n 0, 14, []), (14, .invokevirtual 276, 17, [10, 194, 1, 0, 1379, 7]), (17, .ifCond .le 136, 20, [153]), (20, .iconst 0, 21, []), (21, .istore 4, 23, []), (23, .iload 4, 25, []), (25, .bipush 7, 27, []), (27, .if_icmp .ge 17, 30, [44]), (30, .aload_n 0, 31, []), (31, .getfield 61, 34, [1, 7, 28, 0, 1010, 47, 0]), (34, .iload 4, 36, []), (36, .iconst 0, 37, []), (37, .iastore, 38, []), (38, .iinc 4 1, 41, []), (41, .goto (-18), 44, [23]), (44, .iconst 0, 45, []), (45, .istore 4, 47, []), (47, .iconst 0, 48, []), (48, .istore 5, 50, []), (50, .iload 5, 52, []), (52, .bipush 21, 54, []), (54, .if_icmp .ge 68, 57, [122]), (57, .aload_n 0, 58, []), (58, .getfield 55, 61, [1, 7, 26, 0, 1008, 45, 0]), (61, .bipush 6, 63, []), (63, .iload 5, 65, []), (65, .imul, 66, []), (66, .iload_n 3, 67, []), (67, .iadd, 68, []), (68, .iaload, 69, []), (69, .iconst 1, 70, []), (70, .iadd, 71, []), (71, .istore 6, 73, []), (73, .aload_n 0, 74, []), (74, .getfield 61, 77, [1, 7, 28, 0, 1010, 47, 0]), (77, .iload 6, 79, []), (79, .dup2, 80, []), (80, .iaload, 81, []), (81, .aload_n 0, 82, []), (82, .getfield 58, 85, [1, 7, 27, 0, 1009, 46, 0]), (85, .iload 5, 87, []), (87, .iaload, 88, []), (88, .iadd, 89, []), (89, .iastore, 90, []), (90, .aload_n 0, 91, []), (91, .getfield 61, 94, [1, 7, 28, 0, 1010, 47, 0]), (94, .iload 6, 96, []), (96, .iaload, 97, []), (97, .iload 4, 99, []), (99, .if_icmp .le 13, 102, [112]), (102, .aload_n 0, 103, []), (103, .getfield 61, 106, [1, 7, 28, 0, 1010, 47, 0]), (106, .iload 6, 108, []), (108, .iaload, 109, []), (109, .goto 5, 112, [114]), (112, .iload 4, 114, []), (114, .istore 4, 116, []), (116, .iinc 5 1, 119, []), (119, .goto (-69), 122, [50]), (122, .iload 4, 124, []), (124, .iload_n 2, 125, []), (125, .if_icmp .ge 7, 128, [132]), (128, .iload_n 3, 129, []), (129, .goto 4, 132, [133]), (132, .iload_n 1, 133, []), (133, .istore_n 1, 134, []), (134, .iload 4, 136, []), (136, .iload_n 2, 137, []), (137, .if_icmp .ge 8, 140, [145]), (140, .iload 4, 142, []), (142, .goto 4, 145, [146]), (145, .iload_n 2, 146, []), (146, .istore_n 2, 147, []), (147, .iinc 3 1, 150, []), (150, .goto (-143), 153, [7]), (153, .iload_n 1, 154, []), (154, .ireturn, 155, [0])]
/-- 198: Model.spanOf -/
def code_198 : List Row := [(0, .aload_n 0, 1, []), (1, .iload_n 1, 2, []), (2, .iload_n 2, 3, []), (3, .invokevirtual 279, 6, [10, 193, 3, 0, 1375, 7]), (6, .iload_n 3, 7, []), (7, .tableswitch 40 0 2 #[25, 30, 35], 32, [47, 32, 37, 42]), (32, .aload_n 0, 33, []), (33, .invokevirtual 276, 36, [10, 194, 1, 0, 1379, 7]), (36, .ireturn, 37, [0]), (37, .aload_n 0, 38, []), (38, .invokevirtual 283, 41, [10, 195, 1, 0, 1383, 7]), (41, .ireturn, 42, [0]), (42, .aload_n 0, 43, []), (43, .invokevirtual 286, 46, [10, 196, 1, 0, 1387, 7]), (46, .ireturn, 47, [0]), (47, .aload_n 0, 48, []), (48, .invokevirtual 289, 51, [10, 197, 1, 0, 1391, 7]), (51, .ireturn, 52, [0])]
/-- 199: Model.span -/
def code_199 : List Row := [(0, .aload_n 0, 1, []), (1, .iload_n 1, 2, []), (2, .iload_n 2, 3, []), (3, .invokevirtual 178, 6, [10, 144, 3, 0, 1202, 7]), (6, .ifCond .ne 6, 9, [12]), (9, .bipush (-101), 11, []), (11, .ireturn, 12, [0]), (12, .iload_n 3, 13, []), (13, .i2l, 14, []), (14, .lconst 0, 15, []), (15, .ldc2_w 256, 18, [3, 1314]), (18, .invokestatic 88, 21, [11, 131, 3, 0, 1117]), (21, .ifCond .eq 13, 24, [34]), (24, .aload_n 0, 25, []), (25, .iload_n 1, 26, []), (26, .iload_n 2, 27, []), (27, .iload_n 3, 28, []), (28, .invokevirtual 292, 31, [10, 198, 4, 0, 1371, 7]), (31, .goto 5, 34, [36]), (34, .bipush (-102), 36, []), (36, .ireturn, 37, [0])]
/-- 200: Model.draw -/
def code_200 : List Row := [(0, .aload_n 0, 1, []), (1, .ldc2_w 295, 4, [1103515245, 1405]), (4, .aload_n 0, 5, []), (5, .getfield 297, 8, [0, 7, 29, 0, 1011]), (8, .i2l, 9, []), (9, .lmul, 10, []), (10, .ldc2_w 300, 13, [12345, 1406]), (13, .ladd, 14, []), (14, .ldc2_w 302, 17, [2147483647, 1407]), (17, .land, 18, []), (18, .l2i, 19, []), (19, .putfield 297, 22, [0, 7, 29, 0, 1011]), (22, .aload_n 0, 23, []), (23, .getfield 297, 26, [0, 7, 29, 0, 1011]), (26, .ldc_w 304, 29, [0, 65536, 1408]), (29, .idiv, 30, []), (30, .iload_n 1, 31, []), (31, .irem, 32, []), (32, .ireturn, 33, [0])]
/-- 201: Model.summers -/
def code_201 : List Row := [(0, .iload_n 1, 1, []), (1, .i2l, 2, []), (2, .lconst 1, 3, []), (3, .ldc2_w 305, 6, [40, 1399]), (6, .invokestatic 88, 9, [11, 131, 3, 0, 1117]), (9, .ifCond .eq 19, 12, [28]), (12, .iload_n 2, 13, []), (13, .ifCond .lt 15, 16, [28]), (16, .iload_n 3, 17, []), (17, .i2l, 18, []), (18, .lconst 0, 19, []), (19, .ldc2_w 307, 22, [2, 1400]), (22, .invokestatic 88, 25, [11, 131, 3, 0, 1117]), (25, .ifCond .ne 6, 28, [31]), (28, .bipush (-102), 30, []), (30, .ireturn, 31, [0]), (31, .aload_n 0, 32, []), (32, .invokevirtual 204, 35, [10, 142, 1, 0, 1248, 7]), (35, .ifCond .eq 6, 38, [41]), (38, .bipush (-103), 40, []), (40, .ireturn, 41, [0]), (41, .aload_n 0, 42, []), (42, .getfield 25, 45, [1, 7, 13, 0, 995, 35, 0]), (45, .aload_n 0, 46, []), (46, .getfield 43, 49, [1, 7, 19, 0, 1001, 41, 0]), (49, .invokestatic 193, 52, [11, 132, 2, 0, 1256]), (52, .aload_n 0, 53, []), (53, .iload_n 2, 54, []), (54, .putfield 297, 57, [0, 7, 29, 0, 1011]), (57, .iconst 0, 58, []), (58, .istore 4, 60, []), (60, .iconst 0, 61, []), (61, .istore 5, 63, []), (63, .iconst 0, 64, []), (64, .istore 6, 66, []), (66, .iload 6, 68, []), (68, .iload_n 1, 69, []), (69, .if_icmp .ge 101, 72, [170]), (72, .aload_n 0, 73, []), (73, .aload_n 0, 74, []), (74, .getfield 119, 77, [0, 7, 3, 0, 985]), (77, .invokevirtual 309, 80, [10, 200, 2, 0, 1401, 7]), (80, .istore 7, 82, []), (82, .aload_n 0, 83, []), (83, .aload_n 0, 84, []), (84, .getfield 119, 87, [0, 7, 3, 0, 985]), (87, .invokevirtual 309, 90, [10, 200, 2, 0, 1401, 7]), (90, .istore 8, 92, []), (92, .aload_n 0, 93, []), (93, .iconst 4, 94, []), (94, .invokevirtual 309, 97, [10, 200, 2, 0, 1401, 7]), (97, .istore 9, 99, []), (99, .aload_n 0, 100, []), (100, .getfield 43, 103, [1, 7, 19, 0, 1001, 41, 0]), (103, .bipush 6, 105, []), (105, .iload 7, 107, []), (107, .imul, 108, []), (108, .iload 8, 110, []), (110, .iadd, 111, []), (111, .iload 7, 113, []), (113, .iload 8, 115, []), (115, .if_icmp .ne 7, 118, [122]), (118, .iconst 0, 119, []), (119, .goto 22, 122, [141]), (122, .aload_n 0, 123, []), (123, .getfield 43, 126, [1, 7, 19, 0, 1001, 41, 0]), (126, .bipush 6, 128, []), (128, .iload 7, 130, []), (130, .imul, 131, []), (131, .iload 8, 133, []), (133, .iadd, 134, []), (134, .iaload, 135, []), (135, .iload 9, 137, []), (137, .iadd, 138, []), (138, .invokestatic 122, 141, [11, 140, 1, 0, 1150]), (141, .iastore, 142, []), (142, .iload 5, 144, []), (144, .aload_n 0, 145, []), (145, .aload_n 0, 146, []), (146, .getfield 43, 149, [1, 7, 19, 0, 1001, 41, 0]), (149, .invokevirtual 200, 152, [10, 170, 2, 0, 1252, 7]), (152, .iadd, 153, []), (153, .istore 5, 155, []), (155, .iload 4, 157, []), (157, .aload_n 0, 158, []), (158, .invokevirtual 247, 161, [10, 148, 1, 0, 1323, 7]), (161, .iadd, 162, []), (162, .istore 4, 164, []), (164, .iinc 6 1, 167, []), (167, .goto (-101), 170, [66]), (170, .iload_n 3, 171, []), (171, .ifCond .ne 8, 174, [179]), (174, .iload 4, 176, []), (176, .goto 17, 179, [193]), (179, .iload_n 3, 180, []), (180, .iconst 1, 181, []), (181, .if_icmp .ne 8, 184, [189]), (184, .iload 5, 186, []), (186, .goto 7, 189, [193]), (189, .aload_n 0, 190, []), (190, .getfield 297, 193, [0, 7, 29, 0, 1011]), (193, .ireturn, 194, [0])]
/-- 202: Model.image -/
def code_202 : List Row := [(0, .aload_n 0, 1, []), (1, .invokevirtual 204, 4, [10, 142, 1, 0, 1248, 7]), (4, .ifCond .eq 6, 7, [10]), (7, .bipush (-103), 9, []), (9, .ireturn, 10, [0]), (10, .aload_n 0, 11, []), (11, .getfield 13, 14, [1, 7, 9, 0, 991, 31, 0]), (14, .aload_n 0, 15, []), (15, .getfield 64, 18, [1, 7, 36, 0, 1018, 48, 0]), (18, .invokestatic 193, 21, [11, 132, 2, 0, 1256]), (21, .aload_n 0, 22, []), (22, .getfield 19, 25, [1, 7, 11, 0, 993, 33, 0]), (25, .aload_n 0, 26, []), (26, .getfield 67, 29, [1, 7, 37, 0, 1019, 49, 0]), (29, .invokestatic 193, 32, [11, 132, 2, 0, 1256]), (32, .aload_n 0, 33, []), (33, .getfield 22, 36, [1, 7, 12, 0, 994, 34, 0]), (36, .aload_n 0, 37, []), (37, .getfield 70, 40, [1, 7, 38, 0, 1020, 50, 0]), (40, .invokestatic 193, 43, [11, 132, 2, 0, 1256]), (43, .aload_n 0, 44, []), (44, .getfield 25, 47, [1, 7, 13, 0, 995, 35, 0]), (47, .aload_n 0, 48, []), (48, .getfield 73, 51, [1, 7, 39, 0, 1021, 51, 0]), (51, .invokestatic 193, 54, [11, 132, 2, 0, 1256]), (54, .aload_n 0, 55, []), (55, .getfield 28, 58, [1, 7, 14, 0, 996, 36, 0]), (58, .aload_n 0, 59, []), (59, .getfield 76, 62, [1, 7, 40, 0, 1022, 52, 0]), (62, .invokestatic 193, 65, [11, 132, 2, 0, 1256]), (65, .aload_n 0, 66, []), (66, .getfield 52, 69, [1, 7, 25, 0, 1007, 44, 0]), (69, .aload_n 0, 70, []), (70, .getfield 79, 73, [1, 7, 41, 0, 1023, 53, 0]), (73, .invokestatic 193, 76, [11, 132, 2, 0, 1256]), (76, .aload_n 0, 77, []), (77, .aload_n 0, 78, []), (78, .getfield 125, 81, [0, 7, 4, 0, 986]), (81, .putfield 312, 84, [0, 7, 31, 0, 1013]), (84, .aload_n 0, 85, []), (85, .aload_n 0, 86, []), (86, .getfield 128, 89, [0, 7, 5, 0, 987]), (89, .putfield 315, 92, [0, 7, 32, 0, 1014]), (92, .aload_n 0, 93, []), (93, .aload_n 0, 94, []), (94, .getfield 131, 97, [0, 7, 6, 0, 988]), (97, .putfield 318, 100, [0, 7, 33, 0, 1015]), (100, .aload_n 0, 101, []), (101, .aload_n 0, 102, []), (102, .getfield 134, 105, [0, 7, 7, 0, 989]), (105, .putfield 321, 108, [0, 7, 34, 0, 1016]), (108, .aload_n 0, 109, []), (109, .aload_n 0, 110, []), (110, .getfield 137, 113, [0, 7, 24, 0, 1006]), (113, .putfield 324, 116, [0, 7, 35, 0, 1017]), (116, .aload_n 0, 117, []), (117, .aload_n 0, 118, []), (118, .getfield 140, 121, [0, 7, 8, 0, 990]), (121, .putfield 82, 124, [0, 7, 30, 0, 1012]), (124, .aload_n 0, 125, []), (125, .getfield 125, 128, [0, 7, 4, 0, 986]), (128, .ireturn, 129, [0])]
/-- 203: Model.restore -/
def code_203 : List Row := [(0, .aload_n 0, 1, []), (1, .getfield 82, 4, [0, 7, 30, 0, 1012]), (4, .aload_n 0, 5, []), (5, .getfield 140, 8, [0, 7, 8, 0, 990]), (8, .if_icmp .eq 6, 11, [14]), (11, .bipush (-103), 13, []), (13, .ireturn, 14, [0]), (14, .aload_n 0, 15, []), (15, .getfield 64, 18, [1, 7, 36, 0, 1018, 48, 0]), (18, .aload_n 0, 19, []), (19, .getfield 13, 22, [1, 7, 9, 0, 991, 31, 0]), (22, .invokestatic 193, 25, [11, 132, 2, 0, 1256]), (25, .aload_n 0, 26, []), (26, .getfield 67, 29, [1, 7, 37, 0, 1019, 49, 0]), (29, .aload_n 0, 30, []), (30, .getfield 19, 33, [1, 7, 11, 0, 993, 33, 0]), (33, .invokestatic 193, 36, [11, 132, 2, 0, 1256]), (36, .aload_n 0, 37, []), (37, .getfield 70, 40, [1, 7, 38, 0, 1020, 50, 0]), (40, .aload_n 0, 41, []), (41, .getfield 22, 44, [1, 7, 12, 0, 994, 34, 0]), (44, .invokestatic 193, 47, [11, 132, 2, 0, 1256]), (47, .aload_n 0, 48, []), (48, .getfield 73, 51, [1, 7, 39, 0, 1021, 51, 0]), (51, .aload_n 0, 52, []), (52, .getfield 25, 55, [1, 7, 13, 0, 995, 35, 0]), (55, .invokestatic 193, 58, [11, 132, 2, 0, 1256]), (58, .aload_n 0, 59, []), (59, .getfield 76, 62, [1, 7, 40, 0, 1022, 52, 0]), (62, .aload_n 0, 63, []), (63, .getfield 28, 66, [1, 7, 14, 0, 996, 36, 0]), (66, .invokestatic 193, 69, [11, 132, 2, 0, 1256]), (69, .aload_n 0, 70, []), (70, .getfield 79, 73, [1, 7, 41, 0, 1023, 53, 0]), (73, .aload_n 0, 74, []), (74, .getfield 52, 77, [1, 7, 25, 0, 1007, 44, 0]), (77, .invokestatic 193, 80, [11, 132, 2, 0, 1256]), (80, .aload_n 0, 81, []), (81, .aload_n 0, 82, []), (82, .getfield 312, 85, [0, 7, 31, 0, 1013]), (85, .putfield 125, 88, [0, 7, 4, 0, 986]), (88, .aload_n 0, 89, []), (89, .aload_n 0, 90, []), (90, .getfield 315, 93, [0, 7, 32, 0, 1014]), (93, .putfield 128, 96, [0, 7, 5, 0, 987]), (96, .aload_n 0, 97, []), (97, .aload_n 0, 98, []), (98, .getfield 318, 101, [0, 7, 33, 0, 1015]), (101, .putfield 131, 104, [0, 7, 6, 0, 988]), (104, .aload_n 0, 105, []), (105, .aload_n 0, 106, []), (106, .getfield 321, 109, [0, 7, 34, 0, 1016]), (109, .putfield 134, 112, [0, 7, 7, 0, 989]), (112, .aload_n 0, 113, []), (113, .aload_n 0, 114, []), (114, .getfield 324, 117, [0, 7, 35, 0, 1017]), (117, .putfield 137, 120, [0, 7, 24, 0, 1006]), (120, .aload_n 0, 121, []), (121, .getfield 125, 124, [0, 7, 4, 0, 986]), (124, .ireturn, 125, [0])]
/-- 204: Model.angersAbove -/
def code_204 : List Row := [(0, .iconst 0, 1, []), (1, .istore_n 1, 2, []), (2, .iconst 0, 3, []), (3, .istore_n 2, 4, []), (4, .iload_n 2, 5, []), (5, .bipush 36, 7, []), (7, .if_icmp .ge 26, 10, [33]), (10, .iload_n 1, 11, []), (11, .aload_n 0, 12, []), (12, .getfield 25, 15, [1, 7, 13, 0, 995, 35, 0]), (15, .iload_n 2, 16, []), (16, .iaload, 17, []), (17, .ifCond .le 7, 20, [24]), (20, .iconst 1, 21, []), (21, .goto 4, 24, [25]), (24, .iconst 0, 25, []), (25, .iadd, 26, []), (26, .istore_n 1, 27, []), (27, .iinc 2 1, 30, []), (30, .goto (-26), 33, [4]), (33, .iload_n 1, 34, []), (34, .ireturn, 35, [0])]
/-- 205: Model.sumOf -/
def code_205 : List Row := [(0, .iconst 0, 1, []), (1, .istore_n 2, 2, []), (2, .iconst 0, 3, []), (3, .istore_n 3, 4, []), (4, .iload_n 3, 5, []), (5, .aload_n 1, 6, []), (6, .arraylength, 7, []), (7, .if_icmp .ge 15, 10, [22]), (10, .iload_n 2, 11, []), (11, .aload_n 1, 12, []), (12, .iload_n 3, 13, []), (13, .iaload, 14, []), (14, .iadd, 15, []), (15, .istore_n 2, 16, []), (16, .iinc 3 1, 19, []), (19, .goto (-15), 22, [4]), (22, .iload_n 2, 23, []), (23, .ireturn, 24, [0])]
/-- 206: Model.viewsNow -/
def code_206 : List Row := [(0, .iconst 0, 1, []), (1, .istore_n 1, 2, []), (2, .iconst 0, 3, []), (3, .istore_n 2, 4, []), (4, .iload_n 2, 5, []), (5, .aload_n 0, 6, []), (6, .getfield 119, 9, [0, 7, 3, 0, 985]), (9, .if_icmp .ge 32, 12, [41]), (12, .iload_n 1, 13, []), (13, .aload_n 0, 14, []), (14, .getfield 31, 17, [1, 7, 15, 0, 997, 37, 0]), (17, .iload_n 2, 18, []), (18, .iaload, 19, []), (19, .iconst (-1), 20, []), (20, .if_icmp .ne 12, 23, [32]), (23, .aload_n 0, 24, []), (24, .getfield 16, 27, [1, 7, 10, 0, 992, 32, 0]), (27, .iload_n 2, 28, []), (28, .iaload, 29, []), (29, .goto 4, 32, [33]), (32, .iconst 0, 33, []), (33, .iadd, 34, []), (34, .istore_n 1, 35, []), (35, .iinc 2 1, 38, []), (38, .goto (-34), 41, [4]), (41, .iload_n 1, 42, []), (42, .ireturn, 43, [0])]
/-- 207: Model.priestsNow -/
def code_207 : List Row := [(0, .iconst 0, 1, []), (1, .istore_n 1, 2, []), (2, .iconst 0, 3, []), (3, .istore_n 2, 4, []), (4, .iload_n 2, 5, []), (5, .aload_n 0, 6, []), (6, .getfield 119, 9, [0, 7, 3, 0, 985]), (9, .if_icmp .ge 25, 12, [34]), (12, .iload_n 1, 13, []), (13, .aload_n 0, 14, []), (14, .iload_n 2, 15, []), (15, .invokevirtual 163, 18, [10, 152, 2, 0, 1173, 7]), (18, .ifCond .ne 7, 21, [25]), (21, .iconst 1, 22, []), (22, .goto 4, 25, [26]), (25, .iconst 0, 26, []), (26, .iadd, 27, []), (27, .istore_n 1, 28, []), (28, .iinc 2 1, 31, []), (31, .goto (-27), 34, [4]), (34, .iload_n 1, 35, []), (35, .ireturn, 36, [0])]
/-- 208: Model.sumHouses -/
def code_208 : List Row := [(0, .iconst 0, 1, []), (1, .istore_n 2, 2, []), (2, .iconst 0, 3, []), (3, .istore_n 3, 4, []), (4, .iload_n 3, 5, []), (5, .aload_n 0, 6, []), (6, .getfield 119, 9, [0, 7, 3, 0, 985]), (9, .if_icmp .ge 15, 12, [24]), (12, .iload_n 2, 13, []), (13, .aload_n 1, 14, []), (14, .iload_n 3, 15, []), (15, .iaload, 16, []), (16, .iadd, 17, []), (17, .istore_n 2, 18, []), (18, .iinc 3 1, 21, []), (21, .goto (-17), 24, [4]), (24, .iload_n 2, 25, []), (25, .ireturn, 26, [0])]
/-- 209: Model.countOf -/
def code_209 : List Row := [(0, .aload_n 0, 1, []), (1, .aload_n 0, 2, []), (2, .getfield 25, 5, [1, 7, 13, 0, 995, 35, 0]), (5, .invokevirtual 159, 8, [10, 146, 2, 0, 1165, 7]), (8, .iload_n 1, 9, []), (9, .tableswitch 115 0 9 #[55, 60, 65, 74, 79, 84, 89, 94, 99, 110], 64, [124, 64, 69, 74, 83, 88, 93, 98, 103, 108, 119]), (64, .aload_n 0, 65, []), (65, .getfield 119, 68, [0, 7, 3, 0, 985]), (68, .ireturn, 69, [0]), (69, .aload_n 0, 70, []), (70, .invokevirtual 327, 73, [10, 204, 1, 0, 1425, 7]), (73, .ireturn, 74, [0]), (74, .aload_n 0, 75, []), (75, .aload_n 0, 76, []), (76, .getfield 25, 79, [1, 7, 13, 0, 995, 35, 0]), (79, .invokevirtual 330, 82, [10, 205, 2, 0, 1429, 7]), (82, .ireturn, 83, [0]), (83, .aload_n 0, 84, []), (84, .invokevirtual 267, 87, [10, 153, 1, 0, 1355, 7]), (87, .ireturn, 88, [0]), (88, .aload_n 0, 89, []), (89, .invokevirtual 333, 92, [10, 206, 1, 0, 1433, 7]), (92, .ireturn, 93, [0]), (93, .aload_n 0, 94, []), (94, .invokevirtual 247, 97, [10, 148, 1, 0, 1323, 7]), (97, .ireturn, 98, [0]), (98, .aload_n 0, 99, []), (99, .invokevirtual 250, 102, [10, 151, 1, 0, 1327, 7]), (102, .ireturn, 103, [0]), (103, .aload_n 0, 104, []), (104, .invokevirtual 336, 107, [10, 207, 1, 0, 1437, 7]), (107, .ireturn, 108, [0]), (108, .aload_n 0, 109, []), (109, .aload_n 0, 110, []), (110, .getfield 28, 113, [1, 7, 14, 0, 996, 36, 0]), (113, .invokevirtual 330, 116, [10, 205, 2, 0, 1429, 7]), (116, .iconst 2, 117, []), (117, .idiv, 118, []), (118, .ireturn, 119, [0]), (119, .aload_n 0, 120, []), (120, .getfield 125, 123, [0, 7, 4, 0, 986]), (123, .ireturn, 124, [0]), (124, .aload_n 0, 125, []), (125, .iload_n 1, 126, []), (126, .invokevirtual 339, 129, [10, 210, 2, 0, 1441, 7]), (129, .ireturn, 130, [0])]
/-- 210: Model.countMore -/
def code_210 : List Row := [(0, .iload_n 1, 1, []), (1, .tableswitch 113 10 19 #[55, 60, 65, 70, 79, 88, 93, 98, 103, 108], 56, [114, 56, 61, 66, 71, 80, 89, 94, 99, 104, 109]), (56, .aload_n 0, 57, []), (57, .getfield 128, 60, [0, 7, 5, 0, 987]), (60, .ireturn, 61, [0]), (61, .aload_n 0, 62, []), (62, .getfield 131, 65, [0, 7, 6, 0, 988]), (65, .ireturn, 66, [0]), (66, .aload_n 0, 67, []), (67, .getfield 134, 70, [0, 7, 7, 0, 989]), (70, .ireturn, 71, [0]), (71, .aload_n 0, 72, []), (72, .aload_n 0, 73, []), (73, .getfield 19, 76, [1, 7, 11, 0, 993, 33, 0]), (76, .invokevirtual 342, 79, [10, 208, 2, 0, 1445, 7]), (79, .ireturn, 80, [0]), (80, .aload_n 0, 81, []), (81, .aload_n 0, 82, []), (82, .getfield 22, 85, [1, 7, 12, 0, 994, 34, 0]), (85, .invokevirtual 342, 88, [10, 208, 2, 0, 1445, 7]), (88, .ireturn, 89, [0]), (89, .aload_n 0, 90, []), (90, .getfield 137, 93, [0, 7, 24, 0, 1006]), (93, .ireturn, 94, [0]), (94, .aload_n 0, 95, []), (95, .getfield 92, 98, [0, 7, 1, 0, 983]), (98, .ireturn, 99, [0]), (99, .aload_n 0, 100, []), (100, .getfield 140, 103, [0, 7, 8, 0, 990]), (103, .ireturn, 104, [0]), (104, .aload_n 0, 105, []), (105, .getfield 240, 108, [0, 7, 20, 0, 1002]), (108, .ireturn, 109, [0]), (109, .aload_n 0, 110, []), (110, .getfield 258, 113, [0, 7, 23, 0, 1005]), (113, .ireturn, 114, [0]), (114, .bipush (-102), 116, []), (116, .ireturn, 117, [0])]
/-- 211: Model.count -/
def code_211 : List Row := [(0, .aload_n 0, 1, []), (1, .iload_n 1, 2, []), (2, .invokevirtual 345, 5, [10, 209, 2, 0, 1421, 7]), (5, .ireturn, 6, [0])]
/-- 212: Model.say -/
def code_212 : List Row := [(0, .aload_n 0, 1, []), (1, .ldc2_w 348, 4, [31, 1462]), (4, .aload_n 0, 5, []), (5, .getfield 350, 8, [2, 7, 42, 0, 1024]), (8, .lmul, 9, []), (9, .lload_n 1, 10, []), (10, .ladd, 11, []), (11, .putfield 350, 14, [2, 7, 42, 0, 1024]), (14, .return_, 15, [])]
/-- 213: Model.sayHouse -/
def code_213 : List Row := [(0, .iconst 0, 1, []), (1, .istore_n 2, 2, []), (2, .iload_n 2, 3, []), (3, .bipush 11, 5, []), (5, .if_icmp .ge 20, 8, [25]), (8, .aload_n 0, 9, []), (9, .aload_n 0, 10, []), (10, .iload_n 1, 11, []), (11, .iload_n 2, 12, []), (12, .invokevirtual 172, 15, [10, 156, 3, 0, 1161, 7]), (15, .i2l, 16, []), (16, .invokevirtual 354, 19, [10, 212, 2, 0, 1458, 7]), (19, .iinc 2 1, 22, []), (22, .goto (-20), 25, [2]), (25, .iconst 0, 26, []), (26, .istore_n 2, 27, []), (27, .iload_n 2, 28, []), (28, .aload_n 0, 29, []), (29, .getfield 119, 32, [0, 7, 3, 0, 985]), (32, .if_icmp .ge 46, 35, [78]), (35, .iload_n 2, 36, []), (36, .iload_n 1, 37, []), (37, .if_icmp .eq 35, 40, [72]), (40, .aload_n 0, 41, []), (41, .aload_n 0, 42, []), (42, .getfield 25, 45, [1, 7, 13, 0, 995, 35, 0]), (45, .bipush 6, 47, []), (47, .iload_n 1, 48, []), (48, .imul, 49, []), (49, .iload_n 2, 50, []), (50, .iadd, 51, []), (51, .iaload, 52, []), (52, .i2l, 53, []), (53, .invokevirtual 354, 56, [10, 212, 2, 0, 1458, 7]), (56, .aload_n 0, 57, []), (57, .aload_n 0, 58, []), (58, .getfield 28, 61, [1, 7, 14, 0, 996, 36, 0]), (61, .bipush 6, 63, []), (63, .iload_n 1, 64, []), (64, .imul, 65, []), (65, .iload_n 2, 66, []), (66, .iadd, 67, []), (67, .iaload, 68, []), (68, .i2l, 69, []), (69, .invokevirtual 354, 72, [10, 212, 2, 0, 1458, 7]), (72, .iinc 2 1, 75, []), (75, .goto (-48), 78, [27]), (78, .return_, 79, [])]
/-- 214: Model.saySquare -/
def code_214 : List Row := [(0, .aload_n 0, 1, []), (1, .aload_n 0, 2, []), (2, .iconst 0, 3, []), (3, .invokevirtual 216, 6, [10, 173, 2, 0, 1269, 7]), (6, .i2l, 7, []), (7, .invokevirtual 354, 10, [10, 212, 2, 0, 1458, 7]), (10, .bipush 10, 12, []), (12, .istore_n 1, 13, []), (13, .iload_n 1, 14, []), (14, .bipush 16, 16, []), (16, .if_icmp .ge 19, 19, [35]), (19, .aload_n 0, 20, []), (20, .aload_n 0, 21, []), (21, .iload_n 1, 22, []), (22, .invokevirtual 216, 25, [10, 173, 2, 0, 1269, 7]), (25, .i2l, 26, []), (26, .invokevirtual 354, 29, [10, 212, 2, 0, 1458, 7]), (29, .iinc 1 1, 32, []), (32, .goto (-19), 35, [13]), (35, .aload_n 0, 36, []), (36, .aload_n 0, 37, []), (37, .iconst 1, 38, []), (38, .iconst 0, 39, []), (39, .invokevirtual 273, 42, [10, 189, 3, 0, 1347, 7]), (42, .i2l, 43, []), (43, .invokevirtual 354, 46, [10, 212, 2, 0, 1458, 7]), (46, .aload_n 0, 47, []), (47, .aload_n 0, 48, []), (48, .iconst 1, 49, []), (49, .iconst 1, 50, []), (50, .invokevirtual 273, 53, [10, 189, 3, 0, 1347, 7]), (53, .i2l, 54, []), (54, .invokevirtual 354, 57, [10, 212, 2, 0, 1458, 7]), (57, .aload_n 0, 58, []), (58, .aload_n 0, 59, []), (59, .iconst 0, 60, []), (60, .iconst 1, 61, []), (61, .iconst 2, 62, []), (62, .invokevirtual 264, 65, [10, 186, 4, 0, 1339, 7]), (65, .i2l, 66, []), (66, .invokevirtual 354, 69, [10, 212, 2, 0, 1458, 7]), (69, .iconst 0, 70, []), (70, .istore_n 1, 71, []), (71, .iload_n 1, 72, []), (72, .iconst 3, 73, []), (73, .if_icmp .ge 21, 76, [94]), (76, .aload_n 0, 77, []), (77, .aload_n 0, 78, []), (78, .iconst 1, 79, []), (79, .iconst 0, 80, []), (80, .iload_n 1, 81, []), (81, .invokevirtual 292, 84, [10, 198, 4, 0, 1371, 7]), (84, .i2l, 85, []), (85, .invokevirtual 354, 88, [10, 212, 2, 0, 1458, 7]), (88, .iinc 1 1, 91, []), (91, .goto (-20), 94, [71]), (94, .return_, 95, [])]
/-- 215: Model.digest -/
def code_215 : List Row := [(0, .aload_n 0, 1, []), (1, .ldc2_w 358, 4, [1093, 1453]), (4, .putfield 350, 7, [2, 7, 42, 0, 1024]), (7, .iconst 0, 8, []), (8, .istore_n 1, 9, []), (9, .iload_n 1, 10, []), (10, .aload_n 0, 11, []), (11, .getfield 119, 14, [0, 7, 3, 0, 985]), (14, .if_icmp .ge 14, 17, [28]), (17, .aload_n 0, 18, []), (18, .iload_n 1, 19, []), (19, .invokevirtual 360, 22, [10, 213, 2, 0, 1454, 7]), (22, .iinc 1 1, 25, []), (25, .goto (-16), 28, [9]), (28, .aload_n 0, 29, []), (29, .invokevirtual 204, 32, [10, 142, 1, 0, 1248, 7]), (32, .ifCond .ne 7, 35, [39]), (35, .aload_n 0, 36, []), (36, .invokevirtual 364, 39, [10, 214, 1, 0, 1463, 7]), (39, .iconst 0, 40, []), (40, .istore_n 1, 41, []), (41, .iload_n 1, 42, []), (42, .aload_n 0, 43, []), (43, .getfield 92, 46, [0, 7, 1, 0, 983]), (46, .if_icmp .ge 20, 49, [66]), (49, .aload_n 0, 50, []), (50, .aload_n 0, 51, []), (51, .getfield 7, 54, [1, 7, 0, 0, 982, 30, 0]), (54, .iload_n 1, 55, []), (55, .iaload, 56, []), (56, .i2l, 57, []), (57, .invokevirtual 354, 60, [10, 212, 2, 0, 1458, 7]), (60, .iinc 1 1, 63, []), (63, .goto (-22), 66, [41]), (66, .iconst 0, 67, []), (67, .istore_n 1, 68, []), (68, .iload_n 1, 69, []), (69, .bipush 20, 71, []), (71, .if_icmp .ge 19, 74, [90]), (74, .aload_n 0, 75, []), (75, .aload_n 0, 76, []), (76, .iload_n 1, 77, []), (77, .invokevirtual 345, 80, [10, 209, 2, 0, 1421, 7]), (80, .i2l, 81, []), (81, .invokevirtual 354, 84, [10, 212, 2, 0, 1458, 7]), (84, .iinc 1 1, 87, []), (87, .goto (-19), 90, [68]), (90, .aload_n 0, 91, []), (91, .getfield 350, 94, [2, 7, 42, 0, 1024]), (94, .lreturn, 95, [])]
/-- 216: String.indexOf -/
def code_216 : List Row := [(0, .aload_n 0, 1, []), (1, .iload_n 1, 2, []), (2, .iconst 0, 3, []), (3, .invokevirtual 633, 6, [10, 217, 3, 0, 348, 62]), (6, .ireturn, 7, [0])]
/-- 217: String.indexOf2 -/
def code_217 : List Row := [(0, .aload_n 0, 1, []), (1, .invokevirtual 492, 4, [10, 218, 1, 0, 352, 62]), (4, .ifCond .eq 19, 7, [23]), (7, .aload_n 0, 8, []), (8, .getfield 9, 11, [5, 0, 63, 1468]), (11, .iload_n 1, 12, []), (12, .iload_n 2, 13, []), (13, .aload_n 0, 14, []), (14, .invokevirtual 505, 17, [10, 219, 1, 0, 358, 62]), (17, .invokestatic 637, 20, [11, 221, 4, 0, 366]), (20, .goto 16, 23, [36]), (23, .aload_n 0, 24, []), (24, .getfield 9, 27, [5, 0, 63, 1468]), (27, .iload_n 1, 28, []), (28, .iload_n 2, 29, []), (29, .aload_n 0, 30, []), (30, .invokevirtual 505, 33, [10, 219, 1, 0, 358, 62]), (33, .invokestatic 640, 36, [99]), (36, .ireturn, 37, [0])]
/-- 218: String.isLatin1 -/
def code_218 : List Row := [(0, .getstatic 38, 3, [0, 1, 0, 356]), (3, .ifCond .eq 14, 6, [17]), (6, .aload_n 0, 7, []), (7, .getfield 15, 10, [5, 1, 0, 1467]), (10, .ifCond .ne 7, 13, [17]), (13, .iconst 1, 14, []), (14, .goto 4, 17, [18]), (17, .iconst 0, 18, []), (18, .ireturn, 19, [1])]
/-- 219: String.length -/
def code_219 : List Row := [(0, .aload_n 0, 1, []), (1, .getfield 9, 4, [5, 0, 63, 1468]), (4, .arraylength, 5, []), (5, .aload_n 0, 6, []), (6, .invokevirtual 335, 9, [10, 220, 1, 0, 362, 62]), (9, .ishr, 10, []), (10, .ireturn, 11, [0])]
/-- 220: String.coder -/
def code_220 : List Row := [(0, .getstatic 38, 3, [0, 1, 0, 356]), (3, .ifCond .eq 10, 6, [13]), (6, .aload_n 0, 7, []), (7, .getfield 15, 10, [5, 1, 0, 1467]), (10, .goto 4, 13, [14]), (13, .iconst 1, 14, []), (14, .ireturn, 15, [2])]
/-- 221: Latin1.indexOf -/
def code_221 : List Row := [(0, .iload_n 1, 1, []), (1, .invokestatic 88, 4, [11, 222, 1, 0, 369]), (4, .ifCond .ne 5, 7, [9]), (7, .iconst (-1), 8, []), (8, .ireturn, 9, [0]), (9, .iload_n 2, 10, []), (10, .iconst 0, 11, []), (11, .invokestatic 92, 14, [20, 372]), (14, .istore_n 2, 15, []), (15, .iload_n 3, 16, []), (16, .aload_n 0, 17, []), (17, .arraylength, 18, []), (18, .invokestatic 38, 21, [21, 375]), (21, .istore_n 3, 22, []), (22, .iload_n 2, 23, []), (23, .iload_n 3, 24, []), (24, .if_icmp .lt 5, 27, [29]), (27, .iconst (-1), 28, []), (28, .ireturn, 29, [0]), (29, .aload_n 0, 30, []), (30, .iload_n 1, 31, []), (31, .iload_n 2, 32, []), (32, .iload_n 3, 33, []), (33, .invokestatic 95, 36, [11, 223, 4, 0, 378]), (36, .ireturn, 37, [0])]
/-- 222: Latin1.canEncode -/
def code_222 : List Row := [(0, .iload_n 0, 1, []), (1, .ifCond .lt 14, 4, [15]), (4, .iload_n 0, 5, []), (5, .sipush 255, 8, []), (8, .if_icmp .gt 7, 11, [15]), (11, .iconst 1, 12, []), (12, .goto 4, 15, [16]), (15, .iconst 0, 16, []), (16, .ireturn, 17, [1])]
/-- 223: Latin1.indexOfChar -/
def code_223 : List Row := [(0, .iload_n 1, 1, []), (1, .i2b, 2, []), (2, .istore 4, 4, []), (4, .iload_n 2, 5, []), (5, .istore 5, 7, []), (7, .iload 5, 9, []), (9, .iload_n 3, 10, []), (10, .if_icmp .ge 21, 13, [31]), (13, .aload_n 0, 14, []), (14, .iload 5, 16, []), (16, .baload, 17, []), (17, .iload 4, 19, []), (19, .if_icmp .ne 6, 22, [25]), (22, .iload 5, 24, []), (24, .ireturn, 25, [0]), (25, .iinc 5 1, 28, []), (28, .goto (-21), 31, [7]), (31, .iconst (-1), 32, []), (32, .ireturn, 33, [0])]
/-- 224: Arrays.fill -/
def code_224 : List Row := [(0, .iconst 0, 1, []), (1, .istore_n 2, 2, []), (2, .aload_n 0, 3, []), (3, .arraylength, 4, []), (4, .istore_n 3, 5, []), (5, .iload_n 2, 6, []), (6, .iload_n 3, 7, []), (7, .if_icmp .ge 13, 10, [20]), (10, .aload_n 0, 11, []), (11, .iload_n 2, 12, []), (12, .iload_n 1, 13, []), (13, .iastore, 14, []), (14, .iinc 2 1, 17, []), (17, .goto (-12), 20, [5]), (20, .return_, 21, [])]
/-- 225: Law.law -/
def code_225_0 : List Row := [(0, .new 7, 3, []), (3, .dup, 4, []), (4, .invokespecial 9, 7, []), (7, .astore_n 1, 8, []), (8, .new 10, 11, []), (11, .dup, 12, []), (12, .invokespecial 12, 15, []), (15, .astore_n 2, 16, []), (16, .iconst 0, 17, []), (17, .istore_n 3, 18, []), (18, .iload_n 3, 19, []), (19, .aload_n 0, 20, []), (20, .arraylength, 21, []), (21, .iconst 4, 22, []), (22, .isub, 23, []), (23, .if_icmp .gt 944, 26, [967]), (26, .aload_n 0, 27, []), (27, .iload_n 3, 28, []), (28, .iaload, 29, []), (29, .bipush 31, 31, []), (31, .iand, 32, []), (32, .tableswitch 929 0 27 #[128, 151, 164, 177, 190, 223, 256, 289, 322, 355, 398, 431, 490, 523, 536, 549, 572, 615, 648, 691, 724, 767, 780, 823, 866, 879, 892, 915], 160, [961, 160, 183, 196, 209, 222, 255, 288, 321, 354, 387, 430, 463, 522, 555, 568, 581, 604, 647, 680, 723, 756, 799, 812, 855, 898, 911, 924, 947]), (160, .aload_n 1, 161, []), (161, .aload_n 0, 162, []), (162, .iload_n 3, 163, []), (163, .iconst 1, 164, []), (164, .iadd, 165, []), (165, .iaload, 166, []), (166, .invokevirtual 13, 169, [10, 95, 2, 0, 307, 6]), (169, .aload_n 2, 170, []), (170, .aload_n 0, 171, []), (171, .iload_n 3, 172, []), (172, .iconst 1, 173, []), (173, .iadd, 174, []), (174, .iaload, 175, []), (175, .invokevirtual 17, 178, [10, 133, 2, 0, 1112, 7]), (178, .if_icmp .eq 783, 181, [961]), (181, .iconst 0, 182, []), (182, .ireturn, 183, [1]), (183, .aload_n 1, 184, []), (184, .invokevirtual 18, 187, [10, 96, 1, 0, 320, 6]), (187, .aload_n 2, 188, []), (188, .invokevirtual 22, 191, [10, 134, 1, 0, 1120, 7]), (191, .if_icmp .eq 770, 194, [961]), (194, .iconst 0, 195, []), (195, .ireturn, 196, [1]), (196, .aload_n 1, 197, []), (197, .invokevirtual 23, 200, [10, 97, 1, 0, 328, 6]), (200, .aload_n 2, 201, []), (201, .invokevirtual 26, 204, [10, 139, 1, 0, 1124, 7]), (204, .if_icmp .eq 757, 207, [961]), (207, .iconst 0, 208, []), (208, .ireturn, 209, [1]), (209, .aload_n 1, 210, []), (210, .invokevirtual 27, 213, [10, 98, 1, 0, 445, 6]), (213, .aload_n 2, 214, []), (214, .invokevirtual 30, 217, [10, 141, 1, 0, 1146, 7]), (217, .if_icmp .eq 744, 220, [961]), (220, .iconst 0, 221, []), (221, .ireturn, 222, [1]), (222, .aload_n 1, 223, []), (223, .aload_n 0, 224, []), (224, .iload_n 3, 225, []), (225, .iconst 1, 226, []), (226, .iadd, 227, []), (227, .iaload, 228, []), (228, .aload_n 0, 229, []), (229, .iload_n 3, 230, []), (230, .iconst 2, 231, []), (231, .iadd, 232, []), (232, .iaload, 233, []), (233, .invokevirtual 31, 236, [10, 99, 3, 0, 527, 6]), (236, .aload_n 2, 237, []), (237, .aload_n 0, 238, []), (238, .iload_n 3, 239, []), (239, .iconst 1, 240, []), (240, .iadd, 241, []), (241, .iaload, 242, []), (242, .aload_n 0, 243, []), (243, .iload_n 3, 244, []), (244, .iconst 2, 245, []), (245, .iadd, 246, []), (246, .iaload, 247, []), (247, .invokevirtual 35, 250, [10, 157, 3, 0, 1153, 7]), (250, .if_icmp .eq 711, 253, [961]), (253, .iconst 0, 254, []), (254, .ireturn, 255, [1]), (255, .aload_n 1, 256, []), (256, .aload_n 0, 257, []), (257, .iload_n 3, 258, []), (258, .iconst 1, 259, []), (259, .iadd, 260, []), (260, .iaload, 261, []), (261, .aload_n 0, 262, []), (262, .iload_n 3, 263, []), (263, .iconst 2, 264, []), (264, .iadd, 265, []), (265, .iaload, 266, []), (266, .invokevirtual 36, 269, [10, 100, 3, 0, 581, 6]), (269, .aload_n 2, 270, []), (270, .aload_n 0, 271, []), (271, .iload_n 3, 272, []), (272, .iconst 1, 273, []), (273, .iadd, 274, []), (274, .iaload, 275, []), (275, .aload_n 0, 276, []), (276, .iload_n 3, 277, []), (277, .iconst 2, 278, []), (278, .iadd, 279, []), (279, .iaload, 280, []), (280, .invokevirtual 39, 283, [10, 158, 3, 0, 1193, 7]), (283, .if_icmp .eq 678, 286, [961]), (286, .iconst 0, 287, []), (287, .ireturn, 288, [1]), (288, .aload_n 1, 289, []), (289, .aload_n 0, 290, []), (290, .iload_n 3, 291, []), (291, .iconst 1, 292, []), (292, .iadd, 293, []), (293, .iaload, 294, [])]
def code_225_1 : List Row := [(294, .aload_n 0, 295, []), (295, .iload_n 3, 296, []), (296, .iconst 2, 297, []), (297, .iadd, 298, []), (298, .iaload, 299, []), (299, .invokevirtual 40, 302, [10, 101, 3, 0, 591, 6]), (302, .aload_n 2, 303, []), (303, .aload_n 0, 304, []), (304, .iload_n 3, 305, []), (305, .iconst 1, 306, []), (306, .iadd, 307, []), (307, .iaload, 308, []), (308, .aload_n 0, 309, []), (309, .iload_n 3, 310, []), (310, .iconst 2, 311, []), (311, .iadd, 312, []), (312, .iaload, 313, []), (313, .invokevirtual 43, 316, [10, 159, 3, 0, 1198, 7]), (316, .if_icmp .eq 645, 319, [961]), (319, .iconst 0, 320, []), (320, .ireturn, 321, [1]), (321, .aload_n 1, 322, []), (322, .aload_n 0, 323, []), (323, .iload_n 3, 324, []), (324, .iconst 1, 325, []), (325, .iadd, 326, []), (326, .iaload, 327, []), (327, .aload_n 0, 328, []), (328, .iload_n 3, 329, []), (329, .iconst 2, 330, []), (330, .iadd, 331, []), (331, .iaload, 332, []), (332, .invokevirtual 44, 335, [10, 102, 3, 0, 600, 6]), (335, .aload_n 2, 336, []), (336, .aload_n 0, 337, []), (337, .iload_n 3, 338, []), (338, .iconst 1, 339, []), (339, .iadd, 340, []), (340, .iaload, 341, []), (341, .aload_n 0, 342, []), (342, .iload_n 3, 343, []), (343, .iconst 2, 344, []), (344, .iadd, 345, []), (345, .iaload, 346, []), (346, .invokevirtual 47, 349, [10, 161, 3, 0, 1206, 7]), (349, .if_icmp .eq 612, 352, [961]), (352, .iconst 0, 353, []), (353, .ireturn, 354, [1]), (354, .aload_n 1, 355, []), (355, .aload_n 0, 356, []), (356, .iload_n 3, 357, []), (357, .iconst 1, 358, []), (358, .iadd, 359, []), (359, .iaload, 360, []), (360, .aload_n 0, 361, []), (361, .iload_n 3, 362, []), (362, .iconst 2, 363, []), (363, .iadd, 364, []), (364, .iaload, 365, []), (365, .invokevirtual 48, 368, [10, 103, 3, 0, 605, 6]), (368, .aload_n 2, 369, []), (369, .aload_n 0, 370, []), (370, .iload_n 3, 371, []), (371, .iconst 1, 372, []), (372, .iadd, 373, []), (373, .iaload, 374, []), (374, .aload_n 0, 375, []), (375, .iload_n 3, 376, []), (376, .iconst 2, 377, []), (377, .iadd, 378, []), (378, .iaload, 379, []), (379, .invokevirtual 51, 382, [10, 162, 3, 0, 1215, 7]), (382, .if_icmp .eq 579, 385, [961]), (385, .iconst 0, 386, []), (386, .ireturn, 387, [1]), (387, .aload_n 1, 388, []), (388, .aload_n 0, 389, []), (389, .iload_n 3, 390, []), (390, .iconst 1, 391, []), (391, .iadd, 392, []), (392, .iaload, 393, []), (393, .aload_n 0, 394, []), (394, .iload_n 3, 395, []), (395, .iconst 2, 396, []), (396, .iadd, 397, []), (397, .iaload, 398, []), (398, .aload_n 0, 399, []), (399, .iload_n 3, 400, []), (400, .iconst 3, 401, []), (401, .iadd, 402, []), (402, .iaload, 403, []), (403, .invokevirtual 52, 406, [10, 104, 4, 0, 613, 6]), (406, .aload_n 2, 407, []), (407, .aload_n 0, 408, []), (408, .iload_n 3, 409, []), (409, .iconst 1, 410, []), (410, .iadd, 411, []), (411, .iaload, 412, []), (412, .aload_n 0, 413, []), (413, .iload_n 3, 414, []), (414, .iconst 2, 415, []), (415, .iadd, 416, []), (416, .iaload, 417, []), (417, .aload_n 0, 418, []), (418, .iload_n 3, 419, []), (419, .iconst 3, 420, []), (420, .iadd, 421, []), (421, .iaload, 422, []), (422, .invokevirtual 56, 425, [10, 163, 4, 0, 1219, 7]), (425, .if_icmp .eq 536, 428, [961]), (428, .iconst 0, 429, []), (429, .ireturn, 430, [1]), (430, .aload_n 1, 431, []), (431, .aload_n 0, 432, []), (432, .iload_n 3, 433, []), (433, .iconst 1, 434, []), (434, .iadd, 435, []), (435, .iaload, 436, []), (436, .aload_n 0, 437, []), (437, .iload_n 3, 438, [])]
def code_225_2 : List Row := [(438, .iconst 2, 439, []), (439, .iadd, 440, []), (440, .iaload, 441, []), (441, .invokevirtual 57, 444, [10, 105, 3, 0, 618, 6]), (444, .aload_n 2, 445, []), (445, .aload_n 0, 446, []), (446, .iload_n 3, 447, []), (447, .iconst 1, 448, []), (448, .iadd, 449, []), (449, .iaload, 450, []), (450, .aload_n 0, 451, []), (451, .iload_n 3, 452, []), (452, .iconst 2, 453, []), (453, .iadd, 454, []), (454, .iaload, 455, []), (455, .invokevirtual 60, 458, [10, 164, 3, 0, 1224, 7]), (458, .if_icmp .eq 503, 461, [961]), (461, .iconst 0, 462, []), (462, .ireturn, 463, [1]), (463, .aload_n 1, 464, []), (464, .aload_n 0, 465, []), (465, .iload_n 3, 466, []), (466, .iconst 1, 467, []), (467, .iadd, 468, []), (468, .iaload, 469, []), (469, .aload_n 0, 470, []), (470, .iload_n 3, 471, []), (471, .iconst 2, 472, []), (472, .iadd, 473, []), (473, .iaload, 474, []), (474, .aload_n 0, 475, []), (475, .iload_n 3, 476, []), (476, .iconst 3, 477, []), (477, .iadd, 478, []), (478, .iaload, 479, []), (479, .ifCond .eq 7, 482, [486]), (482, .iconst 1, 483, []), (483, .goto 4, 486, [487]), (486, .iconst 0, 487, []), (487, .invokevirtual 61, 490, [10, 106, 4, 0, 626, 6]), (490, .aload_n 2, 491, []), (491, .aload_n 0, 492, []), (492, .iload_n 3, 493, []), (493, .iconst 1, 494, []), (494, .iadd, 495, []), (495, .iaload, 496, []), (496, .aload_n 0, 497, []), (497, .iload_n 3, 498, []), (498, .iconst 2, 499, []), (499, .iadd, 500, []), (500, .iaload, 501, []), (501, .aload_n 0, 502, []), (502, .iload_n 3, 503, []), (503, .iconst 3, 504, []), (504, .iadd, 505, []), (505, .iaload, 506, []), (506, .ifCond .eq 7, 509, [513]), (509, .iconst 1, 510, []), (510, .goto 4, 513, [514]), (513, .iconst 0, 514, []), (514, .invokevirtual 65, 517, [10, 166, 4, 0, 1228, 7]), (517, .if_icmp .eq 444, 520, [961]), (520, .iconst 0, 521, []), (521, .ireturn, 522, [1]), (522, .aload_n 1, 523, []), (523, .aload_n 0, 524, []), (524, .iload_n 3, 525, []), (525, .iconst 1, 526, []), (526, .iadd, 527, []), (527, .iaload, 528, []), (528, .aload_n 0, 529, []), (529, .iload_n 3, 530, []), (530, .iconst 2, 531, []), (531, .iadd, 532, []), (532, .iaload, 533, []), (533, .invokevirtual 66, 536, [10, 107, 3, 0, 634, 6]), (536, .aload_n 2, 537, []), (537, .aload_n 0, 538, []), (538, .iload_n 3, 539, []), (539, .iconst 1, 540, []), (540, .iadd, 541, []), (541, .iaload, 542, []), (542, .aload_n 0, 543, []), (543, .iload_n 3, 544, []), (544, .iconst 2, 545, []), (545, .iadd, 546, []), (546, .iaload, 547, []), (547, .invokevirtual 69, 550, [10, 167, 3, 0, 1236, 7]), (550, .if_icmp .eq 411, 553, [961]), (553, .iconst 0, 554, []), (554, .ireturn, 555, [1]), (555, .aload_n 1, 556, []), (556, .invokevirtual 70, 559, [10, 108, 1, 0, 642, 6]), (559, .aload_n 2, 560, []), (560, .invokevirtual 73, 563, [10, 168, 1, 0, 1240, 7]), (563, .if_icmp .eq 398, 566, [961]), (566, .iconst 0, 567, []), (567, .ireturn, 568, [1]), (568, .aload_n 1, 569, []), (569, .invokevirtual 74, 572, [10, 109, 1, 0, 659, 6]), (572, .aload_n 2, 573, []), (573, .invokevirtual 77, 576, [10, 172, 1, 0, 1244, 7]), (576, .if_icmp .eq 385, 579, [961]), (579, .iconst 0, 580, []), (580, .ireturn, 581, [1]), (581, .aload_n 1, 582, []), (582, .aload_n 0, 583, []), (583, .iload_n 3, 584, []), (584, .iconst 1, 585, []), (585, .iadd, 586, []), (586, .iaload, 587, []), (587, .invokevirtual 78, 590, [10, 110, 2, 0, 683, 6]), (590, .aload_n 2, 591, []), (591, .aload_n 0, 592, []), (592, .iload_n 3, 593, []), (593, .iconst 1, 594, []), (594, .iadd, 595, []), (595, .iaload, 596, []), (596, .invokevirtual 81, 599, [10, 174, 2, 0, 1263, 7]), (599, .if_icmp .eq 362, 602, [961])]
def code_225_3 : List Row := [(602, .iconst 0, 603, []), (603, .ireturn, 604, [1]), (604, .aload_n 1, 605, []), (605, .aload_n 0, 606, []), (606, .iload_n 3, 607, []), (607, .iconst 1, 608, []), (608, .iadd, 609, []), (609, .iaload, 610, []), (610, .aload_n 0, 611, []), (611, .iload_n 3, 612, []), (612, .iconst 2, 613, []), (613, .iadd, 614, []), (614, .iaload, 615, []), (615, .aload_n 0, 616, []), (616, .iload_n 3, 617, []), (617, .iconst 3, 618, []), (618, .iadd, 619, []), (619, .iaload, 620, []), (620, .invokevirtual 82, 623, [10, 111, 4, 0, 705, 6]), (623, .aload_n 2, 624, []), (624, .aload_n 0, 625, []), (625, .iload_n 3, 626, []), (626, .iconst 1, 627, []), (627, .iadd, 628, []), (628, .iaload, 629, []), (629, .aload_n 0, 630, []), (630, .iload_n 3, 631, []), (631, .iconst 2, 632, []), (632, .iadd, 633, []), (633, .iaload, 634, []), (634, .aload_n 0, 635, []), (635, .iload_n 3, 636, []), (636, .iconst 3, 637, []), (637, .iadd, 638, []), (638, .iaload, 639, []), (639, .invokevirtual 85, 642, [10, 182, 4, 0, 1277, 7]), (642, .if_icmp .eq 319, 645, [961]), (645, .iconst 0, 646, []), (646, .ireturn, 647, [1]), (647, .aload_n 1, 648, []), (648, .aload_n 0, 649, []), (649, .iload_n 3, 650, []), (650, .iconst 1, 651, []), (651, .iadd, 652, []), (652, .iaload, 653, []), (653, .aload_n 0, 654, []), (654, .iload_n 3, 655, []), (655, .iconst 2, 656, []), (656, .iadd, 657, []), (657, .iaload, 658, []), (658, .invokevirtual 86, 661, [10, 112, 3, 0, 758, 6]), (661, .aload_n 2, 662, []), (662, .aload_n 0, 663, []), (663, .iload_n 3, 664, []), (664, .iconst 1, 665, []), (665, .iadd, 666, []), (666, .iaload, 667, []), (667, .aload_n 0, 668, []), (668, .iload_n 3, 669, []), (669, .iconst 2, 670, []), (670, .iadd, 671, []), (671, .iaload, 672, []), (672, .invokevirtual 89, 675, [10, 185, 3, 0, 1310, 7]), (675, .if_icmp .eq 286, 678, [961]), (678, .iconst 0, 679, []), (679, .ireturn, 680, [1]), (680, .aload_n 1, 681, []), (681, .aload_n 0, 682, []), (682, .iload_n 3, 683, []), (683, .iconst 1, 684, []), (684, .iadd, 685, []), (685, .iaload, 686, []), (686, .aload_n 0, 687, []), (687, .iload_n 3, 688, []), (688, .iconst 2, 689, []), (689, .iadd, 690, []), (690, .iaload, 691, []), (691, .aload_n 0, 692, []), (692, .iload_n 3, 693, []), (693, .iconst 3, 694, []), (694, .iadd, 695, []), (695, .iaload, 696, []), (696, .invokevirtual 90, 699, [10, 113, 4, 0, 782, 6]), (699, .aload_n 2, 700, []), (700, .aload_n 0, 701, []), (701, .iload_n 3, 702, []), (702, .iconst 1, 703, []), (703, .iadd, 704, []), (704, .iaload, 705, []), (705, .aload_n 0, 706, []), (706, .iload_n 3, 707, []), (707, .iconst 2, 708, []), (708, .iadd, 709, []), (709, .iaload, 710, []), (710, .aload_n 0, 711, []), (711, .iload_n 3, 712, []), (712, .iconst 3, 713, []), (713, .iadd, 714, []), (714, .iaload, 715, []), (715, .invokevirtual 93, 718, [10, 187, 4, 0, 1335, 7]), (718, .if_icmp .eq 243, 721, [961]), (721, .iconst 0, 722, []), (722, .ireturn, 723, [1]), (723, .aload_n 1, 724, []), (724, .aload_n 0, 725, []), (725, .iload_n 3, 726, []), (726, .iconst 1, 727, []), (727, .iadd, 728, []), (728, .iaload, 729, []), (729, .aload_n 0, 730, []), (730, .iload_n 3, 731, []), (731, .iconst 2, 732, []), (732, .iadd, 733, []), (733, .iaload, 734, []), (734, .invokevirtual 94, 737, [10, 114, 3, 0, 792, 6]), (737, .aload_n 2, 738, []), (738, .aload_n 0, 739, []), (739, .iload_n 3, 740, []), (740, .iconst 1, 741, []), (741, .iadd, 742, [])]
def code_225_4 : List Row := [(742, .iaload, 743, []), (743, .aload_n 0, 744, []), (744, .iload_n 3, 745, []), (745, .iconst 2, 746, []), (746, .iadd, 747, []), (747, .iaload, 748, []), (748, .invokevirtual 97, 751, [10, 190, 3, 0, 1343, 7]), (751, .if_icmp .eq 210, 754, [961]), (754, .iconst 0, 755, []), (755, .ireturn, 756, [1]), (756, .aload_n 1, 757, []), (757, .aload_n 0, 758, []), (758, .iload_n 3, 759, []), (759, .iconst 1, 760, []), (760, .iadd, 761, []), (761, .iaload, 762, []), (762, .aload_n 0, 763, []), (763, .iload_n 3, 764, []), (764, .iconst 2, 765, []), (765, .iadd, 766, []), (766, .iaload, 767, []), (767, .aload_n 0, 768, []), (768, .iload_n 3, 769, []), (769, .iconst 3, 770, []), (770, .iadd, 771, []), (771, .iaload, 772, []), (772, .invokevirtual 98, 775, [10, 115, 4, 0, 818, 6]), (775, .aload_n 2, 776, []), (776, .aload_n 0, 777, []), (777, .iload_n 3, 778, []), (778, .iconst 1, 779, []), (779, .iadd, 780, []), (780, .iaload, 781, []), (781, .aload_n 0, 782, []), (782, .iload_n 3, 783, []), (783, .iconst 2, 784, []), (784, .iadd, 785, []), (785, .iaload, 786, []), (786, .aload_n 0, 787, []), (787, .iload_n 3, 788, []), (788, .iconst 3, 789, []), (789, .iadd, 790, []), (790, .iaload, 791, []), (791, .invokevirtual 101, 794, [10, 191, 4, 0, 1359, 7]), (794, .if_icmp .eq 167, 797, [961]), (797, .iconst 0, 798, []), (798, .ireturn, 799, [1]), (799, .aload_n 1, 800, []), (800, .invokevirtual 102, 803, [10, 116, 1, 0, 831, 6]), (803, .aload_n 2, 804, []), (804, .invokevirtual 105, 807, [10, 192, 1, 0, 1363, 7]), (807, .if_icmp .eq 154, 810, [961]), (810, .iconst 0, 811, []), (811, .ireturn, 812, [1]), (812, .aload_n 1, 813, []), (813, .aload_n 0, 814, []), (814, .iload_n 3, 815, []), (815, .iconst 1, 816, []), (816, .iadd, 817, []), (817, .iaload, 818, []), (818, .aload_n 0, 819, []), (819, .iload_n 3, 820, []), (820, .iconst 2, 821, []), (821, .iadd, 822, []), (822, .iaload, 823, []), (823, .aload_n 0, 824, []), (824, .iload_n 3, 825, []), (825, .iconst 3, 826, []), (826, .iadd, 827, []), (827, .iaload, 828, []), (828, .invokevirtual 106, 831, [10, 117, 4, 0, 835, 6]), (831, .aload_n 2, 832, []), (832, .aload_n 0, 833, []), (833, .iload_n 3, 834, []), (834, .iconst 1, 835, []), (835, .iadd, 836, []), (836, .iaload, 837, []), (837, .aload_n 0, 838, []), (838, .iload_n 3, 839, []), (839, .iconst 2, 840, []), (840, .iadd, 841, []), (841, .iaload, 842, []), (842, .aload_n 0, 843, []), (843, .iload_n 3, 844, []), (844, .iconst 3, 845, []), (845, .iadd, 846, []), (846, .iaload, 847, []), (847, .invokevirtual 109, 850, [10, 199, 4, 0, 1367, 7]), (850, .if_icmp .eq 111, 853, [961]), (853, .iconst 0, 854, []), (854, .ireturn, 855, [1]), (855, .aload_n 1, 856, []), (856, .aload_n 0, 857, []), (857, .iload_n 3, 858, []), (858, .iconst 1, 859, []), (859, .iadd, 860, []), (860, .iaload, 861, []), (861, .aload_n 0, 862, []), (862, .iload_n 3, 863, []), (863, .iconst 2, 864, []), (864, .iadd, 865, []), (865, .iaload, 866, []), (866, .aload_n 0, 867, []), (867, .iload_n 3, 868, []), (868, .iconst 3, 869, []), (869, .iadd, 870, []), (870, .iaload, 871, []), (871, .invokevirtual 110, 874, [10, 118, 4, 0, 873, 6]), (874, .aload_n 2, 875, []), (875, .aload_n 0, 876, []), (876, .iload_n 3, 877, []), (877, .iconst 1, 878, []), (878, .iadd, 879, []), (879, .iaload, 880, []), (880, .aload_n 0, 881, []), (881, .iload_n 3, 882, []), (882, .iconst 2, 883, []), (883, .iadd, 884, []), (884, .iaload, 885, []), (885, .aload_n 0, 886, [])]
def code_225_5 : List Row := [(886, .iload_n 3, 887, []), (887, .iconst 3, 888, []), (888, .iadd, 889, []), (889, .iaload, 890, []), (890, .invokevirtual 113, 893, [10, 201, 4, 0, 1395, 7]), (893, .if_icmp .eq 68, 896, [961]), (896, .iconst 0, 897, []), (897, .ireturn, 898, [1]), (898, .aload_n 1, 899, []), (899, .invokevirtual 114, 902, [10, 119, 1, 0, 895, 6]), (902, .aload_n 2, 903, []), (903, .invokevirtual 117, 906, [10, 202, 1, 0, 1409, 7]), (906, .if_icmp .eq 55, 909, [961]), (909, .iconst 0, 910, []), (910, .ireturn, 911, [1]), (911, .aload_n 1, 912, []), (912, .invokevirtual 118, 915, [10, 120, 1, 0, 905, 6]), (915, .aload_n 2, 916, []), (916, .invokevirtual 121, 919, [10, 203, 1, 0, 1413, 7]), (919, .if_icmp .eq 42, 922, [961]), (922, .iconst 0, 923, []), (923, .ireturn, 924, [1]), (924, .aload_n 1, 925, []), (925, .aload_n 0, 926, []), (926, .iload_n 3, 927, []), (927, .iconst 1, 928, []), (928, .iadd, 929, []), (929, .iaload, 930, []), (930, .invokevirtual 122, 933, [10, 121, 2, 0, 909, 6]), (933, .aload_n 2, 934, []), (934, .aload_n 0, 935, []), (935, .iload_n 3, 936, []), (936, .iconst 1, 937, []), (937, .iadd, 938, []), (938, .iaload, 939, []), (939, .invokevirtual 125, 942, [10, 211, 2, 0, 1417, 7]), (942, .if_icmp .eq 19, 945, [961]), (945, .iconst 0, 946, []), (946, .ireturn, 947, [1]), (947, .aload_n 1, 948, []), (948, .invokevirtual 126, 951, [10, 122, 1, 0, 956, 6]), (951, .aload_n 2, 952, []), (952, .invokevirtual 130, 955, [10, 215, 1, 0, 1449, 7]), (955, .lcmp, 956, []), (956, .ifCond .eq 5, 959, [961]), (959, .iconst 0, 960, []), (960, .ireturn, 961, [1]), (961, .iinc 3 4, 964, []), (964, .goto (-946), 967, [18]), (967, .iconst 1, 968, []), (968, .ireturn, 969, [1])]
def code_225 : List Row := code_225_0 ++ code_225_1 ++ code_225_2 ++ code_225_3 ++ code_225_4 ++ code_225_5
def codes : List (List Row) := [code_0, code_1, code_2, code_3, code_4, code_5, code_6, code_7, code_8, code_9, code_10, code_11, code_12, code_13, code_14, code_15, code_16, code_17, code_18, code_19, code_20, code_21, code_22, code_23, code_24, code_25, code_26, code_27, code_28, code_29, code_30, code_31, code_32, code_33, code_34, code_35, code_36, code_37, code_38, code_39, code_40, code_41, code_42, code_43, code_44, code_45, code_46, code_47, code_48, code_49, code_50, code_51, code_52, code_53, code_54, code_55, code_56, code_57, code_58, code_59, code_60, code_61, code_62, code_63, code_64, code_65, code_66, code_67, code_68, code_69, code_70, code_71, code_72, code_73, code_74, code_75, code_76, code_77, code_78, code_79, code_80, code_81, code_82, code_83, code_84, code_85, code_86, code_87, code_88, code_89, code_90, code_91, code_92, code_93, code_94, code_95, code_96, code_97, code_98, code_99, code_100, code_101, code_102, code_103, code_104, code_105, code_106, code_107, code_108, code_109, code_110, code_111, code_112, code_113, code_114, code_115, code_116, code_117, code_118, code_119, code_120, code_121, code_122, code_123, code_124, code_125, code_126, code_127, code_128, code_129, code_130, code_131, code_132, code_133, code_134, code_135, code_136, code_137, code_138, code_139, code_140, code_141, code_142, code_143, code_144, code_145, code_146, code_147, code_148, code_149, code_150, code_151, code_152, code_153, code_154, code_155, code_156, code_157, code_158, code_159, code_160, code_161, code_162, code_163, code_164, code_165, code_166, code_167, code_168, code_169, code_170, code_171, code_172, code_173, code_174, code_175, code_176, code_177, code_178, code_179, code_180, code_181, code_182, code_183, code_184, code_185, code_186, code_187, code_188, code_189, code_190, code_191, code_192, code_193, code_194, code_195, code_196, code_197, code_198, code_199, code_200, code_201, code_202, code_203, code_204, code_205, code_206, code_207, code_208, code_209, code_210, code_211, code_212, code_213, code_214, code_215, code_216, code_217, code_218, code_219, code_220, code_221, code_222, code_223, code_224, code_225]
def maxLs : List Nat := [6, 3, 4, 2, 5, 6, 4, 3, 6, 6, 3, 2, 8, 2, 2, 1, 1, 2, 2, 4, 2, 3, 2, 6, 2, 1, 2, 2, 1, 3, 2, 1, 1, 5, 7, 3, 3, 5, 2, 5, 2, 3, 1, 1, 4, 2, 2, 3, 5, 2, 1, 1, 2, 3, 2, 2, 2, 2, 2, 4, 4, 3, 4, 6, 4, 2, 3, 3, 3, 3, 3, 3, 3, 4, 3, 3, 3, 3, 2, 4, 4, 3, 4, 4, 6, 2, 3, 3, 5, 2, 4, 8, 5, 1, 2, 2, 1, 1, 1, 3, 3, 3, 3, 3, 4, 4, 5, 4, 2, 1, 2, 4, 3, 4, 3, 4, 1, 4, 4, 1, 1, 2, 4, 7, 6, 3, 1, 2, 1, 1, 1, 6, 3, 2, 2, 1, 3, 5, 3, 1, 1, 3, 1, 2, 3, 8, 3, 2, 3, 4, 4, 3, 4, 3, 5, 4, 3, 3, 4, 3, 3, 3, 3, 4, 4, 4, 5, 5, 6, 5, 4, 4, 2, 4, 2, 1, 4, 5, 7, 5, 5, 5, 4, 7, 8, 3, 5, 4, 2, 9, 3, 4, 2, 7, 3, 2, 2, 7, 4, 4, 2, 10, 1, 1, 3, 4, 3, 3, 4, 2, 2, 2, 3, 3, 2, 2, 2, 3, 1, 1, 1, 4, 1, 6, 4, 4]
end
section
/-! A reader of the code as a function: values, stores, one instruction, runs with fuel. -/
abbrev IV : Type := Int32 ⊕ Int64 ⊕ (Nat × Nat) ⊕ Unit
def vI (x : Int32) : IV := .inl x
def vL (x : Int64) : IV := .inr (.inl x)
def vR (t q : Nat) : IV := .inr (.inr (.inl (t, q)))
def vN : IV := .inr (.inr (.inr ()))
/-- a store: arrays and objects by kind and number, the one long, the script -/
abbrev St : Type := (Nat → Nat → Nat → Int32) × Int64 × Nat × (Nat → Int32)
def ar (σ : St) (t q : Nat) : Nat → Int32 := σ.1 t q
def sw (σ : St) (t q : Nat) (f : Nat → Int32) : St := (fun t' q' => if t' = t then (if q' = q then f else σ.1 t' q') else σ.1 t' q', σ.2)
def hs (σ : St) : Int64 := σ.2.1
def sh (σ : St) (x : Int64) : St := (σ.1, x, σ.2.2)
def scL (σ : St) : Nat := σ.2.2.1
def scF (σ : St) : Nat → Int32 := σ.2.2.2
def oob (i : Int32) (n : Nat) : Bool := decide (i < 0) || decide (n ≤ i.toNatClampNeg)
def lenT : Nat → Nat
  | 10 => 38
  | 11 => 6
  | 12 => 6
  | 13 => 6
  | 14 => 6
  | 15 => 6
  | 16 => 36
  | 17 => 36
  | 18 => 8
  | 19 => 8
  | 20 => 8
  | 21 => 3
  | 22 => 3
  | 24 => 6
  | 26 => 7
  | 30 => 38
  | 31 => 6
  | 32 => 6
  | 33 => 6
  | 34 => 6
  | 35 => 36
  | 36 => 36
  | 37 => 6
  | 38 => 6
  | 39 => 6
  | 40 => 36
  | 41 => 36
  | 42 => 3
  | 43 => 3
  | 44 => 24
  | 45 => 126
  | 46 => 21
  | 47 => 7
  | 48 => 6
  | 49 => 6
  | 50 => 6
  | 51 => 36
  | 52 => 36
  | 53 => 24
  | _ => 0
def roF (t j : Nat) : Int32 := if t = 60 then [0, 0, 0, 0, 0, 1, 1, 1, 1, 2, 2, 2, 3, 3, 4].getD j 0 else if t = 61 then [1, 2, 3, 4, 5, 2, 3, 4, 5, 3, 4, 5, 4, 5, 5].getD j 0 else [104, 116, 109, 115, 102].getD j 0
def lenS (σ : St) (t : Nat) : Nat := if t < 60 then lenT t else if t = 63 then 5 else if t = 64 then scL σ else if t = 62 then 0 else 15
def isA (t : Nat) : Bool := Nat.blt 0 (lenT t) || (Nat.beq t 60 || (Nat.beq t 61 || (Nat.beq t 63 || Nat.beq t 64)))
def rdA (σ : St) (t q j : Nat) : Int32 := if t < 60 then ar σ t q j else if t = 64 then scF σ j else roF t j
def se (σ : St) (t q j : Nat) (x : Int32) : St := sw σ t q (upd (ar σ t q) j x)
def op2 (f : Int32 → Int32 → Int32) (ls stk : List IV) : Option (List IV × List IV) := match stk with
  | .inl y :: .inl x :: r => some (ls, vI (f x y) :: r)
  | _ => none
def opL (f : Int64 → Int64 → Int64) (ls stk : List IV) : Option (List IV × List IV) := match stk with
  | .inr (.inl y) :: .inr (.inl x) :: r => some (ls, vL (f x y) :: r)
  | _ => none
def ldI (ls stk : List IV) (k : Nat) : Option (List IV × List IV) := match ls[k]? with
  | some (.inl x) => some (ls, vI x :: stk)
  | _ => none
def ldR (ls stk : List IV) (k : Nat) : Option (List IV × List IV) := match ls[k]? with
  | some (.inr (.inr (.inl (t, q)))) => some (ls, vR t q :: stk)
  | _ => none
def ldL (ls stk : List IV) (k : Nat) : Option (List IV × List IV) := match ls[k]? with
  | some (.inr (.inl x)) => match ls[k + 1]? with
    | some (.inr (.inr (.inr ()))) => some (ls, vL x :: stk)
    | _ => none
  | _ => none
def stI (ls stk : List IV) (k : Nat) : Option (List IV × List IV) := match stk with
  | .inl x :: r => bif Nat.blt k ls.length then some (ls.set k (vI x), r) else none
  | _ => none
def stR (ls stk : List IV) (k : Nat) : Option (List IV × List IV) := match stk with
  | .inr (.inr (.inl (t, q))) :: r => bif Nat.blt k ls.length then some (ls.set k (vR t q), r) else none
  | _ => none
def stL (ls stk : List IV) (k : Nat) : Option (List IV × List IV) := match stk with
  | .inr (.inl x) :: r => bif Nat.blt (k + 1) ls.length then some ((ls.set k (vL x)).set (k + 1) vN, r) else none
  | _ => none
def icI (ls stk : List IV) (k : Nat) (n : Int) : Option (List IV × List IV) := match ls[k]? with
  | some (.inl x) => some (ls.set k (vI (x + Int32.ofInt n)), stk)
  | _ => none
def cat1 : IV → Bool
  | .inr (.inl _) => false
  | .inr (.inr (.inr _)) => false
  | _ => true
/-- what touches the locals and the stack alone, and never fails -/
def alu (i : Instr) (ls stk : List IV) : Option (List IV × List IV) := match i with
  | .iconst n => some (ls, vI (Int32.ofInt n) :: stk)
  | .bipush n => some (ls, vI (Int8.ofInt n).toInt32 :: stk)
  | .sipush n => some (ls, vI (Int16.ofInt n).toInt32 :: stk)
  | .lconst n => some (ls, vL (Int64.ofNat (n : Nat)) :: stk)
  | .iload_n k => ldI ls stk k
  | .iload k => ldI ls stk k
  | .lload_n k => ldL ls stk k
  | .lload k => ldL ls stk k
  | .aload_n k => ldR ls stk k
  | .aload k => ldR ls stk k
  | .istore_n k => stI ls stk k
  | .istore k => stI ls stk k
  | .lstore_n k => stL ls stk k
  | .lstore k => stL ls stk k
  | .astore_n k => stR ls stk k
  | .astore k => stR ls stk k
  | .iinc k n => icI ls stk k n
  | .iadd => op2 (fun x y => x + y) ls stk
  | .isub => op2 (fun x y => x - y) ls stk
  | .imul => op2 (fun x y => x * y) ls stk
  | .iand => op2 (fun x y => x &&& y) ls stk
  | .ior => op2 (fun x y => x ||| y) ls stk
  | .ishl => op2 (fun x y => x <<< (y &&& 31)) ls stk
  | .ishr => op2 (fun x y => x >>> (y &&& 31)) ls stk
  | .ladd => opL (fun x y => x + y) ls stk
  | .lmul => opL (fun x y => x * y) ls stk
  | .land => opL (fun x y => x &&& y) ls stk
  | .lcmp => match stk with
    | .inr (.inl y) :: .inr (.inl x) :: r => some (ls, vI (lg_cmp x y) :: r)
    | _ => none
  | .i2l => match stk with
    | .inl x :: r => some (ls, vL x.toInt64 :: r)
    | _ => none
  | .l2i => match stk with
    | .inr (.inl x) :: r => some (ls, vI x.toInt32 :: r)
    | _ => none
  | .i2b => match stk with
    | .inl x :: r => some (ls, vI x.toInt8.toInt32 :: r)
    | _ => none
  | .i2c => match stk with
    | .inl x :: r => some (ls, vI (x.toUInt32 % 65536).toInt32 :: r)
    | _ => none
  | .dup => match stk with
    | a :: r => bif cat1 a then some (ls, a :: a :: r) else none
    | _ => none
  | .dup2 => match stk with
    | a :: b :: r => bif cat1 a && cat1 b then some (ls, a :: b :: a :: b :: r) else none
    | _ => none
  | .pop => match stk with
    | a :: r => bif cat1 a then some (ls, r) else none
    | _ => none
  | _ => none
/-- division: may fail -/
def dvs (i : Instr) (stk : List IV) : Option (List IV) := match i with
  | .idiv => match stk with
    | .inl y :: .inl x :: r => if y = 0 then none else some (vI (x / y) :: r)
    | _ => none
  | .irem => match stk with
    | .inl y :: .inl x :: r => if y = 0 then none else some (vI (x - x / y * y) :: r)
    | _ => none
  | .lrem => match stk with
    | .inr (.inl y) :: .inr (.inl x) :: r => if y = 0 then none else some (vL (x - x / y * y) :: r)
    | _ => none
  | _ => none
/-- fields, statics, constants -/
def fld (i : Instr) (ex : List Nat) (stk : List IV) (σ : St) : Option (List IV × St) := match i with
  | .getfield _ => match ex, stk with
    | 0 :: T :: k :: _, .inr (.inr (.inl (t, q))) :: r => bif Nat.beq t T then some (vI (ar σ T q k) :: r, σ) else none
    | 1 :: T :: _ :: _ :: _ :: T' :: z :: _, .inr (.inr (.inl (t, q))) :: r => bif Nat.beq t T then some (vR T' (match z with | 0 => q | z + 1 => z) :: r, σ) else none
    | 2 :: T :: _, .inr (.inr (.inl (t, _))) :: r => bif Nat.beq t T then some (vL (hs σ) :: r, σ) else none
    | 5 :: 0 :: _, .inr (.inr (.inl (62, _))) :: r => some (vR 63 0 :: r, σ)
    | 5 :: 1 :: _, .inr (.inr (.inl (62, _))) :: r => some (vI 0 :: r, σ)
    | _, _ => none
  | .putfield _ => match ex, stk with
    | 0 :: T :: k :: _, .inl x :: .inr (.inr (.inl (t, q))) :: r => bif Nat.beq t T then some (r, se σ T q k x) else none
    | 2 :: T :: _, .inr (.inl x) :: .inr (.inr (.inl (t, _))) :: r => bif Nat.beq t T then some (r, sh σ x) else none
    | 3 :: T :: k :: _, .inl x :: .inr (.inr (.inl (t, q))) :: r => bif Nat.beq t T then (if x = 0 ∨ x = 1 then some (r, se σ T q k x) else none) else none
    | _, _ => none
  | .getstatic _ => match ex with
    | 0 :: v :: _ => some (vI (Int32.ofNat v) :: stk, σ)
    | 1 :: T :: _ => some (vR T 0 :: stk, σ)
    | _ => none
  | .ldc _ => match ex with
    | 0 :: v :: _ => some (vI (Int32.ofNat v) :: stk, σ)
    | 1 :: T :: _ => some (vR T 0 :: stk, σ)
    | _ => none
  | .ldc_w _ => match ex with
    | 0 :: v :: _ => some (vI (Int32.ofNat v) :: stk, σ)
    | _ => none
  | .ldc2_w _ => match ex with
    | v :: _ => some (vL (Int64.ofNat v) :: stk, σ)
    | _ => none
  | _ => none
/-- arrays -/
def arr (i : Instr) (stk : List IV) (σ : St) : Option (List IV × St) := match i with
  | .iaload => match stk with
    | .inl i :: .inr (.inr (.inl (t, q))) :: r => if oob i (lenS σ t) = true ∨ t = 63 then none else some (vI (rdA σ t q i.toNatClampNeg) :: r, σ)
    | _ => none
  | .baload => match stk with
    | .inl i :: .inr (.inr (.inl (63, _))) :: r => if oob i 5 = true then none else some (vI (roF 63 i.toNatClampNeg) :: r, σ)
    | _ => none
  | .iastore => match stk with
    | .inl x :: .inl i :: .inr (.inr (.inl (t, q))) :: r => if oob i (lenT t) = true then none else some (r, se σ t q i.toNatClampNeg x)
    | _ => none
  | .aaload => match stk with
    | .inl i :: .inr (.inr (.inl (23, _))) :: r => if oob i 6 = true then none else some (vR 24 i.toNatClampNeg :: r, σ)
    | .inl i :: .inr (.inr (.inl (25, _))) :: r => if oob i 6 = true then none else some (vR 26 i.toNatClampNeg :: r, σ)
    | _ => none
  | .arraylength => match stk with
    | .inr (.inr (.inl (t, _))) :: r => bif isA t then some (vI (nI (lenS σ t)) :: r, σ) else none
    | _ => none
  | _ => none
/-- library calls that are known: max, min, arraycopy of whole arrays -/
def lib (i : Instr) (ex : List Nat) (stk : List IV) (σ : St) : Option (List IV × St) := match i with
  | .invokestatic _ => match ex with
    | 20 :: _ => match stk with
      | .inl y :: .inl x :: r => bif Nat.ble r.length 4 then some (vI (if x < y then y else x) :: r, σ) else none
      | _ => none
    | 21 :: _ => match stk with
      | .inl y :: .inl x :: r => bif Nat.ble r.length 4 then some (vI (if y < x then y else x) :: r, σ) else none
      | _ => none
    | 22 :: _ => match stk with
      | .inl n :: .inl dp :: .inr (.inr (.inl (t2, q2))) :: .inl sp :: .inr (.inr (.inl (t1, q1))) :: r =>
        if dp = 0 ∧ sp = 0 ∧ n = nI (lenT t1) ∧ lenT t1 = lenT t2 ∧ lenT t1 ≠ 0 ∧ r.length ≤ 4 then some (r, sw σ t2 q2 (ar σ t1 q1)) else none
      | _ => none
    | _ => none
  | _ => none
def swF : List (Int × Int) → List Nat → Nat → Int → Nat
  | (a, _) :: ps, t :: ts, d, v => if v = a then t else swF ps ts d v
  | _, _, d, _ => d
def swT : Int → List Nat → Nat → Int → Nat
  | lo, t :: ts, d, v => if v = lo then t else swT (lo + 1) ts d v
  | _, [], d, _ => d
def cnd (k : ClassFile.Cond) (x y : Int32) : Bool := match k with
  | .eq => decide (x = y)
  | .ne => !decide (x = y)
  | .lt => decide (x < y)
  | .ge => decide (y ≤ x)
  | .gt => decide (y < x)
  | .le => decide (x ≤ y)
/-- jumps: where to, and the stack behind -/
def jmp (i : Instr) (ex : List Nat) (nx : Nat) (stk : List IV) : Option (Nat × List IV) := match i with
  | .goto _ => match ex with
    | t :: _ => some (t, stk)
    | _ => none
  | .ifCond k _ => match ex, stk with
    | t :: _, .inl x :: r => some (bif cnd k x 0 then t else nx, r)
    | _, _ => none
  | .if_icmp k _ => match ex, stk with
    | t :: _, .inl y :: .inl x :: r => some (bif cnd k x y then t else nx, r)
    | _, _ => none
  | .lookupswitch _ ps => match ex, stk with
    | d :: ts, .inl x :: r => some (swF ps.toList ts d x.toInt, r)
    | _, _ => none
  | .tableswitch _ lo _ _ => match ex, stk with
    | d :: ts, .inl x :: r => some (swT lo ts d x.toInt, r)
    | _, _ => none
  | _ => none
def exps : List IV → List IV
  | [] => []
  | .inr (.inl x) :: r => vL x :: vN :: exps r
  | v :: r => v :: exps r
def ent (n : Nat) (as : List IV) : List IV := exps as ++ List.replicate (n - (exps as).length) vN
def rcv (T : Nat) : List IV → Bool
  | .inr (.inr (.inl (t, _))) :: _ => Nat.beq t T
  | _ => false
/-- calls: which method, with what, what is left on the stack -/
def inv (i : Instr) (ex : List Nat) (stk : List IV) : Option (Nat × List IV × List IV) := match i with
  | .invokevirtual _ => match ex with
    | 10 :: k :: n :: _ :: _ :: T :: _ => bif Nat.ble n stk.length && (Nat.ble (stk.drop n).length 4 && rcv T (stk.take n).reverse) then some (k, (stk.take n).reverse, stk.drop n) else none
    | _ => none
  | .invokestatic _ => match ex with
    | 11 :: k :: n :: _ => bif Nat.ble n stk.length && Nat.ble (stk.drop n).length 4 then some (k, (stk.take n).reverse, stk.drop n) else none
    | _ => none
  | _ => none
/-- returns -/
def rtn (i : Instr) (ex : List Nat) (stk : List IV) : Option (Option IV) := match i with
  | .ireturn => match ex, stk with
    | 0 :: _, [.inl x] => some (some (vI x))
    | 1 :: _, [.inl x] => if x = 0 ∨ x = 1 then some (some (vI x)) else none
    | 2 :: _, [.inl x] => if x = 0 then some (some (vI x)) else none
    | _, _ => none
  | .lreturn => match stk with
    | [.inr (.inl x)] => some (some (vL x))
    | _ => none
  | .areturn => match stk with
    | [.inr (.inr (.inl (t, q)))] => some (some (vR t q))
    | _ => none
  | .return_ => match stk with
    | [] => some none
    | _ => none
  | _ => none
def lk : Nat → List Row → Option (Instr × Nat × List Nat)
  | _, [] => none
  | pc, r :: l => bif Nat.beq r.1 pc then some r.2 else lk pc l
def look (k pc : Nat) : Option (Instr × Nat × List Nat) := lk pc (codes.getD k [])
def mL (k : Nat) : Nat := maxLs.getD k 0
/-- one step but calls and returns: the next place, locals, stack, store -/
def one (k pc : Nat) (ls stk : List IV) (σ : St) (i : Instr) (nx : Nat) (ex : List Nat) : Option (Nat × List IV × List IV × St) :=
  match alu i ls stk with
  | some (ls', stk') => some (nx, ls', stk', σ)
  | none => match dvs i stk with
    | some stk' => some (nx, ls, stk', σ)
    | none => match fld i ex stk σ with
      | some (stk', σ') => some (nx, ls, stk', σ')
      | none => match arr i stk σ with
        | some (stk', σ') => some (nx, ls, stk', σ')
        | none => match lib i ex stk σ with
          | some (stk', σ') => some (nx, ls, stk', σ')
          | none => match jmp i ex nx stk with
            | some (pc', stk') => some (pc', ls, stk', σ)
            | none => none
def run : Nat → Nat → Nat → Nat → List IV → List IV → St → Option (Option IV × St)
  | _, 0, _, _, _, _, _ => none
  | d, n + 1, k, pc, ls, stk, σ => match look k pc with
    | none => none
    | some (i, nx, ex) => match one k pc ls stk σ i nx ex with
      | some (pc', ls', stk', σ') => run d n k pc' ls' stk' σ'
      | none => match rtn i ex stk with
        | some v => some (v, σ)
        | none => match inv i ex stk with
          | none => none
          | some (k', as, rest) => match d with
            | 0 => none
            | d' + 1 => bif Nat.ble (exps as).length (mL k') then (match run d' n k' 0 (ent (mL k') as) [] σ with
              | none => none
              | some (v, σ') => run (d' + 1) n k nx ls (v.toList ++ rest) σ') else none
theorem run_mono : ∀ (n d k pc : Nat) (ls stk : List IV) (σ : St) (r : Option IV × St), run d n k pc ls stk σ = some r → run d (n + 1) k pc ls stk σ = some r := by
  intro n
  induction n with
  | zero => intro d k pc ls stk σ r h; simp [run] at h
  | succ n ih =>
    intro d k pc ls stk σ r h
    rw [run] at h ⊢
    cases hl : look k pc with
    | none => rw [hl] at h; cases h
    | some x =>
      obtain ⟨i, nx, ex⟩ := x
      rw [hl] at h
      dsimp only at h ⊢
      cases ho : one k pc ls stk σ i nx ex with
      | some y =>
        obtain ⟨pc', ls', stk', σ'⟩ := y
        rw [ho] at h
        exact ih _ _ _ _ _ _ _ h
      | none =>
        rw [ho] at h
        dsimp only at h ⊢
        cases hr : rtn i ex stk with
        | some v => rw [hr] at h; exact h
        | none =>
          rw [hr] at h
          dsimp only at h ⊢
          cases hi : inv i ex stk with
          | none => rw [hi] at h; cases h
          | some z =>
            obtain ⟨k', as, rest⟩ := z
            rw [hi] at h
            cases d with
            | zero => cases h
            | succ d' =>
              dsimp only at h ⊢
              cases hb : Nat.ble (exps as).length (mL k') with
              | false => rw [hb] at h; cases h
              | true =>
                rw [hb] at h
                simp only [cond_true] at h ⊢
                cases hc : run d' n k' 0 (ent (mL k') as) [] σ with
                | none => rw [hc] at h; cases h
                | some w =>
                  obtain ⟨v, σ'⟩ := w
                  rw [hc] at h
                  rw [ih _ _ _ _ _ _ _ hc]
                  exact ih _ _ _ _ _ _ _ h
theorem run_le {n n' d k pc : Nat} {ls stk : List IV} {σ : St} {r : Option IV × St} (hn : n ≤ n') (h : run d n k pc ls stk σ = some r) : run d n' k pc ls stk σ = some r := by
  induction hn with
  | refl => exact h
  | step _ ih => exact run_mono _ _ _ _ _ _ _ _ ih
noncomputable def exec (d k pc : Nat) (ls stk : List IV) (σ : St) : Option (Option IV × St) := @dite _ (∃ r, ∃ n, run d n k pc ls stk σ = some r) (Classical.propDecidable _) (fun h => some (Classical.choose h)) (fun _ => none)
theorem exec_iff {d k pc : Nat} {ls stk : List IV} {σ : St} {r : Option IV × St} : exec d k pc ls stk σ = some r ↔ ∃ n, run d n k pc ls stk σ = some r := by
  unfold exec
  by_cases h : ∃ r, ∃ n, run d n k pc ls stk σ = some r
  · rw [dif_pos h]
    obtain ⟨n1, h1⟩ := Classical.choose_spec h
    constructor
    · intro e
      cases e
      exact ⟨n1, h1⟩
    · rintro ⟨n2, h2⟩
      have a := run_le (Nat.le_max_left n1 n2) h1
      have b := run_le (Nat.le_max_right n1 n2) h2
      rw [a] at b
      exact b
  · rw [dif_neg h]
    exact ⟨fun e => (by cases e), fun e => absurd ⟨r, e⟩ h⟩
theorem opt_ext {α : Type} {a b : Option α} (h : ∀ r, a = some r ↔ b = some r) : a = b := by
  cases a with
  | none =>
    cases b with
    | none => rfl
    | some y => exact absurd ((h y).mpr rfl) (by simp)
  | some x => exact ((h x).mp rfl).symm
noncomputable def call (d k : Nat) (as : List IV) (σ : St) : Option (Option IV × St) := exec d k 0 (ent (mL k) as) [] σ
theorem exec_step {d k pc k' pc' : Nat} {ls stk ls' stk' : List IV} {σ σ' : St} (h : ∀ n, run d (n + 1) k pc ls stk σ = run d n k' pc' ls' stk' σ') : exec d k pc ls stk σ = exec d k' pc' ls' stk' σ' := by
  apply opt_ext
  intro r
  rw [exec_iff, exec_iff]
  constructor
  · rintro ⟨n, hn⟩
    exact ⟨n, by rw [← h n]; exact run_mono _ _ _ _ _ _ _ _ hn⟩
  · rintro ⟨n, hn⟩
    exact ⟨n + 1, by rw [h n]; exact hn⟩
theorem exec_none {d k pc : Nat} {ls stk : List IV} {σ : St} (h : ∀ n, run d (n + 1) k pc ls stk σ = none) : exec d k pc ls stk σ = none := by
  apply opt_ext
  intro r
  rw [exec_iff]
  constructor
  · rintro ⟨n, hn⟩
    have := run_mono _ _ _ _ _ _ _ _ hn
    rw [h n] at this
    cases this
  · intro e
    cases e
theorem exec_some {d k pc : Nat} {ls stk : List IV} {σ : St} {r : Option IV × St} (h : ∀ n, run d (n + 1) k pc ls stk σ = some r) : exec d k pc ls stk σ = some r := exec_iff.mpr ⟨1, h 0⟩
section EX
variable {d k pc nx pc' : Nat} {ls stk ls' stk' : List IV} {σ σ' : St} {i : Instr} {ex : List Nat}
theorem e_one (hl : look k pc = some (i, nx, ex)) (h : one k pc ls stk σ i nx ex = some (pc', ls', stk', σ')) : exec d k pc ls stk σ = exec d k pc' ls' stk' σ' :=
  exec_step (fun n => by rw [run, hl]; dsimp only; rw [h])
theorem e_rtn {v : Option IV} (hl : look k pc = some (i, nx, ex)) (h : one k pc ls stk σ i nx ex = none) (hr : rtn i ex stk = some v) : exec d k pc ls stk σ = some (v, σ) :=
  exec_some (fun n => by rw [run, hl]; dsimp only; rw [h]; dsimp only; rw [hr])
theorem e_bad (hl : look k pc = some (i, nx, ex)) (h : one k pc ls stk σ i nx ex = none) (hr : rtn i ex stk = none) (hi : inv i ex stk = none) : exec d k pc ls stk σ = none :=
  exec_none (fun n => by rw [run, hl]; dsimp only; rw [h]; dsimp only; rw [hr]; dsimp only; rw [hi])
theorem e_inv {k' : Nat} {as rest : List IV} (hl : look k pc = some (i, nx, ex)) (h : one k pc ls stk σ i nx ex = none) (hr : rtn i ex stk = none) (hi : inv i ex stk = some (k', as, rest)) (hb : Nat.ble (exps as).length (mL k') = true) :
    exec (d + 1) k pc ls stk σ = (call d k' as σ).bind (fun r => exec (d + 1) k nx ls (r.1.toList ++ rest) r.2) := by
  have e : ∀ n, run (d + 1) (n + 1) k pc ls stk σ = match run d n k' 0 (ent (mL k') as) [] σ with
      | none => none
      | some (v, σ') => run (d + 1) n k nx ls (v.toList ++ rest) σ' := fun n => by
    rw [run, hl]
    dsimp only
    rw [h]
    dsimp only
    rw [hr]
    dsimp only
    rw [hi]
    dsimp only
    rw [hb]
    rfl
  apply opt_ext
  intro r
  constructor
  · intro hx
    obtain ⟨n, hn⟩ := exec_iff.mp hx
    have hn := run_mono _ _ _ _ _ _ _ _ hn
    rw [e n] at hn
    cases hc : run d n k' 0 (ent (mL k') as) [] σ with
    | none => rw [hc] at hn; cases hn
    | some w =>
      obtain ⟨v, σ'⟩ := w
      rw [hc] at hn
      have h1 : call d k' as σ = some (v, σ') := exec_iff.mpr ⟨n, hc⟩
      rw [h1]
      exact exec_iff.mpr ⟨n, hn⟩
  · intro hx
    cases hc : call d k' as σ with
    | none => rw [hc] at hx; cases hx
    | some w =>
      obtain ⟨v, σ'⟩ := w
      rw [hc] at hx
      obtain ⟨n1, h1⟩ := exec_iff.mp hc
      obtain ⟨n2, h2⟩ := exec_iff.mp hx
      refine exec_iff.mpr ⟨max n1 n2 + 1, ?_⟩
      rw [e, run_le (Nat.le_max_left n1 n2) h1]
      exact run_le (Nat.le_max_right n1 n2) h2
/-! what may fail, or goes two ways -/
theorem e_iald {i : Int32} {t q : Nat} {r : List IV} (hl : look k pc = some (.iaload, nx, ex)) : exec d k pc ls (vI i :: vR t q :: r) σ = if oob i (lenS σ t) = true ∨ t = 63 then none else exec d k nx ls (vI (rdA σ t q i.toNatClampNeg) :: r) σ := by
  by_cases h : oob i (lenS σ t) = true ∨ t = 63
  · rw [if_pos h]
    refine e_bad hl ?_ rfl rfl
    simp [one, alu, dvs, fld, arr, lib, jmp, vI, vR, h]
  · rw [if_neg h]
    refine e_one hl ?_
    simp [one, alu, dvs, fld, arr, vI, vR, h]
theorem e_bald {i : Int32} {q : Nat} {r : List IV} (hl : look k pc = some (.baload, nx, ex)) : exec d k pc ls (vI i :: vR 63 q :: r) σ = if oob i 5 = true then none else exec d k nx ls (vI (roF 63 i.toNatClampNeg) :: r) σ := by
  by_cases h : oob i 5 = true
  · rw [if_pos h]
    refine e_bad hl ?_ rfl rfl
    simp [one, alu, dvs, fld, arr, lib, jmp, vI, vR, h]
  · rw [if_neg h]
    refine e_one hl ?_
    simp [one, alu, dvs, fld, arr, vI, vR, h]
theorem e_iast {x i : Int32} {t q : Nat} {r : List IV} (hl : look k pc = some (.iastore, nx, ex)) : exec d k pc ls (vI x :: vI i :: vR t q :: r) σ = if oob i (lenT t) = true then none else exec d k nx ls r (se σ t q i.toNatClampNeg x) := by
  by_cases h : oob i (lenT t) = true
  · rw [if_pos h]
    refine e_bad hl ?_ rfl rfl
    simp [one, alu, dvs, fld, arr, lib, jmp, vI, vR, h]
  · rw [if_neg h]
    refine e_one hl ?_
    simp [one, alu, dvs, fld, arr, vI, vR, h]
theorem e_aald1 {i : Int32} {q : Nat} {r : List IV} (hl : look k pc = some (.aaload, nx, ex)) : exec d k pc ls (vI i :: vR 23 q :: r) σ = if oob i 6 = true then none else exec d k nx ls (vR 24 i.toNatClampNeg :: r) σ := by
  by_cases h : oob i 6 = true
  · rw [if_pos h]
    refine e_bad hl ?_ rfl rfl
    simp [one, alu, dvs, fld, arr, lib, jmp, vI, vR, h]
  · rw [if_neg h]
    refine e_one hl ?_
    simp [one, alu, dvs, fld, arr, vI, vR, h]
theorem e_aald2 {i : Int32} {q : Nat} {r : List IV} (hl : look k pc = some (.aaload, nx, ex)) : exec d k pc ls (vI i :: vR 25 q :: r) σ = if oob i 6 = true then none else exec d k nx ls (vR 26 i.toNatClampNeg :: r) σ := by
  by_cases h : oob i 6 = true
  · rw [if_pos h]
    refine e_bad hl ?_ rfl rfl
    simp [one, alu, dvs, fld, arr, lib, jmp, vI, vR, h]
  · rw [if_neg h]
    refine e_one hl ?_
    simp [one, alu, dvs, fld, arr, vI, vR, h]
theorem e_idiv {x y : Int32} {r : List IV} (hl : look k pc = some (.idiv, nx, ex)) : exec d k pc ls (vI y :: vI x :: r) σ = if y = 0 then none else exec d k nx ls (vI (x / y) :: r) σ := by
  by_cases h : y = 0
  · rw [if_pos h]
    refine e_bad hl ?_ rfl rfl
    simp [one, alu, dvs, fld, arr, lib, jmp, vI, h]
  · rw [if_neg h]
    refine e_one hl ?_
    simp [one, alu, dvs, vI, h]
theorem e_irem {x y : Int32} {r : List IV} (hl : look k pc = some (.irem, nx, ex)) : exec d k pc ls (vI y :: vI x :: r) σ = if y = 0 then none else exec d k nx ls (vI (x - x / y * y) :: r) σ := by
  by_cases h : y = 0
  · rw [if_pos h]
    refine e_bad hl ?_ rfl rfl
    simp [one, alu, dvs, fld, arr, lib, jmp, vI, h]
  · rw [if_neg h]
    refine e_one hl ?_
    simp [one, alu, dvs, vI, h]
theorem e_lrem {x y : Int64} {r : List IV} (hl : look k pc = some (.lrem, nx, ex)) : exec d k pc ls (vL y :: vL x :: r) σ = if y = 0 then none else exec d k nx ls (vL (x - x / y * y) :: r) σ := by
  by_cases h : y = 0
  · rw [if_pos h]
    refine e_bad hl ?_ rfl rfl
    simp [one, alu, dvs, fld, arr, lib, jmp, vL, h]
  · rw [if_neg h]
    refine e_one hl ?_
    simp [one, alu, dvs, vL, h]
theorem e_copy {n dp sp : Int32} {t1 q1 t2 q2 j : Nat} {r : List IV} {ex' : List Nat} (hl : look k pc = some (.invokestatic j, nx, 22 :: ex')) : exec d k pc ls (vI n :: vI dp :: vR t2 q2 :: vI sp :: vR t1 q1 :: r) σ = if dp = 0 ∧ sp = 0 ∧ n = nI (lenT t1) ∧ lenT t1 = lenT t2 ∧ lenT t1 ≠ 0 ∧ r.length ≤ 4 then exec d k nx ls r (sw σ t2 q2 (ar σ t1 q1)) else none := by
  by_cases h : dp = 0 ∧ sp = 0 ∧ n = nI (lenT t1) ∧ lenT t1 = lenT t2 ∧ lenT t1 ≠ 0 ∧ r.length ≤ 4
  · rw [if_pos h]
    refine e_one hl ?_
    unfold one
    have e : lib (.invokestatic j) (22 :: ex') (vI n :: vI dp :: vR t2 q2 :: vI sp :: vR t1 q1 :: r) σ = some (r, sw σ t2 q2 (ar σ t1 q1)) := if_pos h
    rw [e]
    rfl
  · rw [if_neg h]
    refine e_bad hl ?_ rfl rfl
    unfold one
    have e : lib (.invokestatic j) (22 :: ex') (vI n :: vI dp :: vR t2 q2 :: vI sp :: vR t1 q1 :: r) σ = none := if_neg h
    rw [e]
    rfl
theorem e_putZ {x : Int32} {q j T f : Nat} {r : List IV} {ex' : List Nat} (hl : look k pc = some (.putfield j, nx, 3 :: T :: f :: ex')) : exec d k pc ls (vI x :: vR T q :: r) σ = if x = 0 ∨ x = 1 then exec d k nx ls r (se σ T q f x) else none := by
  have e0 : fld (.putfield j) (3 :: T :: f :: ex') (vI x :: vR T q :: r) σ = bif Nat.beq T T then (if x = 0 ∨ x = 1 then some (r, se σ T q f x) else none) else none := rfl
  rw [Nat.beq_refl, cond_true] at e0
  by_cases h : x = 0 ∨ x = 1
  · rw [if_pos h]
    rw [if_pos h] at e0
    refine e_one hl ?_
    unfold one
    rw [e0]
    rfl
  · rw [if_neg h]
    rw [if_neg h] at e0
    refine e_bad hl ?_ rfl rfl
    unfold one
    rw [e0]
    rfl
theorem e_retZ {x : Int32} {ex' : List Nat} (hl : look k pc = some (.ireturn, nx, 1 :: ex')) : exec d k pc ls [vI x] σ = if x = 0 ∨ x = 1 then some (some (vI x), σ) else none := by
  by_cases h : x = 0 ∨ x = 1
  · rw [if_pos h]
    exact e_rtn hl rfl (if_pos h)
  · rw [if_neg h]
    exact e_bad hl rfl (if_neg h) rfl
theorem e_retB {x : Int32} {ex' : List Nat} (hl : look k pc = some (.ireturn, nx, 2 :: ex')) : exec d k pc ls [vI x] σ = if x = 0 then some (some (vI x), σ) else none := by
  by_cases h : x = 0
  · rw [if_pos h]
    exact e_rtn hl rfl (if_pos h)
  · rw [if_neg h]
    exact e_bad hl rfl (if_neg h) rfl
theorem e_if {b : Bool} {A B : Nat} {r : List IV} (h : exec d k pc ls stk σ = exec d k (bif b then A else B) ls r σ) {p : Prop} (hb : b = true ↔ p) [Decidable p] : exec d k pc ls stk σ = if p then exec d k A ls r σ else exec d k B ls r σ := by
  rw [h]
  cases b with
  | true => rw [if_pos (hb.mp rfl)]; rfl
  | false => rw [if_neg (fun q => by have := hb.mpr q; cases this)]; rfl
theorem e_ifn {b : Bool} {A B : Nat} {r : List IV} (h : exec d k pc ls stk σ = exec d k (bif b then A else B) ls r σ) {p : Prop} (hb : b = true ↔ ¬ p) [Decidable p] : exec d k pc ls stk σ = if p then exec d k B ls r σ else exec d k A ls r σ := by
  rw [h]
  cases b with
  | true => rw [if_neg (hb.mp rfl)]; rfl
  | false =>
    rw [if_pos (Classical.byContradiction (fun q => by have := hb.mpr q; cases this))]
    rfl
theorem cnd_eq {x y : Int32} : cnd .eq x y = true ↔ x = y := by simp [cnd]
theorem cnd_ne {x y : Int32} : cnd .ne x y = true ↔ ¬ x = y := by simp [cnd]
theorem cnd_lt {x y : Int32} : cnd .lt x y = true ↔ x < y := by simp [cnd]
theorem cnd_ge {x y : Int32} : cnd .ge x y = true ↔ ¬ x < y := by simp [cnd, Int32.not_lt]
theorem cnd_gt {x y : Int32} : cnd .gt x y = true ↔ y < x := by simp [cnd]
theorem cnd_le {x y : Int32} : cnd .le x y = true ↔ ¬ y < x := by simp [cnd, Int32.not_lt]
theorem e_sw (h : exec d k pc ls stk σ = exec d k pc' ls' stk' σ') {X : Option (Option IV × St)} (hx : exec d k pc' ls' stk' σ' = X) : exec d k pc ls stk σ = X := h.trans hx
end EX
end
section
/-! Classes, cells, methods, words: tables printed by program, and what is checked of them. -/
def RX0 : String := "QuarrelWindows$Guess"
def TX0 : u_T := fun k => match k with
  | 0 => ("QuarrelWindows$Guess", "trial", "LQuarrelWindows$Square;", true)
  | 1 => ("QuarrelWindows$Guess", "fronts", "[[I", true)
  | 2 => ("QuarrelWindows$Guess", "left", "[[I", true)
  | 3 => ("QuarrelWindows$Guess", "fitting", "I", false)
  | 4 => ("QuarrelWindows$Guess", "least", "I", false)
  | _ => ("QuarrelWindows$Guess", "greatest", "I", false)
def tyX0 : Nat → FieldType := fun k => match k with
  | 0 => .object "QuarrelWindows$Square"
  | 1 => .array (.array .int)
  | 2 => .array (.array .int)
  | 3 => .int
  | 4 => .int
  | _ => .int
theorem nmX0 : ∀ a, a < 6 → ∀ b, b < 6 → a ≠ b → (TX0 a).2.1 ≠ (TX0 b).2.1 := by decide +kernel
theorem tyX0_ok : ∀ k, k < 6 → parseFieldDescriptor (TX0 k).2.2.1 = some (tyX0 k) := by decide +kernel
def RX1 : String := "QuarrelWindows$Outlook"
def TX1 : u_T := fun k => match k with
  | 0 => ("QuarrelWindows$Outlook", "trial", "LQuarrelWindows$Square;", true)
  | 1 => ("QuarrelWindows$Outlook", "settledBehind", "I", false)
  | 2 => ("QuarrelWindows$Outlook", "wallPair", "I", false)
  | 3 => ("QuarrelWindows$Outlook", "wallRiver", "I", false)
  | 4 => ("QuarrelWindows$Outlook", "summerStares", "I", false)
  | 5 => ("QuarrelWindows$Outlook", "summerTurns", "I", false)
  | _ => ("QuarrelWindows$Outlook", "seed", "I", false)
def tyX1 : Nat → FieldType := fun k => match k with
  | 0 => .object "QuarrelWindows$Square"
  | 1 => .int
  | 2 => .int
  | 3 => .int
  | 4 => .int
  | 5 => .int
  | _ => .int
theorem nmX1 : ∀ a, a < 7 → ∀ b, b < 7 → a ≠ b → (TX1 a).2.1 ≠ (TX1 b).2.1 := by decide +kernel
theorem tyX1_ok : ∀ k, k < 7 → parseFieldDescriptor (TX1 k).2.2.1 = some (tyX1 k) := by decide +kernel
def RX2 : String := "QuarrelWindows$Page"
def TX2 : u_T := fun k => match k with
  | 0 => ("QuarrelWindows$Page", "letters", "[I", true)
  | _ => ("QuarrelWindows$Page", "length", "I", false)
def tyX2 : Nat → FieldType := fun k => match k with
  | 0 => .array .int
  | _ => .int
theorem nmX2 : ∀ a, a < 2 → ∀ b, b < 2 → a ≠ b → (TX2 a).2.1 ≠ (TX2 b).2.1 := by decide +kernel
theorem tyX2_ok : ∀ k, k < 2 → parseFieldDescriptor (TX2 k).2.2.1 = some (tyX2 k) := by decide +kernel
def RX3 : String := "QuarrelWindows$Peacemaker"
def TX3 : u_T := fun k => match k with
  | 0 => ("QuarrelWindows$Peacemaker", "start", "LQuarrelWindows$Square;", true)
  | 1 => ("QuarrelWindows$Peacemaker", "first", "LQuarrelWindows$Square;", true)
  | 2 => ("QuarrelWindows$Peacemaker", "second", "LQuarrelWindows$Square;", true)
  | 3 => ("QuarrelWindows$Peacemaker", "third", "LQuarrelWindows$Square;", true)
  | 4 => ("QuarrelWindows$Peacemaker", "tried", "[I", true)
  | 5 => ("QuarrelWindows$Peacemaker", "best", "[I", true)
  | 6 => ("QuarrelWindows$Peacemaker", "fewest", "I", false)
  | 7 => ("QuarrelWindows$Peacemaker", "wanted", "I", false)
  | _ => ("QuarrelWindows$Peacemaker", "mornings", "I", false)
def tyX3 : Nat → FieldType := fun k => match k with
  | 0 => .object "QuarrelWindows$Square"
  | 1 => .object "QuarrelWindows$Square"
  | 2 => .object "QuarrelWindows$Square"
  | 3 => .object "QuarrelWindows$Square"
  | 4 => .array .int
  | 5 => .array .int
  | 6 => .int
  | 7 => .int
  | _ => .int
theorem nmX3 : ∀ a, a < 9 → ∀ b, b < 9 → a ≠ b → (TX3 a).2.1 ≠ (TX3 b).2.1 := by decide +kernel
theorem tyX3_ok : ∀ k, k < 9 → parseFieldDescriptor (TX3 k).2.2.1 = some (tyX3 k) := by decide +kernel
def RX4 : String := "QuarrelWindows$Sights"
def TX4 : u_T := fun k => match k with
  | 0 => ("QuarrelWindows$Sights", "houses", "[I", true)
  | 1 => ("QuarrelWindows$Sights", "faces", "[I", true)
  | 2 => ("QuarrelWindows$Sights", "mornings", "[I", true)
  | _ => ("QuarrelWindows$Sights", "length", "I", false)
def tyX4 : Nat → FieldType := fun k => match k with
  | 0 => .array .int
  | 1 => .array .int
  | 2 => .array .int
  | _ => .int
theorem nmX4 : ∀ a, a < 4 → ∀ b, b < 4 → a ≠ b → (TX4 a).2.1 ≠ (TX4 b).2.1 := by decide +kernel
theorem tyX4_ok : ∀ k, k < 4 → parseFieldDescriptor (TX4 k).2.2.1 = some (tyX4 k) := by decide +kernel
def RX5 : String := "QuarrelWindows$Square"
def TX5 : u_T := fun k => match k with
  | 0 => ("QuarrelWindows$Square", "kinds", "[I", true)
  | 1 => ("QuarrelWindows$Square", "views", "[I", true)
  | 2 => ("QuarrelWindows$Square", "fronts", "[I", true)
  | 3 => ("QuarrelWindows$Square", "torn", "[I", true)
  | 4 => ("QuarrelWindows$Square", "costs", "[I", true)
  | 5 => ("QuarrelWindows$Square", "angers", "[I", true)
  | 6 => ("QuarrelWindows$Square", "walls", "[I", true)
  | 7 => ("QuarrelWindows$Square", "houses", "I", false)
  | 8 => ("QuarrelWindows$Square", "mornings", "I", false)
  | 9 => ("QuarrelWindows$Square", "turned", "I", false)
  | 10 => ("QuarrelWindows$Square", "quarrels", "I", false)
  | _ => ("QuarrelWindows$Square", "peaces", "I", false)
def tyX5 : Nat → FieldType := fun k => match k with
  | 0 => .array .int
  | 1 => .array .int
  | 2 => .array .int
  | 3 => .array .int
  | 4 => .array .int
  | 5 => .array .int
  | 6 => .array .int
  | 7 => .int
  | 8 => .int
  | 9 => .int
  | 10 => .int
  | _ => .int
theorem nmX5 : ∀ a, a < 12 → ∀ b, b < 12 → a ≠ b → (TX5 a).2.1 ≠ (TX5 b).2.1 := by decide +kernel
theorem tyX5_ok : ∀ k, k < 12 → parseFieldDescriptor (TX5 k).2.2.1 = some (tyX5 k) := by decide +kernel
def RX6 : String := "QuarrelWindows"
def TX6 : u_T := fun k => match k with
  | 0 => ("QuarrelWindows", "page", "LQuarrelWindows$Page;", true)
  | 1 => ("QuarrelWindows", "now", "LQuarrelWindows$Square;", true)
  | 2 => ("QuarrelWindows", "kept", "LQuarrelWindows$Square;", true)
  | 3 => ("QuarrelWindows", "seen", "LQuarrelWindows$Sights;", true)
  | 4 => ("QuarrelWindows", "keptSeen", "LQuarrelWindows$Sights;", true)
  | 5 => ("QuarrelWindows", "outlook", "LQuarrelWindows$Outlook;", true)
  | 6 => ("QuarrelWindows", "peacemaker", "LQuarrelWindows$Peacemaker;", true)
  | 7 => ("QuarrelWindows", "guess", "LQuarrelWindows$Guess;", true)
  | 8 => ("QuarrelWindows", "hasImage", "Z", false)
  | 9 => ("QuarrelWindows", "squaresRead", "I", false)
  | 10 => ("QuarrelWindows", "calmsDone", "I", false)
  | _ => ("QuarrelWindows", "arbitersDone", "I", false)
def tyX6 : Nat → FieldType := fun k => match k with
  | 0 => .object "QuarrelWindows$Page"
  | 1 => .object "QuarrelWindows$Square"
  | 2 => .object "QuarrelWindows$Square"
  | 3 => .object "QuarrelWindows$Sights"
  | 4 => .object "QuarrelWindows$Sights"
  | 5 => .object "QuarrelWindows$Outlook"
  | 6 => .object "QuarrelWindows$Peacemaker"
  | 7 => .object "QuarrelWindows$Guess"
  | 8 => .boolean
  | 9 => .int
  | 10 => .int
  | _ => .int
theorem nmX6 : ∀ a, a < 12 → ∀ b, b < 12 → a ≠ b → (TX6 a).2.1 ≠ (TX6 b).2.1 := by decide +kernel
theorem tyX6_ok : ∀ k, k < 12 → parseFieldDescriptor (TX6 k).2.2.1 = some (tyX6 k) := by decide +kernel
def RX7 : String := "QuarrelWindowsModel"
def TX7 : u_T := fun k => match k with
  | 0 => ("QuarrelWindowsModel", "page", "[I", true)
  | 1 => ("QuarrelWindowsModel", "pageMany", "I", false)
  | 2 => ("QuarrelWindowsModel", "endAt", "I", false)
  | 3 => ("QuarrelWindowsModel", "houses", "I", false)
  | 4 => ("QuarrelWindowsModel", "mornings", "I", false)
  | 5 => ("QuarrelWindowsModel", "turned", "I", false)
  | 6 => ("QuarrelWindowsModel", "quarrels", "I", false)
  | 7 => ("QuarrelWindowsModel", "peaces", "I", false)
  | 8 => ("QuarrelWindowsModel", "squaresRead", "I", false)
  | 9 => ("QuarrelWindowsModel", "kinds", "[I", true)
  | 10 => ("QuarrelWindowsModel", "views", "[I", true)
  | 11 => ("QuarrelWindowsModel", "torn", "[I", true)
  | 12 => ("QuarrelWindowsModel", "costs", "[I", true)
  | 13 => ("QuarrelWindowsModel", "angers", "[I", true)
  | 14 => ("QuarrelWindowsModel", "wallsUp", "[I", true)
  | 15 => ("QuarrelWindowsModel", "faces", "[I", true)
  | 16 => ("QuarrelWindowsModel", "lineRow", "[I", true)
  | 17 => ("QuarrelWindowsModel", "ahead", "[I", true)
  | 18 => ("QuarrelWindowsModel", "tableWas", "[I", true)
  | 19 => ("QuarrelWindowsModel", "work", "[I", true)
  | 20 => ("QuarrelWindowsModel", "calmsDone", "I", false)
  | 21 => ("QuarrelWindowsModel", "best", "[I", true)
  | 22 => ("QuarrelWindowsModel", "row", "[I", true)
  | 23 => ("QuarrelWindowsModel", "arbitersDone", "I", false)
  | 24 => ("QuarrelWindowsModel", "seenMany", "I", false)
  | 25 => ("QuarrelWindowsModel", "sights", "[I", true)
  | 26 => ("QuarrelWindowsModel", "ways", "[I", true)
  | 27 => ("QuarrelWindowsModel", "may", "[I", true)
  | 28 => ("QuarrelWindowsModel", "parts", "[I", true)
  | 29 => ("QuarrelWindowsModel", "seedNow", "I", false)
  | 30 => ("QuarrelWindowsModel", "keptSquare", "I", false)
  | 31 => ("QuarrelWindowsModel", "keptMornings", "I", false)
  | 32 => ("QuarrelWindowsModel", "keptTurned", "I", false)
  | 33 => ("QuarrelWindowsModel", "keptQuarrels", "I", false)
  | 34 => ("QuarrelWindowsModel", "keptPeaces", "I", false)
  | 35 => ("QuarrelWindowsModel", "keptSeen", "I", false)
  | 36 => ("QuarrelWindowsModel", "keptKinds", "[I", true)
  | 37 => ("QuarrelWindowsModel", "keptTorn", "[I", true)
  | 38 => ("QuarrelWindowsModel", "keptCosts", "[I", true)
  | 39 => ("QuarrelWindowsModel", "keptAngers", "[I", true)
  | 40 => ("QuarrelWindowsModel", "keptWalls", "[I", true)
  | 41 => ("QuarrelWindowsModel", "keptSights", "[I", true)
  | _ => ("QuarrelWindowsModel", "hash", "J", false)
def tyX7 : Nat → FieldType := fun k => match k with
  | 0 => .array .int
  | 1 => .int
  | 2 => .int
  | 3 => .int
  | 4 => .int
  | 5 => .int
  | 6 => .int
  | 7 => .int
  | 8 => .int
  | 9 => .array .int
  | 10 => .array .int
  | 11 => .array .int
  | 12 => .array .int
  | 13 => .array .int
  | 14 => .array .int
  | 15 => .array .int
  | 16 => .array .int
  | 17 => .array .int
  | 18 => .array .int
  | 19 => .array .int
  | 20 => .int
  | 21 => .array .int
  | 22 => .array .int
  | 23 => .int
  | 24 => .int
  | 25 => .array .int
  | 26 => .array .int
  | 27 => .array .int
  | 28 => .array .int
  | 29 => .int
  | 30 => .int
  | 31 => .int
  | 32 => .int
  | 33 => .int
  | 34 => .int
  | 35 => .int
  | 36 => .array .int
  | 37 => .array .int
  | 38 => .array .int
  | 39 => .array .int
  | 40 => .array .int
  | 41 => .array .int
  | _ => .long
theorem nmX7 : ∀ a, a < 43 → ∀ b, b < 43 → a ≠ b → (TX7 a).2.1 ≠ (TX7 b).2.1 := by decide +kernel
theorem tyX7_ok : ∀ k, k < 43 → parseFieldDescriptor (TX7 k).2.2.1 = some (tyX7 k) := by decide +kernel
abbrev wcl : List vw_C := [(RX0, TX0, 6), (RX1, TX1, 7), (RX2, TX2, 2), (RX3, TX3, 9), (RX4, TX4, 4), (RX5, TX5, 12), (RX6, TX6, 12), (RX7, TX7, 43)]
/-- of each field of each class: 0 an int, 1 a reference (which kind, which number), 2 the long -/
def fkT : List (List (Nat × Nat × Nat)) := [[(1, 5, 8), (1, 23, 1), (1, 25, 1), (0, 0, 0), (0, 0, 0), (0, 0, 0)], [(1, 5, 3), (0, 0, 0), (0, 0, 0), (0, 0, 0), (0, 0, 0), (0, 0, 0), (0, 0, 0)], [(1, 10, 0), (0, 0, 0)], [(1, 5, 4), (1, 5, 5), (1, 5, 6), (1, 5, 7), (1, 21, 0), (1, 22, 0), (0, 0, 0), (0, 0, 0), (0, 0, 0)], [(1, 18, 0), (1, 19, 0), (1, 20, 0), (0, 0, 0)], [(1, 11, 0), (1, 12, 0), (1, 13, 0), (1, 14, 0), (1, 15, 0), (1, 16, 0), (1, 17, 0), (0, 0, 0), (0, 0, 0), (0, 0, 0), (0, 0, 0), (0, 0, 0)], [(1, 2, 1), (1, 5, 1), (1, 5, 2), (1, 4, 1), (1, 4, 2), (1, 1, 1), (1, 3, 1), (1, 0, 1), (0, 0, 0), (0, 0, 0), (0, 0, 0), (0, 0, 0)], [(1, 30, 0), (0, 0, 0), (0, 0, 0), (0, 0, 0), (0, 0, 0), (0, 0, 0), (0, 0, 0), (0, 0, 0), (0, 0, 0), (1, 31, 0), (1, 32, 0), (1, 33, 0), (1, 34, 0), (1, 35, 0), (1, 36, 0), (1, 37, 0), (1, 38, 0), (1, 39, 0), (1, 40, 0), (1, 41, 0), (0, 0, 0), (1, 42, 0), (1, 43, 0), (0, 0, 0), (0, 0, 0), (1, 44, 0), (1, 45, 0), (1, 46, 0), (1, 47, 0), (0, 0, 0), (0, 0, 0), (0, 0, 0), (0, 0, 0), (0, 0, 0), (0, 0, 0), (0, 0, 0), (1, 48, 0), (1, 49, 0), (1, 50, 0), (1, 51, 0), (1, 52, 0), (1, 53, 0), (2, 0, 0)]]
def fkd (t k : Nat) : Nat × Nat × Nat := (fkT.getD t []).getD k (3, 0, 0)
/-- the cells of the world: kind and number -/
def wcells : List (Nat × Nat) := [(0, 0), (1, 0), (2, 0), (3, 0), (4, 0), (4, 1), (5, 0), (5, 1), (5, 2), (5, 3), (5, 4), (5, 5), (5, 6), (5, 7), (6, 0), (7, 0), (10, 0), (11, 0), (12, 0), (13, 0), (14, 0), (15, 0), (16, 0), (17, 0), (11, 1), (12, 1), (13, 1), (14, 1), (15, 1), (16, 1), (17, 1), (11, 2), (12, 2), (13, 2), (14, 2), (15, 2), (16, 2), (17, 2), (11, 3), (12, 3), (13, 3), (14, 3), (15, 3), (16, 3), (17, 3), (11, 4), (12, 4), (13, 4), (14, 4), (15, 4), (16, 4), (17, 4), (11, 5), (12, 5), (13, 5), (14, 5), (15, 5), (16, 5), (17, 5), (11, 6), (12, 6), (13, 6), (14, 6), (15, 6), (16, 6), (17, 6), (11, 7), (12, 7), (13, 7), (14, 7), (15, 7), (16, 7), (17, 7), (18, 0), (19, 0), (20, 0), (18, 1), (19, 1), (20, 1), (21, 0), (22, 0), (23, 0), (24, 0), (24, 1), (24, 2), (24, 3), (24, 4), (24, 5), (25, 0), (26, 0), (26, 1), (26, 2), (26, 3), (26, 4), (26, 5), (30, 0), (31, 0), (32, 0), (33, 0), (34, 0), (35, 0), (36, 0), (37, 0), (38, 0), (39, 0), (40, 0), (41, 0), (42, 0), (43, 0), (44, 0), (45, 0), (46, 0), (47, 0), (48, 0), (49, 0), (50, 0), (51, 0), (52, 0), (53, 0)]
abbrev MRow : Type := MethodName × ByteArray × Nat × Option FieldType × Bool × Nat
def mtab_0 : List MRow := [(⟨"QuarrelWindows$Guess", "find", "(LQuarrelWindows$Square;LQuarrelWindows$Sights;II)V"⟩, prog_2_method_2_code, 6, none, false, 4), (⟨"QuarrelWindows$Guess", "foresee", "()V"⟩, prog_2_method_3_code, 3, none, false, 0), (⟨"QuarrelWindows$Guess", "take", "(II)V"⟩, prog_2_method_4_code, 4, none, false, 2), (⟨"QuarrelWindows$Guess", "found", "(I)I"⟩, prog_2_method_5_code, 2, (some .int), false, 1), (⟨"QuarrelWindows$Guess", "bestLook", "()I"⟩, prog_2_method_6_code, 5, (some .int), false, 0), (⟨"QuarrelWindows$Guess", "worstOf", "([I)I"⟩, prog_2_method_7_code, 6, (some .int), true, 1), (⟨"QuarrelWindows$Outlook", "settle", "(LQuarrelWindows$Square;)V"⟩, prog_3_method_2_code, 4, none, false, 1), (⟨"QuarrelWindows$Outlook", "settled", "(I)I"⟩, prog_3_method_3_code, 3, (some .int), false, 1), (⟨"QuarrelWindows$Outlook", "leastGrudge", "(LQuarrelWindows$Square;III)I"⟩, prog_3_method_4_code, 6, (some .int), false, 4), (⟨"QuarrelWindows$Outlook", "findWall", "(LQuarrelWindows$Square;I)V"⟩, prog_3_method_5_code, 6, none, false, 2), (⟨"QuarrelWindows$Outlook", "weighWall", "(II)V"⟩, prog_3_method_6_code, 3, none, false, 2), (⟨"QuarrelWindows$Outlook", "walled", "(I)I"⟩, prog_3_method_7_code, 2, (some .int), false, 1), (⟨"QuarrelWindows$Outlook", "summer", "(LQuarrelWindows$Square;II)V"⟩, prog_3_method_8_code, 8, none, false, 3), (⟨"QuarrelWindows$Outlook", "draw", "(I)I"⟩, prog_3_method_9_code, 2, (some .int), false, 1), (⟨"QuarrelWindows$Outlook", "summered", "(I)I"⟩, prog_3_method_10_code, 2, (some .int), false, 1), (⟨"QuarrelWindows$Page", "isFull", "()Z"⟩, prog_4_method_2_code, 1, (some .boolean), false, 0), (⟨"QuarrelWindows$Page", "size", "()I"⟩, prog_4_method_3_code, 1, (some .int), false, 0), (⟨"QuarrelWindows$Page", "add", "(I)I"⟩, prog_4_method_4_code, 2, (some .int), false, 1), (⟨"QuarrelWindows$Page", "clear", "()I"⟩, prog_4_method_5_code, 2, (some .int), false, 0), (⟨"QuarrelWindows$Page", "faultPlace", "()I"⟩, prog_4_method_6_code, 4, (some .int), false, 0), (⟨"QuarrelWindows$Page", "isSquare", "()Z"⟩, prog_4_method_7_code, 2, (some .boolean), false, 0), (⟨"QuarrelWindows$Page", "fitsHouses", "(I)Z"⟩, prog_4_method_8_code, 3, (some .boolean), false, 1), (⟨"QuarrelWindows$Page", "mayFollow", "(II)Z"⟩, prog_4_method_9_code, 2, (some .boolean), true, 2), (⟨"QuarrelWindows$Page", "fitsAngers", "(II)Z"⟩, prog_4_method_10_code, 6, (some .boolean), false, 2), (⟨"QuarrelWindows$Page", "housesEnd", "()I"⟩, prog_4_method_11_code, 2, (some .int), false, 0), (⟨"QuarrelWindows$Page", "countHouses", "()I"⟩, prog_4_method_12_code, 1, (some .int), false, 0), (⟨"QuarrelWindows$Page", "kindOf", "(I)I"⟩, prog_4_method_13_code, 2, (some .int), false, 1), (⟨"QuarrelWindows$Page", "viewOf", "(I)I"⟩, prog_4_method_14_code, 2, (some .int), false, 1), (⟨"QuarrelWindows$Page", "countTold", "()I"⟩, prog_4_method_15_code, 1, (some .int), false, 0), (⟨"QuarrelWindows$Page", "told", "(II)I"⟩, prog_4_method_16_code, 3, (some .int), false, 2), (⟨"QuarrelWindows$Page", "letterAt", "(I)I"⟩, prog_4_method_17_code, 2, (some .int), false, 1), (⟨"QuarrelWindows$Page", "kindNamed", "(I)I"⟩, prog_4_method_18_code, 1, (some .int), true, 1), (⟨"QuarrelWindows$Page", "digitOf", "(I)I"⟩, prog_4_method_19_code, 1, (some .int), true, 1), (⟨"QuarrelWindows$Peacemaker", "findCalm", "(LQuarrelWindows$Square;II)V"⟩, prog_5_method_2_code, 5, none, false, 3), (⟨"QuarrelWindows$Peacemaker", "calms", "(LQuarrelWindows$Peacemaker;III)Z"⟩, prog_5_method_3_code, 7, (some .boolean), true, 4), (⟨"QuarrelWindows$Peacemaker", "isCalm", "(LQuarrelWindows$Square;)Z"⟩, prog_5_method_4_code, 3, (some .boolean), false, 1), (⟨"QuarrelWindows$Peacemaker", "arbitrate", "(LQuarrelWindows$Square;I)V"⟩, prog_5_method_5_code, 3, none, false, 2), (⟨"QuarrelWindows$Peacemaker", "arbits", "(LQuarrelWindows$Peacemaker;I)V"⟩, prog_5_method_6_code, 5, none, true, 2), (⟨"QuarrelWindows$Peacemaker", "weigh", "(I)V"⟩, prog_5_method_7_code, 2, none, false, 1), (⟨"QuarrelWindows$Peacemaker", "makesPeace", "(LQuarrelWindows$Square;LQuarrelWindows$Square;I)Z"⟩, prog_5_method_8_code, 5, (some .boolean), true, 3), (⟨"QuarrelWindows$Peacemaker", "behind", "(I)LQuarrelWindows$Square;"⟩, prog_5_method_9_code, 2, (some (.object "QuarrelWindows$Square")), false, 1), (⟨"QuarrelWindows$Peacemaker", "found", "(I)I"⟩, prog_5_method_10_code, 3, (some .int), false, 1), (⟨"QuarrelWindows$Sights", "isFull", "()Z"⟩, prog_6_method_2_code, 1, (some .boolean), false, 0), (⟨"QuarrelWindows$Sights", "size", "()I"⟩, prog_6_method_3_code, 1, (some .int), false, 0), (⟨"QuarrelWindows$Sights", "add", "(III)I"⟩, prog_6_method_4_code, 4, (some .int), false, 3), (⟨"QuarrelWindows$Sights", "clear", "()I"⟩, prog_6_method_5_code, 2, (some .int), false, 0), (⟨"QuarrelWindows$Sights", "copyFrom", "(LQuarrelWindows$Sights;)V"⟩, prog_6_method_6_code, 2, none, false, 1), (⟨"QuarrelWindows$Sights", "isSo", "([[I)Z"⟩, prog_6_method_7_code, 3, (some .boolean), false, 1), (⟨"QuarrelWindows$Square", "readFrom", "(LQuarrelWindows$Page;)V"⟩, prog_7_method_2_code, 5, none, false, 1), (⟨"QuarrelWindows$Square", "copyFrom", "(LQuarrelWindows$Square;)V"⟩, prog_7_method_3_code, 2, none, false, 1), (⟨"QuarrelWindows$Square", "stands", "()Z"⟩, prog_7_method_4_code, 1, (some .boolean), false, 0), (⟨"QuarrelWindows$Square", "size", "()I"⟩, prog_7_method_5_code, 1, (some .int), false, 0), (⟨"QuarrelWindows$Square", "isHouse", "(I)Z"⟩, prog_7_method_6_code, 2, (some .boolean), false, 1), (⟨"QuarrelWindows$Square", "areTwo", "(II)Z"⟩, prog_7_method_7_code, 3, (some .boolean), false, 2), (⟨"QuarrelWindows$Square", "kindOf", "(I)I"⟩, prog_7_method_8_code, 2, (some .int), false, 1), (⟨"QuarrelWindows$Square", "viewOf", "(I)I"⟩, prog_7_method_9_code, 2, (some .int), false, 1), (⟨"QuarrelWindows$Square", "frontOf", "(I)I"⟩, prog_7_method_10_code, 2, (some .int), false, 1), (⟨"QuarrelWindows$Square", "tornOf", "(I)I"⟩, prog_7_method_11_code, 2, (some .int), false, 1), (⟨"QuarrelWindows$Square", "costOf", "(I)I"⟩, prog_7_method_12_code, 2, (some .int), false, 1), (⟨"QuarrelWindows$Square", "frontersOf", "(I)I"⟩, prog_7_method_13_code, 4, (some .int), false, 1)]
def mtab_1 : List MRow := [(⟨"QuarrelWindows$Square", "angersOf", "(I)I"⟩, prog_7_method_14_code, 4, (some .int), false, 1), (⟨"QuarrelWindows$Square", "isStaring", "(I)Z"⟩, prog_7_method_15_code, 3, (some .boolean), false, 1), (⟨"QuarrelWindows$Square", "ringSize", "(I)I"⟩, prog_7_method_16_code, 4, (some .int), false, 1), (⟨"QuarrelWindows$Square", "onLine", "(II)I"⟩, prog_7_method_17_code, 6, (some .int), false, 2), (⟨"QuarrelWindows$Square", "lineLength", "(I)I"⟩, prog_7_method_18_code, 4, (some .int), false, 1), (⟨"QuarrelWindows$Square", "lineEnd", "(I)I"⟩, prog_7_method_19_code, 2, (some .int), false, 1), (⟨"QuarrelWindows$Square", "angerAt", "(II)I"⟩, prog_7_method_20_code, 3, (some .int), false, 2), (⟨"QuarrelWindows$Square", "wallBetween", "(II)I"⟩, prog_7_method_21_code, 3, (some .int), false, 2), (⟨"QuarrelWindows$Square", "countAngers", "()I"⟩, prog_7_method_22_code, 3, (some .int), false, 0), (⟨"QuarrelWindows$Square", "sumAngers", "()I"⟩, prog_7_method_23_code, 3, (some .int), false, 0), (⟨"QuarrelWindows$Square", "countAtRiver", "()I"⟩, prog_7_method_24_code, 3, (some .int), false, 0), (⟨"QuarrelWindows$Square", "worthOfViews", "()I"⟩, prog_7_method_25_code, 3, (some .int), false, 0), (⟨"QuarrelWindows$Square", "countStares", "()I"⟩, prog_7_method_26_code, 3, (some .int), false, 0), (⟨"QuarrelWindows$Square", "countRings", "()I"⟩, prog_7_method_27_code, 4, (some .int), false, 0), (⟨"QuarrelWindows$Square", "countPriests", "()I"⟩, prog_7_method_28_code, 3, (some .int), false, 0), (⟨"QuarrelWindows$Square", "countWalls", "()I"⟩, prog_7_method_29_code, 3, (some .int), false, 0), (⟨"QuarrelWindows$Square", "sumTorn", "()I"⟩, prog_7_method_30_code, 3, (some .int), false, 0), (⟨"QuarrelWindows$Square", "sumCosts", "()I"⟩, prog_7_method_31_code, 3, (some .int), false, 0), (⟨"QuarrelWindows$Square", "leastInRing", "()I"⟩, prog_7_method_32_code, 2, (some .int), false, 0), (⟨"QuarrelWindows$Square", "provoke", "(III)V"⟩, prog_7_method_33_code, 4, none, false, 3), (⟨"QuarrelWindows$Square", "setAnger", "(III)V"⟩, prog_7_method_34_code, 4, none, false, 3), (⟨"QuarrelWindows$Square", "reconcile", "(II)V"⟩, prog_7_method_35_code, 3, none, false, 2), (⟨"QuarrelWindows$Square", "setWall", "(III)V"⟩, prog_7_method_36_code, 4, none, false, 3), (⟨"QuarrelWindows$Square", "moveIn", "(II)V"⟩, prog_7_method_37_code, 4, none, false, 2), (⟨"QuarrelWindows$Square", "endRing", "(I)I"⟩, prog_7_method_38_code, 6, (some .int), false, 1), (⟨"QuarrelWindows$Square", "liveMorning", "()I"⟩, prog_7_method_39_code, 2, (some .int), false, 0), (⟨"QuarrelWindows$Square", "changeAngers", "()I"⟩, prog_7_method_40_code, 3, (some .int), false, 0), (⟨"QuarrelWindows$Square", "letPass", "(I)V"⟩, prog_7_method_41_code, 3, none, false, 1), (⟨"QuarrelWindows$Square", "change", "(II)I"⟩, prog_7_method_42_code, 5, (some .int), false, 2), (⟨"QuarrelWindows$Square", "growth", "(IZ)I"⟩, prog_7_method_43_code, 2, (some .int), true, 2), (⟨"QuarrelWindows$Square", "turnAll", "()I"⟩, prog_7_method_44_code, 4, (some .int), false, 0), (⟨"QuarrelWindows$Square", "pickFront", "(I)I"⟩, prog_7_method_45_code, 8, (some .int), false, 1), (⟨"QuarrelWindows$Square", "ringBits", "(I)I"⟩, prog_7_method_46_code, 5, (some .int), false, 1), (⟨"QuarrelWindows$Square", "bounded", "(I)I"⟩, prog_7_method_47_code, 1, (some .int), true, 1), (⟨"QuarrelWindows$Square", "cell", "(II)I"⟩, prog_7_method_48_code, 2, (some .int), true, 2), (⟨"QuarrelWindows", "letter", "(I)I"⟩, prog_1_method_2_code, 2, (some .int), false, 1), (⟨"QuarrelWindows", "blank", "()I"⟩, prog_1_method_3_code, 1, (some .int), false, 0), (⟨"QuarrelWindows", "fault", "()I"⟩, prog_1_method_4_code, 1, (some .int), false, 0), (⟨"QuarrelWindows", "square", "()I"⟩, prog_1_method_5_code, 1, (some .int), false, 0), (⟨"QuarrelWindows", "house", "(II)I"⟩, prog_1_method_6_code, 3, (some .int), false, 2), (⟨"QuarrelWindows", "as", "(II)I"⟩, prog_1_method_7_code, 3, (some .int), false, 2), (⟨"QuarrelWindows", "anger", "(II)I"⟩, prog_1_method_8_code, 3, (some .int), false, 2), (⟨"QuarrelWindows", "line", "(II)I"⟩, prog_1_method_9_code, 3, (some .int), false, 2), (⟨"QuarrelWindows", "wall", "(II)I"⟩, prog_1_method_10_code, 3, (some .int), false, 2), (⟨"QuarrelWindows", "quarrel", "(III)I"⟩, prog_1_method_11_code, 4, (some .int), false, 3), (⟨"QuarrelWindows", "peace", "(II)I"⟩, prog_1_method_12_code, 4, (some .int), false, 2), (⟨"QuarrelWindows", "build", "(IIZ)I"⟩, prog_1_method_13_code, 5, (some .int), false, 3), (⟨"QuarrelWindows", "tenant", "(II)I"⟩, prog_1_method_14_code, 4, (some .int), false, 2), (⟨"QuarrelWindows", "court", "()I"⟩, prog_1_method_15_code, 2, (some .int), false, 0), (⟨"QuarrelWindows", "morning", "()I"⟩, prog_1_method_16_code, 1, (some .int), false, 0), (⟨"QuarrelWindows", "settles", "(I)I"⟩, prog_1_method_17_code, 2, (some .int), false, 1), (⟨"QuarrelWindows", "calm", "(III)I"⟩, prog_1_method_18_code, 4, (some .int), false, 3), (⟨"QuarrelWindows", "arbiter", "(II)I"⟩, prog_1_method_19_code, 3, (some .int), false, 2), (⟨"QuarrelWindows", "grudge", "(III)I"⟩, prog_1_method_20_code, 4, (some .int), false, 3), (⟨"QuarrelWindows", "walls", "(II)I"⟩, prog_1_method_21_code, 3, (some .int), false, 2), (⟨"QuarrelWindows", "see", "(III)I"⟩, prog_1_method_22_code, 4, (some .int), false, 3), (⟨"QuarrelWindows", "forget", "()I"⟩, prog_1_method_23_code, 1, (some .int), false, 0), (⟨"QuarrelWindows", "span", "(III)I"⟩, prog_1_method_24_code, 4, (some .int), false, 3), (⟨"QuarrelWindows", "summers", "(III)I"⟩, prog_1_method_25_code, 4, (some .int), false, 3), (⟨"QuarrelWindows", "image", "()I"⟩, prog_1_method_26_code, 1, (some .int), false, 0)]
def mtab_2 : List MRow := [(⟨"QuarrelWindows", "restore", "()I"⟩, prog_1_method_27_code, 1, (some .int), false, 0), (⟨"QuarrelWindows", "count", "(I)I"⟩, prog_1_method_28_code, 2, (some .int), false, 1), (⟨"QuarrelWindows", "digest", "()J"⟩, prog_1_method_29_code, 4, (some .long), false, 0), (⟨"QuarrelWindows", "mixHouse", "(JI)J"⟩, prog_1_method_30_code, 7, (some .long), false, 2), (⟨"QuarrelWindows", "mixWouldBe", "(J)J"⟩, prog_1_method_31_code, 6, (some .long), false, 1), (⟨"QuarrelWindows", "mix", "(JI)J"⟩, prog_1_method_32_code, 3, (some .long), true, 2), (⟨"QuarrelWindows", "isKind", "(I)Z"⟩, prog_1_method_33_code, 1, (some .boolean), true, 1), (⟨"QuarrelWindows", "isSuch", "(II)Z"⟩, prog_1_method_34_code, 2, (some .boolean), true, 2), (⟨"QuarrelWindows", "isSoon", "(I)Z"⟩, prog_1_method_35_code, 1, (some .boolean), true, 1), (⟨"QuarrelWindows", "isPeaceTell", "(I)Z"⟩, prog_1_method_36_code, 1, (some .boolean), true, 1), (⟨"QuarrelWindows", "pairNumber", "(I)I"⟩, prog_1_method_37_code, 1, (some .int), true, 1), (⟨"QuarrelWindowsModel", "in", "(JJJ)Z"⟩, prog_9_method_2_code, 6, (some .boolean), true, 3), (⟨"QuarrelWindowsModel", "copy", "([I[I)V"⟩, prog_9_method_3_code, 3, none, true, 2), (⟨"QuarrelWindowsModel", "letter", "(I)I"⟩, prog_9_method_4_code, 2, (some .int), false, 1), (⟨"QuarrelWindowsModel", "blank", "()I"⟩, prog_9_method_5_code, 2, (some .int), false, 0), (⟨"QuarrelWindowsModel", "kindBy", "(I)I"⟩, prog_9_method_6_code, 1, (some .int), true, 1), (⟨"QuarrelWindowsModel", "isHouseLetter", "(I)Z"⟩, prog_9_method_7_code, 3, (some .boolean), false, 1), (⟨"QuarrelWindowsModel", "isAngerLetter", "(I)Z"⟩, prog_9_method_8_code, 5, (some .boolean), false, 1), (⟨"QuarrelWindowsModel", "faultOf", "()I"⟩, prog_9_method_9_code, 3, (some .int), false, 0), (⟨"QuarrelWindowsModel", "fault", "()I"⟩, prog_9_method_10_code, 1, (some .int), false, 0), (⟨"QuarrelWindowsModel", "topped", "(I)I"⟩, prog_9_method_11_code, 1, (some .int), true, 1), (⟨"QuarrelWindowsModel", "square", "()I"⟩, prog_9_method_12_code, 3, (some .int), false, 0), (⟨"QuarrelWindowsModel", "lacks", "()Z"⟩, prog_9_method_13_code, 1, (some .boolean), false, 0), (⟨"QuarrelWindowsModel", "isHouse", "(I)Z"⟩, prog_9_method_14_code, 2, (some .boolean), false, 1), (⟨"QuarrelWindowsModel", "areTwo", "(II)Z"⟩, prog_9_method_15_code, 3, (some .boolean), false, 2), (⟨"QuarrelWindowsModel", "facesIn", "([II)I"⟩, prog_9_method_16_code, 8, (some .int), false, 2), (⟨"QuarrelWindowsModel", "layFaces", "([I)V"⟩, prog_9_method_17_code, 3, none, false, 1), (⟨"QuarrelWindowsModel", "stares", "(I)Z"⟩, prog_9_method_18_code, 2, (some .boolean), false, 1), (⟨"QuarrelWindowsModel", "staresMany", "()I"⟩, prog_9_method_19_code, 3, (some .int), false, 0), (⟨"QuarrelWindowsModel", "ringOf", "(I)I"⟩, prog_9_method_20_code, 4, (some .int), false, 1), (⟨"QuarrelWindowsModel", "leadsRing", "(I)Z"⟩, prog_9_method_21_code, 4, (some .boolean), false, 1), (⟨"QuarrelWindowsModel", "ringsMany", "()I"⟩, prog_9_method_22_code, 3, (some .int), false, 0), (⟨"QuarrelWindowsModel", "facedBy", "(I)I"⟩, prog_9_method_23_code, 4, (some .int), false, 1), (⟨"QuarrelWindowsModel", "riverMany", "()I"⟩, prog_9_method_24_code, 3, (some .int), false, 0), (⟨"QuarrelWindowsModel", "layLine", "(I)I"⟩, prog_9_method_25_code, 5, (some .int), false, 1), (⟨"QuarrelWindowsModel", "angerAll", "(I)I"⟩, prog_9_method_26_code, 4, (some .int), false, 1), (⟨"QuarrelWindowsModel", "tellHouse", "(II)I"⟩, prog_9_method_27_code, 3, (some .int), false, 2), (⟨"QuarrelWindowsModel", "house", "(II)I"⟩, prog_9_method_28_code, 3, (some .int), false, 2), (⟨"QuarrelWindowsModel", "as", "(II)I"⟩, prog_9_method_29_code, 4, (some .int), false, 2), (⟨"QuarrelWindowsModel", "anger", "(II)I"⟩, prog_9_method_30_code, 3, (some .int), false, 2), (⟨"QuarrelWindowsModel", "lineAt", "(II)I"⟩, prog_9_method_31_code, 3, (some .int), false, 2), (⟨"QuarrelWindowsModel", "line", "(II)I"⟩, prog_9_method_32_code, 3, (some .int), false, 2), (⟨"QuarrelWindowsModel", "wall", "(II)I"⟩, prog_9_method_33_code, 3, (some .int), false, 2), (⟨"QuarrelWindowsModel", "quarrel", "(III)I"⟩, prog_9_method_34_code, 4, (some .int), false, 3), (⟨"QuarrelWindowsModel", "peace", "(II)I"⟩, prog_9_method_35_code, 4, (some .int), false, 2), (⟨"QuarrelWindowsModel", "layWall", "(III)V"⟩, prog_9_method_36_code, 4, none, false, 3), (⟨"QuarrelWindowsModel", "build", "(IIZ)I"⟩, prog_9_method_37_code, 5, (some .int), false, 3), (⟨"QuarrelWindowsModel", "tenant", "(II)I"⟩, prog_9_method_38_code, 5, (some .int), false, 2), (⟨"QuarrelWindowsModel", "court", "()I"⟩, prog_9_method_39_code, 6, (some .int), false, 0), (⟨"QuarrelWindowsModel", "moreOf", "(II)I"⟩, prog_9_method_40_code, 5, (some .int), false, 2), (⟨"QuarrelWindowsModel", "goMorning", "([I)I"⟩, prog_9_method_41_code, 4, (some .int), false, 1), (⟨"QuarrelWindowsModel", "goMornings", "([II)V"⟩, prog_9_method_42_code, 4, none, false, 2), (⟨"QuarrelWindowsModel", "morning", "()I"⟩, prog_9_method_43_code, 2, (some .int), false, 0), (⟨"QuarrelWindowsModel", "settlesOf", "(I)I"⟩, prog_9_method_44_code, 4, (some .int), false, 1), (⟨"QuarrelWindowsModel", "settles", "(I)I"⟩, prog_9_method_45_code, 2, (some .int), false, 1), (⟨"QuarrelWindowsModel", "pairsMany", "()I"⟩, prog_9_method_46_code, 1, (some .int), false, 0), (⟨"QuarrelWindowsModel", "pairAt", "(I)I"⟩, prog_9_method_47_code, 4, (some .int), false, 1), (⟨"QuarrelWindowsModel", "makePeace", "([II)V"⟩, prog_9_method_48_code, 5, none, false, 2), (⟨"QuarrelWindowsModel", "isCalm", "(II[II)Z"⟩, prog_9_method_49_code, 7, (some .boolean), false, 4), (⟨"QuarrelWindowsModel", "nextRow", "(II)Z"⟩, prog_9_method_50_code, 5, (some .boolean), false, 2)]
def mtab_3 : List MRow := [(⟨"QuarrelWindowsModel", "layCalm", "(II)I"⟩, prog_9_method_51_code, 5, (some .int), false, 2), (⟨"QuarrelWindowsModel", "calmOf", "(III)I"⟩, prog_9_method_52_code, 5, (some .int), false, 3), (⟨"QuarrelWindowsModel", "calm", "(III)I"⟩, prog_9_method_53_code, 4, (some .int), false, 3), (⟨"QuarrelWindowsModel", "wrongBy", "(II)I"⟩, prog_9_method_54_code, 7, (some .int), false, 2), (⟨"QuarrelWindowsModel", "arbiterOf", "(II)I"⟩, prog_9_method_55_code, 8, (some .int), false, 2), (⟨"QuarrelWindowsModel", "arbiter", "(II)I"⟩, prog_9_method_56_code, 3, (some .int), false, 2), (⟨"QuarrelWindowsModel", "grudgeOf", "(III)I"⟩, prog_9_method_57_code, 5, (some .int), false, 3), (⟨"QuarrelWindowsModel", "grudge", "(III)I"⟩, prog_9_method_58_code, 4, (some .int), false, 3), (⟨"QuarrelWindowsModel", "riverBehind", "(I)I"⟩, prog_9_method_59_code, 2, (some .int), false, 1), (⟨"QuarrelWindowsModel", "wallsOf", "(II)I"⟩, prog_9_method_60_code, 9, (some .int), false, 2), (⟨"QuarrelWindowsModel", "walls", "(II)I"⟩, prog_9_method_61_code, 3, (some .int), false, 2), (⟨"QuarrelWindowsModel", "see", "(III)I"⟩, prog_9_method_62_code, 4, (some .int), false, 3), (⟨"QuarrelWindowsModel", "forget", "()I"⟩, prog_9_method_63_code, 2, (some .int), false, 0), (⟨"QuarrelWindowsModel", "laySpan", "(II)V"⟩, prog_9_method_64_code, 7, none, false, 2), (⟨"QuarrelWindowsModel", "spanMany", "()I"⟩, prog_9_method_65_code, 3, (some .int), false, 0), (⟨"QuarrelWindowsModel", "spanLeast", "()I"⟩, prog_9_method_66_code, 2, (some .int), false, 0), (⟨"QuarrelWindowsModel", "spanMost", "()I"⟩, prog_9_method_67_code, 2, (some .int), false, 0), (⟨"QuarrelWindowsModel", "lookOf", "()I"⟩, prog_9_method_68_code, 7, (some .int), false, 0), (⟨"QuarrelWindowsModel", "spanOf", "(III)I"⟩, prog_9_method_69_code, 4, (some .int), false, 3), (⟨"QuarrelWindowsModel", "span", "(III)I"⟩, prog_9_method_70_code, 4, (some .int), false, 3), (⟨"QuarrelWindowsModel", "draw", "(I)I"⟩, prog_9_method_71_code, 2, (some .int), false, 1), (⟨"QuarrelWindowsModel", "summers", "(III)I"⟩, prog_9_method_72_code, 10, (some .int), false, 3), (⟨"QuarrelWindowsModel", "image", "()I"⟩, prog_9_method_73_code, 1, (some .int), false, 0), (⟨"QuarrelWindowsModel", "restore", "()I"⟩, prog_9_method_74_code, 1, (some .int), false, 0), (⟨"QuarrelWindowsModel", "angersAbove", "()I"⟩, prog_9_method_75_code, 3, (some .int), false, 0), (⟨"QuarrelWindowsModel", "sumOf", "([I)I"⟩, prog_9_method_76_code, 4, (some .int), false, 1), (⟨"QuarrelWindowsModel", "viewsNow", "()I"⟩, prog_9_method_77_code, 3, (some .int), false, 0), (⟨"QuarrelWindowsModel", "priestsNow", "()I"⟩, prog_9_method_78_code, 3, (some .int), false, 0), (⟨"QuarrelWindowsModel", "sumHouses", "([I)I"⟩, prog_9_method_79_code, 4, (some .int), false, 1), (⟨"QuarrelWindowsModel", "countOf", "(I)I"⟩, prog_9_method_80_code, 2, (some .int), false, 1), (⟨"QuarrelWindowsModel", "countMore", "(I)I"⟩, prog_9_method_81_code, 2, (some .int), false, 1), (⟨"QuarrelWindowsModel", "count", "(I)I"⟩, prog_9_method_82_code, 2, (some .int), false, 1), (⟨"QuarrelWindowsModel", "say", "(J)V"⟩, prog_9_method_83_code, 3, none, false, 1), (⟨"QuarrelWindowsModel", "sayHouse", "(I)V"⟩, prog_9_method_84_code, 3, none, false, 1), (⟨"QuarrelWindowsModel", "saySquare", "()V"⟩, prog_9_method_85_code, 2, none, false, 0), (⟨"QuarrelWindowsModel", "digest", "()J"⟩, prog_9_method_86_code, 2, (some .long), false, 0), (⟨"java/lang/String", "indexOf", "(I)I"⟩, prog_12_method_79_code, 2, (some .int), false, 1), (⟨"java/lang/String", "indexOf", "(II)I"⟩, prog_12_method_80_code, 3, (some .int), false, 2), (⟨"java/lang/String", "isLatin1", "()Z"⟩, prog_12_method_154_code, 1, (some .boolean), false, 0), (⟨"java/lang/String", "length", "()I"⟩, prog_12_method_54_code, 1, (some .int), false, 0), (⟨"java/lang/String", "coder", "()B"⟩, prog_12_method_152_code, 1, (some .byte), false, 0), (⟨"java/lang/StringLatin1", "indexOf", "([BIII)I"⟩, prog_13_method_22_code, 4, (some .int), true, 4), (⟨"java/lang/StringLatin1", "canEncode", "(I)Z"⟩, prog_13_method_4_code, 1, (some .boolean), true, 1), (⟨"java/lang/StringLatin1", "indexOfChar", "([BIII)I"⟩, prog_13_method_23_code, 6, (some .int), true, 4), (⟨"java/util/Arrays", "fill", "([II)V"⟩, prog_16_method_103_code, 4, none, true, 2)]
def mtab : List MRow := mtab_0 ++ mtab_1 ++ mtab_2 ++ mtab_3
def nestWs : List Jvm.Cond := [(Jvm.Cond.fieldLinkNest "QuarrelWindows$Outlook" (55 : Nat) "QuarrelWindows" "LESSER" "[I" "QuarrelWindows"), (Jvm.Cond.fieldLinkNest "QuarrelWindows$Outlook" (59 : Nat) "QuarrelWindows" "GREATER" "[I" "QuarrelWindows"), (Jvm.Cond.methodLinkNest "QuarrelWindows$Outlook" (77 : Nat) ({ cls := "QuarrelWindows", name := "pairNumber", desc := "(I)I" } : Jvm.MethodName) "QuarrelWindows"), (Jvm.Cond.fieldLinkNest "QuarrelWindows$Peacemaker" (104 : Nat) "QuarrelWindows" "LESSER" "[I" "QuarrelWindows"), (Jvm.Cond.fieldLinkNest "QuarrelWindows$Peacemaker" (107 : Nat) "QuarrelWindows" "GREATER" "[I" "QuarrelWindows"), (Jvm.Cond.methodLinkNest "QuarrelWindows$Peacemaker" (122 : Nat) ({ cls := "QuarrelWindows", name := "pairNumber", desc := "(I)I" } : Jvm.MethodName) "QuarrelWindows"), (Jvm.Cond.fieldLinkNest "QuarrelWindows$Square" (120 : Nat) "QuarrelWindows" "LESSER" "[I" "QuarrelWindows"), (Jvm.Cond.fieldLinkNest "QuarrelWindows$Square" (123 : Nat) "QuarrelWindows" "GREATER" "[I" "QuarrelWindows"), (Jvm.Cond.fieldLinkNest "QuarrelWindows" (152 : Nat) "QuarrelWindows$Square" "quarrels" "I" "QuarrelWindows"), (Jvm.Cond.fieldLinkNest "QuarrelWindows" (159 : Nat) "QuarrelWindows$Square" "peaces" "I" "QuarrelWindows"), (Jvm.Cond.fieldLinkNest "QuarrelWindows" (177 : Nat) "QuarrelWindows$Square" "mornings" "I" "QuarrelWindows"), (Jvm.Cond.fieldLinkNest "QuarrelWindows" (268 : Nat) "QuarrelWindows$Square" "turned" "I" "QuarrelWindows")]
def stWs : List Jvm.Cond := [(Jvm.Cond.laysStatic "java/lang/String" "COMPACT_STRINGS" "Z"), (Jvm.Cond.laysStatic "jdk/internal/util/Preconditions" "SIOOBE_FORMATTER" "Ljava/util/function/BiFunction;"), (Jvm.Cond.laysStatic "java/lang/StringUTF16" "$assertionsDisabled" "Z"), (Jvm.Cond.laysStatic "java/lang/StringUTF16" "HI_BYTE_SHIFT" "I"), (Jvm.Cond.laysStatic "java/lang/StringUTF16" "LO_BYTE_SHIFT" "I"), (Jvm.Cond.laysStatic "QuarrelWindows" "LESSER" "[I"), (Jvm.Cond.laysStatic "QuarrelWindows" "GREATER" "[I")]
def mpos : List (List Nat) := [[842, 77, 840, 841], [849, 77, 848, 11], [860, 77, 859, 12], [864, 77, 862, 863], [868, 77, 867, 13], [871, 77, 870, 0], [690, 75, 688, 689], [702, 75, 700, 701], [789, 75, 787, 788], [799, 75, 797, 798], [812, 75, 811, 10], [816, 75, 814, 815], [880, 75, 878, 879], [885, 75, 884, 14], [894, 75, 892, 893], [314, 72, 312, 313], [955, 72, 953, 954], [318, 72, 316, 317], [327, 72, 325, 326], [335, 72, 333, 334], [452, 72, 450, 451], [339, 72, 338, 0], [435, 72, 434, 0], [439, 72, 438, 1], [456, 72, 455, 2], [465, 72, 463, 464], [473, 72, 471, 472], [478, 72, 476, 477], [482, 72, 480, 481], [486, 72, 484, 485], [443, 72, 441, 442], [342, 72, 341, 0], [432, 72, 431, 0], [718, 76, 716, 717], [723, 76, 722, 0], [735, 76, 734, 8], [765, 76, 763, 764], [768, 76, 767, 0], [780, 76, 779, 9], [740, 76, 739, 0], [727, 76, 726, 7], [752, 76, 750, 751], [825, 74, 823, 824], [951, 74, 949, 950], [829, 74, 827, 828], [522, 74, 520, 521], [903, 74, 901, 902], [856, 74, 854, 855], [461, 73, 459, 460], [694, 73, 692, 693], [666, 73, 664, 665], [526, 73, 524, 525], [494, 73, 492, 493], [490, 73, 488, 489], [535, 73, 533, 534], [539, 73, 537, 538], [543, 73, 541, 542], [576, 73, 574, 575], [580, 73, 578, 579], [547, 73, 545, 546], [551, 73, 549, 550], [555, 73, 553, 554], [559, 73, 557, 558], [567, 73, 565, 566], [563, 73, 561, 562], [571, 73, 569, 570], [599, 73, 597, 598], [612, 73, 610, 611], [916, 73, 914, 915], [920, 73, 918, 919], [803, 73, 801, 802], [926, 73, 924, 925], [772, 73, 770, 771], [776, 73, 774, 775], [932, 73, 930, 931], [937, 73, 935, 936], [943, 73, 941, 942], [947, 73, 945, 946], [649, 73, 647, 648], [498, 73, 496, 497], [505, 73, 503, 504], [625, 73, 623, 624], [633, 73, 631, 632], [641, 73, 639, 640], [654, 73, 652, 653], [670, 73, 668, 669], [675, 73, 673, 674], [731, 73, 729, 730], [679, 73, 678, 6], [682, 73, 681, 0], [518, 73, 517, 4], [514, 73, 513, 3], [658, 73, 657, 5], [508, 73, 507, 0], [501, 73, 500, 0], [310, 71, 308, 309], [323, 71, 321, 322], [331, 71, 329, 330], [448, 71, 446, 447], [530, 71, 528, 529], [584, 71, 582, 583], [594, 71, 592, 593], [603, 71, 601, 602], [608, 71, 606, 607], [616, 71, 614, 615], [621, 71, 619, 620], [629, 71, 627, 628], [637, 71, 635, 636], [645, 71, 643, 644], [662, 71, 660, 661], [686, 71, 684, 685], [708, 71, 706, 707], [761, 71, 759, 760], [785, 71, 783, 784], [795, 71, 793, 794], [821, 71, 819, 820], [834, 71, 832, 833], [838, 71, 836, 837], [876, 71, 874, 875], [898, 71, 896, 897], [908, 71, 906, 907], [912, 71, 910, 911], [959, 71, 957, 958], [964, 71, 963, 15], [973, 71, 972, 16], [968, 71, 967, 0], [587, 71, 586, 0], [590, 71, 589, 0], [711, 71, 710, 0], [714, 71, 713, 0], [755, 71, 754, 0], [1119, 78, 1118, 0], [1258, 78, 1257, 0], [1115, 78, 1113, 1114], [1123, 78, 1121, 1122], [1138, 78, 1137, 0], [1135, 78, 1134, 18], [1144, 78, 1143, 19], [1131, 78, 1130, 17], [1127, 78, 1125, 1126], [1152, 78, 1151, 0], [1149, 78, 1147, 1148], [1251, 78, 1250, 32], [1160, 78, 1159, 20], [1205, 78, 1204, 29], [1172, 78, 1171, 23], [1168, 78, 1167, 22], [1184, 78, 1183, 26], [1326, 78, 1325, 46], [1188, 78, 1187, 27], [1334, 78, 1333, 48], [1330, 78, 1329, 47], [1176, 78, 1175, 24], [1358, 78, 1357, 52], [1192, 78, 1191, 28], [1180, 78, 1179, 25], [1164, 78, 1163, 21], [1156, 78, 1154, 1155], [1196, 78, 1194, 1195], [1201, 78, 1199, 1200], [1214, 78, 1213, 30], [1209, 78, 1207, 1208], [1218, 78, 1216, 1217], [1222, 78, 1220, 1221], [1227, 78, 1225, 1226], [1235, 78, 1234, 31], [1231, 78, 1229, 1230], [1239, 78, 1237, 1238], [1243, 78, 1241, 1242], [1262, 78, 1261, 34], [1255, 78, 1254, 33], [1276, 78, 1275, 36], [1247, 78, 1245, 1246], [1272, 78, 1271, 35], [1266, 78, 1264, 1265], [1293, 78, 1292, 39], [1301, 78, 1300, 41], [1305, 78, 1304, 42], [1297, 78, 1296, 40], [1309, 78, 1308, 43], [1289, 78, 1288, 38], [1285, 78, 1284, 37], [1280, 78, 1278, 1279], [1322, 78, 1321, 45], [1318, 78, 1317, 44], [1313, 78, 1311, 1312], [1342, 78, 1341, 49], [1338, 78, 1336, 1337], [1354, 78, 1353, 51], [1350, 78, 1349, 50], [1346, 78, 1344, 1345], [1362, 78, 1360, 1361], [1366, 78, 1364, 1365], [1378, 78, 1377, 54], [1382, 78, 1381, 55], [1386, 78, 1385, 56], [1390, 78, 1389, 57], [1394, 78, 1393, 58], [1374, 78, 1373, 53], [1370, 78, 1368, 1369], [1404, 78, 1403, 59], [1398, 78, 1396, 1397], [1412, 78, 1410, 1411], [1416, 78, 1414, 1415], [1428, 78, 1427, 61], [1432, 78, 1431, 62], [1436, 78, 1435, 63], [1440, 78, 1439, 64], [1448, 78, 1447, 66], [1424, 78, 1423, 60], [1444, 78, 1443, 65], [1420, 78, 1418, 1419], [1461, 78, 1460, 68], [1457, 78, 1456, 67], [1466, 78, 1465, 69], [1452, 78, 1450, 1451], [347, 79, 345, 346], [351, 79, 349, 350], [355, 79, 353, 354], [361, 79, 359, 360], [365, 79, 363, 364], [368, 80, 367, 0], [371, 80, 370, 0], [380, 80, 379, 0], [469, 85, 468, 0]]
end
section
/-! What is checked of a row: it is decoded from the bytes, and what it links stands among the tables' words. -/
def TB : List Jvm.Cond := lw_tbl.filter goodWord
theorem tb_of {w : Jvm.Cond} {i : Nat} (h : lw_tbl[i]? = some w) (g : goodWord w = true) : w ∈ TB := List.mem_filter.mpr ⟨List.mem_of_getElem? h, g⟩
theorem tb_good {w : Jvm.Cond} (h : w ∈ TB) : goodWord w = true := (List.mem_filter.mp h).2
theorem tb_in {w : Jvm.Cond} (h : w ∈ TB) : w ∈ lw_tbl := (List.mem_filter.mp h).1
def wAt (p : Nat) (w : Jvm.Cond) : Bool := decide (lw_tbl[p]? = some w) && goodWord w
theorem wAt_tb {p : Nat} {w : Jvm.Cond} (h : wAt p w = true) : w ∈ TB := by
  simp only [wAt, Bool.and_eq_true, decide_eq_true_eq] at h
  exact tb_of h.1 h.2
def nAt (p : Nat) (w : Jvm.Cond) : Bool := decide (nestWs[p]? = some w)
theorem nAt_in {p : Nat} {w : Jvm.Cond} (h : nAt p w = true) : w ∈ nestWs := by
  simp only [nAt, decide_eq_true_eq] at h
  exact List.mem_of_getElem? h
def mdf : MRow := (⟨"", "", ""⟩, ByteArray.empty, 0, none, false, 0)
def mY (k : Nat) : MethodName := (mtab.getD k mdf).1
def mB (k : Nat) : ByteArray := (mtab.getD k mdf).2.1
def mM (k : Nat) : Nat := (mtab.getD k mdf).2.2.1
def mR (k : Nat) : Option FieldType := (mtab.getD k mdf).2.2.2.1
def mS (k : Nat) : Bool := (mtab.getD k mdf).2.2.2.2.1
def mN (k : Nat) : Nat := (mtab.getD k mdf).2.2.2.2.2
def ilen : Instr → Nat
  | .bipush _ => 2
  | .iload _ => 2
  | .istore _ => 2
  | .aload _ => 2
  | .astore _ => 2
  | .lload _ => 2
  | .lstore _ => 2
  | .ldc _ => 2
  | .sipush _ => 3
  | .iinc _ _ => 3
  | .getfield _ => 3
  | .putfield _ => 3
  | .getstatic _ => 3
  | .ldc_w _ => 3
  | .ldc2_w _ => 3
  | .invokevirtual _ => 3
  | .invokestatic _ => 3
  | .invokespecial _ => 3
  | .goto _ => 3
  | .ifCond _ _ => 3
  | .if_icmp _ _ => 3
  | .new _ => 3
  | _ => 1
def fieldB (own : String) (j T k z p : Nat) : Bool := match wcl[T]? with
  | some (C, F, N) => decide (k < N) && (decide ((F k).1 = C) && (if z = 0 then wAt p (.fieldLink own j C (F k).2.1 (F k).2.2.1) else nAt p (.fieldLinkNest own j C (F k).2.1 (F k).2.2.1 RX6)))
  | none => false
def fieldD (T k : Nat) (d : String) : Bool := match wcl[T]? with
  | some (_, F, _) => decide ((F k).2.2.1 = d) && decide ((F k).2.2.2 = false)
  | none => false
def getB (own : String) (j : Nat) (ex : List Nat) : Bool := match ex with
  | [0, T, k, z, p] => fieldB own j T k z p && decide ((fkd T k).1 = 0)
  | [1, T, k, z, p, T', m] => fieldB own j T k z p && decide (fkd T k = (1, T', m))
  | [2, T, k, z, p] => fieldB own j T k z p && decide ((fkd T k).1 = 2)
  | [5, 0, 63, p] => wAt p (.fieldLink own j "java/lang/String" "value" "[B")
  | [5, 1, 0, p] => wAt p (.fieldLink own j "java/lang/String" "coder" "B")
  | _ => false
def putB (own : String) (j : Nat) (ex : List Nat) : Bool := match ex with
  | [0, T, k, z, p] => fieldB own j T k z p && (decide ((fkd T k).1 = 0) && fieldD T k "I")
  | [2, T, k, z, p] => fieldB own j T k z p && (decide ((fkd T k).1 = 2) && fieldD T k "J")
  | [3, T, k, z, p] => fieldB own j T k z p && (decide ((fkd T k).1 = 0) && fieldD T k "Z")
  | _ => false
def stN (T : Nat) : String := if T = 60 then "LESSER" else "GREATER"
def gstB (own : String) (j : Nat) (ex : List Nat) : Bool := match ex with
  | [0, 1, 0, p] => wAt p (.fieldLink own j "java/lang/String" "COMPACT_STRINGS" "Z")
  | [1, T, z, p] => (decide (T = 60) || decide (T = 61)) && (if z = 0 then wAt p (.fieldLink own j RX6 (stN T) "[I") else nAt p (.fieldLinkNest own j RX6 (stN T) "[I" RX6))
  | _ => false
def ldcB (own : String) (j : Nat) (ex : List Nat) : Bool := match ex with
  | [0, v, p] => wAt p (.constant own j (Int32.ofNat v))
  | [1, 62, _] => decide (own = RX2) && decide (j = 60)
  | _ => false
def ld2B (own : String) (j : Nat) (ex : List Nat) : Bool := match ex with
  | [v, p] => wAt p (.constantLong own j (Int64.ofNat v))
  | _ => false
def rcvB (T : Nat) (C : String) : Bool := match wcl[T]? with
  | some (C', _, _) => decide (C' = C)
  | none => decide (T = 62) && decide (C = "java/lang/String")
def virB (own : String) (j : Nat) (ex : List Nat) : Bool := match ex with
  | [10, k, n, 0, p, T] => wAt p (.methodLink own j (mY k)) && (decide (n = mN k + 1) && (decide (mS k = false) && (decide (k < mtab.length) && rcvB T (mY k).cls)))
  | 99 :: _ => true
  | _ => false
def stcB (own : String) (j : Nat) (ex : List Nat) : Bool := match ex with
  | [20, p] => wAt p (.methodLink own j Lib.Math.max.name)
  | [21, p] => wAt p (.methodLink own j Lib.Math.min.name)
  | [22, p] => wAt p (.methodLink own j arraycopyName)
  | [11, k, n, z, p] => (if z = 0 then wAt p (.methodLink own j (mY k)) else nAt p (.methodLinkNest own j (mY k) RX6)) && (decide (n = mN k) && (decide (mS k = true) && decide (k < mtab.length)))
  | 99 :: _ => true
  | _ => false
def tgtB (pc : Nat) (off : Int) (ex : List Nat) : Bool := match ex with
  | [t] => decide ((pc : Int) + off = (t : Int))
  | _ => false
def lsB (pc : Nat) (d : Int) (ps : List (Int × Int)) (ex : List Nat) : Bool := match ex with
  | t :: ts => decide ((pc : Int) + d = (t : Int)) && (decide (ps.length = ts.length) && ((ps.zip ts).all (fun q => decide ((pc : Int) + q.1.2 = (q.2 : Int))) && (ps.zip (ps.drop 1)).all (fun (a, next) => a.1 < next.1)))
  | _ => false
def tsB (pc : Nat) (d lo hi : Int) (offs : List Int) (ex : List Nat) : Bool := match ex with
  | t :: ts => decide ((pc : Int) + d = (t : Int)) && (decide (offs.length = ts.length) && (decide (hi - lo + 1 = (ts.length : Int)) && (offs.zip ts).all (fun q => decide ((pc : Int) + q.1 = (q.2 : Int)))))
  | _ => false
def retB (rt : Option FieldType) (ex : List Nat) : Bool := match ex with
  | [0] => decide (rt = some .int)
  | [1] => decide (rt = some .boolean)
  | [2] => decide (rt = some .byte)
  | _ => false
def lnk (own : String) (rt : Option FieldType) (pc : Nat) (i : Instr) (ex : List Nat) : Bool := match i with
  | .getfield j => getB own j ex
  | .putfield j => putB own j ex
  | .getstatic j => gstB own j ex
  | .ldc j => ldcB own j ex
  | .ldc_w j => ldcB own j ex && decide (ex.length = 3) && decide (ex[0]? = some 0)
  | .ldc2_w j => ld2B own j ex
  | .invokevirtual j => virB own j ex
  | .invokestatic j => stcB own j ex
  | .goto o => tgtB pc o ex
  | .ifCond _ o => tgtB pc o ex
  | .if_icmp _ o => tgtB pc o ex
  | .lookupswitch d ps => lsB pc d ps.toList ex
  | .tableswitch d lo hi offs => tsB pc d lo hi offs.toList ex
  | .ireturn => retB rt ex
  | .lreturn => decide (rt = some .long)
  | .areturn => decide (rt = some (.object RX5))
  | .return_ => decide (rt = none)
  | _ => true
def isSw : Instr → Bool
  | .lookupswitch _ _ => true
  | .tableswitch _ _ _ _ => true
  | _ => false
def rowB (own : String) (cc : ByteArray) (rt : Option FieldType) (r : Row) : Bool :=
  decide (decode cc r.1 = .ok (r.2.1, if isSw r.2.1 = true then r.2.2.1 - r.1 else ilen r.2.1)) && ((isSw r.2.1 || decide (r.2.2.1 = r.1 + ilen r.2.1)) && lnk own rt r.1 r.2.1 r.2.2.2)
def mrowB (k : Nat) : Bool := (codes.getD k []).all (rowB (mY k).cls (mB k) (mR k))
/-- of a method: its words, by their places -/
def mwB (k : Nat) : Bool := match mpos.getD k [] with
  | [a, b, c, d] => wAt a (.code (mY k) (mB k) (mM k) (mR k)) && (wAt b (.initialized (mY k).cls) && ((if mS k = true then wAt c (.static (mY k)) else wAt c (.instanceMethod (mY k)) && wAt d (.selects (mY k).cls (mY k) (mY k))) && (plainName (mY k).cls && (decide ((mY k).cls ≠ "java/lang/invoke/MethodHandle") && (decide ((mY k).cls ≠ "java/lang/invoke/VarHandle") && (decide ((parseMethodDescriptor (mY k).desc).map (fun d => d.parameters.length) = some (mN k)) && (decide (mM k = mL k) && Nat.ble (mL k) 20)))))))
  | _ => false
end
section
/-! The world of cells that a store stands for, at addresses that are given. -/
def zq (z q : Nat) : Nat := match z with
  | 0 => q
  | z + 1 => z
def fv (ad : Nat → Nat → Nat) (σ : St) (t q k : Nat) : Value := match fkd t k with
  | (1, T', z) => .ref (ad T' (zq z q))
  | (2, _, _) => .long (hs σ)
  | _ => .int (ar σ t q k)
def nF (t : Nat) : Nat := (fkT.getD t []).length
def rwR (ad : Nat → Nat → Nat) (t : Nat) : Nat → Option Nat := fun j => if j < 6 then some (ad t j) else none
def pic (ad : Nat → Nat → Nat) (cI cO : ClassId) (σ : St) (c : Nat × Nat) : va_E :=
  if c.1 < 8 then .inr (c.1, (List.range (nF c.1)).map (fv ad σ c.1 c.2))
  else if c.1 = 23 then .inl (cO, 6, .inr (.inr (.inr (.inr (rwR ad 24)))))
  else if c.1 = 25 then .inl (cO, 6, .inr (.inr (.inr (.inr (rwR ad 26)))))
  else .inl (cI, lenT c.1, .inl (ar σ c.1 c.2))
def wld (ad : Nat → Nat → Nat) (cI cO : ClassId) (σ : St) : va_W := wcells.map (fun c => (ad c.1 c.2, pic ad cI cO σ c))
def mp (ad : Nat → Nat → Nat) : IV → Value
  | .inl x => .int x
  | .inr (.inl x) => .long x
  | .inr (.inr (.inl (t, q))) => .ref (ad t q)
  | .inr (.inr (.inr _)) => .null
def okR (t q : Nat) : Prop := (t, q) ∈ wcells ∨ (59 < t ∧ t < 65 ∧ q = 0)
def okV : IV → Prop
  | .inr (.inr (.inl (t, q))) => okR t q
  | _ => True
theorem wnd : wcells.Nodup := by decide +kernel
theorem wlt : ∀ c ∈ wcells, c.1 < 60 := by decide +kernel
theorem okR_w {t q : Nat} (h : okR t q) (ht : t < 60) : (t, q) ∈ wcells := h.elim id (fun z => by omega)
theorem okR_0 {t q : Nat} (h : okR t q) (ht : 59 < t) : q = 0 ∧ t < 65 := h.elim (fun z => by have := wlt _ z; simp only at this; omega) (fun z => ⟨z.2.2, z.2.1⟩)
theorem wld_get {ad : Nat → Nat → Nat} {cI cO : ClassId} {σ : St} {t q : Nat} (h : (t, q) ∈ wcells) : ∃ i : Nat, wcells[i]? = some (t, q) ∧ (wld ad cI cO σ)[i]? = some (ad t q, pic ad cI cO σ (t, q)) := by
  obtain ⟨i, hi⟩ := List.getElem?_of_mem h
  exact ⟨i, hi, by rw [wld, List.getElem?_map, hi]; rfl⟩
theorem wld_set {ad : Nat → Nat → Nat} {cI cO : ClassId} {σ σ' : St} {t q i : Nat} (hi : wcells[i]? = some (t, q)) (hs : ∀ c ∈ wcells, c ≠ (t, q) → pic ad cI cO σ' c = pic ad cI cO σ c) : (wld ad cI cO σ).set i (ad t q, pic ad cI cO σ' (t, q)) = wld ad cI cO σ' := by
  apply List.ext_getElem?
  intro j
  have hl := (List.getElem?_eq_some_iff.mp hi).1
  by_cases e : j = i
  · subst e
    rw [List.getElem?_set_self (by rw [wld, List.length_map]; exact hl), wld, List.getElem?_map, hi]
    rfl
  · rw [List.getElem?_set_ne (Ne.symm e), wld, wld, List.getElem?_map, List.getElem?_map]
    cases hc : wcells[j]? with
    | none => rfl
    | some c =>
      have hne : c ≠ (t, q) := by
        intro z
        subst z
        obtain ⟨hj, ej⟩ := List.getElem?_eq_some_iff.mp hc
        obtain ⟨hi', ei⟩ := List.getElem?_eq_some_iff.mp hi
        exact e ((List.getElem_inj wnd).mp (ej.trans ei.symm))
      simp only [Option.map_some]
      rw [hs c (List.mem_of_getElem? hc) hne]
theorem ar_se {σ : St} {t q j : Nat} {x : Int32} : ar (se σ t q j x) t q = upd (ar σ t q) j x := by
  simp [se, sw, ar]
theorem ar_sw {σ : St} {t q : Nat} {f : Nat → Int32} : ar (sw σ t q f) t q = f := by
  simp [sw, ar]
theorem ar_sw_ne {σ : St} {t q t' q' : Nat} {f : Nat → Int32} (h : (t', q') ≠ (t, q)) : ar (sw σ t q f) t' q' = ar σ t' q' := by
  unfold sw ar
  by_cases h1 : t' = t
  · by_cases h2 : q' = q
    · exact absurd (by rw [h1, h2]) h
    · simp only [if_pos h1, if_neg h2]
  · simp only [if_neg h1]
theorem ar_se_ne {σ : St} {t q t' q' j : Nat} {x : Int32} (h : (t', q') ≠ (t, q)) : ar (se σ t q j x) t' q' = ar σ t' q' := ar_sw_ne h
theorem hs_sw {σ : St} {t q : Nat} {f : Nat → Int32} : hs (sw σ t q f) = hs σ := rfl
theorem hs_se {σ : St} {t q j : Nat} {x : Int32} : hs (se σ t q j x) = hs σ := rfl
theorem ar_sh {σ : St} {t q : Nat} {x : Int64} : ar (sh σ x) t q = ar σ t q := rfl
theorem pic_ext {ad : Nat → Nat → Nat} {cI cO : ClassId} {σ σ' : St} {c : Nat × Nat} (h1 : ar σ' c.1 c.2 = ar σ c.1 c.2) (h2 : hs σ' = hs σ) : pic ad cI cO σ' c = pic ad cI cO σ c := by
  have e : fv ad σ' c.1 c.2 = fv ad σ c.1 c.2 := by
    funext k
    unfold fv
    rw [h1, h2]
  unfold pic
  rw [e, h1]
theorem pic_sw {ad : Nat → Nat → Nat} {cI cO : ClassId} {σ : St} {t q : Nat} {f : Nat → Int32} {c : Nat × Nat} (h : c ≠ (t, q)) : pic ad cI cO (sw σ t q f) c = pic ad cI cO σ c :=
  pic_ext (ar_sw_ne (by obtain ⟨a, b⟩ := c; exact h)) rfl
theorem pic_arr {ad : Nat → Nat → Nat} {cI cO : ClassId} {σ : St} {t q : Nat} (h : 0 < lenT t) : pic ad cI cO σ (t, q) = .inl (cI, lenT t, .inl (ar σ t q)) := by
  have h8 : ¬ t < 8 := fun z => by
    have : lenT t = 0 := by
      match t, z with
      | 0, _ => rfl
      | 1, _ => rfl
      | 2, _ => rfl
      | 3, _ => rfl
      | 4, _ => rfl
      | 5, _ => rfl
      | 6, _ => rfl
      | 7, _ => rfl
      | n + 8, z => omega
    omega
  have h23 : ¬ t = 23 := fun z => by subst z; exact absurd h (by decide)
  have h25 : ¬ t = 25 := fun z => by subst z; exact absurd h (by decide)
  unfold pic
  simp only [if_neg h8, if_neg h23, if_neg h25]
theorem pic_obj {ad : Nat → Nat → Nat} {cI cO : ClassId} {σ : St} {t q : Nat} (h : t < 8) : pic ad cI cO σ (t, q) = .inr (t, (List.range (nF t)).map (fv ad σ t q)) := by
  unfold pic
  simp only [if_pos h]
theorem range_set {n k : Nat} {f g : Nat → Value} {v : Value} (hv : k < n → g k = v) (h : ∀ i, i < n → i ≠ k → g i = f i) : ((List.range n).map f).set k v = (List.range n).map g := by
  apply List.ext_getElem?
  intro i
  by_cases e : i = k
  · subst e
    by_cases hi : i < n
    · rw [List.getElem?_set_self (by rw [List.length_map, List.length_range]; exact hi), List.getElem?_map, List.getElem?_range hi]
      exact congrArg some (hv hi).symm
    · rw [List.getElem?_eq_none (by rw [List.length_set, List.length_map, List.length_range]; omega), List.getElem?_eq_none (by rw [List.length_map, List.length_range]; omega)]
  · rw [List.getElem?_set_ne (Ne.symm e), List.getElem?_map, List.getElem?_map]
    by_cases hi : i < n
    · rw [List.getElem?_range hi]
      exact congrArg some (h i hi e).symm
    · rw [List.getElem?_eq_none (by rw [List.length_range]; omega)]
      rfl
theorem fv_int {ad : Nat → Nat → Nat} {σ : St} {t q k : Nat} (h : (fkd t k).1 = 0) : fv ad σ t q k = .int (ar σ t q k) := by
  unfold fv
  revert h
  cases fkd t k with
  | mk a b =>
    intro h
    simp only at h
    subst h
    rfl
theorem fv_ref {ad : Nat → Nat → Nat} {σ : St} {t q k T z : Nat} (h : fkd t k = (1, T, z)) : fv ad σ t q k = .ref (ad T (zq z q)) := by
  unfold fv
  rw [h]
  rfl
theorem fv_long {ad : Nat → Nat → Nat} {σ : St} {t q k : Nat} (h : (fkd t k).1 = 2) : fv ad σ t q k = .long (hs σ) := by
  unfold fv
  revert h
  cases fkd t k with
  | mk a b =>
    intro h
    simp only at h
    subst h
    rfl
theorem fv_upd {ad : Nat → Nat → Nat} {σ : St} {t q k i : Nat} {x : Int32} (h : i ≠ k) : fv ad (se σ t q k x) t q i = fv ad σ t q i := by
  unfold fv
  rw [hs_se, ar_se]
  have e : upd (ar σ t q) k x i = ar σ t q i := pk_un h
  rw [e]
/-- the long's kind of field is in one class alone -/
theorem fkd_long : ∀ t, t < 8 → ∀ k, k < 43 → (fkd t k).1 = 2 → t = 7 := by decide +kernel
theorem only7 : ∀ c ∈ wcells, c.1 = 7 → c.2 = 0 := by decide +kernel
theorem nF_le : ∀ t, t < 8 → nF t ≤ 43 := by decide +kernel
theorem nF_wcl : ∀ t, t < 8 → (wcl[t]?).map (fun q => q.2.2) = some (nF t) := by
  intro t ht
  match t, ht with
  | 0, _ => rfl
  | 1, _ => rfl
  | 2, _ => rfl
  | 3, _ => rfl
  | 4, _ => rfl
  | 5, _ => rfl
  | 6, _ => rfl
  | 7, _ => rfl
  | n + 8, h => omega
theorem pic_sh {ad : Nat → Nat → Nat} {cI cO : ClassId} {σ : St} {x : Int64} {c : Nat × Nat} (h : c ∈ wcells) (hc : c ≠ (7, 0)) : pic ad cI cO (sh σ x) c = pic ad cI cO σ c := by
  unfold pic
  by_cases h8 : c.1 < 8
  · rw [if_pos h8, if_pos h8]
    have e : (List.range (nF c.1)).map (fv ad (sh σ x) c.1 c.2) = (List.range (nF c.1)).map (fv ad σ c.1 c.2) := by
      apply List.map_congr_left
      intro k hk
      have hk1 := List.mem_range.mp hk
      have hk2 := nF_le c.1 h8
      by_cases e2 : (fkd c.1 k).1 = 2
      · have h7 := fkd_long c.1 h8 k (by omega) e2
        have h0 := only7 c h h7
        exact absurd (Prod.ext h7 h0) hc
      · unfold fv
        rw [ar_sh]
        revert e2
        cases hf : fkd c.1 k with
        | mk a b =>
          intro e2
          match a, e2 with
          | 0, _ => rfl
          | 1, _ => rfl
          | n + 3, _ => rfl
          | 2, e2 => exact absurd rfl e2
    rw [e]
  · rw [if_neg h8, if_neg h8]
    rfl
/-- what a field leads to is a cell -/
theorem fld_ok : ∀ c ∈ wcells, c.1 < 8 → ∀ k, k < 43 → (fkd c.1 k).1 = 1 → ((fkd c.1 k).2.1, zq (fkd c.1 k).2.2 c.2) ∈ wcells := by decide +kernel
theorem row_ok : ∀ j, j < 6 → (24, j) ∈ wcells ∧ (26, j) ∈ wcells := by decide +kernel
theorem outer_0 : ∀ c ∈ wcells, (c.1 = 23 ∨ c.1 = 25) → c.2 = 0 := by decide +kernel
/-! what never changes: statics, the text, the script -/
def RO (ad : Nat → Nat → Nat) (A : Nat → Prop) (L : Nat) (xs : Nat → Int32) (U : State) (H : Heap) : Prop :=
  (va_Z RX6 "LESSER" "[I" (.ref (ad 60 0)) A U H ∧ va_T .int (ad 60 0) 15 (fun j => .int (roF 60 j)) A U H ∧ va_Z RX6 "GREATER" "[I" (.ref (ad 61 0)) A U H ∧ va_T .int (ad 61 0) 15 (fun j => .int (roF 61 j)) A U H) ∧
  (va_Z "java/lang/String" "COMPACT_STRINGS" "Z" (.int 1) A U H ∧ vk_R RX2 60 "htmsf" (ad 62 0) U ∧ va_O "java/lang/String" (ad 62 0) A U H ∧ va_OF "java/lang/String" "coder" "B" (.int 0) (ad 62 0) A U H ∧ va_OF "java/lang/String" "value" "[B" (.ref (ad 63 0)) (ad 62 0) A U H ∧ va_T .byte (ad 63 0) 5 (fun j => .int (roF 63 j)) A U H) ∧
  (va_X (ad 64 0) L xs U H ∧ ad 64 0 < H.size ∧ ¬ A (ad 64 0)) ∧ ∀ w ∈ nestWs, va_Nw w U
theorem RO.kept {ad : Nat → Nat → Nat} {A : Nat → Prop} {L : Nat} {xs : Nat → Int32} {U : State} {H H1 : Heap} (h : RO ad A L xs U H) (hz : H.size ≤ H1.size) (hq : ∀ a : Nat, a < H.size → ¬ A a → H1[a]? = H[a]?) : RO ad A L xs U H1 := by
  obtain ⟨⟨a1, a2, a3, a4⟩, ⟨b1, b2, b3, b4, b5, b6⟩, ⟨c1, c2, c3⟩, d1⟩ := h
  exact ⟨⟨a1.kept hq, a2.kept hq, a3.kept hq, a4.kept hq⟩, ⟨b1.kept hq, b2, b3.kept hq, b4.kept hq, b5.kept hq, b6.kept hq⟩, ⟨c1.kept (hq _ c2 c3), by omega, c3⟩, d1⟩
theorem nest_shape : ∀ w ∈ nestWs, (∃ a i b n d h, w = Jvm.Cond.fieldLinkNest a i b n d h) ∨ ∃ a i x h, w = Jvm.Cond.methodLinkNest a i x h := by
  intro w hw
  simp only [nestWs, List.mem_cons, List.not_mem_nil, or_false] at hw
  rcases hw with rfl | rfl | rfl | rfl | rfl | rfl | rfl | rfl | rfl | rfl | rfl | rfl <;> first | exact Or.inl ⟨_, _, _, _, _, _, rfl⟩ | exact Or.inr ⟨_, _, _, _, rfl⟩
theorem RO.warm {ad : Nat → Nat → Nat} {A : Nat → Prop} {L : Nat} {xs : Nat → Int32} {s U : State} {H : Heap} (hW : s.WarmedH U.vm) (h : RO ad A L xs s H) : RO ad A L xs U H := by
  obtain ⟨⟨a1, a2, a3, a4⟩, ⟨b1, b2, b3, b4, b5, b6⟩, ⟨c1, c2, c3⟩, d1⟩ := h
  have hv := hW.alike
  refine ⟨⟨va_Z.moved hv a1, va_T.moved hv a2, va_Z.moved hv a3, va_T.moved hv a4⟩, ⟨va_Z.moved hv b1, vk_R.warm hW b2, va_O.moved hv b3, va_OF.moved hv b4, va_OF.moved hv b5, va_T.moved hv b6⟩, ⟨c1.moved hv, c2, c3⟩, fun w hw => ?_⟩
  have h1 := d1 w hw
  rcases nest_shape w hw with ⟨a, i, b, n, d, h, rfl⟩ | ⟨a, i, x, h, rfl⟩
  · exact va_Nw.warmF hW h1
  · exact va_Nw.warmM hW h1
theorem RO.same {ad : Nat → Nat → Nat} {A : Nat → Prop} {L : Nat} {xs : Nat → Int32} {u U : State} {H : Heap} (hv : U.vm = u.vm) (h : RO ad A L xs u H) : RO ad A L xs U H := by
  obtain ⟨⟨a1, a2, a3, a4⟩, ⟨b1, b2, b3, b4, b5, b6⟩, ⟨c1, c2, c3⟩, d1⟩ := h
  have hk : u.vm.Alike U.vm := by rw [hv]; exact Vm.Alike.refl _
  refine ⟨⟨va_Z.moved hk a1, va_T.moved hk a2, va_Z.moved hk a3, va_T.moved hk a4⟩, ⟨va_Z.moved hk b1, vk_R.same hv b2, va_O.moved hk b3, va_OF.moved hk b4, va_OF.moved hk b5, va_T.moved hk b6⟩, ⟨c1.moved hk, c2, c3⟩, fun w hw => ?_⟩
  have h1 := d1 w hw
  rcases nest_shape w hw with ⟨a, i, b, n, d, h, rfl⟩ | ⟨a, i, x, h, rfl⟩
  · exact va_Nw.same rfl hv.symm h1
  · exact va_Nw.same rfl hv.symm h1
/-- the heap holds the store -/
def HW (ad : Nat → Nat → Nat) (cI cO : ClassId) (D : va_G) (A : Nat → Prop) (L : Nat) (xs : Nat → Int32) (σ : St) (H : Heap) : Prop := va_P D wcl (wld ad cI cO σ) H ∧ va_D A (wld ad cI cO σ) ∧ scL σ = L ∧ scF σ = xs
abbrev wtys (cI cO : ClassId) : List (ClassId × FieldType) := [(cI, .int), (cO, .array .int)]
/-! the locals -/
def claim (ad : Nat → Nat → Nat) (ls : List IV) (i : Nat) : Option (Nat × Value) := match ls[i]? with
  | some (.inl x) => some (i, .int x)
  | some (.inr (.inr (.inl (t, q)))) => some (i, .ref (ad t q))
  | some (.inr (.inl x)) => match ls[i + 1]? with
    | some (.inr (.inr (.inr ()))) => some (i, .long x)
    | _ => none
  | _ => none
def clm (ad : Nat → Nat → Nat) (ls : List IV) : List (Nat × Value) := (List.range ls.length).filterMap (claim ad ls)
def LR (ad : Nat → Nat → Nat) (Ls : Array Slot) (n : Nat) (ls : List IV) : Prop := ls.length = n ∧ lv_has Ls n (clm ad ls)
theorem claim_1 {ad : Nat → Nat → Nat} {ls : List IV} {i : Nat} {q : Nat × Value} (h : claim ad ls i = some q) : q.1 = i ∧ i < ls.length := by
  unfold claim at h
  cases hx : ls[i]? with
  | none => rw [hx] at h; cases h
  | some v =>
    rw [hx] at h
    have hl := (List.getElem?_eq_some_iff.mp hx).1
    obtain x | x | ⟨t, q⟩ | x := v
    · cases h; exact ⟨rfl, hl⟩
    · dsimp only at h
      cases hy : ls[i + 1]? with
      | none => rw [hy] at h; cases h
      | some w =>
        rw [hy] at h
        obtain y | y | y | y := w
        · cases h
        · cases h
        · cases h
        · cases h; exact ⟨rfl, hl⟩
    · cases h; exact ⟨rfl, hl⟩
    · cases h
theorem clm_mem {ad : Nat → Nat → Nat} {ls : List IV} {q : Nat × Value} : q ∈ clm ad ls ↔ claim ad ls q.1 = some q := by
  unfold clm
  rw [List.mem_filterMap]
  constructor
  · rintro ⟨i, -, hi⟩
    rw [(claim_1 hi).1]
    exact hi
  · intro h
    exact ⟨q.1, List.mem_range.mpr (claim_1 h).2, h⟩
theorem claim_int {ad : Nat → Nat → Nat} {ls : List IV} {i : Nat} {x : Int32} (h : ls[i]? = some (.inl x)) : claim ad ls i = some (i, .int x) := by
  unfold claim; rw [h]
theorem claim_ref {ad : Nat → Nat → Nat} {ls : List IV} {i t q : Nat} (h : ls[i]? = some (.inr (.inr (.inl (t, q))))) : claim ad ls i = some (i, .ref (ad t q)) := by
  unfold claim; rw [h]
theorem claim_long {ad : Nat → Nat → Nat} {ls : List IV} {i : Nat} {x : Int64} (h : ls[i]? = some (.inr (.inl x))) (h2 : ls[i + 1]? = some (.inr (.inr (.inr ())))) : claim ad ls i = some (i, .long x) := by
  unfold claim; rw [h]; dsimp only; rw [h2]
theorem LR.at {ad : Nat → Nat → Nat} {Ls : Array Slot} {n i : Nat} {ls : List IV} {v : Value} (h : LR ad Ls n ls) (hc : claim ad ls i = some (i, v)) : Ls[i]? = some (.val v) :=
  h.2.2.2 (i, v) (clm_mem.mpr hc)
/-- a store of one slot -/
theorem LR.set1 {ad : Nat → Nat → Nat} {Ls' : Array Slot} {n i : Nat} {ls : List IV} {v : IV} {w : Value} (hn : ls.length = n) (hv : v ≠ .inr (.inr (.inr ()))) (hw : ∀ q, claim ad (ls.set i v) i = some q → q = (i, w)) (hw1 : w.category = 1)
    (h : lv_has Ls' n ((i, w) :: (clm ad ls).filter (fun q => !(q.1 == i) && !(q.1 + 1 == i && q.2.category == 2)))) : LR ad Ls' n (ls.set i v) := by
  refine ⟨by rw [List.length_set]; exact hn, h.1, h.2.1, fun q hq => ?_⟩
  have hc := clm_mem.mp hq
  by_cases e : q.1 = i
  · rw [e] at hc
    rw [hw q hc]
    exact h.2.2 _ List.mem_cons_self
  · refine h.2.2 q (List.mem_cons_of_mem _ (List.mem_filter.mpr ⟨?_, ?_⟩))
    · refine clm_mem.mpr ?_
      rw [← hc]
      unfold claim
      rw [List.getElem?_set_ne (Ne.symm e)]
      cases hx : ls[q.1]? with
      | none => rfl
      | some u =>
        obtain x | x | ⟨t, q'⟩ | x := u
        · rfl
        · dsimp only
          by_cases e2 : q.1 + 1 = i
          · exfalso
            have hl := (claim_1 hc).2
            rw [List.length_set] at hl
            unfold claim at hc
            rw [List.getElem?_set_ne (Ne.symm e), hx] at hc
            dsimp only at hc
            by_cases hi : i < ls.length
            · rw [e2, List.getElem?_set_self hi] at hc
              obtain y | y | y | y := v
              · cases hc
              · cases hc
              · cases hc
              · exact hv rfl
            · rw [e2, List.getElem?_eq_none (by rw [List.length_set]; omega)] at hc
              cases hc
          · rw [List.getElem?_set_ne (Ne.symm e2)]
        · rfl
        · rfl
    · by_cases e2 : q.1 + 1 = i
      · have hcat : ¬ q.2.category = 2 := by
          intro h2
          unfold claim at hc
          rw [List.getElem?_set_ne (Ne.symm e)] at hc
          cases hx : ls[q.1]? with
          | none => rw [hx] at hc; cases hc
          | some u =>
            rw [hx] at hc
            obtain x | x | ⟨t, q'⟩ | x := u
            · dsimp only at hc; rw [← Option.some.inj hc] at h2; cases h2
            · dsimp only at hc
              by_cases hi : i < ls.length
              · rw [e2, List.getElem?_set_self hi] at hc
                obtain y | y | y | y := v
                · cases hc
                · cases hc
                · cases hc
                · exact hv rfl
              · rw [e2, List.getElem?_eq_none (by rw [List.length_set]; omega)] at hc
                cases hc
            · dsimp only at hc; rw [← Option.some.inj hc] at h2; cases h2
            · dsimp only at hc; cases hc
        simp [e, e2, hcat]
      · simp [e, e2]
/-- a store of a long -/
theorem LR.set2 {ad : Nat → Nat → Nat} {Ls' : Array Slot} {n i : Nat} {ls : List IV} {x : Int64} (hn : ls.length = n) (hi : i + 1 < n)
    (h : lv_has Ls' n ((i, .long x) :: (clm ad ls).filter (fun q => !(q.1 == i) && (!(q.1 == i + 1) && !(q.1 + 1 == i && q.2.category == 2))))) : LR ad Ls' n ((ls.set i (.inr (.inl x))).set (i + 1) (.inr (.inr (.inr ())))) := by
  refine ⟨by rw [List.length_set, List.length_set]; exact hn, h.1, h.2.1, fun q hq => ?_⟩
  have hc := clm_mem.mp hq
  by_cases e : q.1 = i
  · rw [e] at hc
    rw [claim_long (x := x) (by rw [List.getElem?_set_ne (by omega), List.getElem?_set_self (by omega)]) (by rw [List.getElem?_set_self (by rw [List.length_set]; omega)])] at hc
    cases hc
    exact h.2.2 _ List.mem_cons_self
  · by_cases e1 : q.1 = i + 1
    · rw [e1] at hc
      unfold claim at hc
      rw [List.getElem?_set_self (by rw [List.length_set]; omega)] at hc
      cases hc
    · have hne : ((ls.set i (.inr (.inl x))).set (i + 1) (.inr (.inr (.inr ()))))[q.1]? = ls[q.1]? := by
        rw [List.getElem?_set_ne (Ne.symm e1), List.getElem?_set_ne (Ne.symm e)]
      have hc' : claim ad ls q.1 = some q := by
        rw [← hc]
        unfold claim
        rw [hne]
        cases hx : ls[q.1]? with
        | none => rfl
        | some u =>
          obtain y | y | ⟨t, q'⟩ | y := u
          · rfl
          · dsimp only
            by_cases e2 : q.1 + 1 = i
            · exfalso
              unfold claim at hc
              rw [hne, hx] at hc
              dsimp only at hc
              rw [e2, List.getElem?_set_ne (by omega), List.getElem?_set_self (by omega)] at hc
              cases hc
            · rw [List.getElem?_set_ne (by omega), List.getElem?_set_ne (Ne.symm e2)]
          · rfl
          · rfl
      refine h.2.2 q (List.mem_cons_of_mem _ (List.mem_filter.mpr ⟨clm_mem.mpr hc', ?_⟩))
      by_cases e2 : q.1 + 1 = i
      · have hcat : ¬ q.2.category = 2 := by
          intro h2
          unfold claim at hc
          rw [hne] at hc
          cases hx : ls[q.1]? with
          | none => rw [hx] at hc; cases hc
          | some u =>
            rw [hx] at hc
            obtain y | y | ⟨t, q'⟩ | y := u
            · dsimp only at hc; rw [← Option.some.inj hc] at h2; cases h2
            · dsimp only at hc
              rw [e2, List.getElem?_set_ne (by omega), List.getElem?_set_self (by omega)] at hc
              cases hc
            · dsimp only at hc; rw [← Option.some.inj hc] at h2; cases h2
            · dsimp only at hc; cases hc
        simp [e, e1, e2, hcat]
      · simp [e, e1, e2]
end
section
/-! A run of the reader is a run of the machine: the instructions that touch locals and stack alone. -/
theorem ldI_inv {ls stk ls' stk' : List IV} {k : Nat} (h : ldI ls stk k = some (ls', stk')) : ∃ x, ls[k]? = some (.inl x) ∧ ls' = ls ∧ stk' = vI x :: stk := by
  unfold ldI at h
  split at h
  · rename_i x e
    cases h
    exact ⟨x, e, rfl, rfl⟩
  · cases h
theorem ldR_inv {ls stk ls' stk' : List IV} {k : Nat} (h : ldR ls stk k = some (ls', stk')) : ∃ t q, ls[k]? = some (.inr (.inr (.inl (t, q)))) ∧ ls' = ls ∧ stk' = vR t q :: stk := by
  unfold ldR at h
  split at h
  · rename_i t q e
    cases h
    exact ⟨t, q, e, rfl, rfl⟩
  · cases h
theorem ldL_inv {ls stk ls' stk' : List IV} {k : Nat} (h : ldL ls stk k = some (ls', stk')) : ∃ x, ls[k]? = some (.inr (.inl x)) ∧ ls[k + 1]? = some (.inr (.inr (.inr ()))) ∧ ls' = ls ∧ stk' = vL x :: stk := by
  unfold ldL at h
  split at h
  · rename_i x e
    split at h
    · rename_i e2
      cases h
      exact ⟨x, e, e2, rfl, rfl⟩
    · cases h
  · cases h
theorem stI_inv {ls stk ls' stk' : List IV} {k : Nat} (h : stI ls stk k = some (ls', stk')) : ∃ x r, stk = .inl x :: r ∧ k < ls.length ∧ ls' = ls.set k (vI x) ∧ stk' = r := by
  unfold stI at h
  split at h
  · rename_i x r
    cases hb : Nat.blt k ls.length with
    | false => rw [hb] at h; cases h
    | true =>
      rw [hb] at h
      cases h
      exact ⟨x, _, rfl, Nat.ble_eq.mp hb, rfl, rfl⟩
  · cases h
theorem stR_inv {ls stk ls' stk' : List IV} {k : Nat} (h : stR ls stk k = some (ls', stk')) : ∃ t q r, stk = .inr (.inr (.inl (t, q))) :: r ∧ k < ls.length ∧ ls' = ls.set k (vR t q) ∧ stk' = r := by
  unfold stR at h
  split at h
  · rename_i t q r
    cases hb : Nat.blt k ls.length with
    | false => rw [hb] at h; cases h
    | true =>
      rw [hb] at h
      cases h
      exact ⟨t, q, _, rfl, Nat.ble_eq.mp hb, rfl, rfl⟩
  · cases h
theorem stL_inv {ls stk ls' stk' : List IV} {k : Nat} (h : stL ls stk k = some (ls', stk')) : ∃ x r, stk = .inr (.inl x) :: r ∧ k + 1 < ls.length ∧ ls' = (ls.set k (vL x)).set (k + 1) vN ∧ stk' = r := by
  unfold stL at h
  split at h
  · rename_i x r
    cases hb : Nat.blt (k + 1) ls.length with
    | false => rw [hb] at h; cases h
    | true =>
      rw [hb] at h
      cases h
      exact ⟨x, _, rfl, Nat.ble_eq.mp hb, rfl, rfl⟩
  · cases h
theorem icI_inv {ls stk ls' stk' : List IV} {k : Nat} {n : Int} (h : icI ls stk k n = some (ls', stk')) : ∃ x, ls[k]? = some (.inl x) ∧ ls' = ls.set k (vI (x + Int32.ofInt n)) ∧ stk' = stk := by
  unfold icI at h
  split at h
  · rename_i x e
    cases h
    exact ⟨x, e, rfl, rfl⟩
  · cases h
theorem op2_inv {f : Int32 → Int32 → Int32} {ls stk ls' stk' : List IV} (h : op2 f ls stk = some (ls', stk')) : ∃ y x r, stk = .inl y :: .inl x :: r ∧ ls' = ls ∧ stk' = vI (f x y) :: r := by
  unfold op2 at h
  split at h
  · cases h
    exact ⟨_, _, _, rfl, rfl, rfl⟩
  · cases h
theorem opL_inv {f : Int64 → Int64 → Int64} {ls stk ls' stk' : List IV} (h : opL f ls stk = some (ls', stk')) : ∃ y x r, stk = .inr (.inl y) :: .inr (.inl x) :: r ∧ ls' = ls ∧ stk' = vL (f x y) :: r := by
  unfold opL at h
  split at h
  · cases h
    exact ⟨_, _, _, rfl, rfl, rfl⟩
  · cases h
theorem dup_inv {ls stk ls' stk' : List IV} (h : alu .dup ls stk = some (ls', stk')) : ∃ a r, stk = a :: r ∧ cat1 a = true ∧ ls' = ls ∧ stk' = a :: a :: r := by
  cases stk with
  | nil => cases h
  | cons a r =>
    cases hc : cat1 a with
    | false => simp [alu, hc] at h
    | true =>
      simp [alu, hc] at h
      exact ⟨a, r, rfl, hc, h.1.symm, h.2.symm⟩
theorem pop_inv {ls stk ls' stk' : List IV} (h : alu .pop ls stk = some (ls', stk')) : ∃ a r, stk = a :: r ∧ cat1 a = true ∧ ls' = ls ∧ stk' = r := by
  cases stk with
  | nil => cases h
  | cons a r =>
    cases hc : cat1 a with
    | false => simp [alu, hc] at h
    | true =>
      simp [alu, hc] at h
      exact ⟨a, r, rfl, hc, h.1.symm, h.2.symm⟩
theorem dup2_inv {ls stk ls' stk' : List IV} (h : alu .dup2 ls stk = some (ls', stk')) : ∃ a b r, stk = a :: b :: r ∧ cat1 a = true ∧ cat1 b = true ∧ ls' = ls ∧ stk' = a :: b :: a :: b :: r := by
  cases stk with
  | nil => cases h
  | cons a r =>
    cases r with
    | nil => cases h
    | cons b r =>
      cases hc : cat1 a with
      | false => simp [alu, hc] at h
      | true =>
        cases hc2 : cat1 b with
        | false => simp [alu, hc, hc2] at h
        | true =>
          simp [alu, hc, hc2] at h
          exact ⟨a, b, r, rfl, hc, hc2, h.1.symm, h.2.symm⟩
theorem cat_mp {ad : Nat → Nat → Nat} {v : IV} (h : cat1 v = true) : (mp ad v).category = 1 := by
  obtain x | x | ⟨t, q⟩ | x := v
  · rfl
  · cases h
  · rfl
  · cases h
section WK
variable {p : Program} {l : Launch} {e : Env} {R : Room} {s : State} {m : MethodId} {args : Array Value} {below : List Frame} {meth : Method} {c : Code} {H : Heap} {locs : List Loc} {cells slots : Nat} {Q : State → Prop} {cc : ByteArray}
variable {ad : Nat → Nat → Nat} {n pc : Nat} {ls stk ls' stk' : List IV} {Ls : Array Slot} {i : Instr}
theorem w_alu (hx : p.tables.exec = Jvm.exec) (hb : c.code = cc) (hd : decode cc pc = .ok (i, ilen i)) (hL : LR ad Ls n ls) (ha : alu i ls stk = some (ls', stk'))
    (kk : ∀ Ls' : Array Slot, LR ad Ls' n ls' → W p l e R s m args below meth c H locs cells slots Q (F0 m (pc + ilen i) Ls' (stk'.map (mp ad)))) : W p l e R s m args below meth c H locs cells slots Q (F0 m pc Ls (stk.map (mp ad))) := by
  cases i with
  | iconst n =>
    cases ha
    exact lv_iconst hx hb hd rfl (kk Ls hL)
  | bipush n =>
    cases ha
    exact lv_bipush hx hb hd rfl (kk Ls hL)
  | sipush n =>
    cases ha
    exact lv_sipush hx hb hd rfl (kk Ls hL)
  | lconst n =>
    cases ha
    exact lv_lconst hx hb hd rfl (kk Ls hL)
  | iload_n k =>
    obtain ⟨x, e1, rfl, rfl⟩ := ldI_inv (show ldI ls stk _ = some _ from ha)
    exact lv_iload_n hx hb hd rfl (hL.at (claim_int e1)) (kk Ls hL)
  | iload k =>
    obtain ⟨x, e1, rfl, rfl⟩ := ldI_inv (show ldI ls stk _ = some _ from ha)
    exact lv_iload hx hb hd (hL.at (claim_int e1)) (kk Ls hL)
  | lload_n k =>
    obtain ⟨x, e1, e2, rfl, rfl⟩ := ldL_inv (show ldL ls stk _ = some _ from ha)
    exact lv_lload_n hx hb hd rfl (hL.at (claim_long e1 e2)) (kk Ls hL)
  | lload k =>
    obtain ⟨x, e1, e2, rfl, rfl⟩ := ldL_inv (show ldL ls stk _ = some _ from ha)
    exact lv_lload hx hb hd (hL.at (claim_long e1 e2)) (kk Ls hL)
  | aload_n k =>
    obtain ⟨t, q, e1, rfl, rfl⟩ := ldR_inv (show ldR ls stk _ = some _ from ha)
    exact lv_aload_n hx hb hd rfl (hL.at (claim_ref e1)) (kk Ls hL)
  | aload k =>
    obtain ⟨t, q, e1, rfl, rfl⟩ := ldR_inv (show ldR ls stk _ = some _ from ha)
    exact lv_aload hx hb hd (hL.at (claim_ref e1)) (kk Ls hL)
  | istore_n k =>
    obtain ⟨x, r, rfl, e1, rfl, rfl⟩ := stI_inv (show stI ls stk _ = some _ from ha)
    refine lv_istore_n hx hb hd rfl hL.2 (by rw [← hL.1]; exact e1) rfl (fun Ls' h' => kk Ls' ?_)
    exact LR.set1 hL.1 (by intro z; cases z) (fun q hq => (Option.some.inj ((claim_int (List.getElem?_set_self e1)).symm.trans hq)).symm) rfl h'
  | istore k =>
    obtain ⟨x, r, rfl, e1, rfl, rfl⟩ := stI_inv (show stI ls stk _ = some _ from ha)
    refine lv_istore hx hb hd hL.2 (by rw [← hL.1]; exact e1) rfl (fun Ls' h' => kk Ls' ?_)
    exact LR.set1 hL.1 (by intro z; cases z) (fun q hq => (Option.some.inj ((claim_int (List.getElem?_set_self e1)).symm.trans hq)).symm) rfl h'
  | lstore_n k =>
    obtain ⟨x, r, rfl, e1, rfl, rfl⟩ := stL_inv (show stL ls stk _ = some _ from ha)
    refine lv_lstore_n hx hb hd rfl hL.2 (by rw [← hL.1]; exact e1) rfl (fun Ls' h' => kk Ls' ?_)
    exact LR.set2 hL.1 (by rw [← hL.1]; exact e1) h'
  | lstore k =>
    obtain ⟨x, r, rfl, e1, rfl, rfl⟩ := stL_inv (show stL ls stk _ = some _ from ha)
    refine lv_lstore hx hb hd hL.2 (by rw [← hL.1]; exact e1) rfl (fun Ls' h' => kk Ls' ?_)
    exact LR.set2 hL.1 (by rw [← hL.1]; exact e1) h'
  | astore_n k =>
    obtain ⟨t, q, r, rfl, e1, rfl, rfl⟩ := stR_inv (show stR ls stk _ = some _ from ha)
    refine lv_astore_n hx hb hd rfl hL.2 (by rw [← hL.1]; exact e1) rfl (fun Ls' h' => kk Ls' ?_)
    exact LR.set1 hL.1 (by intro z; cases z) (fun q hq => (Option.some.inj ((claim_ref (List.getElem?_set_self e1)).symm.trans hq)).symm) rfl h'
  | astore k =>
    obtain ⟨t, q, r, rfl, e1, rfl, rfl⟩ := stR_inv (show stR ls stk _ = some _ from ha)
    refine lv_astore hx hb hd hL.2 (by rw [← hL.1]; exact e1) rfl (fun Ls' h' => kk Ls' ?_)
    exact LR.set1 hL.1 (by intro z; cases z) (fun q hq => (Option.some.inj ((claim_ref (List.getElem?_set_self e1)).symm.trans hq)).symm) rfl h'
  | iinc k n =>
    obtain ⟨x, e1, rfl, rfl⟩ := icI_inv (show icI ls stk _ _ = some _ from ha)
    obtain ⟨j, hj⟩ := List.getElem?_of_mem (clm_mem (ad := ad) (ls := ls) (q := (k, .int x)) |>.mpr (claim_int e1))
    have hk : k < ls.length := (List.getElem?_eq_some_iff.mp e1).1
    refine lv_iinc hx hb hd hL.2 hj rfl (by rw [← hL.1]; exact hk) rfl (fun Ls' h' => kk Ls' ?_)
    exact LR.set1 hL.1 (by intro z; cases z) (fun q hq => (Option.some.inj ((claim_int (List.getElem?_set_self hk)).symm.trans hq)).symm) rfl h'
  | iadd =>
    obtain ⟨y, x, r, rfl, rfl, rfl⟩ := op2_inv (show op2 _ ls stk = some _ from ha)
    exact lv_iadd hx hb hd (kk Ls hL)
  | isub =>
    obtain ⟨y, x, r, rfl, rfl, rfl⟩ := op2_inv (show op2 _ ls stk = some _ from ha)
    exact lv_isub hx hb hd (kk Ls hL)
  | imul =>
    obtain ⟨y, x, r, rfl, rfl, rfl⟩ := op2_inv (show op2 _ ls stk = some _ from ha)
    exact lv_imul hx hb hd (kk Ls hL)
  | iand =>
    obtain ⟨y, x, r, rfl, rfl, rfl⟩ := op2_inv (show op2 _ ls stk = some _ from ha)
    exact lv_iand hx hb hd (kk Ls hL)
  | ior =>
    obtain ⟨y, x, r, rfl, rfl, rfl⟩ := op2_inv (show op2 _ ls stk = some _ from ha)
    exact lv_ior hx hb hd (kk Ls hL)
  | ishl =>
    obtain ⟨y, x, r, rfl, rfl, rfl⟩ := op2_inv (show op2 _ ls stk = some _ from ha)
    exact lv_ishl hx hb hd (kk Ls hL)
  | ishr =>
    obtain ⟨y, x, r, rfl, rfl, rfl⟩ := op2_inv (show op2 _ ls stk = some _ from ha)
    exact lv_ishr hx hb hd (kk Ls hL)
  | ladd =>
    obtain ⟨y, x, r, rfl, rfl, rfl⟩ := opL_inv (show opL _ ls stk = some _ from ha)
    exact lv_ladd hx hb hd (kk Ls hL)
  | lmul =>
    obtain ⟨y, x, r, rfl, rfl, rfl⟩ := opL_inv (show opL _ ls stk = some _ from ha)
    exact lv_lmul hx hb hd (kk Ls hL)
  | land =>
    obtain ⟨y, x, r, rfl, rfl, rfl⟩ := opL_inv (show opL _ ls stk = some _ from ha)
    exact lv_land hx hb hd (kk Ls hL)
  | lcmp =>
    obtain ⟨y, x, r, rfl⟩ : ∃ y x r, stk = .inr (.inl y) :: .inr (.inl x) :: r := by
      simp only [alu] at ha
      split at ha
      · exact ⟨_, _, _, rfl⟩
      · cases ha
    cases ha
    exact W.lcmp hx hb hd (kk Ls hL)
  | i2l =>
    obtain ⟨x, r, rfl⟩ : ∃ x r, stk = .inl x :: r := by
      simp only [alu] at ha
      split at ha
      · exact ⟨_, _, rfl⟩
      · cases ha
    cases ha
    exact lv_i2l hx hb hd rfl (kk Ls hL)
  | i2b =>
    obtain ⟨x, r, rfl⟩ : ∃ x r, stk = .inl x :: r := by
      simp only [alu] at ha
      split at ha
      · exact ⟨_, _, rfl⟩
      · cases ha
    cases ha
    exact lv_i2b hx hb hd rfl (kk Ls hL)
  | i2c =>
    obtain ⟨x, r, rfl⟩ : ∃ x r, stk = .inl x :: r := by
      simp only [alu] at ha
      split at ha
      · exact ⟨_, _, rfl⟩
      · cases ha
    cases ha
    exact lv_i2c hx hb hd rfl (kk Ls hL)
  | l2i =>
    obtain ⟨x, r, rfl⟩ : ∃ x r, stk = .inr (.inl x) :: r := by
      simp only [alu] at ha
      split at ha
      · exact ⟨_, _, rfl⟩
      · cases ha
    cases ha
    exact lv_l2i hx hb hd rfl (kk Ls hL)
  | dup =>
    obtain ⟨a, r, rfl, e1, rfl, rfl⟩ := dup_inv ha
    exact lv_dup hx hb hd (cat_mp e1) (kk Ls hL)
  | pop =>
    obtain ⟨a, r, rfl, e1, rfl, rfl⟩ := pop_inv ha
    exact lv_pop hx hb hd (cat_mp e1) (kk Ls hL)
  | dup2 =>
    obtain ⟨a, b, r, rfl, e1, e2, rfl, rfl⟩ := dup2_inv ha
    exact lv_dup2_11 hx hb hd (cat_mp e1) (cat_mp e2) (kk Ls hL)
  | _ => simp [alu] at ha
theorem w_dvs (hx : p.tables.exec = Jvm.exec) (hb : c.code = cc) (hd : decode cc pc = .ok (i, ilen i)) (ha : dvs i stk = some stk')
    (kk : W p l e R s m args below meth c H locs cells slots Q (F0 m (pc + ilen i) Ls (stk'.map (mp ad)))) : W p l e R s m args below meth c H locs cells slots Q (F0 m pc Ls (stk.map (mp ad))) := by
  cases i with
  | idiv =>
    simp only [dvs] at ha
    split at ha
    · split at ha
      · cases ha
      · rename_i h0
        cases ha
        exact lv_idiv hx hb hd h0 kk
    · cases ha
  | irem =>
    simp only [dvs] at ha
    split at ha
    · split at ha
      · cases ha
      · rename_i h0
        cases ha
        exact lv_irem hx hb hd h0 kk
    · cases ha
  | lrem =>
    simp only [dvs] at ha
    split at ha
    · split at ha
      · cases ha
      · rename_i h0
        cases ha
        exact lv_lrem hx hb hd h0 kk
    · cases ha
  | _ => simp [dvs] at ha
theorem swF_ok {pc : Nat} {d : Int} {t0 : Nat} {v : Int} (h0 : (pc : Int) + d = t0) : ∀ (ps : List (Int × Int)) (ts : List Nat), ps.length = ts.length → (ps.zip ts).all (fun q => decide ((pc : Int) + q.1.2 = (q.2 : Int))) = true → (pc : Int) + Op.lookupswitch.offset ps d v = (swF ps ts t0 v : Nat)
  | [], [], _, _ => h0
  | [], _ :: _, h, _ => by cases h
  | _ :: _, [], h, _ => by cases h
  | (a, o) :: ps, t :: ts, h, h2 => by
    simp only [List.zip_cons_cons, List.all_cons, Bool.and_eq_true, decide_eq_true_eq] at h2
    rw [Op.lookupswitch.offset_cons, swF]
    by_cases e : v = a
    · rw [if_pos e, if_pos e.symm]
      exact h2.1
    · rw [if_neg e, if_neg (fun z => e z.symm)]
      exact swF_ok h0 ps ts (by simpa using h) h2.2
theorem swT_out {v : Int} {d : Nat} : ∀ (ts : List Nat) (lo : Int), (v < lo ∨ lo + ts.length ≤ v) → swT lo ts d v = d
  | [], _, _ => rfl
  | t :: ts, lo, h => by
    simp only [List.length_cons] at h
    rw [swT, if_neg (by omega)]
    exact swT_out ts (lo + 1) (by omega)
theorem swT_in {v : Int} {d : Nat} : ∀ (ts : List Nat) (lo : Int), lo ≤ v → v < lo + ts.length → ts[(v - lo).toNat]? = some (swT lo ts d v)
  | [], lo, h1, h2 => by simp at h2; omega
  | t :: ts, lo, h1, h2 => by
    simp only [List.length_cons] at h2
    rw [swT]
    by_cases e : v = lo
    · rw [if_pos e, e, Int.sub_self]
      rfl
    · rw [if_neg e]
      have e1 : (v - lo).toNat = (v - (lo + 1)).toNat + 1 := by omega
      rw [e1, List.getElem?_cons_succ]
      exact swT_in ts (lo + 1) (by omega) (by omega)
theorem zip_at {pc : Nat} : ∀ (os : List Int) (ts : List Nat) (j : Nat) (t : Nat), os.length = ts.length → (os.zip ts).all (fun q => decide ((pc : Int) + q.1 = (q.2 : Int))) = true → ts[j]? = some t → ∃ o, os[j]? = some o ∧ (pc : Int) + o = t
  | [], [], j, t, _, _, h => by simp at h
  | [], _ :: _, _, _, h, _, _ => by cases h
  | _ :: _, [], _, _, h, _, _ => by cases h
  | o :: os, t0 :: ts, j, t, h, h2, h3 => by
    simp only [List.zip_cons_cons, List.all_cons, Bool.and_eq_true, decide_eq_true_eq] at h2
    cases j with
    | zero => cases h3; exact ⟨o, rfl, h2.1⟩
    | succ j => exact zip_at os ts j t (by simpa using h) h2.2 h3
/-- the row of a jump: where it goes -/
theorem w_jmp {own : String} {rt : Option FieldType} {nx pc' : Nat} {ex : List Nat} (hx : p.tables.exec = Jvm.exec) (hb : c.code = cc) (hd : decode cc pc = .ok (i, if isSw i = true then nx - pc else ilen i)) (hn : isSw i = true ∨ nx = pc + ilen i) (hk : lnk own rt pc i ex = true) (ha : jmp i ex nx stk = some (pc', stk'))
    (kk : W p l e R s m args below meth c H locs cells slots Q (F0 m pc' Ls (stk'.map (mp ad)))) : W p l e R s m args below meth c H locs cells slots Q (F0 m pc Ls (stk.map (mp ad))) := by
  have tg : ∀ {o : Int} {t : Nat} {ts : List Nat}, tgtB pc o (t :: ts) = true → (pc : Int) + o = (t : Int) := by
    intro o t ts h
    cases ts with
    | nil => simpa [tgtB] using h
    | cons a b => simp [tgtB] at h
  cases i with
  | goto o =>
    simp only [jmp] at ha
    split at ha
    · cases ha
      exact lv_goto hx hb hd (tg hk) kk
    · cases ha
  | ifCond k o =>
    have hnx : nx = pc + 3 := hn.elim (fun z => by cases z) id
    subst hnx
    simp only [jmp] at ha
    split at ha
    · rename_i t ts x r
      cases ha
      have ht := tg hk
      have go : ∀ b : Bool, cnd k x 0 = b → W p l e R s m args below meth c H locs cells slots Q (F0 m (bif b then t else pc + 3) Ls (List.map (mp ad) stk')) := fun b hb' => by rw [← hb']; exact kk
      cases k with
      | eq => exact lv_if_eq hx hb hd ht (fun z => go true (cnd_eq.mpr z)) (fun z => go false (Bool.eq_false_iff.mpr (fun q => z (cnd_eq.mp q))))
      | ne => exact lv_if_ne hx hb hd ht (fun z => go true (cnd_ne.mpr z)) (fun z => go false (by simp [cnd, z]))
      | lt => exact lv_if_lt hx hb hd ht (fun z => go true (by simp [cnd, z])) (fun z => go false (by simp [cnd, z]))
      | ge => exact lv_if_ge hx hb hd ht (fun z => go true (by simp [cnd, z])) (fun z => go false (by simp [cnd, z]))
      | gt => exact lv_if_gt hx hb hd ht (fun z => go true (by simp [cnd, z])) (fun z => go false (by simp [cnd, z]))
      | le => exact lv_if_le hx hb hd ht (fun z => go true (by simp [cnd, z])) (fun z => go false (by simp [cnd, z]))
    · cases ha
  | if_icmp k o =>
    have hnx : nx = pc + 3 := hn.elim (fun z => by cases z) id
    subst hnx
    simp only [jmp] at ha
    split at ha
    · rename_i t ts y x r
      cases ha
      have ht := tg hk
      have go : ∀ b : Bool, cnd k x y = b → W p l e R s m args below meth c H locs cells slots Q (F0 m (bif b then t else pc + 3) Ls (List.map (mp ad) stk')) := fun b hb' => by rw [← hb']; exact kk
      cases k with
      | eq => exact lv_icmp_eq hx hb hd ht (fun z => go true (cnd_eq.mpr z)) (fun z => go false (Bool.eq_false_iff.mpr (fun q => z (cnd_eq.mp q))))
      | ne => exact lv_icmp_ne hx hb hd ht (fun z => go true (cnd_ne.mpr z)) (fun z => go false (by simp [cnd, z]))
      | lt => exact lv_icmp_lt hx hb hd ht (fun z => go true (by simp [cnd, z])) (fun z => go false (by simp [cnd, z]))
      | ge => exact lv_icmp_ge hx hb hd ht (fun z => go true (by simp [cnd, z])) (fun z => go false (by simp [cnd, z]))
      | gt => exact lv_icmp_gt hx hb hd ht (fun z => go true (by simp [cnd, z])) (fun z => go false (by simp [cnd, z]))
      | le => exact lv_icmp_le hx hb hd ht (fun z => go true (by simp [cnd, z])) (fun z => go false (by simp [cnd, z]))
    · cases ha
  | lookupswitch d ps =>
    simp only [jmp] at ha
    split at ha
    · rename_i t ts x r
      cases ha
      simp only [lnk, lsB, Bool.and_eq_true, decide_eq_true_eq] at hk
      exact lv_lookup hx hb hd (by simpa using hk.2.2.2) rfl (swF_ok hk.1 ps.toList ts hk.2.1 (by simpa using hk.2.2.1)) kk
    · cases ha
  | tableswitch d lo hi offs =>
    simp only [jmp] at ha
    split at ha
    · rename_i t ts x r
      cases ha
      simp only [lnk, tsB, Bool.and_eq_true, decide_eq_true_eq] at hk
      obtain ⟨h1, h2, h3, h4⟩ := hk
      by_cases g1 : x.toInt < lo
      · rw [swT_out ts lo (Or.inl g1)] at kk
        exact lv_tableOut hx hb hd (Or.inl g1) h1 kk
      · by_cases g2 : hi < x.toInt
        · rw [swT_out ts lo (Or.inr (by omega))] at kk
          exact lv_tableOut hx hb hd (Or.inr g2) h1 kk
        · obtain ⟨o, ho1, ho2⟩ := zip_at offs.toList ts _ _ h2 (by simpa using h4) (swT_in (d := t) (v := x.toInt) ts lo (by omega) (by omega))
          exact lv_tableIn hx hb hd g1 g2 (by simpa using ho1) ho2 kk
    · cases ha
  | _ => simp [jmp] at ha
end WK
end
section
/-! A run of the reader is a run of the machine: fields, statics, constants, arrays. -/
theorem i_X0 : ∀ w ∈ u_ws RX0 TX0 6, w ∈ TB := fun w hw => List.mem_filter.mpr ⟨(by decide +kernel : ∀ w ∈ u_ws RX0 TX0 6, w ∈ lw_tbl) w hw, (by decide +kernel : ∀ w ∈ u_ws RX0 TX0 6, goodWord w = true) w hw⟩
theorem i_X1 : ∀ w ∈ u_ws RX1 TX1 7, w ∈ TB := fun w hw => List.mem_filter.mpr ⟨(by decide +kernel : ∀ w ∈ u_ws RX1 TX1 7, w ∈ lw_tbl) w hw, (by decide +kernel : ∀ w ∈ u_ws RX1 TX1 7, goodWord w = true) w hw⟩
theorem i_X2 : ∀ w ∈ u_ws RX2 TX2 2, w ∈ TB := fun w hw => List.mem_filter.mpr ⟨(by decide +kernel : ∀ w ∈ u_ws RX2 TX2 2, w ∈ lw_tbl) w hw, (by decide +kernel : ∀ w ∈ u_ws RX2 TX2 2, goodWord w = true) w hw⟩
theorem i_X3 : ∀ w ∈ u_ws RX3 TX3 9, w ∈ TB := fun w hw => List.mem_filter.mpr ⟨(by decide +kernel : ∀ w ∈ u_ws RX3 TX3 9, w ∈ lw_tbl) w hw, (by decide +kernel : ∀ w ∈ u_ws RX3 TX3 9, goodWord w = true) w hw⟩
theorem i_X4 : ∀ w ∈ u_ws RX4 TX4 4, w ∈ TB := fun w hw => List.mem_filter.mpr ⟨(by decide +kernel : ∀ w ∈ u_ws RX4 TX4 4, w ∈ lw_tbl) w hw, (by decide +kernel : ∀ w ∈ u_ws RX4 TX4 4, goodWord w = true) w hw⟩
theorem i_X5 : ∀ w ∈ u_ws RX5 TX5 12, w ∈ TB := fun w hw => List.mem_filter.mpr ⟨(by decide +kernel : ∀ w ∈ u_ws RX5 TX5 12, w ∈ lw_tbl) w hw, (by decide +kernel : ∀ w ∈ u_ws RX5 TX5 12, goodWord w = true) w hw⟩
theorem i_X6 : ∀ w ∈ u_ws RX6 TX6 12, w ∈ TB := fun w hw => List.mem_filter.mpr ⟨(by decide +kernel : ∀ w ∈ u_ws RX6 TX6 12, w ∈ lw_tbl) w hw, (by decide +kernel : ∀ w ∈ u_ws RX6 TX6 12, goodWord w = true) w hw⟩
theorem i_X7 : ∀ w ∈ u_ws RX7 TX7 43, w ∈ TB := fun w hw => List.mem_filter.mpr ⟨(by decide +kernel : ∀ w ∈ u_ws RX7 TX7 43, w ∈ lw_tbl) w hw, (by decide +kernel : ∀ w ∈ u_ws RX7 TX7 43, goodWord w = true) w hw⟩
theorem wcl_ok {T : Nat} {C : String} {F : u_T} {N : Nat} (h : wcl[T]? = some (C, F, N)) : (∀ w ∈ u_ws C F N, w ∈ TB) ∧ (∃ ty : Nat → FieldType, ∀ k, k < N → parseFieldDescriptor (F k).2.2.1 = some (ty k)) ∧ (∀ a, a < N → ∀ b, b < N → a ≠ b → (F a).2.1 ≠ (F b).2.1) ∧ N = nF T ∧ T < 8 := by
  match T, h with
  | 0, h => cases h; exact ⟨i_X0, ⟨_, tyX0_ok⟩, nmX0, rfl, by decide⟩
  | 1, h => cases h; exact ⟨i_X1, ⟨_, tyX1_ok⟩, nmX1, rfl, by decide⟩
  | 2, h => cases h; exact ⟨i_X2, ⟨_, tyX2_ok⟩, nmX2, rfl, by decide⟩
  | 3, h => cases h; exact ⟨i_X3, ⟨_, tyX3_ok⟩, nmX3, rfl, by decide⟩
  | 4, h => cases h; exact ⟨i_X4, ⟨_, tyX4_ok⟩, nmX4, rfl, by decide⟩
  | 5, h => cases h; exact ⟨i_X5, ⟨_, tyX5_ok⟩, nmX5, rfl, by decide⟩
  | 6, h => cases h; exact ⟨i_X6, ⟨_, tyX6_ok⟩, nmX6, rfl, by decide⟩
  | 7, h => cases h; exact ⟨i_X7, ⟨_, tyX7_ok⟩, nmX7, rfl, by decide⟩
  | n + 8, h => simp at h
theorem fieldB_inv {own : String} {j T k z p : Nat} (h : fieldB own j T k z p = true) : ∃ (C : String) (F : u_T) (N : Nat), wcl[T]? = some (C, F, N) ∧ k < N ∧ (F k).1 = C ∧ ((Jvm.Cond.fieldLink own j C (F k).2.1 (F k).2.2.1) ∈ TB ∨ (Jvm.Cond.fieldLinkNest own j C (F k).2.1 (F k).2.2.1 RX6) ∈ nestWs) := by
  unfold fieldB at h
  cases hw : wcl[T]? with
  | none => rw [hw] at h; cases h
  | some x =>
    obtain ⟨C, F, N⟩ := x
    rw [hw] at h
    simp only [Bool.and_eq_true, decide_eq_true_eq] at h
    refine ⟨C, F, N, rfl, h.1, h.2.1, ?_⟩
    have h3 := h.2.2
    split at h3
    · exact Or.inl (wAt_tb h3)
    · exact Or.inr (nAt_in h3)
theorem fieldD_inv {T k : Nat} {d : String} {C : String} {F : u_T} {N : Nat} (hw : wcl[T]? = some (C, F, N)) (h : fieldD T k d = true) : (F k).2.2.1 = d ∧ (F k).2.2.2 = false := by
  unfold fieldD at h
  rw [hw] at h
  simpa using h
theorem arrV_ext {cA : ClassId} {n : Nat} {f g : Nat → Value} (h : ∀ j, j < n → f j = g j) : arrV cA n f = arrV cA n g := by
  have e : (fun j : Fin n => f j.val) = (fun j : Fin n => g j.val) := funext (fun j => h j.val j.isLt)
  unfold arrV
  rw [e]
section WM
variable {p : Program} {l : Launch} {e : Env} {R : Room} {s : State} {m : MethodId} {args : Array Value} {below : List Frame} {meth : Method} {c : Code} {H : Heap} {locs : List Loc} {cells slots : Nat} {Q : State → Prop} {cc : ByteArray}
variable {ad : Nat → Nat → Nat} {pc : Nat} {Ls : Array Slot} {i : Instr} {own : String} {D : va_G} {A : Nat → Prop} {cI cO : ClassId} {L : Nat} {xs : Nat → Int32} {σ σ' : St} {stk stk' : List IV} {ex : List Nat}
theorem w_getf {j T k z q pz : Nat} {rest : List Value} {v : Value} (hx : p.tables.exec = Jvm.exec) (hb : c.code = cc) (hown : s.vm.findClass own = some m.cls) (hts : ∀ w ∈ TB, w.before args s = true) (hK : va_K D wcl (wtys cI cO) s) (hR : RO ad A L xs s s.heap) (hW : HW ad cI cO D A L xs σ H)
    (hd : decode cc pc = .ok (.getfield j, 3)) (hf : fieldB own j T k z pz = true) (hc : (T, q) ∈ wcells) (hv : fv ad σ T q k = v)
    (kk : W p l e R s m args below meth c H locs cells slots Q (F0 m (pc + 3) Ls (v :: rest))) : W p l e R s m args below meth c H locs cells slots Q (F0 m pc Ls (.ref (ad T q) :: rest)) := by
  obtain ⟨C, F, N, hw, hk, hC, hl⟩ := fieldB_inv hf
  obtain ⟨hin, ⟨ty, hty⟩, hnm, hN, h8⟩ := wcl_ok hw
  obtain ⟨i, hi1, hi2⟩ := wld_get (ad := ad) (cI := cI) (cO := cO) (σ := σ) hc
  rw [pic_obj h8] at hi2
  have hvv : ((List.range (nF T)).map (fv ad σ T q))[k]? = some v := by
    rw [List.getElem?_map, List.getElem?_range (by omega), Option.map_some, hv]
  rcases hl with hl | hl
  · exact va_get hx hb hts hin hown hK hW.1 i hi2 hw k hk (hts _ hl) (fun x h => by rw [hC] at h; exact h) hvv hd kk
  · exact va_getN hx hb hts hin hown hK hW.1 i hi2 hw k hk (va_Nw.use rfl (hR.2.2.2 _ hl)) (fun x h => by rw [hC] at h; exact h) hvv hd kk
theorem w_putf {j T k z q pz : Nat} {rest : List Value} {v : Value} {d : String} {ty0 : FieldType} (hx : p.tables.exec = Jvm.exec) (hb : c.code = cc) (hown : s.vm.findClass own = some m.cls) (hts : ∀ w ∈ TB, w.before args s = true) (hK : va_K D wcl (wtys cI cO) s) (hR : RO ad A L xs s s.heap) (hS : va_S A s.heap H locs) (hW : HW ad cI cO D A L xs σ H)
    (hd : decode cc pc = .ok (.putfield j, 3)) (hf : fieldB own j T k z pz = true) (hfd : fieldD T k d = true) (hpd : parseFieldDescriptor d = some ty0) (hn : narrow ty0 v = v) (hft : fits ty0 v = true) (hc : (T, q) ∈ wcells)
    (hset : ((List.range (nF T)).map (fv ad σ T q)).set k v = (List.range (nF T)).map (fv ad σ' T q)) (hoth : ∀ c ∈ wcells, c ≠ (T, q) → pic ad cI cO σ' c = pic ad cI cO σ c) (hsc : σ'.2.2 = σ.2.2)
    (kk : ∀ (H' : Heap) (locs' : List Loc), HW ad cI cO D A L xs σ' H' → va_S A s.heap H' locs' → W p l e R s m args below meth c H' locs' cells slots Q (F0 m (pc + 3) Ls rest)) : W p l e R s m args below meth c H locs cells slots Q (F0 m pc Ls (v :: .ref (ad T q) :: rest)) := by
  obtain ⟨C, F, N, hw, hk, hC, hl⟩ := fieldB_inv hf
  obtain ⟨hfd1, hfd2⟩ := fieldD_inv hw hfd
  obtain ⟨hin, ⟨ty, hty⟩, hnm, hN, h8⟩ := wcl_ok hw
  obtain ⟨i, hi1, hi2⟩ := wld_get (ad := ad) (cI := cI) (cO := cO) (σ := σ) hc
  have e1 := wld_set (ad := ad) (cI := cI) (cO := cO) (σ := σ) (σ' := σ') hi1 hoth
  rw [pic_obj h8, ← hset] at e1
  rw [pic_obj h8] at hi2
  have hkl : k < ((List.range (nF T)).map (fv ad σ T q)).length := by rw [List.length_map, List.length_range]; omega
  have go : ∀ (H1 : Heap) (locs1 : List Loc), va_P D wcl ((wld ad cI cO σ).set i (ad T q, .inr (T, ((List.range (nF T)).map (fv ad σ T q)).set k v))) H1 → va_D A ((wld ad cI cO σ).set i (ad T q, .inr (T, ((List.range (nF T)).map (fv ad σ T q)).set k v))) → va_S A s.heap H1 locs1 → W p l e R s m args below meth c H1 locs1 cells slots Q (F0 m (pc + 3) Ls rest) := by
    intro H1 locs1 a1 a2 a3
    rw [e1] at a1 a2
    refine kk H1 locs1 ⟨a1, a2, ?_, ?_⟩ a3
    · show σ'.2.2.1 = L
      rw [hsc]; exact hW.2.2.1
    · show σ'.2.2.2 = xs
      rw [hsc]; exact hW.2.2.2
  rcases hl with hl | hl
  · exact va_put hx hb hts hin ty hty hnm hown hK hW.1 hW.2.1 hS i hi2 hw k hk (hts _ hl) (fun x h => by rw [hC] at h; exact h) hfd2 (by rw [hfd1]; exact hpd) hn hft hkl hd go
  · exact va_putN hx hb hts hin ty hty hnm hown hK hW.1 hW.2.1 hS i hi2 hw k hk (va_Nw.use rfl (hR.2.2.2 _ hl)) (fun x h => by rw [hC] at h; exact h) hfd2 (by rw [hfd1]; exact hpd) hn hft hkl hd go
end WM
end
section
theorem getB_0 {own : String} {j T k : Nat} {tl : List Nat} (h : getB own j (0 :: T :: k :: tl) = true) : ∃ z p, fieldB own j T k z p = true ∧ (fkd T k).1 = 0 := by
  match tl, h with
  | [z, p], h => simp only [getB, Bool.and_eq_true, decide_eq_true_eq] at h; exact ⟨z, p, h.1, h.2⟩
  | [], h => simp [getB] at h
  | [_], h => simp [getB] at h
  | _ :: _ :: _ :: _, h => simp [getB] at h
theorem getB_1 {own : String} {j T k a b T' m : Nat} {tl : List Nat} (h : getB own j (1 :: T :: k :: a :: b :: T' :: m :: tl) = true) : ∃ z p, fieldB own j T k z p = true ∧ fkd T k = (1, T', m) := by
  match tl, h with
  | [], h => simp only [getB, Bool.and_eq_true, decide_eq_true_eq] at h; exact ⟨a, b, h.1, h.2⟩
  | _ :: _, h => simp [getB] at h
theorem getB_2 {own : String} {j T : Nat} {tl : List Nat} (h : getB own j (2 :: T :: tl) = true) : ∃ k z p, fieldB own j T k z p = true ∧ (fkd T k).1 = 2 := by
  match tl, h with
  | [k, z, p], h => simp only [getB, Bool.and_eq_true, decide_eq_true_eq] at h; exact ⟨k, z, p, h.1, h.2⟩
  | [], h => simp [getB] at h
  | [_], h => simp [getB] at h
  | [_, _], h => simp [getB] at h
  | _ :: _ :: _ :: _ :: _, h => simp [getB] at h
theorem getB_5a {own : String} {j : Nat} {tl : List Nat} (h : getB own j (5 :: 0 :: tl) = true) : (Jvm.Cond.fieldLink own j "java/lang/String" "value" "[B") ∈ TB := by
  match tl, h with
  | [63, p], h => exact wAt_tb (show wAt p _ = true from h)
  | [], h => simp [getB] at h
  | [_], h => simp [getB] at h
  | a :: b :: [], h =>
    by_cases e : a = 63
    · subst e; exact wAt_tb (show wAt b _ = true from h)
    · simp [getB, e] at h
  | _ :: _ :: _ :: _, h => simp [getB] at h
theorem getB_5b {own : String} {j : Nat} {tl : List Nat} (h : getB own j (5 :: 1 :: tl) = true) : (Jvm.Cond.fieldLink own j "java/lang/String" "coder" "B") ∈ TB := by
  match tl, h with
  | [], h => simp [getB] at h
  | [_], h => simp [getB] at h
  | a :: b :: [], h =>
    by_cases e : a = 0
    · subst e; exact wAt_tb (show wAt b _ = true from h)
    · simp [getB, e] at h
  | _ :: _ :: _ :: _, h => simp [getB] at h
theorem putB_0 {own : String} {j T k : Nat} {tl : List Nat} (h : putB own j (0 :: T :: k :: tl) = true) : ∃ z p, fieldB own j T k z p = true ∧ (fkd T k).1 = 0 ∧ fieldD T k "I" = true := by
  match tl, h with
  | [z, p], h => simp only [putB, Bool.and_eq_true, decide_eq_true_eq] at h; exact ⟨z, p, h.1, h.2.1, h.2.2⟩
  | [], h => simp [putB] at h
  | [_], h => simp [putB] at h
  | _ :: _ :: _ :: _, h => simp [putB] at h
theorem putB_3 {own : String} {j T k : Nat} {tl : List Nat} (h : putB own j (3 :: T :: k :: tl) = true) : ∃ z p, fieldB own j T k z p = true ∧ (fkd T k).1 = 0 ∧ fieldD T k "Z" = true := by
  match tl, h with
  | [z, p], h => simp only [putB, Bool.and_eq_true, decide_eq_true_eq] at h; exact ⟨z, p, h.1, h.2.1, h.2.2⟩
  | [], h => simp [putB] at h
  | [_], h => simp [putB] at h
  | _ :: _ :: _ :: _, h => simp [putB] at h
theorem putB_2 {own : String} {j T : Nat} {tl : List Nat} (h : putB own j (2 :: T :: tl) = true) : ∃ k z p, fieldB own j T k z p = true ∧ (fkd T k).1 = 2 ∧ fieldD T k "J" = true := by
  match tl, h with
  | [k, z, p], h => simp only [putB, Bool.and_eq_true, decide_eq_true_eq] at h; exact ⟨k, z, p, h.1, h.2.1, h.2.2⟩
  | [], h => simp [putB] at h
  | [_], h => simp [putB] at h
  | [_, _], h => simp [putB] at h
  | _ :: _ :: _ :: _ :: _, h => simp [putB] at h
theorem gstB_0 {own : String} {j v : Nat} {tl : List Nat} (h : gstB own j (0 :: v :: tl) = true) : v = 1 ∧ (Jvm.Cond.fieldLink own j "java/lang/String" "COMPACT_STRINGS" "Z") ∈ TB := by
  match tl, h with
  | [], h => simp [gstB] at h
  | [_], h => simp [gstB] at h
  | a :: b :: [], h =>
    by_cases e : v = 1
    · by_cases e2 : a = 0
      · subst e; subst e2; exact ⟨rfl, wAt_tb (show wAt b _ = true from h)⟩
      · simp [gstB, e2] at h
    · simp [gstB, e] at h
  | _ :: _ :: _ :: _, h => simp [gstB] at h
theorem gstB_1 {own : String} {j T : Nat} {tl : List Nat} (h : gstB own j (1 :: T :: tl) = true) : (T = 60 ∨ T = 61) ∧ ((Jvm.Cond.fieldLink own j RX6 (stN T) "[I") ∈ TB ∨ (Jvm.Cond.fieldLinkNest own j RX6 (stN T) "[I" RX6) ∈ nestWs) := by
  match tl, h with
  | [], h => simp [gstB] at h
  | [_], h => simp [gstB] at h
  | z :: p :: [], h =>
    simp only [gstB, Bool.and_eq_true, Bool.or_eq_true, decide_eq_true_eq] at h
    refine ⟨h.1, ?_⟩
    have h2 := h.2
    split at h2
    · exact Or.inl (wAt_tb h2)
    · exact Or.inr (nAt_in h2)
  | _ :: _ :: _ :: _, h => simp [gstB] at h
theorem ldcB_0 {own : String} {j v : Nat} {tl : List Nat} (h : ldcB own j (0 :: v :: tl) = true) : (Jvm.Cond.constant own j (Int32.ofNat v)) ∈ TB := by
  match tl, h with
  | [], h => simp [ldcB] at h
  | p :: [], h => exact wAt_tb (show wAt p _ = true from h)
  | _ :: _ :: _, h => simp [ldcB] at h
theorem ldcB_1 {own : String} {j T : Nat} {tl : List Nat} (h : ldcB own j (1 :: T :: tl) = true) : T = 62 ∧ own = RX2 ∧ j = 60 := by
  match tl, h with
  | [], h => simp [ldcB] at h
  | p :: [], h =>
    by_cases e : T = 62
    · subst e
      simp only [ldcB, Bool.and_eq_true, decide_eq_true_eq] at h
      exact ⟨rfl, h.1, h.2⟩
    · simp [ldcB, e] at h
  | _ :: _ :: _, h => simp [ldcB] at h
theorem ld2B_0 {own : String} {j v : Nat} {tl : List Nat} (h : ld2B own j (v :: tl) = true) : (Jvm.Cond.constantLong own j (Int64.ofNat v)) ∈ TB := by
  match tl, h with
  | [], h => simp [ld2B] at h
  | p :: [], h => exact wAt_tb (show wAt p _ = true from h)
  | _ :: _ :: _, h => simp [ld2B] at h
theorem hash_k : ∀ k, k < 43 → (fkd 7 k).1 = 2 → k = 42 := by decide +kernel
theorem beq_e {a b : Nat} (h : Nat.beq a b = true) : a = b := Nat.eq_of_beq_eq_true h
section WF
variable {p : Program} {l : Launch} {e : Env} {R : Room} {s : State} {m : MethodId} {args : Array Value} {below : List Frame} {meth : Method} {c : Code} {H : Heap} {locs : List Loc} {cells slots : Nat} {Q : State → Prop} {cc : ByteArray}
variable {ad : Nat → Nat → Nat} {pc : Nat} {Ls : Array Slot} {i : Instr} {own : String} {D : va_G} {A : Nat → Prop} {cI cO : ClassId} {L : Nat} {xs : Nat → Int32} {σ σ' : St} {stk stk' : List IV} {ex : List Nat}
theorem w_puti {j T k z q pz : Nat} {rest : List Value} {x : Int32} {d : String} {ty0 : FieldType} (hx : p.tables.exec = Jvm.exec) (hb : c.code = cc) (hown : s.vm.findClass own = some m.cls) (hts : ∀ w ∈ TB, w.before args s = true) (hK : va_K D wcl (wtys cI cO) s) (hR : RO ad A L xs s s.heap) (hS : va_S A s.heap H locs) (hW : HW ad cI cO D A L xs σ H)
    (hd : decode cc pc = .ok (.putfield j, 3)) (hf : fieldB own j T k z pz = true) (hk0 : (fkd T k).1 = 0) (hfd : fieldD T k d = true) (hpd : parseFieldDescriptor d = some ty0) (hn : narrow ty0 (.int x) = .int x) (hft : fits ty0 (.int x) = true) (hc : (T, q) ∈ wcells)
    (kk : ∀ (H' : Heap) (locs' : List Loc), HW ad cI cO D A L xs (se σ T q k x) H' → va_S A s.heap H' locs' → W p l e R s m args below meth c H' locs' cells slots Q (F0 m (pc + 3) Ls rest)) : W p l e R s m args below meth c H locs cells slots Q (F0 m pc Ls (.int x :: .ref (ad T q) :: rest)) := by
  refine w_putf hx hb hown hts hK hR hS hW hd hf hfd hpd hn hft hc (range_set (fun _ => ?_) (fun i _ hi => fv_upd hi)) (fun c _ hc => pic_sw hc) rfl kk
  rw [fv_int hk0, ar_se, pk_us]
theorem w_fld {rt : Option FieldType} (hx : p.tables.exec = Jvm.exec) (hb : c.code = cc) (hown : s.vm.findClass own = some m.cls) (hts : ∀ w ∈ TB, w.before args s = true) (hK : va_K D wcl (wtys cI cO) s) (hR : RO ad A L xs s s.heap) (hS : va_S A s.heap H locs) (hW : HW ad cI cO D A L xs σ H)
    (hd : decode cc pc = .ok (i, ilen i)) (hk : lnk own rt pc i ex = true) (hv : ∀ v ∈ stk, okV v) (ha : fld i ex stk σ = some (stk', σ'))
    (kk : ∀ (H' : Heap) (locs' : List Loc), HW ad cI cO D A L xs σ' H' → va_S A s.heap H' locs' → W p l e R s m args below meth c H' locs' cells slots Q (F0 m (pc + ilen i) Ls (stk'.map (mp ad)))) : W p l e R s m args below meth c H locs cells slots Q (F0 m pc Ls (stk.map (mp ad))) := by
  cases i with
  | getfield j =>
    replace hk : getB own j ex = true := hk
    simp only [fld] at ha
    split at ha
    · rename_i T k tl t q r
      cases hb' : Nat.beq t T with
      | false => rw [hb'] at ha; cases ha
      | true =>
        rw [hb'] at ha
        have e0 := beq_e hb'
        subst e0
        cases ha
        obtain ⟨z, pz, hf, h0⟩ := getB_0 hk
        obtain ⟨C, F, N, hw, -⟩ := fieldB_inv hf
        have hc : (t, q) ∈ wcells := okR_w (hv _ List.mem_cons_self) (by have := (wcl_ok hw).2.2.2.2; omega)
        exact w_getf hx hb hown hts hK hR hW hd hf hc (fv_int h0) (kk H locs hW hS)
    · rename_i T k a b T' zz tl t q r
      cases hb' : Nat.beq t T with
      | false => rw [hb'] at ha; cases ha
      | true =>
        rw [hb'] at ha
        have e0 := beq_e hb'
        subst e0
        cases ha
        obtain ⟨z, pz, hf, h0⟩ := getB_1 hk
        obtain ⟨C, F, N, hw, -⟩ := fieldB_inv hf
        have hc : (t, q) ∈ wcells := okR_w (hv _ List.mem_cons_self) (by have := (wcl_ok hw).2.2.2.2; omega)
        exact w_getf hx hb hown hts hK hR hW hd hf hc (fv_ref h0) (kk H locs hW hS)
    · rename_i T tl t q r
      cases hb' : Nat.beq t T with
      | false => rw [hb'] at ha; cases ha
      | true =>
        rw [hb'] at ha
        have e0 := beq_e hb'
        subst e0
        cases ha
        obtain ⟨k, z, pz, hf, h0⟩ := getB_2 hk
        obtain ⟨C, F, N, hw, -⟩ := fieldB_inv hf
        have hc : (t, q) ∈ wcells := okR_w (hv _ List.mem_cons_self) (by have := (wcl_ok hw).2.2.2.2; omega)
        exact w_getf hx hb hown hts hK hR hW hd hf hc (fv_long h0) (kk H locs hW hS)
    · rename_i tl q r
      cases ha
      have hq := (okR_0 (hv _ List.mem_cons_self) (by decide)).1
      subst hq
      exact vk_getf hx hb hR.2.1.2.2.2.2.1 hS hown (hts _ (getB_5a hk)) (fun _ h => h) hd (kk H locs hW hS)
    · rename_i tl q r
      cases ha
      have hq := (okR_0 (hv _ List.mem_cons_self) (by decide)).1
      subst hq
      exact vk_getf hx hb hR.2.1.2.2.2.1 hS hown (hts _ (getB_5b hk)) (fun _ h => h) hd (kk H locs hW hS)
    · cases ha
  | putfield j =>
    replace hk : putB own j ex = true := hk
    simp only [fld] at ha
    split at ha
    · rename_i T k tl x t q r
      cases hb' : Nat.beq t T with
      | false => rw [hb'] at ha; cases ha
      | true =>
        rw [hb'] at ha
        have e0 := beq_e hb'
        subst e0
        cases ha
        obtain ⟨z, pz, hf, h0, h1⟩ := putB_0 hk
        obtain ⟨C, F, N, hw, -⟩ := fieldB_inv hf
        have hc : (t, q) ∈ wcells := okR_w (hv _ (List.mem_cons_of_mem _ List.mem_cons_self)) (by have := (wcl_ok hw).2.2.2.2; omega)
        exact w_puti hx hb hown hts hK hR hS hW hd hf h0 h1 (ty0 := .int) (by decide +kernel) rfl rfl hc kk
    · rename_i T tl x t q r
      cases hb' : Nat.beq t T with
      | false => rw [hb'] at ha; cases ha
      | true =>
        rw [hb'] at ha
        have e0 := beq_e hb'
        subst e0
        cases ha
        obtain ⟨k, z, pz, hf, h0, h1⟩ := putB_2 hk
        obtain ⟨C, F, N, hw, hkN, -⟩ := fieldB_inv hf
        obtain ⟨-, -, -, hN, h8⟩ := wcl_ok hw
        have hc : (t, q) ∈ wcells := okR_w (hv _ (List.mem_cons_of_mem _ List.mem_cons_self)) (by omega)
        have h43 := nF_le t h8
        have h7 := fkd_long t h8 k (by omega) h0
        have hq := only7 _ hc h7
        simp only at hq
        subst h7
        subst hq
        have hk42 := hash_k k (by omega) h0
        refine w_putf (σ' := sh σ x) (v := .long x) hx hb hown hts hK hR hS hW hd hf h1 (ty0 := .long) (by decide +kernel) rfl rfl hc (range_set (fun _ => by rw [fv_long h0]; rfl) (fun i hi hne => ?_)) (fun c hc hne => pic_sh hc hne) rfl kk
        have hi2 : (fkd 7 i).1 ≠ 2 := fun z => hne ((hash_k i (by have := nF_le 7 (by decide); omega) z).trans hk42.symm)
        unfold fv
        rw [ar_sh]
        revert hi2
        cases fkd 7 i with
        | mk a b =>
          intro hi2
          match a, hi2 with
          | 0, _ => rfl
          | 1, _ => rfl
          | 2, hi2 => exact absurd rfl hi2
          | n + 3, _ => rfl
    · rename_i T k tl x t q r
      cases hb' : Nat.beq t T with
      | false => rw [hb'] at ha; cases ha
      | true =>
        rw [hb'] at ha
        have e0 := beq_e hb'
        subst e0
        simp only [cond_true] at ha
        split at ha
        · rename_i h01
          cases ha
          obtain ⟨z, pz, hf, h0, h1⟩ := putB_3 hk
          obtain ⟨C, F, N, hw, -⟩ := fieldB_inv hf
          have hc : (t, q) ∈ wcells := okR_w (hv _ (List.mem_cons_of_mem _ List.mem_cons_self)) (by have := (wcl_ok hw).2.2.2.2; omega)
          exact w_puti hx hb hown hts hK hR hS hW hd hf h0 h1 (ty0 := .boolean) (by decide +kernel) (by rcases h01 with h | h <;> (subst h; decide +kernel)) (by rcases h01 with h | h <;> (subst h; decide +kernel)) hc kk
        · cases ha
    · cases ha
  | getstatic j =>
    replace hk : gstB own j ex = true := hk
    simp only [fld] at ha
    split at ha
    · cases ha
      obtain ⟨e1, e2⟩ := gstB_0 hk
      subst e1
      exact va_gets hx hb hR.2.1.1 hS hown (hts _ e2) (fun _ h => h) hd (kk H locs hW hS)
    · rename_i T tl
      cases ha
      obtain ⟨e1, e2⟩ := gstB_1 hk
      have hZ : va_Z RX6 (stN T) "[I" (.ref (ad T 0)) A s s.heap := by
        rcases e1 with e1 | e1
        · subst e1; exact hR.1.1
        · subst e1; exact hR.1.2.2.1
      rcases e2 with e2 | e2
      · exact va_gets hx hb hZ hS hown (hts _ e2) (fun _ h => h) hd (kk H locs hW hS)
      · exact va_getsN hx hb hZ hS hown (va_Nw.use rfl (hR.2.2.2 _ e2)) (fun _ h => h) hd (kk H locs hW hS)
    · cases ha
  | ldc j =>
    replace hk : ldcB own j ex = true := hk
    simp only [fld] at ha
    split at ha
    · cases ha
      exact lv_ldc hx hb hown (hts _ (ldcB_0 hk)) hd (kk H locs hW hS)
    · cases ha
      obtain ⟨e1, e2, e3⟩ := ldcB_1 hk
      subst e1
      subst e2
      subst e3
      exact va_ldcS hx hb hown hR.2.1.2.1 hd (kk H locs hW hS)
    · cases ha
  | ldc_w j =>
    replace hk : (ldcB own j ex && decide (ex.length = 3) && decide (ex[0]? = some 0)) = true := hk
    simp only [Bool.and_eq_true] at hk
    simp only [fld] at ha
    split at ha
    · cases ha
      exact lv_ldcw hx hb hown (hts _ (ldcB_0 hk.1.1)) hd (kk H locs hW hS)
    · cases ha
  | ldc2_w j =>
    replace hk : ld2B own j ex = true := hk
    simp only [fld] at ha
    split at ha
    · cases ha
      exact lv_ldc2 hx hb hown (hts _ (ld2B_0 hk)) hd (kk H locs hW hS)
    · cases ha
  | _ => simp [fld] at ha
end WF
end
section
theorem oob_in {i : Int32} {n : Nat} (h : ¬ oob i n = true) : vp_in i n := by
  intro z
  apply h
  unfold oob
  rcases z with z | z <;> simp [z]
theorem lenT_lt {t : Nat} (h : 0 < lenT t) : t < 60 := by
  rcases Nat.lt_or_ge t 60 with z | z
  · exact z
  · exfalso
    obtain ⟨k, rfl⟩ : ∃ k, t = k + 60 := ⟨t - 60, by omega⟩
    simp [lenT] at h
theorem vp_in_pos {i : Int32} {n : Nat} (h : vp_in i n) : i.toNatClampNeg < n := Nat.not_le.mp fun q => h (Or.inr q)
section WA
variable {p : Program} {l : Launch} {e : Env} {R : Room} {s : State} {m : MethodId} {args : Array Value} {below : List Frame} {meth : Method} {c : Code} {H : Heap} {locs : List Loc} {cells slots : Nat} {Q : State → Prop} {cc : ByteArray}
variable {ad : Nat → Nat → Nat} {pc : Nat} {Ls : Array Slot} {i : Instr} {own : String} {D : va_G} {A : Nat → Prop} {cI cO : ClassId} {L : Nat} {xs : Nat → Int32} {σ σ' : St} {stk stk' : List IV} {ex : List Nat}
theorem w_rows {a T q : Nat} {j : Int32} {rest : List Value} (hT : (T = 23 ∧ a = 24) ∨ (T = 25 ∧ a = 26)) (hx : p.tables.exec = Jvm.exec) (hb : c.code = cc) (hK : va_K D wcl (wtys cI cO) s) (hW : HW ad cI cO D A L xs σ H) (hd : decode cc pc = .ok (.aaload, 1)) (hc : (T, q) ∈ wcells) (hin : vp_in j 6)
    (kk : W p l e R s m args below meth c H locs cells slots Q (F0 m (pc + 1) Ls (.ref (ad a j.toNatClampNeg) :: rest))) : W p l e R s m args below meth c H locs cells slots Q (F0 m pc Ls (.int j :: .ref (ad T q) :: rest)) := by
  obtain ⟨i0, hi1, hi2⟩ := wld_get (ad := ad) (cI := cI) (cO := cO) (σ := σ) hc
  have hlt := vp_in_pos hin
  have hp : pic ad cI cO σ (T, q) = .inl (cO, 6, .inr (.inr (.inr (.inr (rwR ad a))))) := by
    rcases hT with ⟨rfl, rfl⟩ | ⟨rfl, rfl⟩ <;> rfl
  rw [hp] at hi2
  have hv : va_rf (rwR ad a j.toNatClampNeg) = .ref (ad a j.toNatClampNeg) := by
    unfold rwR
    rw [if_pos hlt]
    rfl
  exact W.aald (v := .ref (ad a j.toNatClampNeg)) (ty := .array .int) hx hb (hW.1 i0 _ hi2) ((hK.2 1 _ rfl).1 6 (fun j => va_rf (rwR ad a j))) rfl (fun q => by cases q) (by show ¬ (j < 0 ∨ (arrV _ _ _).slots.size ≤ _); rw [arrV_size]; exact hin) (by show (arrV _ _ _).slots[_]? = _; rw [arrV_read _ _ hlt, hv]) rfl rfl hd kk
theorem w_arr (hx : p.tables.exec = Jvm.exec) (hb : c.code = cc) (hK : va_K D wcl (wtys cI cO) s) (hR : RO ad A L xs s s.heap) (hS : va_S A s.heap H locs) (hW : HW ad cI cO D A L xs σ H)
    (hd : decode cc pc = .ok (i, ilen i)) (hv : ∀ v ∈ stk, okV v) (ha : arr i stk σ = some (stk', σ'))
    (kk : ∀ (H' : Heap) (locs' : List Loc), HW ad cI cO D A L xs σ' H' → va_S A s.heap H' locs' → W p l e R s m args below meth c H' locs' cells slots Q (F0 m (pc + ilen i) Ls (stk'.map (mp ad)))) : W p l e R s m args below meth c H locs cells slots Q (F0 m pc Ls (stk.map (mp ad))) := by
  cases i with
  | iaload =>
    simp only [arr] at ha
    split at ha
    · rename_i j t q r
      split at ha
      · cases ha
      · rename_i hn
        cases ha
        have ho : ¬ oob j (lenS σ t) = true := fun z => hn (Or.inl z)
        have h63 : ¬ t = 63 := fun z => hn (Or.inr z)
        have hin := oob_in ho
        have hq := hv _ (List.mem_cons_of_mem _ List.mem_cons_self)
        have k0 := kk H locs hW hS
        rcases Nat.lt_or_ge t 60 with h60 | h60
        · have e1 : lenS σ t = lenT t := if_pos h60
          have e2 : rdA σ t q j.toNatClampNeg = ar σ t q j.toNatClampNeg := if_pos h60
          rw [e1] at hin
          rw [e2] at k0
          have hpos : 0 < lenT t := by have := vp_in_pos hin; omega
          obtain ⟨i0, hi1, hi2⟩ := wld_get (ad := ad) (cI := cI) (cO := cO) (σ := σ) (okR_w hq h60)
          rw [pic_arr hpos] at hi2
          exact va_iald hx hb hK hW.1 i0 0 hi2 rfl hin hd k0
        · obtain ⟨rfl, h65⟩ := okR_0 hq (by omega)
          have hc5 : t = 60 ∨ t = 61 ∨ t = 62 ∨ t = 64 := by omega
          rcases hc5 with rfl | rfl | rfl | rfl
          · exact va_ti hx hb hR.1.2.1 hS hin rfl hd k0
          · exact va_ti hx hb hR.1.2.2.2 hS hin rfl hd k0
          · exact absurd (vp_in_pos hin) (by show ¬ _ < 0; omega)
          · have e1 : lenS σ 64 = L := hW.2.2.1
            have e2 : rdA σ 64 0 j.toNatClampNeg = xs j.toNatClampNeg := congrFun hW.2.2.2 _
            rw [e1] at hin
            rw [e2] at k0
            exact va_sld hx hb hR.2.2.1.1 hR.2.2.1.2.1 hR.2.2.1.2.2 hS hin hd k0
    · cases ha
  | baload =>
    simp only [arr] at ha
    split at ha
    · rename_i j q r
      split at ha
      · cases ha
      · rename_i hn
        cases ha
        obtain ⟨rfl, -⟩ := okR_0 (hv _ (List.mem_cons_of_mem _ List.mem_cons_self)) (by decide)
        exact va_tb hx hb hR.2.1.2.2.2.2.2 hS (oob_in hn) rfl hd (kk H locs hW hS)
    · cases ha
  | iastore =>
    simp only [arr] at ha
    split at ha
    · rename_i x j t q r
      split at ha
      · cases ha
      · rename_i hn
        cases ha
        have hin := oob_in hn
        have hpos : 0 < lenT t := by have := vp_in_pos hin; omega
        have hq := okR_w (hv _ (List.mem_cons_of_mem _ (List.mem_cons_of_mem _ List.mem_cons_self))) (lenT_lt hpos)
        obtain ⟨i0, hi1, hi2⟩ := wld_get (ad := ad) (cI := cI) (cO := cO) (σ := σ) hq
        rw [pic_arr hpos] at hi2
        have e1 := wld_set (ad := ad) (cI := cI) (cO := cO) (σ := σ) (σ' := se σ t q j.toNatClampNeg x) hi1 (fun c _ hc => pic_sw hc)
        rw [pic_arr hpos, ar_se] at e1
        refine va_iast hx hb hK hW.1 hW.2.1 hS i0 0 hi2 rfl hin hd (fun H1 locs1 a1 a2 a3 => ?_)
        rw [e1] at a1 a2
        exact kk H1 locs1 ⟨a1, a2, hW.2.2.1, hW.2.2.2⟩ a3
    · cases ha
  | aaload =>
    simp only [arr] at ha
    split at ha
    · rename_i j q r
      split at ha
      · cases ha
      · rename_i hn
        cases ha
        exact w_rows (Or.inl ⟨rfl, rfl⟩) hx hb hK hW hd (okR_w (hv _ (List.mem_cons_of_mem _ List.mem_cons_self)) (by decide)) (oob_in hn) (kk H locs hW hS)
    · rename_i j q r
      split at ha
      · cases ha
      · rename_i hn
        cases ha
        exact w_rows (Or.inr ⟨rfl, rfl⟩) hx hb hK hW hd (okR_w (hv _ (List.mem_cons_of_mem _ List.mem_cons_self)) (by decide)) (oob_in hn) (kk H locs hW hS)
    · cases ha
  | arraylength =>
    simp only [arr] at ha
    split at ha
    · rename_i t q r
      cases hi : isA t with
      | false => rw [hi] at ha; cases ha
      | true =>
        rw [hi] at ha
        cases ha
        have hq := hv _ List.mem_cons_self
        have k0 := kk H locs hW hS
        rcases Nat.lt_or_ge t 60 with h60 | h60
        · have e1 : lenS σ t = lenT t := if_pos h60
          rw [e1] at k0
          have hpos : 0 < lenT t := by
            rcases Nat.eq_zero_or_pos (lenT t) with z | z
            · exfalso
              simp only [isA, z, Bool.or_eq_true] at hi
              rcases hi with hi | hi | hi | hi | hi
              · cases hi
              · have := beq_e hi; omega
              · have := beq_e hi; omega
              · have := beq_e hi; omega
              · have := beq_e hi; omega
            · exact z
          obtain ⟨i0, hi1, hi2⟩ := wld_get (ad := ad) (cI := cI) (cO := cO) (σ := σ) (okR_w hq h60)
          rw [pic_arr hpos] at hi2
          exact va_alen hx hb hK hW.1 i0 0 hi2 (ty := .int) rfl rfl hd k0
        · obtain ⟨rfl, h65⟩ := okR_0 hq (by omega)
          have hc5 : t = 60 ∨ t = 61 ∨ t = 62 ∨ t = 63 ∨ t = 64 := by omega
          rcases hc5 with rfl | rfl | rfl | rfl | rfl
          · exact va_tlen hx hb hR.1.2.1 hS rfl hd k0
          · exact va_tlen hx hb hR.1.2.2.2 hS rfl hd k0
          · exact absurd hi (by decide)
          · exact va_tlen hx hb hR.2.1.2.2.2.2.2 hS rfl hd k0
          · have e1 : lenS σ 64 = L := hW.2.2.1
            rw [e1] at k0
            exact va_slen hx hb hR.2.2.1.1 hR.2.2.1.2.1 hR.2.2.1.2.2 hS hd k0
    · cases ha
  | _ => simp [arr] at ha
theorem cat_sum {ad : Nat → Nat → Nat} : ∀ r : List IV, ((r.map (mp ad)).map fun v => v.category).sum ≤ 2 * r.length
  | [] => by simp
  | v :: r => by
    have := cat_sum (ad := ad) r
    have h2 : (mp ad v).category ≤ 2 := by rcases lv_cat (mp ad v) with h | h <;> omega
    simp only [List.map_cons, List.sum_cons, List.length_cons]
    omega
theorem wmax1 : (Jvm.Cond.static Lib.Math.max.name) ∈ TB := List.mem_filter.mpr ⟨by decide +kernel, by decide +kernel⟩
theorem wmax2 : (Jvm.Cond.code Lib.Math.max.name Lib.Math.max.code 2 (some .int)) ∈ TB := List.mem_filter.mpr ⟨by decide +kernel, by decide +kernel⟩
theorem wmin1 : (Jvm.Cond.static Lib.Math.min.name) ∈ TB := List.mem_filter.mpr ⟨by decide +kernel, by decide +kernel⟩
theorem wmin2 : (Jvm.Cond.code Lib.Math.min.name Lib.Math.min.code 2 (some .int)) ∈ TB := List.mem_filter.mpr ⟨by decide +kernel, by decide +kernel⟩
theorem wmath : (Jvm.Cond.initialized "java/lang/Math") ∈ TB := List.mem_filter.mpr ⟨by decide +kernel, by decide +kernel⟩
theorem wcop1 : (Jvm.Cond.native arraycopyName) ∈ TB := List.mem_filter.mpr ⟨by decide +kernel, by decide +kernel⟩
theorem wcop2 : (Jvm.Cond.static arraycopyName) ∈ TB := List.mem_filter.mpr ⟨by decide +kernel, by decide +kernel⟩
theorem wcop3 : (Jvm.Cond.initialized "java/lang/System") ∈ TB := List.mem_filter.mpr ⟨by decide +kernel, by decide +kernel⟩
theorem cop_words : nativeFrameWords "java/lang/System" "arraycopy" 5 ≤ 60 := by decide +kernel
theorem w_lib {rt : Option FieldType} (hx : p.tables.exec = Jvm.exec) (hb : c.code = cc) (hml : c.maxLocals = Ls.size) (hown : s.vm.findClass own = some m.cls) (hts : ∀ w ∈ TB, w.before args s = true) (hK : va_K D wcl (wtys cI cO) s) (hS : va_S A s.heap H locs) (hW : HW ad cI cO D A L xs σ H)
    (hRm : 1 ≤ R.frames ∧ 100 ≤ R.locals ∧ cells ≤ R.cells ∧ slots ≤ R.slots)
    (hd : decode cc pc = .ok (i, ilen i)) (hk : lnk own rt pc i ex = true) (hv : ∀ v ∈ stk, okV v) (ha : lib i ex stk σ = some (stk', σ'))
    (kk : ∀ (H' : Heap) (locs' : List Loc), HW ad cI cO D A L xs σ' H' → va_S A s.heap H' locs' → W p l e R s m args below meth c H' locs' cells slots Q (F0 m (pc + ilen i) Ls (stk'.map (mp ad)))) : W p l e R s m args below meth c H locs cells slots Q (F0 m pc Ls (stk.map (mp ad))) := by
  obtain ⟨hr1, hr2, hr3, hr4⟩ := hRm
  cases i with
  | invokestatic j =>
    replace hk : stcB own j ex = true := hk
    simp only [lib] at ha
    split at ha
    · rename_i tl
      split at ha
      · rename_i y x r
        cases hl : Nat.ble r.length 4 with
        | false => rw [hl] at ha; cases ha
        | true =>
          rw [hl] at ha
          cases ha
          have hl4 := Nat.ble_eq.mp hl
          have hw : (Jvm.Cond.methodLink own j Lib.Math.max.name) ∈ TB := by
            match tl, hk with
            | [pz], hk => exact wAt_tb (show wAt pz _ = true from hk)
            | [], hk => simp [stcB] at hk
            | _ :: _ :: _, hk => simp [stcB] at hk
          exact va_mmax hx hb hml hown (hts _ hw) (hts _ wmax1) (hts _ wmath) (hts _ wmax2) hr1 (by have := cat_sum (ad := ad) r; omega) hr3 hr4 hd (kk H locs hW hS)
      · cases ha
    · rename_i tl
      split at ha
      · rename_i y x r
        cases hl : Nat.ble r.length 4 with
        | false => rw [hl] at ha; cases ha
        | true =>
          rw [hl] at ha
          cases ha
          have hl4 := Nat.ble_eq.mp hl
          have hw : (Jvm.Cond.methodLink own j Lib.Math.min.name) ∈ TB := by
            match tl, hk with
            | [pz], hk => exact wAt_tb (show wAt pz _ = true from hk)
            | [], hk => simp [stcB] at hk
            | _ :: _ :: _, hk => simp [stcB] at hk
          exact va_mmin hx hb hml hown (hts _ hw) (hts _ wmin1) (hts _ wmath) (hts _ wmin2) hr1 (by have := cat_sum (ad := ad) r; omega) hr3 hr4 hd (kk H locs hW hS)
      · cases ha
    · rename_i tl
      split at ha
      · rename_i n dp t2 q2 sp t1 q1 r
        split at ha
        · rename_i hc
          obtain ⟨rfl, rfl, rfl, hlen, hpos, hl4⟩ := hc
          cases ha
          have hw : (Jvm.Cond.methodLink own j arraycopyName) ∈ TB := by
            match tl, hk with
            | [pz], hk => exact wAt_tb (show wAt pz _ = true from hk)
            | [], hk => simp [stcB] at hk
            | _ :: _ :: _, hk => simp [stcB] at hk
          have hp1 : 0 < lenT t1 := by omega
          have hp2 : 0 < lenT t2 := by omega
          have hq1 := okR_w (hv (.inr (.inr (.inl (t1, q1)))) (by simp)) (lenT_lt hp1)
          have hq2 := okR_w (hv (.inr (.inr (.inl (t2, q2)))) (by simp)) (lenT_lt hp2)
          obtain ⟨i1, g1, g2⟩ := wld_get (ad := ad) (cI := cI) (cO := cO) (σ := σ) hq1
          obtain ⟨i2, f1, f2⟩ := wld_get (ad := ad) (cI := cI) (cO := cO) (σ := σ) hq2
          rw [pic_arr hp1] at g2
          rw [pic_arr hp2] at f2
          have h31 : lenT t1 < 2 ^ 31 := by
            have : ∀ t, t < 60 → lenT t < 2 ^ 31 := by decide +kernel
            exact this t1 (lenT_lt hp1)
          have ec : (nI (lenT t1)).toNatClampNeg = lenT t1 := nI_clamp h31
          have e1 := wld_set (ad := ad) (cI := cI) (cO := cO) (σ := σ) (σ' := sw σ t2 q2 (ar σ t1 q1)) f1 (fun c _ hc => pic_sw hc)
          refine va_copyi hx hb hml hown (hts _ hw) (hts _ wcop1) (hts _ wcop2) (hts _ wcop3) hK hW.1 hW.2.1 hS i1 i2 0 0 g2 f2 rfl rfl rfl (by decide) (by decide) (nI_pos h31) (by rw [ec]; show 0 + _ ≤ _; omega) (by rw [ec]; show 0 + _ ≤ _; omega) (fun _ _ => rfl) hr1 (by have := cat_sum (ad := ad) stk'; have := cop_words; omega) hd (fun H1 locs1 a1 a2 a3 => ?_)
          have hcell : ∀ H2 : Heap, va_P D wcl ((wld ad cI cO σ).set i2 (ad t2 q2, .inl (cI, lenT t2, .inl (va_cpy (ar σ t1 q1) (ar σ t2 q2) (0 : Int32).toNatClampNeg (0 : Int32).toNatClampNeg (nI (lenT t1)).toNatClampNeg)))) H2 → va_P D wcl (wld ad cI cO (sw σ t2 q2 (ar σ t1 q1))) H2 := by
            intro H2 hP k x hk
            rw [← e1] at hk
            have hlen2 : i2 < (wld ad cI cO σ).length := (List.getElem?_eq_some_iff.mp f2).1
            by_cases ek : k = i2
            · subst ek
              rw [List.getElem?_set_self hlen2] at hk
              cases hk
              have h3 := hP k _ (List.getElem?_set_self hlen2)
              rw [pic_arr hp2, ar_sw]
              show H2[ad t2 q2]? = some (vp_cell cI (lenT t2, .inl (ar σ t1 q1)))
              rw [show H2[ad t2 q2]? = some (vp_cell cI (lenT t2, .inl (va_cpy (ar σ t1 q1) (ar σ t2 q2) (0 : Int32).toNatClampNeg (0 : Int32).toNatClampNeg (nI (lenT t1)).toNatClampNeg))) from h3, vp_cell_i, vp_cell_i]
              refine congrArg some (arrV_ext (fun j hj => ?_))
              rw [ec]
              have : va_cpy (ar σ t1 q1) (ar σ t2 q2) (0 : Int32).toNatClampNeg (0 : Int32).toNatClampNeg (lenT t1) j = ar σ t1 q1 j := by
                have := pk_cpy_in (f := ar σ t1 q1) (g := ar σ t2 q2) (sp := 0) (dp := 0) (n := lenT t1) (j := j) (Nat.zero_le _) (by omega)
                rw [Nat.sub_zero, Nat.zero_add] at this
                exact this
              rw [this]
            · rw [List.getElem?_set_ne (Ne.symm ek)] at hk
              exact hP k x (by rw [List.getElem?_set_ne (Ne.symm ek)]; exact hk)
          have hcellD : va_D A (wld ad cI cO (sw σ t2 q2 (ar σ t1 q1))) := by
            have h4 := hW.2.1.set (e := pic ad cI cO (sw σ t2 q2 (ar σ t1 q1)) (t2, q2)) f2
            rw [e1] at h4
            exact h4
          exact kk H1 locs1 ⟨hcell H1 a1, hcellD, hW.2.2.1, hW.2.2.2⟩ a3
        · cases ha
      · cases ha
    · cases ha
  | _ => simp [lib] at ha
end WA
end
section
/-! A run of the reader is a run of the machine: calls, returns, and all together. -/
theorem okV_i {x : Int32} : okV (.inl x) := trivial
theorem okV_l {x : Int64} : okV (.inr (.inl x)) := trivial
theorem okV_n {x : Unit} : okV (.inr (.inr (.inr x))) := trivial
theorem ok_cons {v : IV} {l : List IV} (h1 : okV v) (h2 : ∀ x ∈ l, okV x) : ∀ x ∈ v :: l, okV x := fun x h => (List.mem_cons.mp h).elim (fun e => e ▸ h1) (h2 x)
theorem ok_tail {v : IV} {l : List IV} (h : ∀ x ∈ v :: l, okV x) : ∀ x ∈ l, okV x := fun x hx => h x (List.mem_cons_of_mem _ hx)
theorem ok_set {v : IV} {l : List IV} {i : Nat} (h1 : okV v) (h2 : ∀ x ∈ l, okV x) : ∀ x ∈ l.set i v, okV x := fun x h => (List.mem_or_eq_of_mem_set h).elim (h2 x) (fun e => e ▸ h1)
theorem alu_ok {i : Instr} {ls stk ls' stk' : List IV} (ha : alu i ls stk = some (ls', stk')) (h1 : ∀ x ∈ ls, okV x) (h2 : ∀ x ∈ stk, okV x) : (∀ x ∈ ls', okV x) ∧ ∀ x ∈ stk', okV x := by
  have fI : ∀ {k : Nat}, ldI ls stk k = some (ls', stk') → (∀ x ∈ ls', okV x) ∧ ∀ x ∈ stk', okV x := fun h => by
    obtain ⟨x, -, rfl, rfl⟩ := ldI_inv h
    exact ⟨h1, ok_cons okV_i h2⟩
  have fL : ∀ {k : Nat}, ldL ls stk k = some (ls', stk') → (∀ x ∈ ls', okV x) ∧ ∀ x ∈ stk', okV x := fun h => by
    obtain ⟨x, -, -, rfl, rfl⟩ := ldL_inv h
    exact ⟨h1, ok_cons okV_l h2⟩
  have fR : ∀ {k : Nat}, ldR ls stk k = some (ls', stk') → (∀ x ∈ ls', okV x) ∧ ∀ x ∈ stk', okV x := fun h => by
    obtain ⟨t, q, e1, rfl, rfl⟩ := ldR_inv h
    exact ⟨h1, ok_cons (h1 (.inr (.inr (.inl (t, q)))) (List.mem_of_getElem? e1)) h2⟩
  have sI : ∀ {k : Nat}, stI ls stk k = some (ls', stk') → (∀ x ∈ ls', okV x) ∧ ∀ x ∈ stk', okV x := fun h => by
    obtain ⟨x, r, rfl, -, rfl, rfl⟩ := stI_inv h
    exact ⟨ok_set okV_i h1, ok_tail h2⟩
  have sL : ∀ {k : Nat}, stL ls stk k = some (ls', stk') → (∀ x ∈ ls', okV x) ∧ ∀ x ∈ stk', okV x := fun h => by
    obtain ⟨x, r, rfl, -, rfl, rfl⟩ := stL_inv h
    exact ⟨ok_set okV_n (ok_set okV_l h1), ok_tail h2⟩
  have sR : ∀ {k : Nat}, stR ls stk k = some (ls', stk') → (∀ x ∈ ls', okV x) ∧ ∀ x ∈ stk', okV x := fun h => by
    obtain ⟨t, q, r, rfl, -, rfl, rfl⟩ := stR_inv h
    exact ⟨ok_set (h2 _ List.mem_cons_self) h1, ok_tail h2⟩
  have o2 : ∀ {f : Int32 → Int32 → Int32}, op2 f ls stk = some (ls', stk') → (∀ x ∈ ls', okV x) ∧ ∀ x ∈ stk', okV x := fun h => by
    obtain ⟨y, x, r, rfl, rfl, rfl⟩ := op2_inv h
    exact ⟨h1, ok_cons okV_i (ok_tail (ok_tail h2))⟩
  have oL : ∀ {f : Int64 → Int64 → Int64}, opL f ls stk = some (ls', stk') → (∀ x ∈ ls', okV x) ∧ ∀ x ∈ stk', okV x := fun h => by
    obtain ⟨y, x, r, rfl, rfl, rfl⟩ := opL_inv h
    exact ⟨h1, ok_cons okV_l (ok_tail (ok_tail h2))⟩
  cases i with
  | iconst n => cases ha; exact ⟨h1, ok_cons okV_i h2⟩
  | bipush n => cases ha; exact ⟨h1, ok_cons okV_i h2⟩
  | sipush n => cases ha; exact ⟨h1, ok_cons okV_i h2⟩
  | lconst n => cases ha; exact ⟨h1, ok_cons okV_l h2⟩
  | iload_n k => exact fI ha
  | iload k => exact fI ha
  | lload_n k => exact fL ha
  | lload k => exact fL ha
  | aload_n k => exact fR ha
  | aload k => exact fR ha
  | istore_n k => exact sI ha
  | istore k => exact sI ha
  | lstore_n k => exact sL ha
  | lstore k => exact sL ha
  | astore_n k => exact sR ha
  | astore k => exact sR ha
  | iinc k n =>
    obtain ⟨x, -, rfl, rfl⟩ := icI_inv (show icI ls stk _ _ = some _ from ha)
    exact ⟨ok_set okV_i h1, h2⟩
  | iadd => exact o2 ha
  | isub => exact o2 ha
  | imul => exact o2 ha
  | iand => exact o2 ha
  | ior => exact o2 ha
  | ishl => exact o2 ha
  | ishr => exact o2 ha
  | ladd => exact oL ha
  | lmul => exact oL ha
  | land => exact oL ha
  | lcmp =>
    simp only [alu] at ha
    split at ha
    · cases ha; exact ⟨h1, ok_cons okV_i (ok_tail (ok_tail h2))⟩
    · cases ha
  | i2l =>
    simp only [alu] at ha
    split at ha
    · cases ha; exact ⟨h1, ok_cons okV_l (ok_tail h2)⟩
    · cases ha
  | l2i =>
    simp only [alu] at ha
    split at ha
    · cases ha; exact ⟨h1, ok_cons okV_i (ok_tail h2)⟩
    · cases ha
  | i2b =>
    simp only [alu] at ha
    split at ha
    · cases ha; exact ⟨h1, ok_cons okV_i (ok_tail h2)⟩
    · cases ha
  | i2c =>
    simp only [alu] at ha
    split at ha
    · cases ha; exact ⟨h1, ok_cons okV_i (ok_tail h2)⟩
    · cases ha
  | dup =>
    obtain ⟨a, r, rfl, -, rfl, rfl⟩ := dup_inv ha
    exact ⟨h1, ok_cons (h2 a List.mem_cons_self) h2⟩
  | pop =>
    obtain ⟨a, r, rfl, -, rfl, rfl⟩ := pop_inv ha
    exact ⟨h1, ok_tail h2⟩
  | dup2 =>
    obtain ⟨a, b, r, rfl, -, -, rfl, rfl⟩ := dup2_inv ha
    exact ⟨h1, ok_cons (h2 a List.mem_cons_self) (ok_cons (h2 b (List.mem_cons_of_mem _ List.mem_cons_self)) h2)⟩
  | _ => simp [alu] at ha
theorem dvs_ok {i : Instr} {stk stk' : List IV} (ha : dvs i stk = some stk') (h2 : ∀ x ∈ stk, okV x) : ∀ x ∈ stk', okV x := by
  cases i with
  | idiv =>
    simp only [dvs] at ha
    split at ha
    · split at ha
      · cases ha
      · cases ha; exact ok_cons okV_i (ok_tail (ok_tail h2))
    · cases ha
  | irem =>
    simp only [dvs] at ha
    split at ha
    · split at ha
      · cases ha
      · cases ha; exact ok_cons okV_i (ok_tail (ok_tail h2))
    · cases ha
  | lrem =>
    simp only [dvs] at ha
    split at ha
    · split at ha
      · cases ha
      · cases ha; exact ok_cons okV_l (ok_tail (ok_tail h2))
    · cases ha
  | _ => simp [dvs] at ha
theorem fld_okV {own : String} {rt : Option FieldType} {pc : Nat} {i : Instr} {ex : List Nat} {stk stk' : List IV} {σ σ' : St} (hk : lnk own rt pc i ex = true) (ha : fld i ex stk σ = some (stk', σ')) (h2 : ∀ x ∈ stk, okV x) : ∀ x ∈ stk', okV x := by
  cases i with
  | getfield j =>
    replace hk : getB own j ex = true := hk
    simp only [fld] at ha
    split at ha
    · rename_i T k tl t q r
      cases hb' : Nat.beq t T with
      | false => rw [hb'] at ha; cases ha
      | true => rw [hb'] at ha; cases ha; exact ok_cons okV_i (ok_tail h2)
    · rename_i T k a b T' zz tl t q r
      cases hb' : Nat.beq t T with
      | false => rw [hb'] at ha; cases ha
      | true =>
        rw [hb'] at ha
        have e0 := beq_e hb'
        subst e0
        cases ha
        obtain ⟨z, pz, hf, h0⟩ := getB_1 hk
        obtain ⟨C, F, N, hw, hkN, -⟩ := fieldB_inv hf
        obtain ⟨-, -, -, hN, h8⟩ := wcl_ok hw
        have hc : (t, q) ∈ wcells := okR_w (h2 _ List.mem_cons_self) (by omega)
        have h3 := fld_ok (t, q) hc h8 k (by have := nF_le t h8; omega) (by rw [h0])
        rw [h0] at h3
        exact ok_cons (Or.inl h3) (ok_tail h2)
    · rename_i T tl t q r
      cases hb' : Nat.beq t T with
      | false => rw [hb'] at ha; cases ha
      | true => rw [hb'] at ha; cases ha; exact ok_cons okV_l (ok_tail h2)
    · cases ha
      exact ok_cons (Or.inr ⟨by decide, by decide, rfl⟩) (ok_tail h2)
    · cases ha
      exact ok_cons okV_i (ok_tail h2)
    · cases ha
  | putfield j =>
    simp only [fld] at ha
    split at ha
    · rename_i T k tl x t q r
      cases hb' : Nat.beq t T with
      | false => rw [hb'] at ha; cases ha
      | true => rw [hb'] at ha; cases ha; exact ok_tail (ok_tail h2)
    · rename_i T tl x t q r
      cases hb' : Nat.beq t T with
      | false => rw [hb'] at ha; cases ha
      | true => rw [hb'] at ha; cases ha; exact ok_tail (ok_tail h2)
    · rename_i T k tl x t q r
      cases hb' : Nat.beq t T with
      | false => rw [hb'] at ha; cases ha
      | true =>
        rw [hb'] at ha
        simp only [cond_true] at ha
        split at ha
        · cases ha; exact ok_tail (ok_tail h2)
        · cases ha
    · cases ha
  | getstatic j =>
    replace hk : gstB own j ex = true := hk
    simp only [fld] at ha
    split at ha
    · cases ha; exact ok_cons okV_i h2
    · cases ha
      obtain ⟨e1, -⟩ := gstB_1 hk
      exact ok_cons (Or.inr ⟨by omega, by omega, rfl⟩) h2
    · cases ha
  | ldc j =>
    replace hk : ldcB own j ex = true := hk
    simp only [fld] at ha
    split at ha
    · cases ha; exact ok_cons okV_i h2
    · cases ha
      obtain ⟨e1, -⟩ := ldcB_1 hk
      exact ok_cons (Or.inr ⟨by omega, by omega, rfl⟩) h2
    · cases ha
  | ldc_w j =>
    simp only [fld] at ha
    split at ha
    · cases ha; exact ok_cons okV_i h2
    · cases ha
  | ldc2_w j =>
    simp only [fld] at ha
    split at ha
    · cases ha; exact ok_cons okV_l h2
    · cases ha
  | _ => simp [fld] at ha
theorem arr_okV {i : Instr} {stk stk' : List IV} {σ σ' : St} (ha : arr i stk σ = some (stk', σ')) (h2 : ∀ x ∈ stk, okV x) : ∀ x ∈ stk', okV x := by
  cases i with
  | iaload =>
    simp only [arr] at ha
    split at ha
    · split at ha
      · cases ha
      · cases ha; exact ok_cons okV_i (ok_tail (ok_tail h2))
    · cases ha
  | baload =>
    simp only [arr] at ha
    split at ha
    · split at ha
      · cases ha
      · cases ha; exact ok_cons okV_i (ok_tail (ok_tail h2))
    · cases ha
  | iastore =>
    simp only [arr] at ha
    split at ha
    · split at ha
      · cases ha
      · cases ha; exact ok_tail (ok_tail (ok_tail h2))
    · cases ha
  | aaload =>
    simp only [arr] at ha
    split at ha
    · split at ha
      · cases ha
      · rename_i hn
        cases ha
        exact ok_cons (Or.inl (row_ok _ (vp_in_pos (oob_in hn))).1) (ok_tail (ok_tail h2))
    · split at ha
      · cases ha
      · rename_i hn
        cases ha
        exact ok_cons (Or.inl (row_ok _ (vp_in_pos (oob_in hn))).2) (ok_tail (ok_tail h2))
    · cases ha
  | arraylength =>
    simp only [arr] at ha
    split at ha
    · rename_i t q r
      cases hi : isA t with
      | false => rw [hi] at ha; cases ha
      | true => rw [hi] at ha; cases ha; exact ok_cons okV_i (ok_tail h2)
    · cases ha
  | _ => simp [arr] at ha
theorem lib_okV {i : Instr} {ex : List Nat} {stk stk' : List IV} {σ σ' : St} (ha : lib i ex stk σ = some (stk', σ')) (h2 : ∀ x ∈ stk, okV x) : ∀ x ∈ stk', okV x := by
  cases i with
  | invokestatic j =>
    simp only [lib] at ha
    split at ha
    · split at ha
      · rename_i y x r
        cases hl : Nat.ble r.length 4 with
        | false => rw [hl] at ha; cases ha
        | true => rw [hl] at ha; cases ha; exact ok_cons okV_i (ok_tail (ok_tail h2))
      · cases ha
    · split at ha
      · rename_i y x r
        cases hl : Nat.ble r.length 4 with
        | false => rw [hl] at ha; cases ha
        | true => rw [hl] at ha; cases ha; exact ok_cons okV_i (ok_tail (ok_tail h2))
      · cases ha
    · split at ha
      · split at ha
        · cases ha; exact ok_tail (ok_tail (ok_tail (ok_tail (ok_tail h2))))
        · cases ha
      · cases ha
    · cases ha
  | _ => simp [lib] at ha
theorem jmp_okV {i : Instr} {ex : List Nat} {nx pc' : Nat} {stk stk' : List IV} (ha : jmp i ex nx stk = some (pc', stk')) (h2 : ∀ x ∈ stk, okV x) : ∀ x ∈ stk', okV x := by
  cases i with
  | goto o =>
    simp only [jmp] at ha
    split at ha
    · cases ha; exact h2
    · cases ha
  | ifCond k o =>
    simp only [jmp] at ha
    split at ha
    · cases ha; exact ok_tail h2
    · cases ha
  | if_icmp k o =>
    simp only [jmp] at ha
    split at ha
    · cases ha; exact ok_tail (ok_tail h2)
    · cases ha
  | lookupswitch d ps =>
    simp only [jmp] at ha
    split at ha
    · cases ha; exact ok_tail h2
    · cases ha
  | tableswitch d lo hi offs =>
    simp only [jmp] at ha
    split at ha
    · cases ha; exact ok_tail h2
    · cases ha
  | _ => simp [jmp] at ha
theorem exps_ok : ∀ (as : List IV), (∀ x ∈ as, okV x) → ∀ x ∈ exps as, okV x
  | [], _ => fun x h => by cases h
  | .inl y :: r, h => ok_cons (h _ List.mem_cons_self) (exps_ok r (ok_tail h))
  | .inr (.inl y) :: r, h => ok_cons okV_l (ok_cons okV_n (exps_ok r (ok_tail h)))
  | .inr (.inr (.inl y)) :: r, h => ok_cons (h _ List.mem_cons_self) (exps_ok r (ok_tail h))
  | .inr (.inr (.inr y)) :: r, h => ok_cons (h _ List.mem_cons_self) (exps_ok r (ok_tail h))
theorem ent_ok {n : Nat} {as : List IV} (h : ∀ x ∈ as, okV x) : ∀ x ∈ ent n as, okV x := fun x hx => by
  rcases List.mem_append.mp hx with hx | hx
  · exact exps_ok as h x hx
  · rw [List.eq_of_mem_replicate hx]
    exact okV_n
/-! the locals with which a method begins -/
theorem exps_len {ad : Nat → Nat → Nat} : ∀ as : List IV, (lg_sl (as.map (mp ad))).length = (exps as).length
  | [] => rfl
  | .inl y :: r => by
    have := exps_len (ad := ad) r
    simp [lg_sl, exps, mp, Value.category] at this ⊢
    exact this
  | .inr (.inl y) :: r => by
    have := exps_len (ad := ad) r
    simp [lg_sl, exps, mp, Value.category] at this ⊢
    exact this
  | .inr (.inr (.inl (t, q))) :: r => by
    have := exps_len (ad := ad) r
    simp [lg_sl, exps, mp, Value.category] at this ⊢
    exact this
  | .inr (.inr (.inr ())) :: r => by
    have := exps_len (ad := ad) r
    simp [lg_sl, exps, mp, Value.category] at this ⊢
    exact this
theorem claim_at {ad : Nat → Nat → Nat} {l1 l2 : List IV} {v : IV} {q : Nat × Value} (h : claim ad (l1 ++ v :: l2) q.1 = some q) (he : q.1 = l1.length) : (∃ w, q = (l1.length, w)) ∧ (cat1 v = true → q = (l1.length, mp ad v)) ∧ (∀ x, v = .inr (.inl x) → q = (l1.length, mp ad v)) ∧ v ≠ .inr (.inr (.inr ())) := by
  have hg : (l1 ++ v :: l2)[q.1]? = some v := by rw [he, List.getElem?_append_right (Nat.le_refl _), Nat.sub_self]; rfl
  unfold claim at h
  rw [hg] at h
  obtain x | x | ⟨t, q'⟩ | x := v
  · have h := (Option.some.inj h).symm
    rw [he] at h
    exact ⟨⟨_, h⟩, fun _ => h, (fun y hy => by cases hy), (fun z => by cases z)⟩
  · dsimp only at h
    split at h
    · have h := (Option.some.inj h).symm
      rw [he] at h
      exact ⟨⟨_, h⟩, (fun z => by cases z), (fun y hy => by cases hy; exact h), (fun z => by cases z)⟩
    · cases h
  · have h := (Option.some.inj h).symm
    rw [he] at h
    exact ⟨⟨_, h⟩, fun _ => h, (fun y hy => by cases hy), (fun z => by cases z)⟩
  · cases h
theorem ent_claim {ad : Nat → Nat → Nat} {r : Nat} : ∀ (as : List IV) (l0 : List IV) (q : Nat × Value), claim ad (l0 ++ (exps as ++ List.replicate r vN)) q.1 = some q → l0.length ≤ q.1 → q ∈ lv_args l0.length (as.map (mp ad))
  | [], l0, q, h, hl => by
    exfalso
    unfold claim at h
    rw [List.getElem?_append_right hl] at h
    simp only [exps, List.nil_append] at h
    cases hx : (List.replicate r vN)[q.1 - l0.length]? with
    | none => rw [hx] at h; cases h
    | some v =>
      rw [hx] at h
      have := List.eq_of_mem_replicate (List.mem_of_getElem? hx)
      subst this
      cases h
  | .inl y :: as, l0, q, h, hl => by
    by_cases e : q.1 = l0.length
    · have := (claim_at (l2 := exps as ++ List.replicate r vN) h e).2.1 rfl
      rw [this]
      exact List.mem_cons_self
    · have h2 : claim ad ((l0 ++ [.inl y]) ++ (exps as ++ List.replicate r vN)) q.1 = some q := by
        rw [List.append_assoc]; exact h
      have := ent_claim as (l0 ++ [.inl y]) q h2 (by rw [List.length_append, List.length_cons, List.length_nil]; omega)
      rw [List.length_append] at this
      exact List.mem_cons_of_mem _ this
  | .inr (.inl y) :: as, l0, q, h, hl => by
    by_cases e : q.1 = l0.length
    · have := (claim_at (l2 := vN :: (exps as ++ List.replicate r vN)) h e).2.2.1 y rfl
      rw [this]
      exact List.mem_cons_self
    · by_cases e1 : q.1 = l0.length + 1
      · exfalso
        have h2 : claim ad ((l0 ++ [vL y]) ++ vN :: (exps as ++ List.replicate r vN)) q.1 = some q := by
          rw [List.append_assoc]; exact h
        exact (claim_at h2 (by rw [List.length_append]; exact e1)).2.2.2 rfl
      · have h2 : claim ad ((l0 ++ [vL y, vN]) ++ (exps as ++ List.replicate r vN)) q.1 = some q := by
          rw [List.append_assoc]; exact h
        have := ent_claim as (l0 ++ [vL y, vN]) q h2 (by rw [List.length_append, List.length_cons, List.length_cons, List.length_nil]; omega)
        rw [List.length_append] at this
        exact List.mem_cons_of_mem _ this
  | .inr (.inr (.inl (t, q'))) :: as, l0, q, h, hl => by
    by_cases e : q.1 = l0.length
    · have := (claim_at (l2 := exps as ++ List.replicate r vN) h e).2.1 rfl
      rw [this]
      exact List.mem_cons_self
    · have h2 : claim ad ((l0 ++ [.inr (.inr (.inl (t, q')))]) ++ (exps as ++ List.replicate r vN)) q.1 = some q := by
        rw [List.append_assoc]; exact h
      have := ent_claim as (l0 ++ [.inr (.inr (.inl (t, q')))]) q h2 (by rw [List.length_append, List.length_cons, List.length_nil]; omega)
      rw [List.length_append] at this
      exact List.mem_cons_of_mem _ this
  | .inr (.inr (.inr ())) :: as, l0, q, h, hl => by
    by_cases e : q.1 = l0.length
    · exact absurd rfl (claim_at (l2 := exps as ++ List.replicate r vN) h e).2.2.2
    · have h2 : claim ad ((l0 ++ [vN]) ++ (exps as ++ List.replicate r vN)) q.1 = some q := by
        rw [List.append_assoc]; exact h
      have := ent_claim as (l0 ++ [vN]) q h2 (by rw [List.length_append, List.length_cons, List.length_nil]; omega)
      rw [List.length_append] at this
      exact List.mem_cons_of_mem _ this
theorem ent_LR {ad : Nat → Nat → Nat} {n : Nat} {as : List IV} (h : (exps as).length ≤ n) : LR ad ((lg_sl (as.map (mp ad)) ++ List.replicate (n - (lg_sl (as.map (mp ad))).length) Slot.unset).toArray) n (ent n as) := by
  have h0 := lv_entry (as.map (mp ad)) (n := n) (by rw [exps_len]; exact h)
  refine ⟨by unfold ent; rw [List.length_append, List.length_replicate]; omega, h0.1, h0.2.1, fun q hq => h0.2.2 q ?_⟩
  exact ent_claim as [] q (clm_mem.mp hq) (Nat.zero_le _)
theorem lk_mem : ∀ (l : List Row) (pc : Nat) (x : Instr × Nat × List Nat), lk pc l = some x → (pc, x) ∈ l
  | [], pc, x, h => by cases h
  | r :: l, pc, x, h => by
    rw [lk] at h
    cases hb : Nat.beq r.1 pc with
    | false => rw [hb] at h; exact List.mem_cons_of_mem _ (lk_mem l pc x h)
    | true =>
      rw [hb] at h
      have e := beq_e hb
      have e2 : r.2 = x := Option.some.inj h
      rw [← e, ← e2]
      exact List.mem_cons_self
theorem row_of {k pc nx : Nat} {i : Instr} {ex : List Nat} {f : Row → Bool} (h : (codes.getD k []).all f = true) (hl : look k pc = some (i, nx, ex)) : f (pc, i, nx, ex) = true :=
  List.all_eq_true.mp h _ (lk_mem _ _ _ hl)
theorem mw_inv {k : Nat} (h : mwB k = true) : (Jvm.Cond.code (mY k) (mB k) (mM k) (mR k)) ∈ TB ∧ (Jvm.Cond.initialized (mY k).cls) ∈ TB ∧ (mS k = true → (Jvm.Cond.static (mY k)) ∈ TB) ∧ (mS k = false → (Jvm.Cond.instanceMethod (mY k)) ∈ TB ∧ (Jvm.Cond.selects (mY k).cls (mY k) (mY k)) ∈ TB) ∧ plainName (mY k).cls = true ∧ ((mY k).cls ≠ "java/lang/invoke/MethodHandle" ∧ (mY k).cls ≠ "java/lang/invoke/VarHandle") ∧ (parseMethodDescriptor (mY k).desc).map (fun d => d.parameters.length) = some (mN k) ∧ mM k = mL k ∧ mL k ≤ 20 := by
  unfold mwB at h
  split at h
  · rename_i a b c d e
    simp only [Bool.and_eq_true, decide_eq_true_eq] at h
    obtain ⟨h1, h2, h3, h4, h5, h6, h7, h8, h9⟩ := h
    refine ⟨wAt_tb h1, wAt_tb h2, fun z => ?_, fun z => ?_, h4, ⟨h5, h6⟩, h7, h8, Nat.ble_eq.mp h9⟩
    · rw [if_pos z] at h3; exact wAt_tb h3
    · rw [if_neg (by rw [z]; exact Bool.false_ne_true)] at h3
      simp only [Bool.and_eq_true] at h3
      exact ⟨wAt_tb h3.1, wAt_tb h3.2⟩
  · cases h
end
section
def wsK (k : Nat) : List Jvm.Cond := Jvm.Cond.code (mY k) (mB k) (mM k) (mR k) :: TB
def rmK (d : Nat) : Room := { frames := d + 10, cells := 0, slots := 0, locals := 400 + 40 * d }
def HWK (ad : Nat → Nat → Nat) (cI cO : ClassId) (D : va_G) (A : Nat → Prop) (L : Nat) (xs : Nat → Int32) (σ : St) : State → Prop := fun U => HW ad cI cO D A L xs σ U.heap ∧ va_K D wcl (wtys cI cO) U ∧ RO ad A L xs U U.heap
def PcK (ad : Nat → Nat → Nat) (cI cO : ClassId) (D : va_G) (A : Nat → Prop) (L : Nat) (xs : Nat → Int32) (as : List IV) (σ : St) : Array Value → State → Prop := va_Pc (as.map (mp ad)) (HWK ad cI cO D A L xs σ)
def QcK (ad : Nat → Nat → Nat) (cI cO : ClassId) (D : va_G) (A : Nat → Prop) (L : Nat) (xs : Nat → Int32) (v : Option IV) (σ' : St) : Array Value → State → Outcome → State → Prop := fun _ st oc t => oc = .returned (v.map (mp ad)) ∧ HW ad cI cO D A L xs σ' t.heap ∧ va_F A st t
section CALLG
variable {p : Program} {l : Launch} {e : Env} {R : Room} {s : State} {m : MethodId} {args : Array Value} {below : List Frame} {meth : Method} {c : Code} {H : Heap} {locs : List Loc} {cells slots : Nat} {Q : State → Prop}
variable {ad : Nat → Nat → Nat} {pc : Nat} {Ls : Array Slot} {D : va_G} {A : Nat → Prop} {cI cO : ClassId} {L : Nat} {xs : Nat → Int32} {σ' : St} {v : Option IV} {st0 rest : List Value} {a : Array Value}
theorem w_call (hr : va_Run p l e R s m args below meth c H locs cells slots 0 0 (F0 m pc Ls st0) rest (QcK ad cI cO D A L xs v σ' a) A) (hS : va_S A s.heap H locs)
    (kk : ∀ (H' : Heap) (locs' : List Loc), HW ad cI cO D A L xs σ' H' → va_S A s.heap H' locs' → W p l e R s m args below meth c H' locs' cells slots Q (F0 m (pc + 3) Ls ((v.map (mp ad)).toList ++ rest))) : W p l e R s m args below meth c H locs cells slots Q (F0 m pc Ls st0) := by
  intro T hT X
  obtain ⟨w, st₀, t, T', L', h0, X', hL, e1, e2, ⟨hw, hb, hz, hk⟩, st⟩ := hr T hT X
  cases hw
  rw [h0] at hz hk
  obtain ⟨t2, a1, b1⟩ := kk T'.heap (locs ++ L') (by rw [e1]; exact hb) ⟨Nat.le_trans hS.1 (by rw [e1]; exact hz), fun q h1 h2 => by rw [e1, hk q (Nat.lt_of_lt_of_le h1 hS.1) h2]; exact hS.2.1 q h1 h2, fun q hq => by
      rcases List.mem_append.mp hq with h | h
      · exact hS.2.2 q h
      · exact hL q h⟩ T' rfl X'
  exact ⟨t2, st t2 a1, b1⟩
end CALLG
theorem blindK {ad : Nat → Nat → Nat} {cI cO : ClassId} {D : va_G} {A : Nat → Prop} {L : Nat} {xs : Nat → Int32} {as : List IV} {σ : St} : FrameBlind (PcK ad cI cO D A L xs as σ) := by
  rintro a U g mk ⟨h1, h2, h3, h4⟩
  exact ⟨h1, h2, va_K.moved (u := U) (U := U.calling g mk a) (Vm.Alike.refl U.vm) h3, RO.same (u := U) (U := U.calling g mk a) rfl h4⟩
theorem goodK {k k' : Nat} (h : (Jvm.Cond.code (mY k) (mB k) (mM k) (mR k)) ∈ TB) : GoodIn TB (wsK k) := by
  intro w hw
  rcases List.mem_cons.mp hw with rfl | hw
  · exact ⟨h, good_of_word (tb_good h)⟩
  · exact ⟨hw, good_of_word (tb_good hw)⟩
theorem take_rev {n : Nat} {stk : List IV} : stk = ((stk.take n).reverse).reverse ++ stk.drop n := by rw [List.reverse_reverse, List.take_append_drop]
theorem virB_inv {own : String} {j k n a b T : Nat} {tl : List Nat} (h : virB own j (10 :: k :: n :: a :: b :: T :: tl) = true) : (Jvm.Cond.methodLink own j (mY k)) ∈ TB ∧ n = mN k + 1 ∧ mS k = false ∧ k < mtab.length ∧ rcvB T (mY k).cls = true := by
  match a, tl, h with
  | 0, [], h =>
    simp only [virB, Bool.and_eq_true, decide_eq_true_eq] at h
    exact ⟨wAt_tb h.1, h.2.1, h.2.2.1, h.2.2.2.1, h.2.2.2.2⟩
  | 0, _ :: _, h => simp [virB] at h
  | _ + 1, _, h => simp [virB] at h
theorem stcB_inv {own : String} {j k n : Nat} {tl : List Nat} (h : stcB own j (11 :: k :: n :: tl) = true) : ((Jvm.Cond.methodLink own j (mY k)) ∈ TB ∨ (Jvm.Cond.methodLinkNest own j (mY k) RX6) ∈ nestWs) ∧ n = mN k ∧ mS k = true ∧ k < mtab.length := by
  match tl, h with
  | [z, p], h =>
    simp only [stcB, Bool.and_eq_true, decide_eq_true_eq] at h
    refine ⟨?_, h.2.1, h.2.2.1, h.2.2.2⟩
    have h1 := h.1
    split at h1
    · exact Or.inl (wAt_tb h1)
    · exact Or.inr (nAt_in h1)
  | [], h => simp [stcB] at h
  | [_], h => simp [stcB] at h
  | _ :: _ :: _ :: _, h => simp [stcB] at h
theorem mtab_len : mtab.length = 225 := by decide +kernel
/-- a call: what its numbers say -/
theorem inv_inv {own : String} {rt : Option FieldType} {pc : Nat} {i : Instr} {ex : List Nat} {stk as rest : List IV} {k : Nat} (hk : lnk own rt pc i ex = true) (h : inv i ex stk = some (k, as, rest)) :
    stk = as.reverse ++ rest ∧ rest.length ≤ 4 ∧ k < 225 ∧ ((∃ j T q as', i = .invokevirtual j ∧ as = vR T q :: as' ∧ (Jvm.Cond.methodLink own j (mY k)) ∈ TB ∧ as'.length = mN k ∧ mS k = false ∧ rcvB T (mY k).cls = true) ∨
      (∃ j, i = .invokestatic j ∧ ((Jvm.Cond.methodLink own j (mY k)) ∈ TB ∨ (Jvm.Cond.methodLinkNest own j (mY k) RX6) ∈ nestWs) ∧ as.length = mN k ∧ mS k = true)) := by
  cases i with
  | invokevirtual j =>
    replace hk : virB own j ex = true := hk
    simp only [inv] at h
    split at h
    · rename_i k' n a b T tl
      cases hc : (Nat.ble n stk.length && (Nat.ble (stk.drop n).length 4 && rcv T (stk.take n).reverse)) with
      | false => rw [hc] at h; cases h
      | true =>
        rw [hc] at h
        simp only [Bool.and_eq_true] at hc
        cases h
        obtain ⟨e1, e2, e3, e4, e5⟩ := virB_inv hk
        refine ⟨take_rev, Nat.ble_eq.mp hc.2.1, by rw [← mtab_len]; exact e4, Or.inl ?_⟩
        have hlen : ((stk.take n).reverse).length = n := by rw [List.length_reverse, List.length_take]; have := Nat.ble_eq.mp hc.1; omega
        have hr := hc.2.2
        revert hr hlen
        cases (stk.take n).reverse with
        | nil => intro _ hr; cases hr
        | cons x as' =>
          intro hlen hr
          obtain y | y | ⟨t, q⟩ | y := x
          · cases hr
          · cases hr
          · have et : t = T := beq_e hr
            subst et
            simp only [List.length_cons] at hlen
            exact ⟨j, t, q, as', rfl, rfl, e1, by omega, e3, e5⟩
          · cases hr
    · cases h
  | invokestatic j =>
    replace hk : stcB own j ex = true := hk
    simp only [inv] at h
    split at h
    · rename_i k' n tl
      cases hc : (Nat.ble n stk.length && Nat.ble (stk.drop n).length 4) with
      | false => rw [hc] at h; cases h
      | true =>
        rw [hc] at h
        simp only [Bool.and_eq_true] at hc
        cases h
        obtain ⟨e1, e2, e3, e4⟩ := stcB_inv hk
        refine ⟨take_rev, Nat.ble_eq.mp hc.2, by rw [← mtab_len]; exact e4, Or.inr ⟨j, rfl, e1, ?_, e3⟩⟩
        rw [List.length_reverse, List.length_take]
        have := Nat.ble_eq.mp hc.1
        omega
    · cases h
  | _ => simp [inv] at h
theorem rtn_ok {i : Instr} {ex : List Nat} {stk : List IV} {v : Option IV} (h : rtn i ex stk = some v) (h2 : ∀ x ∈ stk, okV x) : ∀ x, v = some x → okV x := by
  cases i with
  | ireturn =>
    simp only [rtn] at h
    split at h
    · cases h; intro x hx; cases hx; exact okV_i
    · split at h
      · cases h; intro x hx; cases hx; exact okV_i
      · cases h
    · split at h
      · cases h; intro x hx; cases hx; exact okV_i
      · cases h
    · cases h
  | lreturn =>
    simp only [rtn] at h
    split at h
    · cases h; intro x hx; cases hx; exact okV_l
    · cases h
  | areturn =>
    simp only [rtn] at h
    split at h
    · cases h; intro x hx; cases hx; exact h2 _ List.mem_cons_self
    · cases h
  | return_ =>
    simp only [rtn] at h
    split at h
    · cases h; intro x hx; cases hx
    · cases h
  | _ => simp [rtn] at h
theorem one_ok {own : String} {rt : Option FieldType} {k pc nx pc' : Nat} {i : Instr} {ex : List Nat} {ls stk ls' stk' : List IV} {σ σ' : St} (hk : lnk own rt pc i ex = true) (h : one k pc ls stk σ i nx ex = some (pc', ls', stk', σ')) (h1 : ∀ x ∈ ls, okV x) (h2 : ∀ x ∈ stk, okV x) : (∀ x ∈ ls', okV x) ∧ ∀ x ∈ stk', okV x := by
  unfold one at h
  cases ha : alu i ls stk with
  | some y => rw [ha] at h; cases h; exact alu_ok ha h1 h2
  | none =>
    rw [ha] at h
    dsimp only at h
    cases hd : dvs i stk with
    | some y => rw [hd] at h; cases h; exact ⟨h1, dvs_ok hd h2⟩
    | none =>
      rw [hd] at h
      dsimp only at h
      cases hf : fld i ex stk σ with
      | some y => rw [hf] at h; cases h; exact ⟨h1, fld_okV hk hf h2⟩
      | none =>
        rw [hf] at h
        dsimp only at h
        cases hr : arr i stk σ with
        | some y => rw [hr] at h; cases h; exact ⟨h1, arr_okV hr h2⟩
        | none =>
          rw [hr] at h
          dsimp only at h
          cases hb : lib i ex stk σ with
          | some y => rw [hb] at h; cases h; exact ⟨h1, lib_okV hb h2⟩
          | none =>
            rw [hb] at h
            dsimp only at h
            cases hj : jmp i ex nx stk with
            | some y => rw [hj] at h; cases h; exact ⟨h1, jmp_okV hj h2⟩
            | none => rw [hj] at h; cases h
theorem run_ok (hrb : ∀ k, k < 225 → mrowB k = true) : ∀ (n d k : Nat) (own : String) (cc : ByteArray) (rt : Option FieldType) (pc : Nat) (ls stk : List IV) (σ : St) (v : Option IV) (σ' : St), (codes.getD k []).all (rowB own cc rt) = true → (∀ x ∈ ls, okV x) → (∀ x ∈ stk, okV x) → run d n k pc ls stk σ = some (v, σ') → ∀ x, v = some x → okV x := by
  intro n
  induction n with
  | zero => intro d k own cc rt pc ls stk σ v σ' _ _ _ h; simp [run] at h
  | succ n ih =>
    intro d k own cc rt pc ls stk σ v σ' hrows h1 h2 h
    rw [run] at h
    cases hl : look k pc with
    | none => rw [hl] at h; cases h
    | some x =>
      obtain ⟨i, nx, ex⟩ := x
      rw [hl] at h
      dsimp only at h
      have hrow := row_of hrows hl
      simp only [rowB, Bool.and_eq_true, decide_eq_true_eq] at hrow
      have hlnk := hrow.2.2
      cases ho : one k pc ls stk σ i nx ex with
      | some y =>
        obtain ⟨pc', ls', stk', σ1⟩ := y
        rw [ho] at h
        have hok := one_ok hlnk ho h1 h2
        exact ih _ _ _ _ _ _ _ _ _ _ _ hrows hok.1 hok.2 h
      | none =>
        rw [ho] at h
        dsimp only at h
        cases hr : rtn i ex stk with
        | some w =>
          rw [hr] at h
          cases h
          exact rtn_ok hr h2
        | none =>
          rw [hr] at h
          dsimp only at h
          cases hi : inv i ex stk with
          | none => rw [hi] at h; cases h
          | some z =>
            obtain ⟨k', as, rest⟩ := z
            rw [hi] at h
            cases d with
            | zero => cases h
            | succ d' =>
              dsimp only at h
              cases hb : Nat.ble (exps as).length (mL k') with
              | false => rw [hb] at h; cases h
              | true =>
                rw [hb, cond_true] at h
                cases hc : run d' n k' 0 (ent (mL k') as) [] σ with
                | none => rw [hc] at h; cases h
                | some w =>
                  obtain ⟨v1, σ1⟩ := w
                  rw [hc] at h
                  dsimp only at h
                  obtain ⟨e1, -, e3, -⟩ := inv_inv hlnk hi
                  have has : ∀ x ∈ as, okV x := fun x hx => h2 x (by rw [e1]; exact List.mem_append_left _ (List.mem_reverse.mpr hx))
                  have hrest : ∀ x ∈ rest, okV x := fun x hx => h2 x (by rw [e1]; exact List.mem_append_right _ hx)
                  have hv1 := ih _ _ _ _ _ _ _ _ _ _ _ (hrb k' e3) (ent_ok has) (fun x hx => by cases hx) hc
                  refine ih _ _ _ _ _ _ _ _ _ _ _ hrows h1 (fun x hx => ?_) h
                  rcases List.mem_append.mp hx with hx | hx
                  · cases v1 with
                    | none => cases hx
                    | some y =>
                      rw [List.mem_singleton.mp hx]
                      exact hv1 y rfl
                  · exact hrest x hx
/-- what is to be shown of runs with n of fuel: the method returns as the reader says -/
def SND (ad : Nat → Nat → Nat) (cI cO : ClassId) (D : va_G) (A : Nat → Prop) (L : Nat) (xs : Nat → Int32) (n : Nat) : Prop :=
  ∀ (d k : Nat) (as : List IV) (σ σ' : St) (v : Option IV), k < 225 → (exps as).length ≤ mL k → (∀ x ∈ as, okV x) → run d n k 0 (ent (mL k) as) [] σ = some (v, σ') →
    ∀ l : Launch, Met l (mY k) (wsK k) (rmK d) (PcK ad cI cO D A L xs as σ) (QcK ad cI cO D A L xs v σ') 0 0 A
section MAIN
variable {ad : Nat → Nat → Nat} {cI cO : ClassId} {D : va_G} {A : Nat → Prop} {L : Nat} {xs : Nat → Int32}
theorem walk (hrb : ∀ k, k < 225 → mrowB k = true) (hmw : ∀ k, k < 225 → mwB k = true) (N : Nat) (IH : ∀ n, n < N → SND ad cI cO D A L xs n) {p : Program} {l : Launch} {e : Env} {R : Room} {s : State} {m : MethodId} {args : Array Value} {below : List Frame} {meth : Method} {c : Code} {cells slots : Nat} {Q : State → Prop} {cc : ByteArray} {own : String} {rt : Option FieldType} {k d nL : Nat} {v : Option IV} {σ' : St}
    (hx : p.tables.exec = Jvm.exec) (hb : c.code = cc) (hml : c.maxLocals = nL) (hown : s.vm.findClass own = some m.cls) (hts : ∀ w ∈ TB, w.before args s = true) (hK : va_K D wcl (wtys cI cO) s) (hR : RO ad A L xs s s.heap)
    (hrows : (codes.getD k []).all (rowB own cc rt) = true) (hroom : d + 10 ≤ R.frames ∧ 400 + 40 * d ≤ R.locals ∧ cells ≤ R.cells ∧ slots ≤ R.slots)
    (hret : ∀ (pc nx : Nat) (i : Instr) (ex : List Nat) (stk : List IV) (H : Heap) (locs : List Loc) (Ls : Array Slot), look k pc = some (i, nx, ex) → rtn i ex stk = some v → HW ad cI cO D A L xs σ' H → va_S A s.heap H locs → W p l e R s m args below meth c H locs cells slots Q (F0 m pc Ls (stk.map (mp ad)))) :
    ∀ n, n ≤ N → ∀ (pc : Nat) (ls stk : List IV) (σ : St) (H : Heap) (locs : List Loc) (Ls : Array Slot), LR ad Ls nL ls → (∀ x ∈ ls, okV x) → (∀ x ∈ stk, okV x) → HW ad cI cO D A L xs σ H → va_S A s.heap H locs → run d n k pc ls stk σ = some (v, σ') → W p l e R s m args below meth c H locs cells slots Q (F0 m pc Ls (stk.map (mp ad))) := by
  intro n
  induction n with
  | zero => intro _ pc ls stk σ H locs Ls _ _ _ _ _ h; simp [run] at h
  | succ n ih =>
    intro hn pc ls stk σ H locs Ls hL h1 h2 hW hS h
    replace ih := ih (by omega)
    rw [run] at h
    cases hl : look k pc with
    | none => rw [hl] at h; cases h
    | some x =>
      obtain ⟨i, nx, ex⟩ := x
      rw [hl] at h
      dsimp only at h
      have hrow := row_of hrows hl
      simp only [rowB, Bool.and_eq_true, decide_eq_true_eq] at hrow
      obtain ⟨hdec, hnx, hlnk⟩ := hrow
      have hnx' : isSw i = true ∨ nx = pc + ilen i := by
        simp only [Bool.or_eq_true, decide_eq_true_eq] at hnx
        exact hnx
      have hLs : Ls.size = nL := hL.2.1
      cases ho : one k pc ls stk σ i nx ex with
      | some y =>
        obtain ⟨pc', ls', stk', σ1⟩ := y
        rw [ho] at h
        dsimp only at h
        have hok := one_ok hlnk ho h1 h2
        unfold one at ho
        cases ha : alu i ls stk with
        | some y =>
          rw [ha] at ho
          cases ho
          have hsw : isSw i = false := by cases i <;> first | rfl | simp [alu] at ha
          rw [hsw] at hdec hnx'
          have hnx2 : nx = pc + ilen i := hnx'.elim (fun z => by cases z) id
          have key := fun (Ls' : Array Slot) (hL' : LR ad Ls' nL _) => ih nx _ _ σ H locs Ls' hL' hok.1 hok.2 hW hS h
          rw [hnx2] at key
          exact w_alu hx hb hdec hL ha key
        | none =>
          rw [ha] at ho
          dsimp only at ho
          cases hdv : dvs i stk with
          | some z =>
            rw [hdv] at ho
            cases ho
            have hsw : isSw i = false := by cases i <;> first | rfl | simp [dvs] at hdv
            rw [hsw] at hdec hnx'
            have hnx2 : nx = pc + ilen i := hnx'.elim (fun z => by cases z) id
            have key := ih nx ls _ σ H locs Ls hL h1 hok.2 hW hS h
            rw [hnx2] at key
            exact w_dvs hx hb hdec hdv key
          | none =>
            rw [hdv] at ho
            dsimp only at ho
            cases hf : fld i ex stk σ with
            | some z =>
              rw [hf] at ho
              cases ho
              have hsw : isSw i = false := by cases i <;> first | rfl | simp [fld] at hf
              rw [hsw] at hdec hnx'
              have hnx2 : nx = pc + ilen i := hnx'.elim (fun z => by cases z) id
              have key := fun (H' : Heap) (locs' : List Loc) (a1 : HW ad cI cO D A L xs _ H') (a2 : va_S A s.heap H' locs') => ih nx ls _ _ H' locs' Ls hL h1 hok.2 a1 a2 h
              rw [hnx2] at key
              exact w_fld hx hb hown hts hK hR hS hW hdec hlnk h2 hf key
            | none =>
              rw [hf] at ho
              dsimp only at ho
              cases hr : arr i stk σ with
              | some z =>
                rw [hr] at ho
                cases ho
                have hsw : isSw i = false := by cases i <;> first | rfl | simp [arr] at hr
                rw [hsw] at hdec hnx'
                have hnx2 : nx = pc + ilen i := hnx'.elim (fun z => by cases z) id
                have key := fun (H' : Heap) (locs' : List Loc) (a1 : HW ad cI cO D A L xs _ H') (a2 : va_S A s.heap H' locs') => ih nx ls _ _ H' locs' Ls hL h1 hok.2 a1 a2 h
                rw [hnx2] at key
                exact w_arr hx hb hK hR hS hW hdec h2 hr key
              | none =>
                rw [hr] at ho
                dsimp only at ho
                cases hlb : lib i ex stk σ with
                | some z =>
                  rw [hlb] at ho
                  cases ho
                  have hsw : isSw i = false := by cases i <;> first | rfl | simp [lib] at hlb
                  rw [hsw] at hdec hnx'
                  have hnx2 : nx = pc + ilen i := hnx'.elim (fun z => by cases z) id
                  have key := fun (H' : Heap) (locs' : List Loc) (a1 : HW ad cI cO D A L xs _ H') (a2 : va_S A s.heap H' locs') => ih nx ls _ _ H' locs' Ls hL h1 hok.2 a1 a2 h
                  rw [hnx2] at key
                  exact w_lib hx hb (hml.trans hLs.symm) hown hts hK hS hW ⟨by omega, by omega, hroom.2.2.1, hroom.2.2.2⟩ hdec hlnk h2 hlb key
                | none =>
                  rw [hlb] at ho
                  dsimp only at ho
                  cases hj : jmp i ex nx stk with
                  | none => rw [hj] at ho; cases ho
                  | some z =>
                    rw [hj] at ho
                    cases ho
                    exact w_jmp hx hb hdec hnx' hlnk hj (ih _ ls _ σ H locs Ls hL h1 hok.2 hW hS h)
      | none =>
        rw [ho] at h
        dsimp only at h
        cases hr : rtn i ex stk with
        | some w =>
          rw [hr] at h
          cases h
          exact hret pc nx i ex stk H locs Ls hl hr hW hS
        | none =>
          rw [hr] at h
          dsimp only at h
          cases hi : inv i ex stk with
          | none => rw [hi] at h; cases h
          | some z =>
            obtain ⟨k', as, rest⟩ := z
            rw [hi] at h
            cases d with
            | zero => cases h
            | succ d' =>
              dsimp only at h
              cases hbl : Nat.ble (exps as).length (mL k') with
              | false => rw [hbl] at h; cases h
              | true =>
                rw [hbl, cond_true] at h
                cases hc : run d' n k' 0 (ent (mL k') as) [] σ with
                | none => rw [hc] at h; cases h
                | some w =>
                  obtain ⟨v1, σ1⟩ := w
                  rw [hc] at h
                  dsimp only at h
                  obtain ⟨e1, e2, e3, e4⟩ := inv_inv hlnk hi
                  have has : ∀ x ∈ as, okV x := fun x hx => h2 x (by rw [e1]; exact List.mem_append_left _ (List.mem_reverse.mpr hx))
                  have hrest : ∀ x ∈ rest, okV x := fun x hx => h2 x (by rw [e1]; exact List.mem_append_right _ hx)
                  have hv1 := run_ok hrb _ _ _ _ _ _ _ _ _ _ _ _ (hrb k' e3) (ent_ok has) (fun x hx => by cases hx) hc
                  have hstk' : ∀ x ∈ v1.toList ++ rest, okV x := fun x hx => by
                    rcases List.mem_append.mp hx with hx | hx
                    · cases v1 with
                      | none => cases hx
                      | some y =>
                        rw [List.mem_singleton.mp hx]
                        exact hv1 y rfl
                    · exact hrest x hx
                  have hsw : isSw i = false := by cases i <;> first | rfl | simp [inv] at hi
                  rw [hsw] at hdec hnx'
                  have hnx2 : nx = pc + ilen i := hnx'.elim (fun z => by cases z) id
                  have hM := IH n (by omega) d' k' as σ σ1 v1 e3 (Nat.ble_eq.mp hbl) has hc l
                  obtain ⟨w1, w2, w3, w4, w5, w6, w7, w8, w9⟩ := mw_inv (hmw k' e3)
                  have key := fun (H' : Heap) (locs' : List Loc) (a1 : HW ad cI cO D A L xs σ1 H') (a2 : va_S A s.heap H' locs') => ih nx ls (v1.toList ++ rest) σ1 H' locs' Ls hL h1 hstk' a1 a2 h
                  have emap : (v1.toList ++ rest).map (mp ad) = (v1.map (mp ad)).toList ++ rest.map (mp ad) := by cases v1 <;> simp
                  rw [hnx2, emap] at key
                  have hPre : ∀ U : State, U.heap = H → s.WarmedH U.vm → PcK ad cI cO D A L xs as σ (as.map (mp ad)).toArray U := fun U hU hWm =>
                    ⟨rfl, by rw [hU]; exact hW, va_K.moved hWm.alike hK, by rw [hU]; exact RO.warm hWm (hR.kept hS.1 hS.2.1)⟩
                  have hstack : stk.map (mp ad) = (as.map (mp ad)).reverse ++ rest.map (mp ad) := by rw [e1, List.map_append, List.map_reverse]
                  have hsum := cat_sum (ad := ad) rest
                  have hcb : ∀ (nn : Nat), (parseMethodDescriptor (mY k').desc).map (fun d => d.parameters.length) = some nn → ∀ sig, parseMethodDescriptor (mY k').desc = some sig → nn = sig.parameters.length := fun nn hnn sig hsig => by
                    rw [hsig] at hnn
                    exact (Option.some.inj hnn).symm
                  have hG := goodK (k := k') (k' := k') w1
                  have hrf : (rmK d').frames + 1 ≤ R.frames := by show d' + 10 + 1 ≤ _; omega
                  have hrl : 8 + (mM k' + 11) + (rmK d').locals ≤ R.locals := by show 8 + (mM k' + 11) + (400 + 40 * d') ≤ _; omega
                  rcases e4 with ⟨j, T, q, as', rfl, rfl, g1, g2, g3, g4⟩ | ⟨j, rfl, g1, g2, g3⟩
                  · have hq := has _ List.mem_cons_self
                    have hrecv : ∃ cellB : Cell, H[ad T q]? = some cellB ∧ cellB.vm.isStatics = false ∧ s.vm.findClass (mY k').cls = some cellB.cls := by
                      unfold rcvB at g4
                      cases hw : wcl[T]? with
                      | none =>
                        rw [hw] at g4
                        simp only [Bool.and_eq_true, decide_eq_true_eq] at g4
                        obtain ⟨rfl, hcl⟩ := g4
                        obtain ⟨rfl, -⟩ := okR_0 hq (by decide)
                        rw [hcl]
                        obtain ⟨cell, k1, k2, k3, -⟩ := hR.2.1.2.2.1.kept hS.2.1
                        exact ⟨cell, k1, k2, k3⟩
                      | some y =>
                        obtain ⟨C', F, NN⟩ := y
                        rw [hw] at g4
                        simp only [decide_eq_true_eq] at g4
                        obtain ⟨-, -, -, -, h8⟩ := wcl_ok hw
                        obtain ⟨i0, hi1, hi2⟩ := wld_get (ad := ad) (cI := cI) (cO := cO) (σ := σ) (okR_w hq (by omega))
                        rw [pic_obj h8] at hi2
                        have := va_recv hK hW.1 hw hi2
                        rw [← g4]
                        exact this
                    have hcw : CallW R s args own (mY k').cls j (mY k') (mB k') (mM k') (mR k') (wsK k') (rmK d') 0 0 (mN k') :=
                      ⟨⟨rfl, rfl, hrf, hrl, pay_in hts hG, List.mem_cons_self, hts _ w1, hts _ w2, w6, hcb _ w7, hts _ g1⟩, hts _ (w4 g3).1, hts _ (w4 g3).2⟩
                    exact w_call (va_runV (As := as'.map (mp ad)) (rest := rest.map (mp ad)) ⟨hx, hb, hml, hown, hts⟩ hM hcw ⟨blindK, hrecv, hPre⟩ rfl (by rw [List.length_map]; exact g2) hLs (by rw [hstack]; simp [mp, vR]) (lv_room (by omega)) hdec ⟨by omega, by omega⟩) hS key
                  · rcases g1 with g1 | g1
                    · have hcw : CallB R s args own j (mY k') (mB k') (mM k') (mR k') (wsK k') (rmK d') 0 0 (mN k') ∧ (Jvm.Cond.static (mY k')).before args s = true :=
                        ⟨⟨rfl, rfl, hrf, hrl, pay_in hts hG, List.mem_cons_self, hts _ w1, hts _ w2, w6, hcb _ w7, hts _ g1⟩, hts _ (w3 g3)⟩
                      exact w_call (va_runS (As := as.map (mp ad)) (rest := rest.map (mp ad)) ⟨hx, hb, hml, hown, hts⟩ hM hcw ⟨blindK, hPre⟩ rfl (by rw [List.length_map]; exact g2) hLs hstack (lv_room (by omega)) hdec ⟨by omega, by omega⟩) hS key
                    · have hcw : va_CN R s args own j (mY k') RX6 (mB k') (mM k') (mR k') (wsK k') (rmK d') 0 0 (mN k') ∧ (Jvm.Cond.static (mY k')).before args s = true ∧ True :=
                        ⟨⟨⟨rfl, rfl, hrf, hrl, pay_in hts hG, List.mem_cons_self⟩, hts _ w1, hts _ w2, w6, hcb _ w7, va_Nw.use rfl (hR.2.2.2 _ g1)⟩, hts _ (w3 g3), trivial⟩
                      exact w_call (va_runSN (As := as.map (mp ad)) (rest := rest.map (mp ad)) ⟨hx, hb, hml, hown, hts⟩ hM hcw ⟨blindK, hPre⟩ rfl (by rw [List.length_map]; exact g2) hLs hstack (lv_room (by omega)) hdec ⟨by omega, by omega⟩) hS key
theorem snd_all (hrb : ∀ k, k < 225 → mrowB k = true) (hmw : ∀ k, k < 225 → mwB k = true) : ∀ n, SND ad cI cO D A L xs n := by
  intro n
  induction n using Nat.strongRecOn with
  | _ n IH =>
    intro d k as σ σ' v hk hlen has h l
    obtain ⟨w1, w2, w3, w4, w5, w6, w7, w8, w9⟩ := mw_inv (hmw k hk)
    refine Met.ofW (cc := mB k) (maxL := mM k) (ret := mR k) w5 rfl ?_
    intro p e s m args below meth c s₁ B hml hv
    obtain ⟨rfl, hW, hK, hR⟩ := hv
    have hts0 := atoms_spec (ws := wsK k) B.pre
    have hts : ∀ w ∈ TB, w.before (as.map (mp ad)).toArray s = true := fun w hw => hts0 w (List.mem_cons_of_mem _ hw)
    have hlocks := B.notSynchronized
    have hb := B.bytes
    have hr := B.returns
    rw [lg_entry_eq]
    have hL := ent_LR (ad := ad) (n := mM k) (as := as) (by rw [w8]; exact hlen)
    rw [w8] at hL hml ⊢
    refine walk hrb hmw n (fun n' h' => IH n' h') (rt := mR k) (d := d) (v := v) (σ' := σ') B.exec hb hml (findClass_of_methodNamed B.named) hts hK hR (hrb k hk) ⟨Nat.le_refl _, Nat.le_refl _, Nat.le_refl _, Nat.le_refl _⟩ ?_ n (Nat.le_refl _) 0 (ent (mL k) as) [] σ s.heap [] _ hL (ent_ok has) (fun x hx => by cases hx) hW va_S.rf h
    intro pc nx i ex stk H locs Ls hl hrt hW' hS'
    have hrow := row_of (hrb k hk) hl
    simp only [rowB, Bool.and_eq_true, decide_eq_true_eq] at hrow
    obtain ⟨hdec, -, hlnk⟩ := hrow
    have hq : ∀ t : State, t.heap = H → s.WarmedH t.vm → QcK ad cI cO D A L xs v σ' (as.map (mp ad)).toArray s (.returned (v.map (mp ad))) t := fun t ht _ => ⟨rfl, by rw [ht]; exact hW', hS'.F ht⟩
    cases i with
    | ireturn =>
      replace hlnk : retB (mR k) ex = true := hlnk
      simp only [rtn] at hrt
      split at hrt
      · rename_i tl x
        cases hrt
        have hty : mR k = some .int := by
          match tl, hlnk with
          | [], hlnk => simpa [retB] using hlnk
          | _ :: _, hlnk => simp [retB] at hlnk
        exact W.zret (ty := .int) B.exec hb (by rw [hr, hty]) rfl hq hS'.2.2 hdec
      · rename_i tl x
        split at hrt
        · rename_i h01
          cases hrt
          have hty : mR k = some .boolean := by
            match tl, hlnk with
            | [], hlnk => simpa [retB] using hlnk
            | _ :: _, hlnk => simp [retB] at hlnk
          exact W.zret (ty := .boolean) B.exec hb (by rw [hr, hty]) (by rcases h01 with h | h <;> (subst h; decide +kernel)) hq hS'.2.2 hdec
        · cases hrt
      · rename_i tl x
        split at hrt
        · rename_i h01
          cases hrt
          have hty : mR k = some .byte := by
            match tl, hlnk with
            | [], hlnk => simpa [retB] using hlnk
            | _ :: _, hlnk => simp [retB] at hlnk
          exact W.zret (ty := .byte) B.exec hb (by rw [hr, hty]) (by subst h01; decide +kernel) hq hS'.2.2 hdec
        · cases hrt
      · cases hrt
    | lreturn =>
      simp only [rtn] at hrt
      split at hrt
      · cases hrt
        have hty : mR k = some .long := by simpa [lnk] using hlnk
        exact W.lret B.exec hb (by rw [hr, hty]) hq hS'.2.2 hdec
      · cases hrt
    | areturn =>
      simp only [rtn] at hrt
      split at hrt
      · cases hrt
        have hty : mR k = some (.object RX5) := by simpa [lnk] using hlnk
        exact W.aret (rt := .object RX5) B.exec hb (by rw [hr, hty]) (Or.inl ⟨_, rfl⟩) (Or.inr ⟨_, rfl⟩) hq hS'.2.2 hdec
      · cases hrt
    | return_ =>
      simp only [rtn] at hrt
      split at hrt
      · cases hrt
        have hty : mR k = none := by simpa [lnk] using hlnk
        exact W.vret B.exec hb (by rw [hr, hty]) hq hS'.2.2 hdec
      · cases hrt
    | _ => simp [rtn] at hrt
end MAIN
end
section
theorem i_vc : Claimed_1_1 ∧ Claimed_1_2 := sorry
end
