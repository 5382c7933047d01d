section
-- ===== PART A: goes FIRST, ahead of the names: the tables' words, and 'selects' of the private methods out of them =====
/-- a private method of a class that the tables say can be made, by its rows of tables_1 -/
def lw_okq (q : MethodName × Nat) : Prop := (q.1.cls ≠ "java/lang/invoke/MethodHandle" ∧ q.1.cls ≠ "java/lang/invoke/VarHandle") ∧ Cond.instantiable q.1.cls q.2 ∈ tables_1 ∧ Cond.privateMethod q.1 ∈ tables_1 ∧ Cond.instanceMethod q.1 ∈ tables_1
theorem lw_p0 : lw_okq (⟨"PassedPenance$Reader", "step", "()V"⟩, 9) := ⟨⟨by decide +kernel, by decide +kernel⟩, List.mem_of_getElem? (i := 31) (by decide +kernel), List.mem_of_getElem? (i := 440) (by decide +kernel), List.mem_of_getElem? (i := 441) (by decide +kernel)⟩
theorem lw_p1 : lw_okq (⟨"PassedPenance$Reader", "kindAt", "(I)I"⟩, 9) := ⟨⟨by decide +kernel, by decide +kernel⟩, List.mem_of_getElem? (i := 31) (by decide +kernel), List.mem_of_getElem? (i := 444) (by decide +kernel), List.mem_of_getElem? (i := 445) (by decide +kernel)⟩
theorem lw_p2 : lw_okq (⟨"PassedPenance$Reader", "takeValue", "()V"⟩, 9) := ⟨⟨by decide +kernel, by decide +kernel⟩, List.mem_of_getElem? (i := 31) (by decide +kernel), List.mem_of_getElem? (i := 448) (by decide +kernel), List.mem_of_getElem? (i := 449) (by decide +kernel)⟩
theorem lw_p3 : lw_okq (⟨"PassedPenance$Reader", "readLine", "()Z"⟩, 9) := ⟨⟨by decide +kernel, by decide +kernel⟩, List.mem_of_getElem? (i := 31) (by decide +kernel), List.mem_of_getElem? (i := 456) (by decide +kernel), List.mem_of_getElem? (i := 457) (by decide +kernel)⟩
theorem lw_p4 : lw_okq (⟨"PassedPenance$Reader", "readHead", "()Z"⟩, 9) := ⟨⟨by decide +kernel, by decide +kernel⟩, List.mem_of_getElem? (i := 31) (by decide +kernel), List.mem_of_getElem? (i := 460) (by decide +kernel), List.mem_of_getElem? (i := 461) (by decide +kernel)⟩
theorem lw_p5 : lw_okq (⟨"PassedPenance$Reader", "passWord", "(Ljava/lang/String;)Z"⟩, 9) := ⟨⟨by decide +kernel, by decide +kernel⟩, List.mem_of_getElem? (i := 31) (by decide +kernel), List.mem_of_getElem? (i := 465) (by decide +kernel), List.mem_of_getElem? (i := 466) (by decide +kernel)⟩
theorem lw_p6 : lw_okq (⟨"PassedPenance$Reader", "isWord", "(Ljava/lang/String;)Z"⟩, 9) := ⟨⟨by decide +kernel, by decide +kernel⟩, List.mem_of_getElem? (i := 31) (by decide +kernel), List.mem_of_getElem? (i := 469) (by decide +kernel), List.mem_of_getElem? (i := 470) (by decide +kernel)⟩
theorem lw_p7 : lw_okq (⟨"PassedPenance$Reader", "refuse", "(I)Z"⟩, 9) := ⟨⟨by decide +kernel, by decide +kernel⟩, List.mem_of_getElem? (i := 31) (by decide +kernel), List.mem_of_getElem? (i := 521) (by decide +kernel), List.mem_of_getElem? (i := 522) (by decide +kernel)⟩
theorem lw_p8 : lw_okq (⟨"PassedPenance$Reader", "isNumber", "(II)Z"⟩, 9) := ⟨⟨by decide +kernel, by decide +kernel⟩, List.mem_of_getElem? (i := 31) (by decide +kernel), List.mem_of_getElem? (i := 526) (by decide +kernel), List.mem_of_getElem? (i := 527) (by decide +kernel)⟩
theorem lw_p9 : lw_okq (⟨"PassedPenance$Reader", "passNumber", "()I"⟩, 9) := ⟨⟨by decide +kernel, by decide +kernel⟩, List.mem_of_getElem? (i := 31) (by decide +kernel), List.mem_of_getElem? (i := 530) (by decide +kernel), List.mem_of_getElem? (i := 531) (by decide +kernel)⟩
theorem lw_p10 : lw_okq (⟨"PassedPenance$Reader", "readPenance", "()Z"⟩, 9) := ⟨⟨by decide +kernel, by decide +kernel⟩, List.mem_of_getElem? (i := 31) (by decide +kernel), List.mem_of_getElem? (i := 537) (by decide +kernel), List.mem_of_getElem? (i := 538) (by decide +kernel)⟩
theorem lw_p11 : lw_okq (⟨"PassedPenance$Reader", "readPerson", "()Z"⟩, 9) := ⟨⟨by decide +kernel, by decide +kernel⟩, List.mem_of_getElem? (i := 31) (by decide +kernel), List.mem_of_getElem? (i := 543) (by decide +kernel), List.mem_of_getElem? (i := 544) (by decide +kernel)⟩
theorem lw_p12 : lw_okq (⟨"PassedPenance$Reader", "readGrudges", "()Z"⟩, 9) := ⟨⟨by decide +kernel, by decide +kernel⟩, List.mem_of_getElem? (i := 31) (by decide +kernel), List.mem_of_getElem? (i := 551) (by decide +kernel), List.mem_of_getElem? (i := 552) (by decide +kernel)⟩
theorem lw_p13 : lw_okq (⟨"PassedPenance$Reader", "readLeft", "()Z"⟩, 9) := ⟨⟨by decide +kernel, by decide +kernel⟩, List.mem_of_getElem? (i := 31) (by decide +kernel), List.mem_of_getElem? (i := 569) (by decide +kernel), List.mem_of_getElem? (i := 570) (by decide +kernel)⟩
theorem lw_p14 : lw_okq (⟨"PassedPenance$Reader", "passSign", "()Z"⟩, 9) := ⟨⟨by decide +kernel, by decide +kernel⟩, List.mem_of_getElem? (i := 31) (by decide +kernel), List.mem_of_getElem? (i := 573) (by decide +kernel), List.mem_of_getElem? (i := 574) (by decide +kernel)⟩
theorem lw_p15 : lw_okq (⟨"PassedPenance$Church", "isAhead", "(III)Z"⟩, 13) := ⟨⟨by decide +kernel, by decide +kernel⟩, List.mem_of_getElem? (i := 37) (by decide +kernel), List.mem_of_getElem? (i := 645) (by decide +kernel), List.mem_of_getElem? (i := 646) (by decide +kernel)⟩
def lw_privs_1 : List (MethodName × Nat) := [(⟨"PassedPenance$Reader", "step", "()V"⟩, 9), (⟨"PassedPenance$Reader", "kindAt", "(I)I"⟩, 9), (⟨"PassedPenance$Reader", "takeValue", "()V"⟩, 9), (⟨"PassedPenance$Reader", "readLine", "()Z"⟩, 9), (⟨"PassedPenance$Reader", "readHead", "()Z"⟩, 9), (⟨"PassedPenance$Reader", "passWord", "(Ljava/lang/String;)Z"⟩, 9), (⟨"PassedPenance$Reader", "isWord", "(Ljava/lang/String;)Z"⟩, 9), (⟨"PassedPenance$Reader", "refuse", "(I)Z"⟩, 9), (⟨"PassedPenance$Reader", "isNumber", "(II)Z"⟩, 9), (⟨"PassedPenance$Reader", "passNumber", "()I"⟩, 9), (⟨"PassedPenance$Reader", "readPenance", "()Z"⟩, 9), (⟨"PassedPenance$Reader", "readPerson", "()Z"⟩, 9), (⟨"PassedPenance$Reader", "readGrudges", "()Z"⟩, 9), (⟨"PassedPenance$Reader", "readLeft", "()Z"⟩, 9), (⟨"PassedPenance$Reader", "passSign", "()Z"⟩, 9), (⟨"PassedPenance$Church", "isAhead", "(III)Z"⟩, 13)]
theorem lw_r1 : ∀ q ∈ lw_privs_1, lw_okq q := List.forall_mem_cons.mpr ⟨lw_p0, List.forall_mem_cons.mpr ⟨lw_p1, List.forall_mem_cons.mpr ⟨lw_p2, List.forall_mem_cons.mpr ⟨lw_p3, List.forall_mem_cons.mpr ⟨lw_p4, List.forall_mem_cons.mpr ⟨lw_p5, List.forall_mem_cons.mpr ⟨lw_p6, List.forall_mem_cons.mpr ⟨lw_p7, List.forall_mem_cons.mpr ⟨lw_p8, List.forall_mem_cons.mpr ⟨lw_p9, List.forall_mem_cons.mpr ⟨lw_p10, List.forall_mem_cons.mpr ⟨lw_p11, List.forall_mem_cons.mpr ⟨lw_p12, List.forall_mem_cons.mpr ⟨lw_p13, List.forall_mem_cons.mpr ⟨lw_p14, List.forall_mem_cons.mpr ⟨lw_p15, fun _ h => absurd h List.not_mem_nil⟩⟩⟩⟩⟩⟩⟩⟩⟩⟩⟩⟩⟩⟩⟩⟩
theorem lw_p16 : lw_okq (⟨"PassedPenance$Church", "rightAhead", "(IIII)I"⟩, 13) := ⟨⟨by decide +kernel, by decide +kernel⟩, List.mem_of_getElem? (i := 37) (by decide +kernel), List.mem_of_getElem? (i := 657) (by decide +kernel), List.mem_of_getElem? (i := 658) (by decide +kernel)⟩
theorem lw_p17 : lw_okq (⟨"PassedPenance", "weighs", "(I)Z"⟩, 13) := ⟨⟨by decide +kernel, by decide +kernel⟩, List.mem_of_getElem? (i := 23) (by decide +kernel), List.mem_of_getElem? (i := 751) (by decide +kernel), List.mem_of_getElem? (i := 752) (by decide +kernel)⟩
theorem lw_p18 : lw_okq (⟨"PassedPenance$Orders", "weighNode", "(IIZ)V"⟩, 6) := ⟨⟨by decide +kernel, by decide +kernel⟩, List.mem_of_getElem? (i := 250) (by decide +kernel), List.mem_of_getElem? (i := 772) (by decide +kernel), List.mem_of_getElem? (i := 773) (by decide +kernel)⟩
theorem lw_p19 : lw_okq (⟨"PassedPenance$Orders", "goOn", "(IIII)V"⟩, 6) := ⟨⟨by decide +kernel, by decide +kernel⟩, List.mem_of_getElem? (i := 250) (by decide +kernel), List.mem_of_getElem? (i := 780) (by decide +kernel), List.mem_of_getElem? (i := 781) (by decide +kernel)⟩
theorem lw_p20 : lw_okq (⟨"PassedPenance$Orders", "firstSeat", "(II)I"⟩, 6) := ⟨⟨by decide +kernel, by decide +kernel⟩, List.mem_of_getElem? (i := 250) (by decide +kernel), List.mem_of_getElem? (i := 796) (by decide +kernel), List.mem_of_getElem? (i := 797) (by decide +kernel)⟩
theorem lw_p21 : lw_okq (⟨"PassedPenance$Church", "firstOf", "(I)I"⟩, 13) := ⟨⟨by decide +kernel, by decide +kernel⟩, List.mem_of_getElem? (i := 37) (by decide +kernel), List.mem_of_getElem? (i := 855) (by decide +kernel), List.mem_of_getElem? (i := 856) (by decide +kernel)⟩
theorem lw_p22 : lw_okq (⟨"PassedPenance$Swaps", "fewestBehind", "(II)I"⟩, 7) := ⟨⟨by decide +kernel, by decide +kernel⟩, List.mem_of_getElem? (i := 307) (by decide +kernel), List.mem_of_getElem? (i := 889) (by decide +kernel), List.mem_of_getElem? (i := 890) (by decide +kernel)⟩
theorem lw_p23 : lw_okq (⟨"PassedPenance$Swaps", "change", "(II)V"⟩, 7) := ⟨⟨by decide +kernel, by decide +kernel⟩, List.mem_of_getElem? (i := 307) (by decide +kernel), List.mem_of_getElem? (i := 893) (by decide +kernel), List.mem_of_getElem? (i := 894) (by decide +kernel)⟩
theorem lw_p24 : lw_okq (⟨"PassedPenance", "wouldTrade", "(II)Z"⟩, 13) := ⟨⟨by decide +kernel, by decide +kernel⟩, List.mem_of_getElem? (i := 23) (by decide +kernel), List.mem_of_getElem? (i := 901) (by decide +kernel), List.mem_of_getElem? (i := 902) (by decide +kernel)⟩
theorem lw_p25 : lw_okq (⟨"PassedPenance$Deal", "costsWith", "(II)I"⟩, 3) := ⟨⟨by decide +kernel, by decide +kernel⟩, List.mem_of_getElem? (i := 337) (by decide +kernel), List.mem_of_getElem? (i := 915) (by decide +kernel), List.mem_of_getElem? (i := 916) (by decide +kernel)⟩
theorem lw_p26 : lw_okq (⟨"PassedPenance$Deal", "firstShare", "(I)I"⟩, 3) := ⟨⟨by decide +kernel, by decide +kernel⟩, List.mem_of_getElem? (i := 337) (by decide +kernel), List.mem_of_getElem? (i := 935) (by decide +kernel), List.mem_of_getElem? (i := 936) (by decide +kernel)⟩
theorem lw_p27 : lw_okq (⟨"PassedPenance", "compare", "(II)I"⟩, 13) := ⟨⟨by decide +kernel, by decide +kernel⟩, List.mem_of_getElem? (i := 23) (by decide +kernel), List.mem_of_getElem? (i := 946) (by decide +kernel), List.mem_of_getElem? (i := 947) (by decide +kernel)⟩
theorem lw_p28 : lw_okq (⟨"PassedPenance$Sightings", "isSeated", "(I)Z"⟩, 6) := ⟨⟨by decide +kernel, by decide +kernel⟩, List.mem_of_getElem? (i := 280) (by decide +kernel), List.mem_of_getElem? (i := 968) (by decide +kernel), List.mem_of_getElem? (i := 969) (by decide +kernel)⟩
theorem lw_p29 : lw_okq (⟨"PassedPenance$Sightings", "countRest", "(IIZ)V"⟩, 6) := ⟨⟨by decide +kernel, by decide +kernel⟩, List.mem_of_getElem? (i := 280) (by decide +kernel), List.mem_of_getElem? (i := 981) (by decide +kernel), List.mem_of_getElem? (i := 982) (by decide +kernel)⟩
theorem lw_p30 : lw_okq (⟨"PassedPenance$Sightings", "fitsBehind", "(III)Z"⟩, 6) := ⟨⟨by decide +kernel, by decide +kernel⟩, List.mem_of_getElem? (i := 280) (by decide +kernel), List.mem_of_getElem? (i := 985) (by decide +kernel), List.mem_of_getElem? (i := 986) (by decide +kernel)⟩
theorem lw_p31 : lw_okq (⟨"PassedPenance$Sightings", "countOn", "(II)V"⟩, 6) := ⟨⟨by decide +kernel, by decide +kernel⟩, List.mem_of_getElem? (i := 280) (by decide +kernel), List.mem_of_getElem? (i := 990) (by decide +kernel), List.mem_of_getElem? (i := 991) (by decide +kernel)⟩
def lw_privs_2 : List (MethodName × Nat) := [(⟨"PassedPenance$Church", "rightAhead", "(IIII)I"⟩, 13), (⟨"PassedPenance", "weighs", "(I)Z"⟩, 13), (⟨"PassedPenance$Orders", "weighNode", "(IIZ)V"⟩, 6), (⟨"PassedPenance$Orders", "goOn", "(IIII)V"⟩, 6), (⟨"PassedPenance$Orders", "firstSeat", "(II)I"⟩, 6), (⟨"PassedPenance$Church", "firstOf", "(I)I"⟩, 13), (⟨"PassedPenance$Swaps", "fewestBehind", "(II)I"⟩, 7), (⟨"PassedPenance$Swaps", "change", "(II)V"⟩, 7), (⟨"PassedPenance", "wouldTrade", "(II)Z"⟩, 13), (⟨"PassedPenance$Deal", "costsWith", "(II)I"⟩, 3), (⟨"PassedPenance$Deal", "firstShare", "(I)I"⟩, 3), (⟨"PassedPenance", "compare", "(II)I"⟩, 13), (⟨"PassedPenance$Sightings", "isSeated", "(I)Z"⟩, 6), (⟨"PassedPenance$Sightings", "countRest", "(IIZ)V"⟩, 6), (⟨"PassedPenance$Sightings", "fitsBehind", "(III)Z"⟩, 6), (⟨"PassedPenance$Sightings", "countOn", "(II)V"⟩, 6)]
theorem lw_r2 : ∀ q ∈ lw_privs_2, lw_okq q := List.forall_mem_cons.mpr ⟨lw_p16, List.forall_mem_cons.mpr ⟨lw_p17, List.forall_mem_cons.mpr ⟨lw_p18, List.forall_mem_cons.mpr ⟨lw_p19, List.forall_mem_cons.mpr ⟨lw_p20, List.forall_mem_cons.mpr ⟨lw_p21, List.forall_mem_cons.mpr ⟨lw_p22, List.forall_mem_cons.mpr ⟨lw_p23, List.forall_mem_cons.mpr ⟨lw_p24, List.forall_mem_cons.mpr ⟨lw_p25, List.forall_mem_cons.mpr ⟨lw_p26, List.forall_mem_cons.mpr ⟨lw_p27, List.forall_mem_cons.mpr ⟨lw_p28, List.forall_mem_cons.mpr ⟨lw_p29, List.forall_mem_cons.mpr ⟨lw_p30, List.forall_mem_cons.mpr ⟨lw_p31, fun _ h => absurd h List.not_mem_nil⟩⟩⟩⟩⟩⟩⟩⟩⟩⟩⟩⟩⟩⟩⟩⟩
theorem lw_p32 : lw_okq (⟨"PassedPenance", "whyNoMean", "(III)I"⟩, 13) := ⟨⟨by decide +kernel, by decide +kernel⟩, List.mem_of_getElem? (i := 23) (by decide +kernel), List.mem_of_getElem? (i := 1038) (by decide +kernel), List.mem_of_getElem? (i := 1039) (by decide +kernel)⟩
theorem lw_p33 : lw_okq (⟨"PassedPenance$Acts", "log", "(II)V"⟩, 6) := ⟨⟨by decide +kernel, by decide +kernel⟩, List.mem_of_getElem? (i := 158) (by decide +kernel), List.mem_of_getElem? (i := 1094) (by decide +kernel), List.mem_of_getElem? (i := 1095) (by decide +kernel)⟩
theorem lw_p34 : lw_okq (⟨"PassedPenance$Acts", "change", "(II)V"⟩, 6) := ⟨⟨by decide +kernel, by decide +kernel⟩, List.mem_of_getElem? (i := 158) (by decide +kernel), List.mem_of_getElem? (i := 1106) (by decide +kernel), List.mem_of_getElem? (i := 1107) (by decide +kernel)⟩
theorem lw_p35 : lw_okq (⟨"PassedPenanceModel", "four", "(I)V"⟩, 42) := ⟨⟨by decide +kernel, by decide +kernel⟩, List.mem_of_getElem? (i := 1246) (by decide +kernel), List.mem_of_getElem? (i := 1406) (by decide +kernel), List.mem_of_getElem? (i := 1407) (by decide +kernel)⟩
theorem lw_p36 : lw_okq (⟨"PassedPenanceModel", "clears", "()V"⟩, 42) := ⟨⟨by decide +kernel, by decide +kernel⟩, List.mem_of_getElem? (i := 1246) (by decide +kernel), List.mem_of_getElem? (i := 1422) (by decide +kernel), List.mem_of_getElem? (i := 1423) (by decide +kernel)⟩
theorem lw_p37 : lw_okq (⟨"PassedPenanceModel", "tells", "(II)V"⟩, 42) := ⟨⟨by decide +kernel, by decide +kernel⟩, List.mem_of_getElem? (i := 1246) (by decide +kernel), List.mem_of_getElem? (i := 1426) (by decide +kernel), List.mem_of_getElem? (i := 1427) (by decide +kernel)⟩
theorem lw_p38 : lw_okq (⟨"PassedPenanceModel", "begins", "()V"⟩, 42) := ⟨⟨by decide +kernel, by decide +kernel⟩, List.mem_of_getElem? (i := 1246) (by decide +kernel), List.mem_of_getElem? (i := 1430) (by decide +kernel), List.mem_of_getElem? (i := 1431) (by decide +kernel)⟩
theorem lw_p39 : lw_okq (⟨"PassedPenanceModel", "next", "()V"⟩, 42) := ⟨⟨by decide +kernel, by decide +kernel⟩, List.mem_of_getElem? (i := 1246) (by decide +kernel), List.mem_of_getElem? (i := 1434) (by decide +kernel), List.mem_of_getElem? (i := 1435) (by decide +kernel)⟩
theorem lw_p40 : lw_okq (⟨"PassedPenanceModel", "isByte", "(III)Z"⟩, 42) := ⟨⟨by decide +kernel, by decide +kernel⟩, List.mem_of_getElem? (i := 1246) (by decide +kernel), List.mem_of_getElem? (i := 1438) (by decide +kernel), List.mem_of_getElem? (i := 1439) (by decide +kernel)⟩
theorem lw_p41 : lw_okq (⟨"PassedPenanceModel", "isGood", "()Z"⟩, 42) := ⟨⟨by decide +kernel, by decide +kernel⟩, List.mem_of_getElem? (i := 1246) (by decide +kernel), List.mem_of_getElem? (i := 1447) (by decide +kernel), List.mem_of_getElem? (i := 1448) (by decide +kernel)⟩
theorem lw_p42 : lw_okq (⟨"PassedPenanceModel", "asks", "(J)V"⟩, 42) := ⟨⟨by decide +kernel, by decide +kernel⟩, List.mem_of_getElem? (i := 1246) (by decide +kernel), List.mem_of_getElem? (i := 1452) (by decide +kernel), List.mem_of_getElem? (i := 1453) (by decide +kernel)⟩
theorem lw_p43 : lw_okq (⟨"PassedPenanceModel", "takes", "(J)Z"⟩, 42) := ⟨⟨by decide +kernel, by decide +kernel⟩, List.mem_of_getElem? (i := 1246) (by decide +kernel), List.mem_of_getElem? (i := 1456) (by decide +kernel), List.mem_of_getElem? (i := 1457) (by decide +kernel)⟩
theorem lw_p44 : lw_okq (⟨"PassedPenanceModel", "is", "(J)Z"⟩, 42) := ⟨⟨by decide +kernel, by decide +kernel⟩, List.mem_of_getElem? (i := 1246) (by decide +kernel), List.mem_of_getElem? (i := 1460) (by decide +kernel), List.mem_of_getElem? (i := 1461) (by decide +kernel)⟩
theorem lw_p45 : lw_okq (⟨"PassedPenanceModel", "fails", "(I)V"⟩, 42) := ⟨⟨by decide +kernel, by decide +kernel⟩, List.mem_of_getElem? (i := 1246) (by decide +kernel), List.mem_of_getElem? (i := 1464) (by decide +kernel), List.mem_of_getElem? (i := 1465) (by decide +kernel)⟩
theorem lw_p46 : lw_okq (⟨"PassedPenanceModel", "number", "(JII)I"⟩, 42) := ⟨⟨by decide +kernel, by decide +kernel⟩, List.mem_of_getElem? (i := 1246) (by decide +kernel), List.mem_of_getElem? (i := 1469) (by decide +kernel), List.mem_of_getElem? (i := 1470) (by decide +kernel)⟩
theorem lw_p47 : lw_okq (⟨"PassedPenanceModel", "number", "(II)I"⟩, 42) := ⟨⟨by decide +kernel, by decide +kernel⟩, List.mem_of_getElem? (i := 1246) (by decide +kernel), List.mem_of_getElem? (i := 1473) (by decide +kernel), List.mem_of_getElem? (i := 1474) (by decide +kernel)⟩
def lw_privs_3 : List (MethodName × Nat) := [(⟨"PassedPenance", "whyNoMean", "(III)I"⟩, 13), (⟨"PassedPenance$Acts", "log", "(II)V"⟩, 6), (⟨"PassedPenance$Acts", "change", "(II)V"⟩, 6), (⟨"PassedPenanceModel", "four", "(I)V"⟩, 42), (⟨"PassedPenanceModel", "clears", "()V"⟩, 42), (⟨"PassedPenanceModel", "tells", "(II)V"⟩, 42), (⟨"PassedPenanceModel", "begins", "()V"⟩, 42), (⟨"PassedPenanceModel", "next", "()V"⟩, 42), (⟨"PassedPenanceModel", "isByte", "(III)Z"⟩, 42), (⟨"PassedPenanceModel", "isGood", "()Z"⟩, 42), (⟨"PassedPenanceModel", "asks", "(J)V"⟩, 42), (⟨"PassedPenanceModel", "takes", "(J)Z"⟩, 42), (⟨"PassedPenanceModel", "is", "(J)Z"⟩, 42), (⟨"PassedPenanceModel", "fails", "(I)V"⟩, 42), (⟨"PassedPenanceModel", "number", "(JII)I"⟩, 42), (⟨"PassedPenanceModel", "number", "(II)I"⟩, 42)]
theorem lw_r3 : ∀ q ∈ lw_privs_3, lw_okq q := List.forall_mem_cons.mpr ⟨lw_p32, List.forall_mem_cons.mpr ⟨lw_p33, List.forall_mem_cons.mpr ⟨lw_p34, List.forall_mem_cons.mpr ⟨lw_p35, List.forall_mem_cons.mpr ⟨lw_p36, List.forall_mem_cons.mpr ⟨lw_p37, List.forall_mem_cons.mpr ⟨lw_p38, List.forall_mem_cons.mpr ⟨lw_p39, List.forall_mem_cons.mpr ⟨lw_p40, List.forall_mem_cons.mpr ⟨lw_p41, List.forall_mem_cons.mpr ⟨lw_p42, List.forall_mem_cons.mpr ⟨lw_p43, List.forall_mem_cons.mpr ⟨lw_p44, List.forall_mem_cons.mpr ⟨lw_p45, List.forall_mem_cons.mpr ⟨lw_p46, List.forall_mem_cons.mpr ⟨lw_p47, fun _ h => absurd h List.not_mem_nil⟩⟩⟩⟩⟩⟩⟩⟩⟩⟩⟩⟩⟩⟩⟩⟩
theorem lw_p48 : lw_okq (⟨"PassedPenanceModel", "line", "()V"⟩, 42) := ⟨⟨by decide +kernel, by decide +kernel⟩, List.mem_of_getElem? (i := 1246) (by decide +kernel), List.mem_of_getElem? (i := 1479) (by decide +kernel), List.mem_of_getElem? (i := 1480) (by decide +kernel)⟩
theorem lw_p49 : lw_okq (⟨"PassedPenanceModel", "isRoom", "(ZII)Z"⟩, 42) := ⟨⟨by decide +kernel, by decide +kernel⟩, List.mem_of_getElem? (i := 1246) (by decide +kernel), List.mem_of_getElem? (i := 1484) (by decide +kernel), List.mem_of_getElem? (i := 1485) (by decide +kernel)⟩
theorem lw_p50 : lw_okq (⟨"PassedPenanceModel", "hasRead", "(I)I"⟩, 42) := ⟨⟨by decide +kernel, by decide +kernel⟩, List.mem_of_getElem? (i := 1246) (by decide +kernel), List.mem_of_getElem? (i := 1488) (by decide +kernel), List.mem_of_getElem? (i := 1489) (by decide +kernel)⟩
theorem lw_p51 : lw_okq (⟨"PassedPenanceModel", "personLine", "()V"⟩, 42) := ⟨⟨by decide +kernel, by decide +kernel⟩, List.mem_of_getElem? (i := 1246) (by decide +kernel), List.mem_of_getElem? (i := 1494) (by decide +kernel), List.mem_of_getElem? (i := 1495) (by decide +kernel)⟩
theorem lw_p52 : lw_okq (⟨"PassedPenanceModel", "penanceHere", "()I"⟩, 42) := ⟨⟨by decide +kernel, by decide +kernel⟩, List.mem_of_getElem? (i := 1246) (by decide +kernel), List.mem_of_getElem? (i := 1499) (by decide +kernel), List.mem_of_getElem? (i := 1500) (by decide +kernel)⟩
theorem lw_p53 : lw_okq (⟨"PassedPenanceModel", "boxHere", "()I"⟩, 42) := ⟨⟨by decide +kernel, by decide +kernel⟩, List.mem_of_getElem? (i := 1246) (by decide +kernel), List.mem_of_getElem? (i := 1505) (by decide +kernel), List.mem_of_getElem? (i := 1506) (by decide +kernel)⟩
theorem lw_p54 : lw_okq (⟨"PassedPenanceModel", "ends", "()V"⟩, 42) := ⟨⟨by decide +kernel, by decide +kernel⟩, List.mem_of_getElem? (i := 1246) (by decide +kernel), List.mem_of_getElem? (i := 1512) (by decide +kernel), List.mem_of_getElem? (i := 1513) (by decide +kernel)⟩
theorem lw_p55 : lw_okq (⟨"PassedPenanceModel", "isOver", "()V"⟩, 42) := ⟨⟨by decide +kernel, by decide +kernel⟩, List.mem_of_getElem? (i := 1246) (by decide +kernel), List.mem_of_getElem? (i := 1516) (by decide +kernel), List.mem_of_getElem? (i := 1517) (by decide +kernel)⟩
theorem lw_p56 : lw_okq (⟨"PassedPenanceModel", "copyChurch", "(II)V"⟩, 42) := ⟨⟨by decide +kernel, by decide +kernel⟩, List.mem_of_getElem? (i := 1246) (by decide +kernel), List.mem_of_getElem? (i := 1520) (by decide +kernel), List.mem_of_getElem? (i := 1521) (by decide +kernel)⟩
theorem lw_p57 : lw_okq (⟨"PassedPenanceModel", "isPenance", "(J)Z"⟩, 42) := ⟨⟨by decide +kernel, by decide +kernel⟩, List.mem_of_getElem? (i := 1246) (by decide +kernel), List.mem_of_getElem? (i := 1531) (by decide +kernel), List.mem_of_getElem? (i := 1532) (by decide +kernel)⟩
theorem lw_p58 : lw_okq (⟨"PassedPenanceModel", "isPerson", "(J)Z"⟩, 42) := ⟨⟨by decide +kernel, by decide +kernel⟩, List.mem_of_getElem? (i := 1246) (by decide +kernel), List.mem_of_getElem? (i := 1539) (by decide +kernel), List.mem_of_getElem? (i := 1540) (by decide +kernel)⟩
theorem lw_p59 : lw_okq (⟨"PassedPenanceModel", "costOf", "(II)I"⟩, 42) := ⟨⟨by decide +kernel, by decide +kernel⟩, List.mem_of_getElem? (i := 1246) (by decide +kernel), List.mem_of_getElem? (i := 1551) (by decide +kernel), List.mem_of_getElem? (i := 1552) (by decide +kernel)⟩
theorem lw_p60 : lw_okq (⟨"PassedPenanceModel", "isBox", "(I)Z"⟩, 42) := ⟨⟨by decide +kernel, by decide +kernel⟩, List.mem_of_getElem? (i := 1246) (by decide +kernel), List.mem_of_getElem? (i := 1559) (by decide +kernel), List.mem_of_getElem? (i := 1560) (by decide +kernel)⟩
theorem lw_p61 : lw_okq (⟨"PassedPenanceModel", "lays", "()V"⟩, 42) := ⟨⟨by decide +kernel, by decide +kernel⟩, List.mem_of_getElem? (i := 1246) (by decide +kernel), List.mem_of_getElem? (i := 1567) (by decide +kernel), List.mem_of_getElem? (i := 1568) (by decide +kernel)⟩
theorem lw_p62 : lw_okq (⟨"PassedPenanceModel", "everybody", "()I"⟩, 42) := ⟨⟨by decide +kernel, by decide +kernel⟩, List.mem_of_getElem? (i := 1246) (by decide +kernel), List.mem_of_getElem? (i := 1571) (by decide +kernel), List.mem_of_getElem? (i := 1572) (by decide +kernel)⟩
theorem lw_p63 : lw_okq (⟨"PassedPenanceModel", "boxOf", "(I)I"⟩, 42) := ⟨⟨by decide +kernel, by decide +kernel⟩, List.mem_of_getElem? (i := 1246) (by decide +kernel), List.mem_of_getElem? (i := 1575) (by decide +kernel), List.mem_of_getElem? (i := 1576) (by decide +kernel)⟩
def lw_privs_4 : List (MethodName × Nat) := [(⟨"PassedPenanceModel", "line", "()V"⟩, 42), (⟨"PassedPenanceModel", "isRoom", "(ZII)Z"⟩, 42), (⟨"PassedPenanceModel", "hasRead", "(I)I"⟩, 42), (⟨"PassedPenanceModel", "personLine", "()V"⟩, 42), (⟨"PassedPenanceModel", "penanceHere", "()I"⟩, 42), (⟨"PassedPenanceModel", "boxHere", "()I"⟩, 42), (⟨"PassedPenanceModel", "ends", "()V"⟩, 42), (⟨"PassedPenanceModel", "isOver", "()V"⟩, 42), (⟨"PassedPenanceModel", "copyChurch", "(II)V"⟩, 42), (⟨"PassedPenanceModel", "isPenance", "(J)Z"⟩, 42), (⟨"PassedPenanceModel", "isPerson", "(J)Z"⟩, 42), (⟨"PassedPenanceModel", "costOf", "(II)I"⟩, 42), (⟨"PassedPenanceModel", "isBox", "(I)Z"⟩, 42), (⟨"PassedPenanceModel", "lays", "()V"⟩, 42), (⟨"PassedPenanceModel", "everybody", "()I"⟩, 42), (⟨"PassedPenanceModel", "boxOf", "(I)I"⟩, 42)]
theorem lw_r4 : ∀ q ∈ lw_privs_4, lw_okq q := List.forall_mem_cons.mpr ⟨lw_p48, List.forall_mem_cons.mpr ⟨lw_p49, List.forall_mem_cons.mpr ⟨lw_p50, List.forall_mem_cons.mpr ⟨lw_p51, List.forall_mem_cons.mpr ⟨lw_p52, List.forall_mem_cons.mpr ⟨lw_p53, List.forall_mem_cons.mpr ⟨lw_p54, List.forall_mem_cons.mpr ⟨lw_p55, List.forall_mem_cons.mpr ⟨lw_p56, List.forall_mem_cons.mpr ⟨lw_p57, List.forall_mem_cons.mpr ⟨lw_p58, List.forall_mem_cons.mpr ⟨lw_p59, List.forall_mem_cons.mpr ⟨lw_p60, List.forall_mem_cons.mpr ⟨lw_p61, List.forall_mem_cons.mpr ⟨lw_p62, List.forall_mem_cons.mpr ⟨lw_p63, fun _ h => absurd h List.not_mem_nil⟩⟩⟩⟩⟩⟩⟩⟩⟩⟩⟩⟩⟩⟩⟩⟩
theorem lw_p64 : lw_okq (⟨"PassedPenanceModel", "isAhead", "(II)Z"⟩, 42) := ⟨⟨by decide +kernel, by decide +kernel⟩, List.mem_of_getElem? (i := 1246) (by decide +kernel), List.mem_of_getElem? (i := 1579) (by decide +kernel), List.mem_of_getElem? (i := 1580) (by decide +kernel)⟩
theorem lw_p65 : lw_okq (⟨"PassedPenanceModel", "getsOf", "(I)I"⟩, 42) := ⟨⟨by decide +kernel, by decide +kernel⟩, List.mem_of_getElem? (i := 1246) (by decide +kernel), List.mem_of_getElem? (i := 1587) (by decide +kernel), List.mem_of_getElem? (i := 1588) (by decide +kernel)⟩
theorem lw_p66 : lw_okq (⟨"PassedPenanceModel", "aheadOf", "(I)I"⟩, 42) := ⟨⟨by decide +kernel, by decide +kernel⟩, List.mem_of_getElem? (i := 1246) (by decide +kernel), List.mem_of_getElem? (i := 1591) (by decide +kernel), List.mem_of_getElem? (i := 1592) (by decide +kernel)⟩
theorem lw_p67 : lw_okq (⟨"PassedPenanceModel", "sinOf", "(I)I"⟩, 42) := ⟨⟨by decide +kernel, by decide +kernel⟩, List.mem_of_getElem? (i := 1246) (by decide +kernel), List.mem_of_getElem? (i := 1598) (by decide +kernel), List.mem_of_getElem? (i := 1599) (by decide +kernel)⟩
theorem lw_p68 : lw_okq (⟨"PassedPenanceModel", "hasCost", "(I)I"⟩, 42) := ⟨⟨by decide +kernel, by decide +kernel⟩, List.mem_of_getElem? (i := 1246) (by decide +kernel), List.mem_of_getElem? (i := 1619) (by decide +kernel), List.mem_of_getElem? (i := 1620) (by decide +kernel)⟩
theorem lw_p69 : lw_okq (⟨"PassedPenanceModel", "isChurch", "()Z"⟩, 42) := ⟨⟨by decide +kernel, by decide +kernel⟩, List.mem_of_getElem? (i := 1246) (by decide +kernel), List.mem_of_getElem? (i := 1627) (by decide +kernel), List.mem_of_getElem? (i := 1628) (by decide +kernel)⟩
theorem lw_p70 : lw_okq (⟨"PassedPenanceModel", "sinnedOf", "(I)I"⟩, 42) := ⟨⟨by decide +kernel, by decide +kernel⟩, List.mem_of_getElem? (i := 1246) (by decide +kernel), List.mem_of_getElem? (i := 1655) (by decide +kernel), List.mem_of_getElem? (i := 1656) (by decide +kernel)⟩
theorem lw_p71 : lw_okq (⟨"PassedPenanceModel", "bestBy", "(II)I"⟩, 42) := ⟨⟨by decide +kernel, by decide +kernel⟩, List.mem_of_getElem? (i := 1246) (by decide +kernel), List.mem_of_getElem? (i := 1668) (by decide +kernel), List.mem_of_getElem? (i := 1669) (by decide +kernel)⟩
theorem lw_p72 : lw_okq (⟨"PassedPenanceModel", "laysOrders", "(II)V"⟩, 42) := ⟨⟨by decide +kernel, by decide +kernel⟩, List.mem_of_getElem? (i := 1246) (by decide +kernel), List.mem_of_getElem? (i := 1672) (by decide +kernel), List.mem_of_getElem? (i := 1673) (by decide +kernel)⟩
theorem lw_p73 : lw_okq (⟨"PassedPenanceModel", "of", "(I)I"⟩, 42) := ⟨⟨by decide +kernel, by decide +kernel⟩, List.mem_of_getElem? (i := 1246) (by decide +kernel), List.mem_of_getElem? (i := 1676) (by decide +kernel), List.mem_of_getElem? (i := 1677) (by decide +kernel)⟩
theorem lw_p74 : lw_okq (⟨"PassedPenanceModel", "stepOf", "(IIII)I"⟩, 42) := ⟨⟨by decide +kernel, by decide +kernel⟩, List.mem_of_getElem? (i := 1246) (by decide +kernel), List.mem_of_getElem? (i := 1680) (by decide +kernel), List.mem_of_getElem? (i := 1681) (by decide +kernel)⟩
theorem lw_p75 : lw_okq (⟨"PassedPenanceModel", "isHour", "(I)Z"⟩, 42) := ⟨⟨by decide +kernel, by decide +kernel⟩, List.mem_of_getElem? (i := 1246) (by decide +kernel), List.mem_of_getElem? (i := 1714) (by decide +kernel), List.mem_of_getElem? (i := 1715) (by decide +kernel)⟩
theorem lw_p76 : lw_okq (⟨"PassedPenanceModel", "comesIn", "(II)I"⟩, 42) := ⟨⟨by decide +kernel, by decide +kernel⟩, List.mem_of_getElem? (i := 1246) (by decide +kernel), List.mem_of_getElem? (i := 1718) (by decide +kernel), List.mem_of_getElem? (i := 1719) (by decide +kernel)⟩
theorem lw_p77 : lw_okq (⟨"PassedPenanceModel", "hourOf", "(I)I"⟩, 42) := ⟨⟨by decide +kernel, by decide +kernel⟩, List.mem_of_getElem? (i := 1246) (by decide +kernel), List.mem_of_getElem? (i := 1726) (by decide +kernel), List.mem_of_getElem? (i := 1727) (by decide +kernel)⟩
theorem lw_p78 : lw_okq (⟨"PassedPenanceModel", "stirs", "(I)Z"⟩, 42) := ⟨⟨by decide +kernel, by decide +kernel⟩, List.mem_of_getElem? (i := 1246) (by decide +kernel), List.mem_of_getElem? (i := 1734) (by decide +kernel), List.mem_of_getElem? (i := 1735) (by decide +kernel)⟩
theorem lw_p79 : lw_okq (⟨"PassedPenanceModel", "settle", "()I"⟩, 42) := ⟨⟨by decide +kernel, by decide +kernel⟩, List.mem_of_getElem? (i := 1246) (by decide +kernel), List.mem_of_getElem? (i := 1742) (by decide +kernel), List.mem_of_getElem? (i := 1743) (by decide +kernel)⟩
def lw_privs_5 : List (MethodName × Nat) := [(⟨"PassedPenanceModel", "isAhead", "(II)Z"⟩, 42), (⟨"PassedPenanceModel", "getsOf", "(I)I"⟩, 42), (⟨"PassedPenanceModel", "aheadOf", "(I)I"⟩, 42), (⟨"PassedPenanceModel", "sinOf", "(I)I"⟩, 42), (⟨"PassedPenanceModel", "hasCost", "(I)I"⟩, 42), (⟨"PassedPenanceModel", "isChurch", "()Z"⟩, 42), (⟨"PassedPenanceModel", "sinnedOf", "(I)I"⟩, 42), (⟨"PassedPenanceModel", "bestBy", "(II)I"⟩, 42), (⟨"PassedPenanceModel", "laysOrders", "(II)V"⟩, 42), (⟨"PassedPenanceModel", "of", "(I)I"⟩, 42), (⟨"PassedPenanceModel", "stepOf", "(IIII)I"⟩, 42), (⟨"PassedPenanceModel", "isHour", "(I)Z"⟩, 42), (⟨"PassedPenanceModel", "comesIn", "(II)I"⟩, 42), (⟨"PassedPenanceModel", "hourOf", "(I)I"⟩, 42), (⟨"PassedPenanceModel", "stirs", "(I)Z"⟩, 42), (⟨"PassedPenanceModel", "settle", "()I"⟩, 42)]
theorem lw_r5 : ∀ q ∈ lw_privs_5, lw_okq q := List.forall_mem_cons.mpr ⟨lw_p64, List.forall_mem_cons.mpr ⟨lw_p65, List.forall_mem_cons.mpr ⟨lw_p66, List.forall_mem_cons.mpr ⟨lw_p67, List.forall_mem_cons.mpr ⟨lw_p68, List.forall_mem_cons.mpr ⟨lw_p69, List.forall_mem_cons.mpr ⟨lw_p70, List.forall_mem_cons.mpr ⟨lw_p71, List.forall_mem_cons.mpr ⟨lw_p72, List.forall_mem_cons.mpr ⟨lw_p73, List.forall_mem_cons.mpr ⟨lw_p74, List.forall_mem_cons.mpr ⟨lw_p75, List.forall_mem_cons.mpr ⟨lw_p76, List.forall_mem_cons.mpr ⟨lw_p77, List.forall_mem_cons.mpr ⟨lw_p78, List.forall_mem_cons.mpr ⟨lw_p79, fun _ h => absurd h List.not_mem_nil⟩⟩⟩⟩⟩⟩⟩⟩⟩⟩⟩⟩⟩⟩⟩⟩
theorem lw_p80 : lw_okq (⟨"PassedPenanceModel", "laysGot", "()V"⟩, 42) := ⟨⟨by decide +kernel, by decide +kernel⟩, List.mem_of_getElem? (i := 1246) (by decide +kernel), List.mem_of_getElem? (i := 1754) (by decide +kernel), List.mem_of_getElem? (i := 1755) (by decide +kernel)⟩
theorem lw_p81 : lw_okq (⟨"PassedPenanceModel", "fewestSwaps", "()I"⟩, 42) := ⟨⟨by decide +kernel, by decide +kernel⟩, List.mem_of_getElem? (i := 1246) (by decide +kernel), List.mem_of_getElem? (i := 1758) (by decide +kernel), List.mem_of_getElem? (i := 1759) (by decide +kernel)⟩
theorem lw_p82 : lw_okq (⟨"PassedPenanceModel", "deals", "(II)V"⟩, 42) := ⟨⟨by decide +kernel, by decide +kernel⟩, List.mem_of_getElem? (i := 1246) (by decide +kernel), List.mem_of_getElem? (i := 1762) (by decide +kernel), List.mem_of_getElem? (i := 1763) (by decide +kernel)⟩
theorem lw_p83 : lw_okq (⟨"PassedPenanceModel", "rings", "()I"⟩, 42) := ⟨⟨by decide +kernel, by decide +kernel⟩, List.mem_of_getElem? (i := 1246) (by decide +kernel), List.mem_of_getElem? (i := 1766) (by decide +kernel), List.mem_of_getElem? (i := 1767) (by decide +kernel)⟩
theorem lw_p84 : lw_okq (⟨"PassedPenanceModel", "changes", "(II)V"⟩, 42) := ⟨⟨by decide +kernel, by decide +kernel⟩, List.mem_of_getElem? (i := 1246) (by decide +kernel), List.mem_of_getElem? (i := 1774) (by decide +kernel), List.mem_of_getElem? (i := 1775) (by decide +kernel)⟩
theorem lw_p85 : lw_okq (⟨"PassedPenanceModel", "laysDeal", "()V"⟩, 42) := ⟨⟨by decide +kernel, by decide +kernel⟩, List.mem_of_getElem? (i := 1246) (by decide +kernel), List.mem_of_getElem? (i := 1786) (by decide +kernel), List.mem_of_getElem? (i := 1787) (by decide +kernel)⟩
theorem lw_p86 : lw_okq (⟨"PassedPenanceModel", "dealOf", "(II)I"⟩, 42) := ⟨⟨by decide +kernel, by decide +kernel⟩, List.mem_of_getElem? (i := 1246) (by decide +kernel), List.mem_of_getElem? (i := 1794) (by decide +kernel), List.mem_of_getElem? (i := 1795) (by decide +kernel)⟩
theorem lw_p87 : lw_okq (⟨"PassedPenanceModel", "whyNot", "(II)I"⟩, 42) := ⟨⟨by decide +kernel, by decide +kernel⟩, List.mem_of_getElem? (i := 1246) (by decide +kernel), List.mem_of_getElem? (i := 1802) (by decide +kernel), List.mem_of_getElem? (i := 1803) (by decide +kernel)⟩
theorem lw_p88 : lw_okq (⟨"PassedPenanceModel", "laysFits", "(II)V"⟩, 42) := ⟨⟨by decide +kernel, by decide +kernel⟩, List.mem_of_getElem? (i := 1246) (by decide +kernel), List.mem_of_getElem? (i := 1806) (by decide +kernel), List.mem_of_getElem? (i := 1807) (by decide +kernel)⟩
theorem lw_p89 : lw_okq (⟨"PassedPenanceModel", "comesNext", "(IIII)V"⟩, 42) := ⟨⟨by decide +kernel, by decide +kernel⟩, List.mem_of_getElem? (i := 1246) (by decide +kernel), List.mem_of_getElem? (i := 1810) (by decide +kernel), List.mem_of_getElem? (i := 1811) (by decide +kernel)⟩
theorem lw_p90 : lw_okq (⟨"PassedPenanceModel", "laysAsk", "(II)V"⟩, 42) := ⟨⟨by decide +kernel, by decide +kernel⟩, List.mem_of_getElem? (i := 1246) (by decide +kernel), List.mem_of_getElem? (i := 1826) (by decide +kernel), List.mem_of_getElem? (i := 1827) (by decide +kernel)⟩
theorem lw_p91 : lw_okq (⟨"PassedPenanceModel", "whyNotMean", "(II)I"⟩, 42) := ⟨⟨by decide +kernel, by decide +kernel⟩, List.mem_of_getElem? (i := 1246) (by decide +kernel), List.mem_of_getElem? (i := 1838) (by decide +kernel), List.mem_of_getElem? (i := 1839) (by decide +kernel)⟩
theorem lw_p92 : lw_okq (⟨"PassedPenanceModel", "allOf", "(I)J"⟩, 42) := ⟨⟨by decide +kernel, by decide +kernel⟩, List.mem_of_getElem? (i := 1246) (by decide +kernel), List.mem_of_getElem? (i := 1843) (by decide +kernel), List.mem_of_getElem? (i := 1844) (by decide +kernel)⟩
theorem lw_p93 : lw_okq (⟨"PassedPenanceModel", "passOf", "(III)J"⟩, 42) := ⟨⟨by decide +kernel, by decide +kernel⟩, List.mem_of_getElem? (i := 1246) (by decide +kernel), List.mem_of_getElem? (i := 1847) (by decide +kernel), List.mem_of_getElem? (i := 1848) (by decide +kernel)⟩
theorem lw_p94 : lw_okq (⟨"PassedPenanceModel", "laysNow", "()V"⟩, 42) := ⟨⟨by decide +kernel, by decide +kernel⟩, List.mem_of_getElem? (i := 1246) (by decide +kernel), List.mem_of_getElem? (i := 1874) (by decide +kernel), List.mem_of_getElem? (i := 1875) (by decide +kernel)⟩
theorem lw_p95 : lw_okq (⟨"PassedPenanceModel", "isFull", "()Z"⟩, 42) := ⟨⟨by decide +kernel, by decide +kernel⟩, List.mem_of_getElem? (i := 1246) (by decide +kernel), List.mem_of_getElem? (i := 1878) (by decide +kernel), List.mem_of_getElem? (i := 1879) (by decide +kernel)⟩
def lw_privs_6 : List (MethodName × Nat) := [(⟨"PassedPenanceModel", "laysGot", "()V"⟩, 42), (⟨"PassedPenanceModel", "fewestSwaps", "()I"⟩, 42), (⟨"PassedPenanceModel", "deals", "(II)V"⟩, 42), (⟨"PassedPenanceModel", "rings", "()I"⟩, 42), (⟨"PassedPenanceModel", "changes", "(II)V"⟩, 42), (⟨"PassedPenanceModel", "laysDeal", "()V"⟩, 42), (⟨"PassedPenanceModel", "dealOf", "(II)I"⟩, 42), (⟨"PassedPenanceModel", "whyNot", "(II)I"⟩, 42), (⟨"PassedPenanceModel", "laysFits", "(II)V"⟩, 42), (⟨"PassedPenanceModel", "comesNext", "(IIII)V"⟩, 42), (⟨"PassedPenanceModel", "laysAsk", "(II)V"⟩, 42), (⟨"PassedPenanceModel", "whyNotMean", "(II)I"⟩, 42), (⟨"PassedPenanceModel", "allOf", "(I)J"⟩, 42), (⟨"PassedPenanceModel", "passOf", "(III)J"⟩, 42), (⟨"PassedPenanceModel", "laysNow", "()V"⟩, 42), (⟨"PassedPenanceModel", "isFull", "()Z"⟩, 42)]
theorem lw_r6 : ∀ q ∈ lw_privs_6, lw_okq q := List.forall_mem_cons.mpr ⟨lw_p80, List.forall_mem_cons.mpr ⟨lw_p81, List.forall_mem_cons.mpr ⟨lw_p82, List.forall_mem_cons.mpr ⟨lw_p83, List.forall_mem_cons.mpr ⟨lw_p84, List.forall_mem_cons.mpr ⟨lw_p85, List.forall_mem_cons.mpr ⟨lw_p86, List.forall_mem_cons.mpr ⟨lw_p87, List.forall_mem_cons.mpr ⟨lw_p88, List.forall_mem_cons.mpr ⟨lw_p89, List.forall_mem_cons.mpr ⟨lw_p90, List.forall_mem_cons.mpr ⟨lw_p91, List.forall_mem_cons.mpr ⟨lw_p92, List.forall_mem_cons.mpr ⟨lw_p93, List.forall_mem_cons.mpr ⟨lw_p94, List.forall_mem_cons.mpr ⟨lw_p95, fun _ h => absurd h List.not_mem_nil⟩⟩⟩⟩⟩⟩⟩⟩⟩⟩⟩⟩⟩⟩⟩⟩
theorem lw_p96 : lw_okq (⟨"PassedPenanceModel", "acts", "(II)V"⟩, 42) := ⟨⟨by decide +kernel, by decide +kernel⟩, List.mem_of_getElem? (i := 1246) (by decide +kernel), List.mem_of_getElem? (i := 1882) (by decide +kernel), List.mem_of_getElem? (i := 1883) (by decide +kernel)⟩
theorem lw_p97 : lw_okq (⟨"PassedPenanceModel", "isSeed", "(I)Z"⟩, 42) := ⟨⟨by decide +kernel, by decide +kernel⟩, List.mem_of_getElem? (i := 1246) (by decide +kernel), List.mem_of_getElem? (i := 1918) (by decide +kernel), List.mem_of_getElem? (i := 1919) (by decide +kernel)⟩
theorem lw_p98 : lw_okq (⟨"PassedPenanceModel", "draws", "(J)V"⟩, 42) := ⟨⟨by decide +kernel, by decide +kernel⟩, List.mem_of_getElem? (i := 1246) (by decide +kernel), List.mem_of_getElem? (i := 1923) (by decide +kernel), List.mem_of_getElem? (i := 1924) (by decide +kernel)⟩
def lw_privs_7 : List (MethodName × Nat) := [(⟨"PassedPenanceModel", "acts", "(II)V"⟩, 42), (⟨"PassedPenanceModel", "isSeed", "(I)Z"⟩, 42), (⟨"PassedPenanceModel", "draws", "(J)V"⟩, 42)]
theorem lw_r7 : ∀ q ∈ lw_privs_7, lw_okq q := List.forall_mem_cons.mpr ⟨lw_p96, List.forall_mem_cons.mpr ⟨lw_p97, List.forall_mem_cons.mpr ⟨lw_p98, fun _ h => absurd h List.not_mem_nil⟩⟩⟩
def lw_privs : List (MethodName × Nat) := lw_privs_1 ++ (lw_privs_2 ++ (lw_privs_3 ++ (lw_privs_4 ++ (lw_privs_5 ++ (lw_privs_6 ++ (lw_privs_7))))))
def lw_tbl : List Cond := k2_sels lw_privs ++ tables_1
theorem lw_privs_ok : ∀ q ∈ lw_privs, lw_okq q := by
  show ∀ q ∈ lw_privs_1 ++ (lw_privs_2 ++ (lw_privs_3 ++ (lw_privs_4 ++ (lw_privs_5 ++ (lw_privs_6 ++ (lw_privs_7)))))), lw_okq q
  exact List.forall_mem_append.mpr ⟨lw_r1, List.forall_mem_append.mpr ⟨lw_r2, List.forall_mem_append.mpr ⟨lw_r3, List.forall_mem_append.mpr ⟨lw_r4, List.forall_mem_append.mpr ⟨lw_r5, List.forall_mem_append.mpr ⟨lw_r6, lw_r7⟩⟩⟩⟩⟩⟩
end
section
def RX0 : String := "PassedPenance$Acts"
def TX0 : u_T := fun k => match k with
  | 0 => ("PassedPenance$Acts", "count", "I", false)
  | 1 => ("PassedPenance$Acts", "confessed", "I", false)
  | 2 => ("PassedPenance$Acts", "lies", "[I", true)
  | 3 => ("PassedPenance$Acts", "held", "[I", true)
  | 4 => ("PassedPenance$Acts", "doer", "[I", true)
  | _ => ("PassedPenance$Acts", "partner", "[I", true)
def tyX0 : Nat → FieldType := fun k => match k with
  | 0 => .int
  | 1 => .int
  | 2 => .array .int
  | 3 => .array .int
  | 4 => .array .int
  | _ => .array .int
abbrev wsX00 : List Cond := u_ws RX0 TX0 6
theorem nmX0 : ∀ a, a < 6 → ∀ b, b < 6 → a ≠ b → (TX0 a).2.1 ≠ (TX0 b).2.1 := by decide +kernel
theorem tyX0_ok : ∀ k, k < 6 → parseFieldDescriptor (TX0 k).2.2.1 = some (tyX0 k) := by decide +kernel
abbrev cX0_init : ByteArray := prog_2_method_1_code
def yX0_init : MethodName := ⟨RX0, "<init>", "()V"⟩
abbrev cX0_begin : ByteArray := prog_2_method_2_code
def yX0_begin : MethodName := ⟨RX0, "begin", "(LPassedPenance$Church;)V"⟩
abbrev cX0_takeOver : ByteArray := prog_2_method_3_code
def yX0_takeOver : MethodName := ⟨RX0, "takeOver", "(LPassedPenance$Acts;)V"⟩
abbrev cX0_isFull : ByteArray := prog_2_method_4_code
def yX0_isFull : MethodName := ⟨RX0, "isFull", "()Z"⟩
abbrev cX0_hasConfessed : ByteArray := prog_2_method_5_code
def yX0_hasConfessed : MethodName := ⟨RX0, "hasConfessed", "(I)Z"⟩
abbrev cX0_addConfession : ByteArray := prog_2_method_6_code
def yX0_addConfession : MethodName := ⟨RX0, "addConfession", "(LPassedPenance$Church;I)I"⟩
abbrev cX0_addClearing : ByteArray := prog_2_method_7_code
def yX0_addClearing : MethodName := ⟨RX0, "addClearing", "(II)V"⟩
abbrev cX0_log : ByteArray := prog_2_method_8_code
def yX0_log : MethodName := ⟨RX0, "log", "(II)V"⟩
abbrev cX0_change : ByteArray := prog_2_method_9_code
def yX0_change : MethodName := ⟨RX0, "change", "(II)V"⟩
abbrev cX0_takeBack : ByteArray := prog_2_method_10_code
def yX0_takeBack : MethodName := ⟨RX0, "takeBack", "(LPassedPenance$Church;)V"⟩
def RX1 : String := "PassedPenance$Bench"
def TX1 : u_T := fun k => match k with
  | 0 => ("PassedPenance$Bench", "church", "LPassedPenance$Church;", true)
  | 1 => ("PassedPenance$Bench", "box", "I", false)
  | 2 => ("PassedPenance$Bench", "size", "I", false)
  | 3 => ("PassedPenance$Bench", "who", "[I", true)
  | 4 => ("PassedPenance$Bench", "lies", "[I", true)
  | _ => ("PassedPenance$Bench", "costs", "[[I", true)
def tyX1 : Nat → FieldType := fun k => match k with
  | 0 => .object "PassedPenance$Church"
  | 1 => .int
  | 2 => .int
  | 3 => .array .int
  | 4 => .array .int
  | _ => .array (.array .int)
abbrev wsX10 : List Cond := u_ws RX1 TX1 6
theorem nmX1 : ∀ a, a < 6 → ∀ b, b < 6 → a ≠ b → (TX1 a).2.1 ≠ (TX1 b).2.1 := by decide +kernel
theorem tyX1_ok : ∀ k, k < 6 → parseFieldDescriptor (TX1 k).2.2.1 = some (tyX1 k) := by decide +kernel
abbrev cX1_init : ByteArray := prog_3_method_1_code
def yX1_init : MethodName := ⟨RX1, "<init>", "(LPassedPenance$Church;)V"⟩
abbrev cX1_seat : ByteArray := prog_3_method_2_code
def yX1_seat : MethodName := ⟨RX1, "seat", "(I)V"⟩
abbrev cX1_allSeats : ByteArray := prog_3_method_3_code
def yX1_allSeats : MethodName := ⟨RX1, "allSeats", "()I"⟩
abbrev cX1_node : ByteArray := prog_3_method_4_code
def yX1_node : MethodName := ⟨RX1, "node", "(II)I"⟩
abbrev cX1_isNode : ByteArray := prog_3_method_5_code
def yX1_isNode : MethodName := ⟨RX1, "isNode", "(II)Z"⟩
def RX2 : String := "PassedPenance$Church"
def TX2 : u_T := fun k => match k with
  | 0 => ("PassedPenance$Church", "lines", "I", false)
  | 1 => ("PassedPenance$Church", "hours", "I", false)
  | 2 => ("PassedPenance$Church", "boxes", "I", false)
  | 3 => ("PassedPenance$Church", "odds", "I", false)
  | 4 => ("PassedPenance$Church", "penances", "I", false)
  | 5 => ("PassedPenance$Church", "persons", "I", false)
  | 6 => ("PassedPenance$Church", "days", "[I", true)
  | 7 => ("PassedPenance$Church", "sin", "[I", true)
  | 8 => ("PassedPenance$Church", "hourOf", "[I", true)
  | 9 => ("PassedPenance$Church", "boxOf", "[I", true)
  | 10 => ("PassedPenance$Church", "strength", "[I", true)
  | 11 => ("PassedPenance$Church", "grudges", "[[I", true)
  | _ => ("PassedPenance$Church", "left", "[I", true)
def tyX2 : Nat → FieldType := fun k => match k with
  | 0 => .int
  | 1 => .int
  | 2 => .int
  | 3 => .int
  | 4 => .int
  | 5 => .int
  | 6 => .array .int
  | 7 => .array .int
  | 8 => .array .int
  | 9 => .array .int
  | 10 => .array .int
  | 11 => .array (.array .int)
  | _ => .array .int
abbrev wsX20 : List Cond := u_ws RX2 TX2 13
theorem nmX2 : ∀ a, a < 13 → ∀ b, b < 13 → a ≠ b → (TX2 a).2.1 ≠ (TX2 b).2.1 := by decide +kernel
theorem tyX2_ok : ∀ k, k < 13 → parseFieldDescriptor (TX2 k).2.2.1 = some (tyX2 k) := by decide +kernel
abbrev cX2_init : ByteArray := prog_4_method_1_code
def yX2_init : MethodName := ⟨RX2, "<init>", "()V"⟩
abbrev cX2_forget : ByteArray := prog_4_method_2_code
def yX2_forget : MethodName := ⟨RX2, "forget", "()V"⟩
abbrev cX2_takeOver : ByteArray := prog_4_method_3_code
def yX2_takeOver : MethodName := ⟨RX2, "takeOver", "(LPassedPenance$Church;)V"⟩
abbrev cX2_isNone : ByteArray := prog_4_method_4_code
def yX2_isNone : MethodName := ⟨RX2, "isNone", "()Z"⟩
abbrev cX2_hasPenance : ByteArray := prog_4_method_5_code
def yX2_hasPenance : MethodName := ⟨RX2, "hasPenance", "(I)Z"⟩
abbrev cX2_hasPenanceOrNone : ByteArray := prog_4_method_6_code
def yX2_hasPenanceOrNone : MethodName := ⟨RX2, "hasPenanceOrNone", "(I)Z"⟩
abbrev cX2_hasPerson : ByteArray := prog_4_method_7_code
def yX2_hasPerson : MethodName := ⟨RX2, "hasPerson", "(I)Z"⟩
abbrev cX2_hasBox : ByteArray := prog_4_method_8_code
def yX2_hasBox : MethodName := ⟨RX2, "hasBox", "(I)Z"⟩
abbrev cX2_hasHour : ByteArray := prog_4_method_9_code
def yX2_hasHour : MethodName := ⟨RX2, "hasHour", "(I)Z"⟩
abbrev cX2_putGrudge : ByteArray := prog_4_method_10_code
def yX2_putGrudge : MethodName := ⟨RX2, "putGrudge", "(III)V"⟩
abbrev cX2_grudge : ByteArray := prog_4_method_11_code
def yX2_grudge : MethodName := ⟨RX2, "grudge", "(II)I"⟩
abbrev cX2_costOf : ByteArray := prog_4_method_12_code
def yX2_costOf : MethodName := ⟨RX2, "costOf", "(II)I"⟩
abbrev cX2_personsOf : ByteArray := prog_4_method_13_code
def yX2_personsOf : MethodName := ⟨RX2, "personsOf", "(I)I"⟩
abbrev cX2_isAhead : ByteArray := prog_4_method_14_code
def yX2_isAhead : MethodName := ⟨RX2, "isAhead", "(III)Z"⟩
abbrev cX2_placeOf : ByteArray := prog_4_method_15_code
def yX2_placeOf : MethodName := ⟨RX2, "placeOf", "(I)I"⟩
abbrev cX2_inQueue : ByteArray := prog_4_method_16_code
def yX2_inQueue : MethodName := ⟨RX2, "inQueue", "(II)I"⟩
abbrev cX2_rightAhead : ByteArray := prog_4_method_17_code
def yX2_rightAhead : MethodName := ⟨RX2, "rightAhead", "(IIII)I"⟩
abbrev cX2_forerunner : ByteArray := prog_4_method_18_code
def yX2_forerunner : MethodName := ⟨RX2, "forerunner", "(I)I"⟩
abbrev cX2_gotBy : ByteArray := prog_4_method_19_code
def yX2_gotBy : MethodName := ⟨RX2, "gotBy", "(II)I"⟩
abbrev cX2_leftBehind : ByteArray := prog_4_method_20_code
def yX2_leftBehind : MethodName := ⟨RX2, "leftBehind", "(I)I"⟩
abbrev cX2_costsOf : ByteArray := prog_4_method_21_code
def yX2_costsOf : MethodName := ⟨RX2, "costsOf", "(I)I"⟩
abbrev cX2_loss : ByteArray := prog_4_method_22_code
def yX2_loss : MethodName := ⟨RX2, "loss", "(I)I"⟩
abbrev cX2_costsIfSin : ByteArray := prog_4_method_23_code
def yX2_costsIfSin : MethodName := ⟨RX2, "costsIfSin", "(II)I"⟩
abbrev cX2_bestSin : ByteArray := prog_4_method_24_code
def yX2_bestSin : MethodName := ⟨RX2, "bestSin", "(I)I"⟩
abbrev cX2_costInHour : ByteArray := prog_4_method_25_code
def yX2_costInHour : MethodName := ⟨RX2, "costInHour", "(II)I"⟩
abbrev cX2_bestHour : ByteArray := prog_4_method_26_code
def yX2_bestHour : MethodName := ⟨RX2, "bestHour", "(I)I"⟩
abbrev cX2_restless : ByteArray := prog_4_method_27_code
def yX2_restless : MethodName := ⟨RX2, "restless", "()I"⟩
abbrev cX2_firstOf : ByteArray := prog_4_method_28_code
def yX2_firstOf : MethodName := ⟨RX2, "firstOf", "(I)I"⟩
abbrev cX2_settleDown : ByteArray := prog_4_method_29_code
def yX2_settleDown : MethodName := ⟨RX2, "settleDown", "()I"⟩
abbrev cX2_comers : ByteArray := prog_4_method_30_code
def yX2_comers : MethodName := ⟨RX2, "comers", "(J)I"⟩
abbrev cX2_fateOf : ByteArray := prog_4_method_31_code
def yX2_fateOf : MethodName := ⟨RX2, "fateOf", "(IJ)I"⟩
def RX3 : String := "PassedPenance$Deal"
def TX3 : u_T := fun k => match k with
  | 0 => ("PassedPenance$Deal", "church", "LPassedPenance$Church;", true)
  | 1 => ("PassedPenance$Deal", "least", "[I", true)
  | _ => ("PassedPenance$Deal", "shares", "[I", true)
def tyX3 : Nat → FieldType := fun k => match k with
  | 0 => .object "PassedPenance$Church"
  | 1 => .array .int
  | _ => .array .int
abbrev wsX30 : List Cond := u_ws RX3 TX3 3
theorem nmX3 : ∀ a, a < 3 → ∀ b, b < 3 → a ≠ b → (TX3 a).2.1 ≠ (TX3 b).2.1 := by decide +kernel
theorem tyX3_ok : ∀ k, k < 3 → parseFieldDescriptor (TX3 k).2.2.1 = some (tyX3 k) := by decide +kernel
abbrev cX3_init : ByteArray := prog_5_method_1_code
def yX3_init : MethodName := ⟨RX3, "<init>", "(LPassedPenance$Church;)V"⟩
abbrev cX3_weigh : ByteArray := prog_5_method_2_code
def yX3_weigh : MethodName := ⟨RX3, "weigh", "()V"⟩
abbrev cX3_costsWith : ByteArray := prog_5_method_3_code
def yX3_costsWith : MethodName := ⟨RX3, "costsWith", "(II)I"⟩
abbrev cX3_shareOf : ByteArray := prog_5_method_4_code
def yX3_shareOf : MethodName := ⟨RX3, "shareOf", "(I)I"⟩
abbrev cX3_firstShare : ByteArray := prog_5_method_5_code
def yX3_firstShare : MethodName := ⟨RX3, "firstShare", "(I)I"⟩
abbrev cX3_isLess : ByteArray := prog_5_method_6_code
def yX3_isLess : MethodName := ⟨RX3, "isLess", "(II)Z"⟩
def RX4 : String := "PassedPenance$Image"
def TX4 : u_T := fun k => match k with
  | 0 => ("PassedPenance$Image", "church", "LPassedPenance$Church;", true)
  | _ => ("PassedPenance$Image", "acts", "LPassedPenance$Acts;", true)
def tyX4 : Nat → FieldType := fun k => match k with
  | 0 => .object "PassedPenance$Church"
  | _ => .object "PassedPenance$Acts"
abbrev wsX40 : List Cond := u_ws RX4 TX4 2
theorem nmX4 : ∀ a, a < 2 → ∀ b, b < 2 → a ≠ b → (TX4 a).2.1 ≠ (TX4 b).2.1 := by decide +kernel
theorem tyX4_ok : ∀ k, k < 2 → parseFieldDescriptor (TX4 k).2.2.1 = some (tyX4 k) := by decide +kernel
abbrev cX4_init : ByteArray := prog_6_method_1_code
def yX4_init : MethodName := ⟨RX4, "<init>", "()V"⟩
def RX5 : String := "PassedPenance$Mean"
def TX5 : u_T := fun k => match k with
  | 0 => ("PassedPenance$Mean", "above", "J", false)
  | _ => ("PassedPenance$Mean", "below", "J", false)
def tyX5 : Nat → FieldType := fun k => match k with
  | 0 => .long
  | _ => .long
abbrev wsX50 : List Cond := u_ws RX5 TX5 2
theorem nmX5 : ∀ a, a < 2 → ∀ b, b < 2 → a ≠ b → (TX5 a).2.1 ≠ (TX5 b).2.1 := by decide +kernel
theorem tyX5_ok : ∀ k, k < 2 → parseFieldDescriptor (TX5 k).2.2.1 = some (tyX5 k) := by decide +kernel
abbrev cX5_init : ByteArray := prog_7_method_1_code
def yX5_init : MethodName := ⟨RX5, "<init>", "()V"⟩
abbrev cX5_expect : ByteArray := prog_7_method_2_code
def yX5_expect : MethodName := ⟨RX5, "expect", "(LPassedPenance$Rows;ILPassedPenance$Church;II)V"⟩
abbrev cX5_put : ByteArray := prog_7_method_3_code
def yX5_put : MethodName := ⟨RX5, "put", "(JJ)V"⟩
abbrev cX5_commonDivisor : ByteArray := prog_7_method_4_code
def yX5_commonDivisor : MethodName := ⟨RX5, "commonDivisor", "(JJ)J"⟩
abbrev cX5_isBelow : ByteArray := prog_7_method_5_code
def yX5_isBelow : MethodName := ⟨RX5, "isBelow", "(LPassedPenance$Mean;)Z"⟩
abbrev cX5_cut : ByteArray := prog_7_method_6_code
def yX5_cut : MethodName := ⟨RX5, "cut", "()I"⟩
def RX6 : String := "PassedPenance$Orders"
def TX6 : u_T := fun k => match k with
  | 0 => ("PassedPenance$Orders", "bench", "LPassedPenance$Bench;", true)
  | 1 => ("PassedPenance$Orders", "least", "[I", true)
  | 2 => ("PassedPenance$Orders", "many", "[I", true)
  | 3 => ("PassedPenance$Orders", "greatest", "[I", true)
  | 4 => ("PassedPenance$Orders", "hardest", "[I", true)
  | _ => ("PassedPenance$Orders", "alike", "[I", true)
def tyX6 : Nat → FieldType := fun k => match k with
  | 0 => .object "PassedPenance$Bench"
  | 1 => .array .int
  | 2 => .array .int
  | 3 => .array .int
  | 4 => .array .int
  | _ => .array .int
abbrev wsX60 : List Cond := u_ws RX6 TX6 6
theorem nmX6 : ∀ a, a < 6 → ∀ b, b < 6 → a ≠ b → (TX6 a).2.1 ≠ (TX6 b).2.1 := by decide +kernel
theorem tyX6_ok : ∀ k, k < 6 → parseFieldDescriptor (TX6 k).2.2.1 = some (tyX6 k) := by decide +kernel
abbrev cX6_init : ByteArray := prog_8_method_1_code
def yX6_init : MethodName := ⟨RX6, "<init>", "(LPassedPenance$Bench;)V"⟩
abbrev cX6_weigh : ByteArray := prog_8_method_2_code
def yX6_weigh : MethodName := ⟨RX6, "weigh", "()V"⟩
abbrev cX6_weighNode : ByteArray := prog_8_method_3_code
def yX6_weighNode : MethodName := ⟨RX6, "weighNode", "(IIZ)V"⟩
abbrev cX6_goOn : ByteArray := prog_8_method_4_code
def yX6_goOn : MethodName := ⟨RX6, "goOn", "(IIII)V"⟩
abbrev cX6_personAt : ByteArray := prog_8_method_5_code
def yX6_personAt : MethodName := ⟨RX6, "personAt", "(I)I"⟩
abbrev cX6_firstSeat : ByteArray := prog_8_method_6_code
def yX6_firstSeat : MethodName := ⟨RX6, "firstSeat", "(II)I"⟩
def RX7 : String := "PassedPenance$Reader"
def TX7 : u_T := fun k => match k with
  | 0 => ("PassedPenance$Reader", "told", "LPassedPenance$Church;", true)
  | 1 => ("PassedPenance$Reader", "length", "I", false)
  | 2 => ("PassedPenance$Reader", "fault", "I", false)
  | 3 => ("PassedPenance$Reader", "place", "I", false)
  | 4 => ("PassedPenance$Reader", "bytes", "[I", true)
  | 5 => ("PassedPenance$Reader", "start", "I", false)
  | 6 => ("PassedPenance$Reader", "behind", "I", false)
  | 7 => ("PassedPenance$Reader", "kind", "I", false)
  | _ => ("PassedPenance$Reader", "value", "I", false)
def tyX7 : Nat → FieldType := fun k => match k with
  | 0 => .object "PassedPenance$Church"
  | 1 => .int
  | 2 => .int
  | 3 => .int
  | 4 => .array .int
  | 5 => .int
  | 6 => .int
  | 7 => .int
  | _ => .int
abbrev wsX70 : List Cond := u_ws RX7 TX7 9
theorem nmX7 : ∀ a, a < 9 → ∀ b, b < 9 → a ≠ b → (TX7 a).2.1 ≠ (TX7 b).2.1 := by decide +kernel
theorem tyX7_ok : ∀ k, k < 9 → parseFieldDescriptor (TX7 k).2.2.1 = some (tyX7 k) := by decide +kernel
abbrev cX7_init : ByteArray := prog_9_method_1_code
def yX7_init : MethodName := ⟨RX7, "<init>", "()V"⟩
abbrev cX7_hasRoom : ByteArray := prog_9_method_2_code
def yX7_hasRoom : MethodName := ⟨RX7, "hasRoom", "()Z"⟩
abbrev cX7_addNumber : ByteArray := prog_9_method_3_code
def yX7_addNumber : MethodName := ⟨RX7, "addNumber", "(I)V"⟩
abbrev cX7_readAll : ByteArray := prog_9_method_4_code
def yX7_readAll : MethodName := ⟨RX7, "readAll", "()V"⟩
abbrev cX7_readLine : ByteArray := prog_9_method_5_code
def yX7_readLine : MethodName := ⟨RX7, "readLine", "()Z"⟩
abbrev cX7_readHead : ByteArray := prog_9_method_6_code
def yX7_readHead : MethodName := ⟨RX7, "readHead", "()Z"⟩
abbrev cX7_readPenance : ByteArray := prog_9_method_7_code
def yX7_readPenance : MethodName := ⟨RX7, "readPenance", "()Z"⟩
abbrev cX7_readPerson : ByteArray := prog_9_method_8_code
def yX7_readPerson : MethodName := ⟨RX7, "readPerson", "()Z"⟩
abbrev cX7_readGrudges : ByteArray := prog_9_method_9_code
def yX7_readGrudges : MethodName := ⟨RX7, "readGrudges", "()Z"⟩
abbrev cX7_readLeft : ByteArray := prog_9_method_10_code
def yX7_readLeft : MethodName := ⟨RX7, "readLeft", "()Z"⟩
abbrev cX7_passSign : ByteArray := prog_9_method_11_code
def yX7_passSign : MethodName := ⟨RX7, "passSign", "()Z"⟩
abbrev cX7_passWord : ByteArray := prog_9_method_12_code
def yX7_passWord : MethodName := ⟨RX7, "passWord", "(Ljava/lang/String;)Z"⟩
abbrev cX7_passNumber : ByteArray := prog_9_method_13_code
def yX7_passNumber : MethodName := ⟨RX7, "passNumber", "()I"⟩
abbrev cX7_isNumber : ByteArray := prog_9_method_14_code
def yX7_isNumber : MethodName := ⟨RX7, "isNumber", "(II)Z"⟩
abbrev cX7_isWord : ByteArray := prog_9_method_15_code
def yX7_isWord : MethodName := ⟨RX7, "isWord", "(Ljava/lang/String;)Z"⟩
abbrev cX7_refuse : ByteArray := prog_9_method_16_code
def yX7_refuse : MethodName := ⟨RX7, "refuse", "(I)Z"⟩
abbrev cX7_step : ByteArray := prog_9_method_17_code
def yX7_step : MethodName := ⟨RX7, "step", "()V"⟩
abbrev cX7_takeValue : ByteArray := prog_9_method_18_code
def yX7_takeValue : MethodName := ⟨RX7, "takeValue", "()V"⟩
abbrev cX7_kindAt : ByteArray := prog_9_method_19_code
def yX7_kindAt : MethodName := ⟨RX7, "kindAt", "(I)I"⟩
def RX8 : String := "PassedPenance$Rows"
def TX8 : u_T := fun k => match k with
  | 0 => ("PassedPenance$Rows", "numbers", "[[J", true)
  | 1 => ("PassedPenance$Rows", "widths", "[I", true)
  | _ => ("PassedPenance$Rows", "lengths", "[I", true)
def tyX8 : Nat → FieldType := fun k => match k with
  | 0 => .array (.array .long)
  | 1 => .array .int
  | _ => .array .int
abbrev wsX80 : List Cond := u_ws RX8 TX8 3
theorem nmX8 : ∀ a, a < 3 → ∀ b, b < 3 → a ≠ b → (TX8 a).2.1 ≠ (TX8 b).2.1 := by decide +kernel
theorem tyX8_ok : ∀ k, k < 3 → parseFieldDescriptor (TX8 k).2.2.1 = some (tyX8 k) := by decide +kernel
abbrev cX8_init : ByteArray := prog_10_method_1_code
def yX8_init : MethodName := ⟨RX8, "<init>", "()V"⟩
abbrev cX8_isSlot : ByteArray := prog_10_method_2_code
def yX8_isSlot : MethodName := ⟨RX8, "isSlot", "(I)Z"⟩
abbrev cX8_hasRow : ByteArray := prog_10_method_3_code
def yX8_hasRow : MethodName := ⟨RX8, "hasRow", "(I)Z"⟩
abbrev cX8_howMany : ByteArray := prog_10_method_4_code
def yX8_howMany : MethodName := ⟨RX8, "howMany", "()I"⟩
abbrev cX8_lay : ByteArray := prog_10_method_5_code
def yX8_lay : MethodName := ⟨RX8, "lay", "(III)V"⟩
abbrev cX8_put : ByteArray := prog_10_method_6_code
def yX8_put : MethodName := ⟨RX8, "put", "(IIJ)V"⟩
abbrev cX8_cutTo : ByteArray := prog_10_method_7_code
def yX8_cutTo : MethodName := ⟨RX8, "cutTo", "(IJ)J"⟩
abbrev cX8_holds : ByteArray := prog_10_method_8_code
def yX8_holds : MethodName := ⟨RX8, "holds", "(III)Z"⟩
abbrev cX8_tellsHowOften : ByteArray := prog_10_method_9_code
def yX8_tellsHowOften : MethodName := ⟨RX8, "tellsHowOften", "(II)Z"⟩
def RX9 : String := "PassedPenance$Sightings"
def TX9 : u_T := fun k => match k with
  | 0 => ("PassedPenance$Sightings", "bench", "LPassedPenance$Bench;", true)
  | 1 => ("PassedPenance$Sightings", "firstBits", "I", false)
  | 2 => ("PassedPenance$Sightings", "allowed", "[I", true)
  | 3 => ("PassedPenance$Sightings", "ways", "[I", true)
  | 4 => ("PassedPenance$Sightings", "rest", "[I", true)
  | _ => ("PassedPenance$Sightings", "tallies", "[[I", true)
def tyX9 : Nat → FieldType := fun k => match k with
  | 0 => .object "PassedPenance$Bench"
  | 1 => .int
  | 2 => .array .int
  | 3 => .array .int
  | 4 => .array .int
  | _ => .array (.array .int)
abbrev wsX90 : List Cond := u_ws RX9 TX9 6
theorem nmX9 : ∀ a, a < 6 → ∀ b, b < 6 → a ≠ b → (TX9 a).2.1 ≠ (TX9 b).2.1 := by decide +kernel
theorem tyX9_ok : ∀ k, k < 6 → parseFieldDescriptor (TX9 k).2.2.1 = some (tyX9 k) := by decide +kernel
abbrev cX9_init : ByteArray := prog_11_method_1_code
def yX9_init : MethodName := ⟨RX9, "<init>", "(LPassedPenance$Bench;)V"⟩
abbrev cX9_kindOf : ByteArray := prog_11_method_2_code
def yX9_kindOf : MethodName := ⟨RX9, "kindOf", "(I)I"⟩
abbrev cX9_note : ByteArray := prog_11_method_3_code
def yX9_note : MethodName := ⟨RX9, "note", "(LPassedPenance$Rows;I)Z"⟩
abbrev cX9_inBounds : ByteArray := prog_11_method_4_code
def yX9_inBounds : MethodName := ⟨RX9, "inBounds", "(JI)I"⟩
abbrev cX9_isSeated : ByteArray := prog_11_method_5_code
def yX9_isSeated : MethodName := ⟨RX9, "isSeated", "(I)Z"⟩
abbrev cX9_tally : ByteArray := prog_11_method_6_code
def yX9_tally : MethodName := ⟨RX9, "tally", "()V"⟩
abbrev cX9_fitsBehind : ByteArray := prog_11_method_7_code
def yX9_fitsBehind : MethodName := ⟨RX9, "fitsBehind", "(III)Z"⟩
abbrev cX9_countRest : ByteArray := prog_11_method_8_code
def yX9_countRest : MethodName := ⟨RX9, "countRest", "(IIZ)V"⟩
abbrev cX9_countOn : ByteArray := prog_11_method_9_code
def yX9_countOn : MethodName := ⟨RX9, "countOn", "(II)V"⟩
abbrev cX9_total : ByteArray := prog_11_method_10_code
def yX9_total : MethodName := ⟨RX9, "total", "()I"⟩
abbrev cX9_possible : ByteArray := prog_11_method_11_code
def yX9_possible : MethodName := ⟨RX9, "possible", "(I)I"⟩
abbrev cX9_leftAtWorst : ByteArray := prog_11_method_12_code
def yX9_leftAtWorst : MethodName := ⟨RX9, "leftAtWorst", "(I)I"⟩
abbrev cX9_mostTelling : ByteArray := prog_11_method_13_code
def yX9_mostTelling : MethodName := ⟨RX9, "mostTelling", "()I"⟩
def RX10 : String := "PassedPenance$Swaps"
def TX10 : u_T := fun k => match k with
  | 0 => ("PassedPenance$Swaps", "lesser", "I", false)
  | 1 => ("PassedPenance$Swaps", "greater", "I", false)
  | 2 => ("PassedPenance$Swaps", "size", "I", false)
  | 3 => ("PassedPenance$Swaps", "got", "[I", true)
  | 4 => ("PassedPenance$Swaps", "sin", "[I", true)
  | 5 => ("PassedPenance$Swaps", "excess", "[J", true)
  | _ => ("PassedPenance$Swaps", "groups", "[I", true)
def tyX10 : Nat → FieldType := fun k => match k with
  | 0 => .int
  | 1 => .int
  | 2 => .int
  | 3 => .array .int
  | 4 => .array .int
  | 5 => .array .long
  | _ => .array .int
abbrev wsX100 : List Cond := u_ws RX10 TX10 7
theorem nmX10 : ∀ a, a < 7 → ∀ b, b < 7 → a ≠ b → (TX10 a).2.1 ≠ (TX10 b).2.1 := by decide +kernel
theorem tyX10_ok : ∀ k, k < 7 → parseFieldDescriptor (TX10 k).2.2.1 = some (tyX10 k) := by decide +kernel
abbrev cX10_init : ByteArray := prog_12_method_1_code
def yX10_init : MethodName := ⟨RX10, "<init>", "()V"⟩
abbrev cX10_lookAt : ByteArray := prog_12_method_2_code
def yX10_lookAt : MethodName := ⟨RX10, "lookAt", "(LPassedPenance$Church;)V"⟩
abbrev cX10_lane : ByteArray := prog_12_method_3_code
def yX10_lane : MethodName := ⟨RX10, "lane", "(I)J"⟩
abbrev cX10_fewest : ByteArray := prog_12_method_4_code
def yX10_fewest : MethodName := ⟨RX10, "fewest", "()I"⟩
abbrev cX10_findPair : ByteArray := prog_12_method_5_code
def yX10_findPair : MethodName := ⟨RX10, "findPair", "()V"⟩
abbrev cX10_fewestBehind : ByteArray := prog_12_method_6_code
def yX10_fewestBehind : MethodName := ⟨RX10, "fewestBehind", "(II)I"⟩
abbrev cX10_change : ByteArray := prog_12_method_7_code
def yX10_change : MethodName := ⟨RX10, "change", "(II)V"⟩
def RX11 : String := "PassedPenance"
def TX11 : u_T := fun k => match k with
  | 0 => ("PassedPenance", "reader", "LPassedPenance$Reader;", true)
  | 1 => ("PassedPenance", "church", "LPassedPenance$Church;", true)
  | 2 => ("PassedPenance", "trial", "LPassedPenance$Church;", true)
  | 3 => ("PassedPenance", "acts", "LPassedPenance$Acts;", true)
  | 4 => ("PassedPenance", "rows", "LPassedPenance$Rows;", true)
  | 5 => ("PassedPenance", "bench", "LPassedPenance$Bench;", true)
  | 6 => ("PassedPenance", "orders", "LPassedPenance$Orders;", true)
  | 7 => ("PassedPenance", "sightings", "LPassedPenance$Sightings;", true)
  | 8 => ("PassedPenance", "swaps", "LPassedPenance$Swaps;", true)
  | 9 => ("PassedPenance", "deal", "LPassedPenance$Deal;", true)
  | 10 => ("PassedPenance", "mean", "LPassedPenance$Mean;", true)
  | 11 => ("PassedPenance", "leastMean", "LPassedPenance$Mean;", true)
  | _ => ("PassedPenance", "images", "[LPassedPenance$Image;", true)
def tyX11 : Nat → FieldType := fun k => match k with
  | 0 => .object "PassedPenance$Reader"
  | 1 => .object "PassedPenance$Church"
  | 2 => .object "PassedPenance$Church"
  | 3 => .object "PassedPenance$Acts"
  | 4 => .object "PassedPenance$Rows"
  | 5 => .object "PassedPenance$Bench"
  | 6 => .object "PassedPenance$Orders"
  | 7 => .object "PassedPenance$Sightings"
  | 8 => .object "PassedPenance$Swaps"
  | 9 => .object "PassedPenance$Deal"
  | 10 => .object "PassedPenance$Mean"
  | 11 => .object "PassedPenance$Mean"
  | _ => .array (.object "PassedPenance$Image")
abbrev wsX110 : List Cond := u_ws RX11 TX11 13
theorem nmX11 : ∀ a, a < 13 → ∀ b, b < 13 → a ≠ b → (TX11 a).2.1 ≠ (TX11 b).2.1 := by decide +kernel
theorem tyX11_ok : ∀ k, k < 13 → parseFieldDescriptor (TX11 k).2.2.1 = some (tyX11 k) := by decide +kernel
abbrev cX11_init : ByteArray := prog_1_method_1_code
def yX11_init : MethodName := ⟨RX11, "<init>", "()V"⟩
abbrev cX11_feed : ByteArray := prog_1_method_2_code
def yX11_feed : MethodName := ⟨RX11, "feed", "(IIIII)I"⟩
abbrev cX11_end : ByteArray := prog_1_method_3_code
def yX11_end : MethodName := ⟨RX11, "end", "(I)I"⟩
abbrev cX11_church : ByteArray := prog_1_method_4_code
def yX11_church : MethodName := ⟨RX11, "church", "()I"⟩
abbrev cX11_fault : ByteArray := prog_1_method_5_code
def yX11_fault : MethodName := ⟨RX11, "fault", "(I)I"⟩
abbrev cX11_penance : ByteArray := prog_1_method_6_code
def yX11_penance : MethodName := ⟨RX11, "penance", "(I)I"⟩
abbrev cX11_person : ByteArray := prog_1_method_7_code
def yX11_person : MethodName := ⟨RX11, "person", "(II)I"⟩
abbrev cX11_minds : ByteArray := prog_1_method_8_code
def yX11_minds : MethodName := ⟨RX11, "minds", "(II)I"⟩
abbrev cX11_cost : ByteArray := prog_1_method_9_code
def yX11_cost : MethodName := ⟨RX11, "cost", "(II)I"⟩
abbrev cX11_box : ByteArray := prog_1_method_10_code
def yX11_box : MethodName := ⟨RX11, "box", "(I)I"⟩
abbrev cX11_queue : ByteArray := prog_1_method_11_code
def yX11_queue : MethodName := ⟨RX11, "queue", "(II)I"⟩
abbrev cX11_gets : ByteArray := prog_1_method_12_code
def yX11_gets : MethodName := ⟨RX11, "gets", "(I)I"⟩
abbrev cX11_giver : ByteArray := prog_1_method_13_code
def yX11_giver : MethodName := ⟨RX11, "giver", "(I)I"⟩
abbrev cX11_back : ByteArray := prog_1_method_14_code
def yX11_back : MethodName := ⟨RX11, "back", "(II)I"⟩
abbrev cX11_last : ByteArray := prog_1_method_15_code
def yX11_last : MethodName := ⟨RX11, "last", "(I)I"⟩
abbrev cX11_bears : ByteArray := prog_1_method_16_code
def yX11_bears : MethodName := ⟨RX11, "bears", "(I)I"⟩
abbrev cX11_own : ByteArray := prog_1_method_17_code
def yX11_own : MethodName := ⟨RX11, "own", "()I"⟩
abbrev cX11_gain : ByteArray := prog_1_method_18_code
def yX11_gain : MethodName := ⟨RX11, "gain", "()I"⟩
abbrev cX11_worst : ByteArray := prog_1_method_19_code
def yX11_worst : MethodName := ⟨RX11, "worst", "()I"⟩
abbrev cX11_passes : ByteArray := prog_1_method_20_code
def yX11_passes : MethodName := ⟨RX11, "passes", "(I)I"⟩
abbrev cX11_ahead : ByteArray := prog_1_method_21_code
def yX11_ahead : MethodName := ⟨RX11, "ahead", "(I)I"⟩
abbrev cX11_kneel : ByteArray := prog_1_method_22_code
def yX11_kneel : MethodName := ⟨RX11, "kneel", "(I)I"⟩
abbrev cX11_sins : ByteArray := prog_1_method_23_code
def yX11_sins : MethodName := ⟨RX11, "sins", "(I)I"⟩
abbrev cX11_sinned : ByteArray := prog_1_method_24_code
def yX11_sinned : MethodName := ⟨RX11, "sinned", "(I)I"⟩
abbrev cX11_best : ByteArray := prog_1_method_25_code
def yX11_best : MethodName := ⟨RX11, "best", "(I)I"⟩
abbrev cX11_orders : ByteArray := prog_1_method_26_code
def yX11_orders : MethodName := ⟨RX11, "orders", "(II)I"⟩
abbrev cX11_most : ByteArray := prog_1_method_27_code
def yX11_most : MethodName := ⟨RX11, "most", "(I)I"⟩
abbrev cX11_fair : ByteArray := prog_1_method_28_code
def yX11_fair : MethodName := ⟨RX11, "fair", "(I)I"⟩
abbrev cX11_likes : ByteArray := prog_1_method_29_code
def yX11_likes : MethodName := ⟨RX11, "likes", "(I)I"⟩
abbrev cX11_ways : ByteArray := prog_1_method_30_code
def yX11_ways : MethodName := ⟨RX11, "ways", "(I)I"⟩
abbrev cX11_weighs : ByteArray := prog_1_method_31_code
def yX11_weighs : MethodName := ⟨RX11, "weighs", "(I)Z"⟩
abbrev cX11_comes : ByteArray := prog_1_method_32_code
def yX11_comes : MethodName := ⟨RX11, "comes", "(II)I"⟩
abbrev cX11_hour : ByteArray := prog_1_method_33_code
def yX11_hour : MethodName := ⟨RX11, "hour", "(I)I"⟩
abbrev cX11_stir : ByteArray := prog_1_method_34_code
def yX11_stir : MethodName := ⟨RX11, "stir", "()I"⟩
abbrev cX11_settles : ByteArray := prog_1_method_35_code
def yX11_settles : MethodName := ⟨RX11, "settles", "()I"⟩
abbrev cX11_settled : ByteArray := prog_1_method_36_code
def yX11_settled : MethodName := ⟨RX11, "settled", "(I)I"⟩
abbrev cX11_swaps : ByteArray := prog_1_method_37_code
def yX11_swaps : MethodName := ⟨RX11, "swaps", "()I"⟩
abbrev cX11_swap : ByteArray := prog_1_method_38_code
def yX11_swap : MethodName := ⟨RX11, "swap", "(I)I"⟩
abbrev cX11_trades : ByteArray := prog_1_method_39_code
def yX11_trades : MethodName := ⟨RX11, "trades", "()I"⟩
abbrev cX11_wouldTrade : ByteArray := prog_1_method_40_code
def yX11_wouldTrade : MethodName := ⟨RX11, "wouldTrade", "(II)Z"⟩
abbrev cX11_deal : ByteArray := prog_1_method_41_code
def yX11_deal : MethodName := ⟨RX11, "deal", "()I"⟩
abbrev cX11_dealt : ByteArray := prog_1_method_42_code
def yX11_dealt : MethodName := ⟨RX11, "dealt", "(I)I"⟩
abbrev cX11_fits : ByteArray := prog_1_method_43_code
def yX11_fits : MethodName := ⟨RX11, "fits", "(II)I"⟩
abbrev cX11_firsts : ByteArray := prog_1_method_44_code
def yX11_firsts : MethodName := ⟨RX11, "firsts", "(II)I"⟩
abbrev cX11_may : ByteArray := prog_1_method_45_code
def yX11_may : MethodName := ⟨RX11, "may", "(III)I"⟩
abbrev cX11_ask : ByteArray := prog_1_method_46_code
def yX11_ask : MethodName := ⟨RX11, "ask", "(II)I"⟩
abbrev cX11_leaves : ByteArray := prog_1_method_47_code
def yX11_leaves : MethodName := ⟨RX11, "leaves", "(II)I"⟩
abbrev cX11_compare : ByteArray := prog_1_method_48_code
def yX11_compare : MethodName := ⟨RX11, "compare", "(II)I"⟩
abbrev cX11_mean : ByteArray := prog_1_method_49_code
def yX11_mean : MethodName := ⟨RX11, "mean", "(III)J"⟩
abbrev cX11_choose : ByteArray := prog_1_method_50_code
def yX11_choose : MethodName := ⟨RX11, "choose", "(I)I"⟩
abbrev cX11_pass : ByteArray := prog_1_method_51_code
def yX11_pass : MethodName := ⟨RX11, "pass", "(IIII)J"⟩
abbrev cX11_takes : ByteArray := prog_1_method_52_code
def yX11_takes : MethodName := ⟨RX11, "takes", "(III)I"⟩
abbrev cX11_whyNoMean : ByteArray := prog_1_method_53_code
def yX11_whyNoMean : MethodName := ⟨RX11, "whyNoMean", "(III)I"⟩
abbrev cX11_confess : ByteArray := prog_1_method_54_code
def yX11_confess : MethodName := ⟨RX11, "confess", "(I)I"⟩
abbrev cX11_clear : ByteArray := prog_1_method_55_code
def yX11_clear : MethodName := ⟨RX11, "clear", "(II)I"⟩
abbrev cX11_now : ByteArray := prog_1_method_56_code
def yX11_now : MethodName := ⟨RX11, "now", "(I)I"⟩
abbrev cX11_has : ByteArray := prog_1_method_57_code
def yX11_has : MethodName := ⟨RX11, "has", "(I)I"⟩
abbrev cX11_done : ByteArray := prog_1_method_58_code
def yX11_done : MethodName := ⟨RX11, "done", "()I"⟩
abbrev cX11_sum : ByteArray := prog_1_method_59_code
def yX11_sum : MethodName := ⟨RX11, "sum", "()I"⟩
abbrev cX11_undo : ByteArray := prog_1_method_60_code
def yX11_undo : MethodName := ⟨RX11, "undo", "()I"⟩
abbrev cX11_anew : ByteArray := prog_1_method_61_code
def yX11_anew : MethodName := ⟨RX11, "anew", "()I"⟩
abbrev cX11_drawn : ByteArray := prog_1_method_62_code
def yX11_drawn : MethodName := ⟨RX11, "drawn", "(II)I"⟩
abbrev cX11_fate : ByteArray := prog_1_method_63_code
def yX11_fate : MethodName := ⟨RX11, "fate", "(II)I"⟩
abbrev cX11_luck : ByteArray := prog_1_method_64_code
def yX11_luck : MethodName := ⟨RX11, "luck", "(III)I"⟩
abbrev cX11_isSeed : ByteArray := prog_1_method_65_code
def yX11_isSeed : MethodName := ⟨RX11, "isSeed", "(I)Z"⟩
abbrev cX11_set : ByteArray := prog_1_method_66_code
def yX11_set : MethodName := ⟨RX11, "set", "(II)I"⟩
abbrev cX11_move : ByteArray := prog_1_method_67_code
def yX11_move : MethodName := ⟨RX11, "move", "(II)I"⟩
abbrev cX11_count : ByteArray := prog_1_method_68_code
def yX11_count : MethodName := ⟨RX11, "count", "(I)I"⟩
abbrev cX11_image : ByteArray := prog_1_method_69_code
def yX11_image : MethodName := ⟨RX11, "image", "(I)I"⟩
abbrev cX11_again : ByteArray := prog_1_method_70_code
def yX11_again : MethodName := ⟨RX11, "again", "(I)I"⟩
abbrev cX11_row : ByteArray := prog_1_method_71_code
def yX11_row : MethodName := ⟨RX11, "row", "(III)I"⟩
abbrev cX11_write : ByteArray := prog_1_method_72_code
def yX11_write : MethodName := ⟨RX11, "write", "(IIJ)I"⟩
abbrev cX11_paste : ByteArray := prog_1_method_73_code
def yX11_paste : MethodName := ⟨RX11, "paste", "(IIIII)I"⟩
def RX12 : String := "PassedPenanceModel"
def TX12 : u_T := fun k => match k with
  | 0 => ("PassedPenanceModel", "thrown", "I", false)
  | 1 => ("PassedPenanceModel", "width", "[I", true)
  | 2 => ("PassedPenanceModel", "many", "[I", true)
  | 3 => ("PassedPenanceModel", "cells", "[J", true)
  | 4 => ("PassedPenanceModel", "moved", "[J", true)
  | 5 => ("PassedPenanceModel", "tape", "[B", true)
  | 6 => ("PassedPenanceModel", "taped", "I", false)
  | 7 => ("PassedPenanceModel", "at", "I", false)
  | 8 => ("PassedPenanceModel", "token", "I", false)
  | 9 => ("PassedPenanceModel", "place", "I", false)
  | 10 => ("PassedPenanceModel", "value", "I", false)
  | 11 => ("PassedPenanceModel", "word", "J", false)
  | 12 => ("PassedPenanceModel", "bad", "I", false)
  | 13 => ("PassedPenanceModel", "badPlace", "I", false)
  | 14 => ("PassedPenanceModel", "fault", "I", false)
  | 15 => ("PassedPenanceModel", "faultPlace", "I", false)
  | 16 => ("PassedPenanceModel", "lines", "[I", true)
  | 17 => ("PassedPenanceModel", "has", "[I", true)
  | 18 => ("PassedPenanceModel", "days", "[I", true)
  | 19 => ("PassedPenanceModel", "person", "[I", true)
  | 20 => ("PassedPenanceModel", "lying", "[I", true)
  | 21 => ("PassedPenanceModel", "act", "[I", true)
  | 22 => ("PassedPenanceModel", "isKept", "[Z", true)
  | 23 => ("PassedPenanceModel", "hours", "[I", true)
  | 24 => ("PassedPenanceModel", "coming", "I", false)
  | 25 => ("PassedPenanceModel", "sinsLeast", "I", false)
  | 26 => ("PassedPenanceModel", "best", "[I", true)
  | 27 => ("PassedPenanceModel", "ways", "[I", true)
  | 28 => ("PassedPenanceModel", "got", "[I", true)
  | 29 => ("PassedPenanceModel", "from", "[I", true)
  | 30 => ("PassedPenanceModel", "mostRings", "I", false)
  | 31 => ("PassedPenanceModel", "dealt", "[I", true)
  | 32 => ("PassedPenanceModel", "seen", "[I", true)
  | 33 => ("PassedPenanceModel", "firsts", "[I", true)
  | 34 => ("PassedPenanceModel", "often", "[I", true)
  | 35 => ("PassedPenanceModel", "now", "[I", true)
  | 36 => ("PassedPenanceModel", "fitMany", "I", false)
  | 37 => ("PassedPenanceModel", "askBest", "I", false)
  | 38 => ("PassedPenanceModel", "askLeaves", "I", false)
  | 39 => ("PassedPenanceModel", "passBelow", "J", false)
  | 40 => ("PassedPenanceModel", "lies", "[I", true)
  | _ => ("PassedPenanceModel", "hasNow", "[I", true)
def tyX12 : Nat → FieldType := fun k => match k with
  | 0 => .int
  | 1 => .array .int
  | 2 => .array .int
  | 3 => .array .long
  | 4 => .array .long
  | 5 => .array .byte
  | 6 => .int
  | 7 => .int
  | 8 => .int
  | 9 => .int
  | 10 => .int
  | 11 => .long
  | 12 => .int
  | 13 => .int
  | 14 => .int
  | 15 => .int
  | 16 => .array .int
  | 17 => .array .int
  | 18 => .array .int
  | 19 => .array .int
  | 20 => .array .int
  | 21 => .array .int
  | 22 => .array .boolean
  | 23 => .array .int
  | 24 => .int
  | 25 => .int
  | 26 => .array .int
  | 27 => .array .int
  | 28 => .array .int
  | 29 => .array .int
  | 30 => .int
  | 31 => .array .int
  | 32 => .array .int
  | 33 => .array .int
  | 34 => .array .int
  | 35 => .array .int
  | 36 => .int
  | 37 => .int
  | 38 => .int
  | 39 => .long
  | 40 => .array .int
  | _ => .array .int
abbrev wsX120 : List Cond := u_ws RX12 TX12 42
theorem nmX12 : ∀ a, a < 42 → ∀ b, b < 42 → a ≠ b → (TX12 a).2.1 ≠ (TX12 b).2.1 := by decide +kernel
theorem tyX12_ok : ∀ k, k < 42 → parseFieldDescriptor (TX12 k).2.2.1 = some (tyX12 k) := by decide +kernel
abbrev cX12_init : ByteArray := prog_14_method_1_code
def yX12_init : MethodName := ⟨RX12, "<init>", "()V"⟩
abbrev cX12_in : ByteArray := prog_14_method_3_code
def yX12_in : MethodName := ⟨RX12, "in", "(JJJ)Z"⟩
abbrev cX12_isSlot : ByteArray := prog_14_method_4_code
def yX12_isSlot : MethodName := ⟨RX12, "isSlot", "(I)Z"⟩
abbrev cX12_row : ByteArray := prog_14_method_5_code
def yX12_row : MethodName := ⟨RX12, "row", "(III)I"⟩
abbrev cX12_cut : ByteArray := prog_14_method_6_code
def yX12_cut : MethodName := ⟨RX12, "cut", "(JI)J"⟩
abbrev cX12_write : ByteArray := prog_14_method_7_code
def yX12_write : MethodName := ⟨RX12, "write", "(IIJ)I"⟩
abbrev cX12_paste : ByteArray := prog_14_method_8_code
def yX12_paste : MethodName := ⟨RX12, "paste", "(IIIII)I"⟩
abbrev cX12_feed : ByteArray := prog_14_method_9_code
def yX12_feed : MethodName := ⟨RX12, "feed", "(IIIII)I"⟩
abbrev cX12_four : ByteArray := prog_14_method_10_code
def yX12_four : MethodName := ⟨RX12, "four", "(I)V"⟩
abbrev cX12_end : ByteArray := prog_14_method_11_code
def yX12_end : MethodName := ⟨RX12, "end", "(I)I"⟩
abbrev cX12_isByte : ByteArray := prog_14_method_12_code
def yX12_isByte : MethodName := ⟨RX12, "isByte", "(III)Z"⟩
abbrev cX12_next : ByteArray := prog_14_method_13_code
def yX12_next : MethodName := ⟨RX12, "next", "()V"⟩
abbrev cX12_isGood : ByteArray := prog_14_method_14_code
def yX12_isGood : MethodName := ⟨RX12, "isGood", "()Z"⟩
abbrev cX12_fails : ByteArray := prog_14_method_15_code
def yX12_fails : MethodName := ⟨RX12, "fails", "(I)V"⟩
abbrev cX12_is : ByteArray := prog_14_method_16_code
def yX12_is : MethodName := ⟨RX12, "is", "(J)Z"⟩
abbrev cX12_takes : ByteArray := prog_14_method_17_code
def yX12_takes : MethodName := ⟨RX12, "takes", "(J)Z"⟩
abbrev cX12_asks : ByteArray := prog_14_method_18_code
def yX12_asks : MethodName := ⟨RX12, "asks", "(J)V"⟩
abbrev cX12_number : ByteArray := prog_14_method_19_code
def yX12_number : MethodName := ⟨RX12, "number", "(II)I"⟩
abbrev cX12_number_ : ByteArray := prog_14_method_20_code
def yX12_number_ : MethodName := ⟨RX12, "number", "(JII)I"⟩
abbrev cX12_ends : ByteArray := prog_14_method_21_code
def yX12_ends : MethodName := ⟨RX12, "ends", "()V"⟩
abbrev cX12_begins : ByteArray := prog_14_method_22_code
def yX12_begins : MethodName := ⟨RX12, "begins", "()V"⟩
abbrev cX12_isOver : ByteArray := prog_14_method_23_code
def yX12_isOver : MethodName := ⟨RX12, "isOver", "()V"⟩
abbrev cX12_fault : ByteArray := prog_14_method_24_code
def yX12_fault : MethodName := ⟨RX12, "fault", "(I)I"⟩
abbrev cX12_hasRead : ByteArray := prog_14_method_25_code
def yX12_hasRead : MethodName := ⟨RX12, "hasRead", "(I)I"⟩
abbrev cX12_tells : ByteArray := prog_14_method_26_code
def yX12_tells : MethodName := ⟨RX12, "tells", "(II)V"⟩
abbrev cX12_penanceHere : ByteArray := prog_14_method_27_code
def yX12_penanceHere : MethodName := ⟨RX12, "penanceHere", "()I"⟩
abbrev cX12_boxHere : ByteArray := prog_14_method_28_code
def yX12_boxHere : MethodName := ⟨RX12, "boxHere", "()I"⟩
abbrev cX12_personLine : ByteArray := prog_14_method_29_code
def yX12_personLine : MethodName := ⟨RX12, "personLine", "()V"⟩
abbrev cX12_isRoom : ByteArray := prog_14_method_30_code
def yX12_isRoom : MethodName := ⟨RX12, "isRoom", "(ZII)Z"⟩
abbrev cX12_line : ByteArray := prog_14_method_31_code
def yX12_line : MethodName := ⟨RX12, "line", "()V"⟩
abbrev cX12_clears : ByteArray := prog_14_method_32_code
def yX12_clears : MethodName := ⟨RX12, "clears", "()V"⟩
abbrev cX12_church : ByteArray := prog_14_method_33_code
def yX12_church : MethodName := ⟨RX12, "church", "()I"⟩
abbrev cX12_copyRow : ByteArray := prog_14_method_34_code
def yX12_copyRow : MethodName := ⟨RX12, "copyRow", "([IIII)V"⟩
abbrev cX12_copyChurch : ByteArray := prog_14_method_35_code
def yX12_copyChurch : MethodName := ⟨RX12, "copyChurch", "(II)V"⟩
abbrev cX12_isChurch : ByteArray := prog_14_method_36_code
def yX12_isChurch : MethodName := ⟨RX12, "isChurch", "()Z"⟩
abbrev cX12_isPenance : ByteArray := prog_14_method_37_code
def yX12_isPenance : MethodName := ⟨RX12, "isPenance", "(J)Z"⟩
abbrev cX12_isPerson : ByteArray := prog_14_method_38_code
def yX12_isPerson : MethodName := ⟨RX12, "isPerson", "(J)Z"⟩
abbrev cX12_isBox : ByteArray := prog_14_method_39_code
def yX12_isBox : MethodName := ⟨RX12, "isBox", "(I)Z"⟩
abbrev cX12_isHour : ByteArray := prog_14_method_40_code
def yX12_isHour : MethodName := ⟨RX12, "isHour", "(I)Z"⟩
abbrev cX12_isBit : ByteArray := prog_14_method_41_code
def yX12_isBit : MethodName := ⟨RX12, "isBit", "(II)Z"⟩
abbrev cX12_sinOf : ByteArray := prog_14_method_42_code
def yX12_sinOf : MethodName := ⟨RX12, "sinOf", "(I)I"⟩
abbrev cX12_boxOf : ByteArray := prog_14_method_43_code
def yX12_boxOf : MethodName := ⟨RX12, "boxOf", "(I)I"⟩
abbrev cX12_costOf : ByteArray := prog_14_method_44_code
def yX12_costOf : MethodName := ⟨RX12, "costOf", "(II)I"⟩
abbrev cX12_everybody : ByteArray := prog_14_method_45_code
def yX12_everybody : MethodName := ⟨RX12, "everybody", "()I"⟩
abbrev cX12_of : ByteArray := prog_14_method_46_code
def yX12_of : MethodName := ⟨RX12, "of", "(I)I"⟩
abbrev cX12_lays : ByteArray := prog_14_method_47_code
def yX12_lays : MethodName := ⟨RX12, "lays", "()V"⟩
abbrev cX12_isAhead : ByteArray := prog_14_method_48_code
def yX12_isAhead : MethodName := ⟨RX12, "isAhead", "(II)Z"⟩
abbrev cX12_aheadOf : ByteArray := prog_14_method_49_code
def yX12_aheadOf : MethodName := ⟨RX12, "aheadOf", "(I)I"⟩
abbrev cX12_getsOf : ByteArray := prog_14_method_50_code
def yX12_getsOf : MethodName := ⟨RX12, "getsOf", "(I)I"⟩
abbrev cX12_hasCost : ByteArray := prog_14_method_51_code
def yX12_hasCost : MethodName := ⟨RX12, "hasCost", "(I)I"⟩
abbrev cX12_penance : ByteArray := prog_14_method_52_code
def yX12_penance : MethodName := ⟨RX12, "penance", "(I)I"⟩
abbrev cX12_person : ByteArray := prog_14_method_53_code
def yX12_person : MethodName := ⟨RX12, "person", "(II)I"⟩
abbrev cX12_minds : ByteArray := prog_14_method_54_code
def yX12_minds : MethodName := ⟨RX12, "minds", "(II)I"⟩
abbrev cX12_cost : ByteArray := prog_14_method_55_code
def yX12_cost : MethodName := ⟨RX12, "cost", "(II)I"⟩
abbrev cX12_box : ByteArray := prog_14_method_56_code
def yX12_box : MethodName := ⟨RX12, "box", "(I)I"⟩
abbrev cX12_queue : ByteArray := prog_14_method_57_code
def yX12_queue : MethodName := ⟨RX12, "queue", "(II)I"⟩
abbrev cX12_gets : ByteArray := prog_14_method_58_code
def yX12_gets : MethodName := ⟨RX12, "gets", "(I)I"⟩
abbrev cX12_giver : ByteArray := prog_14_method_59_code
def yX12_giver : MethodName := ⟨RX12, "giver", "(I)I"⟩
abbrev cX12_back : ByteArray := prog_14_method_60_code
def yX12_back : MethodName := ⟨RX12, "back", "(II)I"⟩
abbrev cX12_last : ByteArray := prog_14_method_61_code
def yX12_last : MethodName := ⟨RX12, "last", "(I)I"⟩
abbrev cX12_bears : ByteArray := prog_14_method_62_code
def yX12_bears : MethodName := ⟨RX12, "bears", "(I)I"⟩
abbrev cX12_own : ByteArray := prog_14_method_63_code
def yX12_own : MethodName := ⟨RX12, "own", "()I"⟩
abbrev cX12_gain : ByteArray := prog_14_method_64_code
def yX12_gain : MethodName := ⟨RX12, "gain", "()I"⟩
abbrev cX12_worst : ByteArray := prog_14_method_65_code
def yX12_worst : MethodName := ⟨RX12, "worst", "()I"⟩
abbrev cX12_passes : ByteArray := prog_14_method_66_code
def yX12_passes : MethodName := ⟨RX12, "passes", "(I)I"⟩
abbrev cX12_ahead : ByteArray := prog_14_method_67_code
def yX12_ahead : MethodName := ⟨RX12, "ahead", "(I)I"⟩
abbrev cX12_kneel : ByteArray := prog_14_method_68_code
def yX12_kneel : MethodName := ⟨RX12, "kneel", "(I)I"⟩
abbrev cX12_sinnedOf : ByteArray := prog_14_method_69_code
def yX12_sinnedOf : MethodName := ⟨RX12, "sinnedOf", "(I)I"⟩
abbrev cX12_sins : ByteArray := prog_14_method_70_code
def yX12_sins : MethodName := ⟨RX12, "sins", "(I)I"⟩
abbrev cX12_sinned : ByteArray := prog_14_method_71_code
def yX12_sinned : MethodName := ⟨RX12, "sinned", "(I)I"⟩
abbrev cX12_stepOf : ByteArray := prog_14_method_72_code
def yX12_stepOf : MethodName := ⟨RX12, "stepOf", "(IIII)I"⟩
abbrev cX12_joined : ByteArray := prog_14_method_73_code
def yX12_joined : MethodName := ⟨RX12, "joined", "(III)I"⟩
abbrev cX12_isBetter : ByteArray := prog_14_method_74_code
def yX12_isBetter : MethodName := ⟨RX12, "isBetter", "(III)Z"⟩
abbrev cX12_laysOrders : ByteArray := prog_14_method_75_code
def yX12_laysOrders : MethodName := ⟨RX12, "laysOrders", "(II)V"⟩
abbrev cX12_bestBy : ByteArray := prog_14_method_76_code
def yX12_bestBy : MethodName := ⟨RX12, "bestBy", "(II)I"⟩
abbrev cX12_best : ByteArray := prog_14_method_77_code
def yX12_best : MethodName := ⟨RX12, "best", "(I)I"⟩
abbrev cX12_orders : ByteArray := prog_14_method_78_code
def yX12_orders : MethodName := ⟨RX12, "orders", "(II)I"⟩
abbrev cX12_most : ByteArray := prog_14_method_79_code
def yX12_most : MethodName := ⟨RX12, "most", "(I)I"⟩
abbrev cX12_fair : ByteArray := prog_14_method_80_code
def yX12_fair : MethodName := ⟨RX12, "fair", "(I)I"⟩
abbrev cX12_likes : ByteArray := prog_14_method_81_code
def yX12_likes : MethodName := ⟨RX12, "likes", "(I)I"⟩
abbrev cX12_ways : ByteArray := prog_14_method_82_code
def yX12_ways : MethodName := ⟨RX12, "ways", "(I)I"⟩
abbrev cX12_comesIn : ByteArray := prog_14_method_83_code
def yX12_comesIn : MethodName := ⟨RX12, "comesIn", "(II)I"⟩
abbrev cX12_hourOf : ByteArray := prog_14_method_84_code
def yX12_hourOf : MethodName := ⟨RX12, "hourOf", "(I)I"⟩
abbrev cX12_stirs : ByteArray := prog_14_method_85_code
def yX12_stirs : MethodName := ⟨RX12, "stirs", "(I)Z"⟩
abbrev cX12_comes : ByteArray := prog_14_method_86_code
def yX12_comes : MethodName := ⟨RX12, "comes", "(II)I"⟩
abbrev cX12_hour : ByteArray := prog_14_method_87_code
def yX12_hour : MethodName := ⟨RX12, "hour", "(I)I"⟩
abbrev cX12_stir : ByteArray := prog_14_method_88_code
def yX12_stir : MethodName := ⟨RX12, "stir", "()I"⟩
abbrev cX12_settle : ByteArray := prog_14_method_89_code
def yX12_settle : MethodName := ⟨RX12, "settle", "()I"⟩
abbrev cX12_settles : ByteArray := prog_14_method_90_code
def yX12_settles : MethodName := ⟨RX12, "settles", "()I"⟩
abbrev cX12_settled : ByteArray := prog_14_method_91_code
def yX12_settled : MethodName := ⟨RX12, "settled", "(I)I"⟩
abbrev cX12_laysGot : ByteArray := prog_14_method_92_code
def yX12_laysGot : MethodName := ⟨RX12, "laysGot", "()V"⟩
abbrev cX12_rings : ByteArray := prog_14_method_93_code
def yX12_rings : MethodName := ⟨RX12, "rings", "()I"⟩
abbrev cX12_deals : ByteArray := prog_14_method_94_code
def yX12_deals : MethodName := ⟨RX12, "deals", "(II)V"⟩
abbrev cX12_fewestSwaps : ByteArray := prog_14_method_95_code
def yX12_fewestSwaps : MethodName := ⟨RX12, "fewestSwaps", "()I"⟩
abbrev cX12_swaps : ByteArray := prog_14_method_96_code
def yX12_swaps : MethodName := ⟨RX12, "swaps", "()I"⟩
abbrev cX12_changes : ByteArray := prog_14_method_97_code
def yX12_changes : MethodName := ⟨RX12, "changes", "(II)V"⟩
abbrev cX12_swap : ByteArray := prog_14_method_98_code
def yX12_swap : MethodName := ⟨RX12, "swap", "(I)I"⟩
abbrev cX12_trades : ByteArray := prog_14_method_99_code
def yX12_trades : MethodName := ⟨RX12, "trades", "()I"⟩
abbrev cX12_laysDeal : ByteArray := prog_14_method_100_code
def yX12_laysDeal : MethodName := ⟨RX12, "laysDeal", "()V"⟩
abbrev cX12_deal : ByteArray := prog_14_method_101_code
def yX12_deal : MethodName := ⟨RX12, "deal", "()I"⟩
abbrev cX12_dealOf : ByteArray := prog_14_method_102_code
def yX12_dealOf : MethodName := ⟨RX12, "dealOf", "(II)I"⟩
abbrev cX12_dealt : ByteArray := prog_14_method_103_code
def yX12_dealt : MethodName := ⟨RX12, "dealt", "(I)I"⟩
abbrev cX12_whyNot : ByteArray := prog_14_method_104_code
def yX12_whyNot : MethodName := ⟨RX12, "whyNot", "(II)I"⟩
abbrev cX12_laysFits : ByteArray := prog_14_method_105_code
def yX12_laysFits : MethodName := ⟨RX12, "laysFits", "(II)V"⟩
abbrev cX12_comesNext : ByteArray := prog_14_method_106_code
def yX12_comesNext : MethodName := ⟨RX12, "comesNext", "(IIII)V"⟩
abbrev cX12_fits : ByteArray := prog_14_method_107_code
def yX12_fits : MethodName := ⟨RX12, "fits", "(II)I"⟩
abbrev cX12_firsts : ByteArray := prog_14_method_108_code
def yX12_firsts : MethodName := ⟨RX12, "firsts", "(II)I"⟩
abbrev cX12_may : ByteArray := prog_14_method_109_code
def yX12_may : MethodName := ⟨RX12, "may", "(III)I"⟩
abbrev cX12_laysAsk : ByteArray := prog_14_method_110_code
def yX12_laysAsk : MethodName := ⟨RX12, "laysAsk", "(II)V"⟩
abbrev cX12_ask : ByteArray := prog_14_method_111_code
def yX12_ask : MethodName := ⟨RX12, "ask", "(II)I"⟩
abbrev cX12_leaves : ByteArray := prog_14_method_112_code
def yX12_leaves : MethodName := ⟨RX12, "leaves", "(II)I"⟩
abbrev cX12_whyNotMean : ByteArray := prog_14_method_113_code
def yX12_whyNotMean : MethodName := ⟨RX12, "whyNotMean", "(II)I"⟩
abbrev cX12_allOf : ByteArray := prog_14_method_114_code
def yX12_allOf : MethodName := ⟨RX12, "allOf", "(I)J"⟩
abbrev cX12_common : ByteArray := prog_14_method_115_code
def yX12_common : MethodName := ⟨RX12, "common", "(JJ)J"⟩
abbrev cX12_part : ByteArray := prog_14_method_116_code
def yX12_part : MethodName := ⟨RX12, "part", "(JJI)J"⟩
abbrev cX12_passOf : ByteArray := prog_14_method_117_code
def yX12_passOf : MethodName := ⟨RX12, "passOf", "(III)J"⟩
abbrev cX12_mean : ByteArray := prog_14_method_118_code
def yX12_mean : MethodName := ⟨RX12, "mean", "(III)J"⟩
abbrev cX12_choose : ByteArray := prog_14_method_119_code
def yX12_choose : MethodName := ⟨RX12, "choose", "(I)I"⟩
abbrev cX12_pass : ByteArray := prog_14_method_120_code
def yX12_pass : MethodName := ⟨RX12, "pass", "(IIII)J"⟩
abbrev cX12_takes_ : ByteArray := prog_14_method_121_code
def yX12_takes_ : MethodName := ⟨RX12, "takes", "(III)I"⟩
abbrev cX12_laysNow : ByteArray := prog_14_method_122_code
def yX12_laysNow : MethodName := ⟨RX12, "laysNow", "()V"⟩
abbrev cX12_isFull : ByteArray := prog_14_method_123_code
def yX12_isFull : MethodName := ⟨RX12, "isFull", "()Z"⟩
abbrev cX12_acts : ByteArray := prog_14_method_124_code
def yX12_acts : MethodName := ⟨RX12, "acts", "(II)V"⟩
abbrev cX12_confess : ByteArray := prog_14_method_125_code
def yX12_confess : MethodName := ⟨RX12, "confess", "(I)I"⟩
abbrev cX12_clear : ByteArray := prog_14_method_126_code
def yX12_clear : MethodName := ⟨RX12, "clear", "(II)I"⟩
abbrev cX12_now : ByteArray := prog_14_method_127_code
def yX12_now : MethodName := ⟨RX12, "now", "(I)I"⟩
abbrev cX12_has : ByteArray := prog_14_method_128_code
def yX12_has : MethodName := ⟨RX12, "has", "(I)I"⟩
abbrev cX12_done : ByteArray := prog_14_method_129_code
def yX12_done : MethodName := ⟨RX12, "done", "()I"⟩
abbrev cX12_sum : ByteArray := prog_14_method_130_code
def yX12_sum : MethodName := ⟨RX12, "sum", "()I"⟩
abbrev cX12_undo : ByteArray := prog_14_method_131_code
def yX12_undo : MethodName := ⟨RX12, "undo", "()I"⟩
abbrev cX12_anew : ByteArray := prog_14_method_132_code
def yX12_anew : MethodName := ⟨RX12, "anew", "()I"⟩
abbrev cX12_draws : ByteArray := prog_14_method_133_code
def yX12_draws : MethodName := ⟨RX12, "draws", "(J)V"⟩
abbrev cX12_isSeed : ByteArray := prog_14_method_134_code
def yX12_isSeed : MethodName := ⟨RX12, "isSeed", "(I)Z"⟩
abbrev cX12_drawn : ByteArray := prog_14_method_135_code
def yX12_drawn : MethodName := ⟨RX12, "drawn", "(II)I"⟩
abbrev cX12_fate : ByteArray := prog_14_method_136_code
def yX12_fate : MethodName := ⟨RX12, "fate", "(II)I"⟩
abbrev cX12_luck : ByteArray := prog_14_method_137_code
def yX12_luck : MethodName := ⟨RX12, "luck", "(III)I"⟩
abbrev cX12_set : ByteArray := prog_14_method_138_code
def yX12_set : MethodName := ⟨RX12, "set", "(II)I"⟩
abbrev cX12_move : ByteArray := prog_14_method_139_code
def yX12_move : MethodName := ⟨RX12, "move", "(II)I"⟩
abbrev cX12_count : ByteArray := prog_14_method_140_code
def yX12_count : MethodName := ⟨RX12, "count", "(I)I"⟩
abbrev cX12_image : ByteArray := prog_14_method_141_code
def yX12_image : MethodName := ⟨RX12, "image", "(I)I"⟩
abbrev cX12_again : ByteArray := prog_14_method_142_code
def yX12_again : MethodName := ⟨RX12, "again", "(I)I"⟩
def RJx145de : String := "java/io/Serializable"
def TJx145de : u_T := fun k => match k with
  | _ => ("", "", "", false)
def tyJx145de : Nat → FieldType := fun k => match k with
  | _ => .int
abbrev wsJx145de0 : List Cond := u_ws RJx145de TJx145de 0
theorem nmJx145de : ∀ a, a < 0 → ∀ b, b < 0 → a ≠ b → (TJx145de a).2.1 ≠ (TJx145de b).2.1 := by decide +kernel
theorem tyJx145de_ok : ∀ k, k < 0 → parseFieldDescriptor (TJx145de k).2.2.1 = some (tyJx145de k) := by decide +kernel
def RJx9f9b0 : String := "java/lang/CharSequence"
def TJx9f9b0 : u_T := fun k => match k with
  | _ => ("", "", "", false)
def tyJx9f9b0 : Nat → FieldType := fun k => match k with
  | _ => .int
abbrev wsJx9f9b00 : List Cond := u_ws RJx9f9b0 TJx9f9b0 0
theorem nmJx9f9b0 : ∀ a, a < 0 → ∀ b, b < 0 → a ≠ b → (TJx9f9b0 a).2.1 ≠ (TJx9f9b0 b).2.1 := by decide +kernel
theorem tyJx9f9b0_ok : ∀ k, k < 0 → parseFieldDescriptor (TJx9f9b0 k).2.2.1 = some (tyJx9f9b0 k) := by decide +kernel
def RJxb160c : String := "java/lang/Comparable"
def TJxb160c : u_T := fun k => match k with
  | _ => ("", "", "", false)
def tyJxb160c : Nat → FieldType := fun k => match k with
  | _ => .int
abbrev wsJxb160c0 : List Cond := u_ws RJxb160c TJxb160c 0
theorem nmJxb160c : ∀ a, a < 0 → ∀ b, b < 0 → a ≠ b → (TJxb160c a).2.1 ≠ (TJxb160c b).2.1 := by decide +kernel
theorem tyJxb160c_ok : ∀ k, k < 0 → parseFieldDescriptor (TJxb160c k).2.2.1 = some (tyJxb160c k) := by decide +kernel
def RJ6 : String := "java/lang/Integer"
def TJ6 : u_T := fun k => match k with
  | _ => ("", "", "", false)
def tyJ6 : Nat → FieldType := fun k => match k with
  | _ => .int
abbrev wsJ60 : List Cond := u_ws RJ6 TJ6 0
theorem nmJ6 : ∀ a, a < 0 → ∀ b, b < 0 → a ≠ b → (TJ6 a).2.1 ≠ (TJ6 b).2.1 := by decide +kernel
theorem tyJ6_ok : ∀ k, k < 0 → parseFieldDescriptor (TJ6 k).2.2.1 = some (tyJ6 k) := by decide +kernel
abbrev cJ6_bitCount_0f7a4 : ByteArray := prog_15_method_49_code
def yJ6_bitCount_0f7a4 : MethodName := ⟨RJ6, "bitCount", "(I)I"⟩
def RJ9 : String := "java/lang/Math"
def TJ9 : u_T := fun k => match k with
  | _ => ("", "", "", false)
def tyJ9 : Nat → FieldType := fun k => match k with
  | _ => .int
abbrev wsJ90 : List Cond := u_ws RJ9 TJ9 0
theorem nmJ9 : ∀ a, a < 0 → ∀ b, b < 0 → a ≠ b → (TJ9 a).2.1 ≠ (TJ9 b).2.1 := by decide +kernel
theorem tyJ9_ok : ∀ k, k < 0 → parseFieldDescriptor (TJ9 k).2.2.1 = some (tyJ9 k) := by decide +kernel
abbrev cJ9_max_7cf53 : ByteArray := prog_16_method_65_code
def yJ9_max_7cf53 : MethodName := ⟨RJ9, "max", "(II)I"⟩
abbrev cJ9_min_7cf53 : ByteArray := prog_16_method_69_code
def yJ9_min_7cf53 : MethodName := ⟨RJ9, "min", "(II)I"⟩
def RJ0 : String := "java/lang/String"
def TJ0 : u_T := fun k => match k with
  | _ => ("", "", "", false)
def tyJ0 : Nat → FieldType := fun k => match k with
  | _ => .int
abbrev wsJ00 : List Cond := u_ws RJ0 TJ0 0
theorem nmJ0 : ∀ a, a < 0 → ∀ b, b < 0 → a ≠ b → (TJ0 a).2.1 ≠ (TJ0 b).2.1 := by decide +kernel
theorem tyJ0_ok : ∀ k, k < 0 → parseFieldDescriptor (TJ0 k).2.2.1 = some (tyJ0 k) := by decide +kernel
abbrev cJ0_length_8abf5 : ByteArray := prog_17_method_54_code
def yJ0_length_8abf5 : MethodName := ⟨RJ0, "length", "()I"⟩
abbrev cJ0_charAt_5068e : ByteArray := prog_17_method_56_code
def yJ0_charAt_5068e : MethodName := ⟨RJ0, "charAt", "(I)C"⟩
abbrev cJ0_coder_7d493 : ByteArray := prog_17_method_152_code
def yJ0_coder_7d493 : MethodName := ⟨RJ0, "coder", "()B"⟩
abbrev cJ0_isLatin1_aae02 : ByteArray := prog_17_method_154_code
def yJ0_isLatin1_aae02 : MethodName := ⟨RJ0, "isLatin1", "()Z"⟩
abbrev cJ0_checkIndex_df160 : ByteArray := prog_17_method_155_code
def yJ0_checkIndex_df160 : MethodName := ⟨RJ0, "checkIndex", "(II)V"⟩
def RJ1 : String := "java/lang/StringLatin1"
def TJ1 : u_T := fun k => match k with
  | _ => ("", "", "", false)
def tyJ1 : Nat → FieldType := fun k => match k with
  | _ => .int
abbrev wsJ10 : List Cond := u_ws RJ1 TJ1 0
theorem nmJ1 : ∀ a, a < 0 → ∀ b, b < 0 → a ≠ b → (TJ1 a).2.1 ≠ (TJ1 b).2.1 := by decide +kernel
theorem tyJ1_ok : ∀ k, k < 0 → parseFieldDescriptor (TJ1 k).2.2.1 = some (tyJ1 k) := by decide +kernel
abbrev cJ1_charAt_3b067 : ByteArray := prog_18_method_2_code
def yJ1_charAt_3b067 : MethodName := ⟨RJ1, "charAt", "([BI)C"⟩
def RJ2 : String := "java/lang/StringUTF16"
def TJ2 : u_T := fun k => match k with
  | _ => ("", "", "", false)
def tyJ2 : Nat → FieldType := fun k => match k with
  | _ => .int
abbrev wsJ20 : List Cond := u_ws RJ2 TJ2 0
theorem nmJ2 : ∀ a, a < 0 → ∀ b, b < 0 → a ≠ b → (TJ2 a).2.1 ≠ (TJ2 b).2.1 := by decide +kernel
theorem tyJ2_ok : ∀ k, k < 0 → parseFieldDescriptor (TJ2 k).2.2.1 = some (tyJ2 k) := by decide +kernel
abbrev cJ2_getChar_3b067 : ByteArray := prog_19_method_5_code
def yJ2_getChar_3b067 : MethodName := ⟨RJ2, "getChar", "([BI)C"⟩
abbrev cJ2_length_9d52b : ByteArray := prog_19_method_6_code
def yJ2_length_9d52b : MethodName := ⟨RJ2, "length", "([B)I"⟩
abbrev cJ2_charAt_3b067 : ByteArray := prog_19_method_83_code
def yJ2_charAt_3b067 : MethodName := ⟨RJ2, "charAt", "([BI)C"⟩
abbrev cJ2_checkIndex_2214a : ByteArray := prog_19_method_91_code
def yJ2_checkIndex_2214a : MethodName := ⟨RJ2, "checkIndex", "(I[B)V"⟩
def RJ10 : String := "java/lang/System"
def TJ10 : u_T := fun k => match k with
  | _ => ("", "", "", false)
def tyJ10 : Nat → FieldType := fun k => match k with
  | _ => .int
abbrev wsJ100 : List Cond := u_ws RJ10 TJ10 0
theorem nmJ10 : ∀ a, a < 0 → ∀ b, b < 0 → a ≠ b → (TJ10 a).2.1 ≠ (TJ10 b).2.1 := by decide +kernel
theorem tyJ10_ok : ∀ k, k < 0 → parseFieldDescriptor (TJ10 k).2.2.1 = some (tyJ10 k) := by decide +kernel
def RJxfd54e : String := "java/lang/constant/Constable"
def TJxfd54e : u_T := fun k => match k with
  | _ => ("", "", "", false)
def tyJxfd54e : Nat → FieldType := fun k => match k with
  | _ => .int
abbrev wsJxfd54e0 : List Cond := u_ws RJxfd54e TJxfd54e 0
theorem nmJxfd54e : ∀ a, a < 0 → ∀ b, b < 0 → a ≠ b → (TJxfd54e a).2.1 ≠ (TJxfd54e b).2.1 := by decide +kernel
theorem tyJxfd54e_ok : ∀ k, k < 0 → parseFieldDescriptor (TJxfd54e k).2.2.1 = some (tyJxfd54e k) := by decide +kernel
def RJx3cf43 : String := "java/lang/constant/ConstantDesc"
def TJx3cf43 : u_T := fun k => match k with
  | _ => ("", "", "", false)
def tyJx3cf43 : Nat → FieldType := fun k => match k with
  | _ => .int
abbrev wsJx3cf430 : List Cond := u_ws RJx3cf43 TJx3cf43 0
theorem nmJx3cf43 : ∀ a, a < 0 → ∀ b, b < 0 → a ≠ b → (TJx3cf43 a).2.1 ≠ (TJx3cf43 b).2.1 := by decide +kernel
theorem tyJx3cf43_ok : ∀ k, k < 0 → parseFieldDescriptor (TJx3cf43 k).2.2.1 = some (tyJx3cf43 k) := by decide +kernel
def RJ7 : String := "java/util/Arrays"
def TJ7 : u_T := fun k => match k with
  | _ => ("", "", "", false)
def tyJ7 : Nat → FieldType := fun k => match k with
  | _ => .int
abbrev wsJ70 : List Cond := u_ws RJ7 TJ7 0
theorem nmJ7 : ∀ a, a < 0 → ∀ b, b < 0 → a ≠ b → (TJ7 a).2.1 ≠ (TJ7 b).2.1 := by decide +kernel
theorem tyJ7_ok : ∀ k, k < 0 → parseFieldDescriptor (TJ7 k).2.2.1 = some (tyJ7 k) := by decide +kernel
abbrev cJ7_fill_d0a16 : ByteArray := prog_21_method_101_code
def yJ7_fill_d0a16 : MethodName := ⟨RJ7, "fill", "([JJ)V"⟩
abbrev cJ7_fill_53178 : ByteArray := prog_21_method_103_code
def yJ7_fill_53178 : MethodName := ⟨RJ7, "fill", "([II)V"⟩
def RJ3 : String := "jdk/internal/util/Preconditions"
def TJ3 : u_T := fun k => match k with
  | _ => ("", "", "", false)
def tyJ3 : Nat → FieldType := fun k => match k with
  | _ => .int
abbrev wsJ30 : List Cond := u_ws RJ3 TJ3 0
theorem nmJ3 : ∀ a, a < 0 → ∀ b, b < 0 → a ≠ b → (TJ3 a).2.1 ≠ (TJ3 b).2.1 := by decide +kernel
theorem tyJ3_ok : ∀ k, k < 0 → parseFieldDescriptor (TJ3 k).2.2.1 = some (tyJ3 k) := by decide +kernel
abbrev cJ3_checkIndex_8e157 : ByteArray := prog_22_method_11_code
def yJ3_checkIndex_8e157 : MethodName := ⟨RJ3, "checkIndex", "(IILjava/util/function/BiFunction;)I"⟩
def RL : String := "PassedPenanceLaw"
abbrev cL_law : ByteArray := code
def yL_law : MethodName := ⟨RL, "law", "([I)Z"⟩
abbrev vwCl : List vw_C := [(RX0, TX0, 6), (RX1, TX1, 6), (RX2, TX2, 13), (RX3, TX3, 3), (RX4, TX4, 2), (RX5, TX5, 2), (RX6, TX6, 6), (RX7, TX7, 9), (RX8, TX8, 3), (RX9, TX9, 6), (RX10, TX10, 7), (RX11, TX11, 13), (RX12, TX12, 42)]
/-- the tables' words that stay -/
def xv_tb : List Cond := lw_tbl.filter goodWord
theorem xv_tbm {w : Cond} (h : w ∈ lw_tbl) (hg : goodWord w = true) : w ∈ xv_tb := List.mem_filter.mpr ⟨h, hg⟩
theorem xv_memp {ws : List Cond} (ps : List Nat) (hp : ws = ps.filterMap (fun i => lw_tbl[i]?)) (hg : ws.all goodWord = true) : ∀ w ∈ ws, w ∈ xv_tb := by
  intro w hw
  have h1 := List.all_eq_true.mp hg w hw
  rw [hp] at hw
  obtain ⟨i, -, hi⟩ := List.mem_filterMap.mp hw
  exact xv_tbm (List.mem_of_getElem? hi) h1
theorem xv_in0 : ∀ w ∈ u_ws RX0 TX0 6, w ∈ xv_tb := xv_memp [272, 274, 276, 278, 280, 282] (by decide +kernel) (by decide +kernel)
theorem xv_ia0 : Cond.instantiable RX0 6 ∈ xv_tb := xv_tbm (List.mem_of_getElem? (i := 257) (by decide +kernel)) (by decide +kernel)
theorem xv_it0 : Cond.initialized RX0 ∈ xv_tb := xv_tbm (List.mem_of_getElem? (i := 103) (by decide +kernel)) (by decide +kernel)
theorem xv_in1 : ∀ w ∈ u_ws RX1 TX1 6, w ∈ xv_tb := xv_memp [335, 337, 339, 341, 343, 345] (by decide +kernel) (by decide +kernel)
theorem xv_ia1 : Cond.instantiable RX1 6 ∈ xv_tb := xv_tbm (List.mem_of_getElem? (i := 314) (by decide +kernel)) (by decide +kernel)
theorem xv_it1 : Cond.initialized RX1 ∈ xv_tb := xv_tbm (List.mem_of_getElem? (i := 106) (by decide +kernel)) (by decide +kernel)
theorem xv_in2 : ∀ w ∈ u_ws RX2 TX2 13, w ∈ xv_tb := xv_memp [194, 196, 198, 200, 202, 204, 206, 208, 210, 212, 214, 216, 218] (by decide +kernel) (by decide +kernel)
theorem xv_ia2 : Cond.instantiable RX2 13 ∈ xv_tb := xv_tbm (List.mem_of_getElem? (i := 136) (by decide +kernel)) (by decide +kernel)
theorem xv_it2 : Cond.initialized RX2 ∈ xv_tb := xv_tbm (List.mem_of_getElem? (i := 102) (by decide +kernel)) (by decide +kernel)
theorem xv_in3 : ∀ w ∈ u_ws RX3 TX3 3, w ∈ xv_tb := xv_memp [445, 447, 449] (by decide +kernel) (by decide +kernel)
theorem xv_ia3 : Cond.instantiable RX3 3 ∈ xv_tb := xv_tbm (List.mem_of_getElem? (i := 436) (by decide +kernel)) (by decide +kernel)
theorem xv_it3 : Cond.initialized RX3 ∈ xv_tb := xv_tbm (List.mem_of_getElem? (i := 110) (by decide +kernel)) (by decide +kernel)
theorem xv_in4 : ∀ w ∈ u_ws RX4 TX4 2, w ∈ xv_tb := xv_memp [1300, 1302] (by decide +kernel) (by decide +kernel)
theorem xv_ia4 : Cond.instantiable RX4 2 ∈ xv_tb := xv_tbm (List.mem_of_getElem? (i := 1287) (by decide +kernel)) (by decide +kernel)
theorem xv_it4 : Cond.initialized RX4 ∈ xv_tb := xv_tbm (List.mem_of_getElem? (i := 120) (by decide +kernel)) (by decide +kernel)
theorem xv_in5 : ∀ w ∈ u_ws RX5 TX5 2, w ∈ xv_tb := xv_memp [462, 464] (by decide +kernel) (by decide +kernel)
theorem xv_ia5 : Cond.instantiable RX5 2 ∈ xv_tb := xv_tbm (List.mem_of_getElem? (i := 453) (by decide +kernel)) (by decide +kernel)
theorem xv_it5 : Cond.initialized RX5 ∈ xv_tb := xv_tbm (List.mem_of_getElem? (i := 111) (by decide +kernel)) (by decide +kernel)
theorem xv_in6 : ∀ w ∈ u_ws RX6 TX6 6, w ∈ xv_tb := xv_memp [365, 367, 369, 371, 373, 375] (by decide +kernel) (by decide +kernel)
theorem xv_ia6 : Cond.instantiable RX6 6 ∈ xv_tb := xv_tbm (List.mem_of_getElem? (i := 349) (by decide +kernel)) (by decide +kernel)
theorem xv_it6 : Cond.initialized RX6 ∈ xv_tb := xv_tbm (List.mem_of_getElem? (i := 107) (by decide +kernel)) (by decide +kernel)
theorem xv_in7 : ∀ w ∈ u_ws RX7 TX7 9, w ∈ xv_tb := xv_memp [235, 237, 239, 241, 243, 245, 247, 249, 251] (by decide +kernel) (by decide +kernel)
theorem xv_ia7 : Cond.instantiable RX7 9 ∈ xv_tb := xv_tbm (List.mem_of_getElem? (i := 130) (by decide +kernel)) (by decide +kernel)
theorem xv_it7 : Cond.initialized RX7 ∈ xv_tb := xv_tbm (List.mem_of_getElem? (i := 101) (by decide +kernel)) (by decide +kernel)
theorem xv_in8 : ∀ w ∈ u_ws RX8 TX8 3, w ∈ xv_tb := xv_memp [305, 307, 309] (by decide +kernel) (by decide +kernel)
theorem xv_ia8 : Cond.instantiable RX8 3 ∈ xv_tb := xv_tbm (List.mem_of_getElem? (i := 286) (by decide +kernel)) (by decide +kernel)
theorem xv_it8 : Cond.initialized RX8 ∈ xv_tb := xv_tbm (List.mem_of_getElem? (i := 104) (by decide +kernel)) (by decide +kernel)
theorem xv_in9 : ∀ w ∈ u_ws RX9 TX9 6, w ∈ xv_tb := xv_memp [392, 394, 396, 398, 400, 402] (by decide +kernel) (by decide +kernel)
theorem xv_ia9 : Cond.instantiable RX9 6 ∈ xv_tb := xv_tbm (List.mem_of_getElem? (i := 379) (by decide +kernel)) (by decide +kernel)
theorem xv_it9 : Cond.initialized RX9 ∈ xv_tb := xv_tbm (List.mem_of_getElem? (i := 108) (by decide +kernel)) (by decide +kernel)
theorem xv_in10 : ∀ w ∈ u_ws RX10 TX10 7, w ∈ xv_tb := xv_memp [420, 422, 424, 426, 428, 430, 432] (by decide +kernel) (by decide +kernel)
theorem xv_ia10 : Cond.instantiable RX10 7 ∈ xv_tb := xv_tbm (List.mem_of_getElem? (i := 406) (by decide +kernel)) (by decide +kernel)
theorem xv_it10 : Cond.initialized RX10 ∈ xv_tb := xv_tbm (List.mem_of_getElem? (i := 109) (by decide +kernel)) (by decide +kernel)
theorem xv_in11 : ∀ w ∈ u_ws RX11 TX11 13, w ∈ xv_tb := xv_memp [482, 484, 486, 488, 490, 492, 494, 496, 498, 500, 502, 504, 506] (by decide +kernel) (by decide +kernel)
theorem xv_ia11 : Cond.instantiable RX11 13 ∈ xv_tb := xv_tbm (List.mem_of_getElem? (i := 122) (by decide +kernel)) (by decide +kernel)
theorem xv_it11 : Cond.initialized RX11 ∈ xv_tb := xv_tbm (List.mem_of_getElem? (i := 100) (by decide +kernel)) (by decide +kernel)
theorem xv_in12 : ∀ w ∈ u_ws RX12 TX12 42, w ∈ xv_tb := xv_memp [1392, 1394, 1396, 1398, 1400, 1402, 1404, 1406, 1408, 1410, 1412, 1414, 1416, 1418, 1420, 1422, 1424, 1426, 1428, 1430, 1432, 1434, 1436, 1438, 1440, 1442, 1444, 1446, 1448, 1450, 1452, 1454, 1456, 1458, 1460, 1462, 1464, 1466, 1468, 1470, 1472, 1474] (by decide +kernel) (by decide +kernel)
theorem xv_ia12 : Cond.instantiable RX12 42 ∈ xv_tb := xv_tbm (List.mem_of_getElem? (i := 1345) (by decide +kernel)) (by decide +kernel)
theorem xv_it12 : Cond.initialized RX12 ∈ xv_tb := xv_tbm (List.mem_of_getElem? (i := 112) (by decide +kernel)) (by decide +kernel)
/-- the links to a nest mate -/
def xv_nest : List (String × Nat × MethodName × String) := [("PassedPenance", 11, ⟨"PassedPenance$Reader", "<init>", "()V"⟩, "PassedPenance"), ("PassedPenance$Reader", 11, ⟨"PassedPenance$Church", "<init>", "()V"⟩, "PassedPenance"), ("PassedPenance", 18, ⟨"PassedPenance$Church", "<init>", "()V"⟩, "PassedPenance"), ("PassedPenance", 28, ⟨"PassedPenance$Acts", "<init>", "()V"⟩, "PassedPenance"), ("PassedPenance", 67, ⟨"PassedPenance$Swaps", "<init>", "()V"⟩, "PassedPenance"), ("PassedPenance", 81, ⟨"PassedPenance$Mean", "<init>", "()V"⟩, "PassedPenance"), ("PassedPenance", 394, ⟨"PassedPenance$Image", "<init>", "()V"⟩, "PassedPenance"), ("PassedPenance$Image", 9, ⟨"PassedPenance$Church", "<init>", "()V"⟩, "PassedPenance"), ("PassedPenance$Image", 18, ⟨"PassedPenance$Acts", "<init>", "()V"⟩, "PassedPenance")]
theorem xv_nest_in : ∀ q ∈ xv_nest, Cond.methodLinkNest q.1 q.2.1 q.2.2.1 q.2.2.2 ∈ lw_tbl := by
  have h : xv_nest.map (fun q => Cond.methodLinkNest q.1 q.2.1 q.2.2.1 q.2.2.2) = [131, 137, 255, 258, 407, 454, 1288, 1293, 1295].filterMap (fun i => lw_tbl[i]?) := by decide +kernel
  intro q hq
  have hm := List.mem_map_of_mem (f := fun q : String × Nat × MethodName × String => Cond.methodLinkNest q.1 q.2.1 q.2.2.1 q.2.2.2) hq
  rw [h] at hm
  obtain ⟨i, -, hi⟩ := List.mem_filterMap.mp hm
  exact List.mem_of_getElem? hi
theorem xv_ao_in : Cond.arrayOver (.object "PassedPenance$Image") ∈ lw_tbl ∧ Cond.arrayOver (.array .int) ∈ lw_tbl ∧ Cond.arrayOver (.array .long) ∈ lw_tbl := ⟨List.mem_of_getElem? (i := 468) (by decide +kernel), List.mem_of_getElem? (i := 142) (by decide +kernel), List.mem_of_getElem? (i := 292) (by decide +kernel)⟩
end
section
/-! THE EXECUTOR: numbers are intervals, cells are lists of them; all is a list or a pair, so that the kernel can run it.
A value (k, lo, hi): k 0 an int in lo .. hi, 1 a long, 2 the cell number lo, 3 null, 5 the script, 9 nothing is known. -/
abbrev xv_V : Type := Nat × Int × Int
/-- a cell (k, c, w, els): k 0 an object of class number c; k 1 int, 2 byte, 3 boolean, 4 long, 5 int[], 6 long[], 7 Image: a row of c; place i has els (i % w); k 99: no cell -/
abbrev xv_C : Type := Nat × Nat × Nat × List (List xv_V)
abbrev xv_A : Type := List (List xv_C)
/-- an instruction: its place, itself, its length, three numbers that say what it links to, a constant -/
abbrev xv_E : Type := Nat × Instr × Nat × Nat × Nat × Nat × Int
/-- an end: stack, locals, cells, how many, how many new, their slots -/
abbrev xv_R : Type := List xv_V × List xv_V × xv_A × Nat × Nat × Nat
noncomputable def xv_nth {α : Type} (l : List α) : Nat → Option α := List.rec (motive := fun _ => Nat → Option α) (fun _ => none) (fun a _ ih n => Nat.rec (motive := fun _ => Option α) (some a) (fun k _ => ih k) n) l
noncomputable def xv_put {α : Type} (v : α) (l : List α) : Nat → List α := List.rec (motive := fun _ => Nat → List α) (fun _ => []) (fun a t ih n => Nat.rec (motive := fun _ => List α) (v :: t) (fun k _ => a :: ih k) n) l
noncomputable def xv_get {α : Type} (R : Nat) (ll : List (List α)) (i : Nat) : Option α := match xv_nth ll (i / R) with
  | some l => xv_nth l (i % R)
  | none => none
noncomputable def xv_upd {α : Type} (R : Nat) (ll : List (List α)) (i : Nat) (v : α) : List (List α) := match xv_nth ll (i / R) with
  | some l => xv_put (xv_put v l (i % R)) ll (i / R)
  | none => ll
def xv_le (a b : Int) : Bool := match b - a with
  | .ofNat _ => true
  | .negSucc _ => false
def xv_int (lo hi : Int) : xv_V := bif xv_le (-2147483648) lo && xv_le hi 2147483647 then (0, lo, hi) else (0, -2147483648, 2147483647)
def xv_lng (lo hi : Int) : xv_V := bif xv_le (-9223372036854775808) lo && xv_le hi 9223372036854775807 then (1, lo, hi) else (1, -9223372036854775808, 9223372036854775807)
def xv_ti : xv_V := (0, -2147483648, 2147483647)
def xv_tl : xv_V := (1, -9223372036854775808, 9223372036854775807)
def xv_add (x y : xv_V) : xv_V := xv_int (x.2.1 + y.2.1) (x.2.2 + y.2.2)
def xv_sub (x y : xv_V) : xv_V := xv_int (x.2.1 - y.2.2) (x.2.2 - y.2.1)
def xv_mul (x y : xv_V) : xv_V := bif xv_le 0 x.2.1 && xv_le 0 y.2.1 then xv_int (x.2.1 * y.2.1) (x.2.2 * y.2.2) else xv_ti
def xv_and (_ y : xv_V) : xv_V := bif xv_le 0 y.2.1 then (0, 0, y.2.2) else xv_ti
def xv_lsub (x y : xv_V) : xv_V := xv_lng (x.2.1 - y.2.2) (x.2.2 - y.2.1)
def xv_cmpl (x y : xv_V) : xv_V := (0, bif xv_le (y.2.2 + 1) x.2.1 then 1 else bif xv_le y.2.2 x.2.1 then 0 else -1, bif xv_le (x.2.2 + 1) y.2.1 then -1 else bif xv_le x.2.2 y.2.1 then 0 else 1)
def xv_two (k : Nat) (st : List xv_V) (f : xv_V → xv_V → xv_V) : Option (List xv_V) := match st with
  | y :: x :: r => bif Nat.beq x.1 k && Nat.beq y.1 k then some (f x y :: r) else none
  | _ => none
def xv_one (k : Nat) (st : List xv_V) (f : xv_V → xv_V) : Option (List xv_V) := match st with
  | x :: r => bif Nat.beq x.1 k then some (f x :: r) else none
  | _ => none
def xv_lt3 (x y : xv_V) : Option Bool := bif xv_le (x.2.2 + 1) y.2.1 then some true else bif xv_le y.2.2 x.2.1 then some false else none
def xv_eq3 (x y : xv_V) : Option Bool := bif xv_le (x.2.2 + 1) y.2.1 then some false else bif xv_le (y.2.2 + 1) x.2.1 then some false else bif xv_le x.2.2 y.2.1 && xv_le y.2.2 x.2.1 then some true else none
def xv_not : Option Bool → Option Bool
  | some b => some (!b)
  | none => none
def xv_cond (c : ClassFile.Cond) (x y : xv_V) : Option Bool := match c with
  | .eq => xv_eq3 x y
  | .ne => xv_not (xv_eq3 x y)
  | .lt => xv_lt3 x y
  | .ge => xv_not (xv_lt3 x y)
  | .gt => xv_lt3 y x
  | .le => xv_not (xv_lt3 y x)
/-- a local is read: k the kind wanted -/
noncomputable def xv_ld (k : Nat) (L : List xv_V) (i : Nat) : Option xv_V := match xv_nth L i with
  | some v => bif Nat.beq v.1 k then some v else none
  | none => none
def xv_un : xv_V := (9, 0, 0)
noncomputable def xv_cl1 (L : List xv_V) (i : Nat) : List xv_V := match i with
  | 0 => L
  | j + 1 => match xv_nth L j with
    | some v => bif Nat.beq v.1 1 then xv_put xv_un L j else L
    | none => L
noncomputable def xv_st1 (L : List xv_V) (i : Nat) (v : xv_V) : List xv_V := xv_put v (xv_cl1 L i) i
noncomputable def xv_st2 (L : List xv_V) (i : Nat) (v : xv_V) : List xv_V := xv_put xv_un (xv_put v (xv_cl1 L i) i) (i + 1)
def xv_isOne (x : xv_V) : Bool := xv_le x.2.2 x.2.1 && xv_le 0 x.2.1
/-- cells of w times the same value -/
def xv_rep {α : Type} (n : Nat) (v : α) : List α := Nat.rec (motive := fun _ => List α) [] (fun _ l => v :: l) n
def xv_reps {α : Type} (n : Nat) (v : α) : List (List α) := Nat.rec (motive := fun _ => List (List α)) [xv_rep (n % 8) v] (fun _ l => xv_rep 8 v :: l) (n / 8)
def xv_row (k n : Nat) (v : xv_V) : xv_C := bif Nat.ble n 64 then (k, n, n, xv_reps n v) else (k, n, 1, [[v]])
noncomputable def xv_read (c : xv_C) (i : xv_V) : Option xv_V := bif xv_isOne i && Nat.ble (i.2.1.toNat + 1) c.2.1 then xv_get 8 c.2.2.2 (i.2.1.toNat % c.2.2.1) else none
def xv_join (x y : xv_V) : xv_V := (x.1, bif xv_le x.2.1 y.2.1 then x.2.1 else y.2.1, bif xv_le x.2.2 y.2.2 then y.2.2 else x.2.2)
noncomputable def xv_write (c : xv_C) (i v : xv_V) : Option xv_C := bif xv_isOne i && Nat.ble (i.2.1.toNat + 1) c.2.1 then
    (bif Nat.beq c.2.1 c.2.2.1 then some (c.1, c.2.1, c.2.2.1, xv_upd 8 c.2.2.2 i.2.1.toNat v) else
      match xv_get 8 c.2.2.2 (i.2.1.toNat % c.2.2.1) with
      | some u => bif Nat.beq u.1 v.1 && Nat.ble v.1 1 then some (c.1, c.2.1, c.2.2.1, xv_upd 8 c.2.2.2 (i.2.1.toNat % c.2.2.1) (xv_join u v)) else none
      | none => none) else none
/-- k numbers off the stack, the first of them deepest -/
noncomputable def xv_take (k : Nat) : List xv_V → List xv_V → Option (List xv_V × List xv_V) := Nat.rec (motive := fun _ => List xv_V → List xv_V → Option (List xv_V × List xv_V)) (fun acc st => some (acc, st)) (fun _ ih acc st => match st with
  | v :: r => ih (v :: acc) r
  | [] => none) k
def xv_cat (v : xv_V) : Nat := bif Nat.beq v.1 1 then 2 else bif Nat.ble v.1 3 || Nat.beq v.1 5 then 1 else 100
noncomputable def xv_cats (st : List xv_V) : Nat := List.rec (motive := fun _ => Nat) 0 (fun v _ n => xv_cat v + n) st
noncomputable def xv_ats (c d : xv_C) (n : Nat) : Bool := Nat.rec (motive := fun _ => Bool) true (fun j b => b && match xv_get 8 c.2.2.2 j, xv_get 8 d.2.2.2 j with
  | some _, some _ => true
  | _, _ => false) n
/-- the rows of a row of rows: n of them, from cell q on -/
noncomputable def xv_refs (q n : Nat) : List xv_V := Nat.rec (motive := fun _ => Nat → List xv_V) (fun _ => []) (fun _ ih q => (2, Int.ofNat q, 0) :: ih (q + 1)) n q
noncomputable def xv_fills (h : xv_A) (c : xv_C) (n : Nat) : Nat → xv_A := Nat.rec (motive := fun _ => xv_A → Nat → xv_A) (fun h _ => h) (fun _ ih h q => ih (xv_upd 14 h q c) (q + 1)) n h
/-- a new object: how many fields its class has, and what they are at first -/
def xv_news : List (Nat × List (List xv_V)) := [(6, [[(0, 0, 0), (0, 0, 0), (3, 0, 0), (3, 0, 0), (3, 0, 0), (3, 0, 0)]]), (6, [[(3, 0, 0), (0, 0, 0), (0, 0, 0), (3, 0, 0), (3, 0, 0), (3, 0, 0)]]), (13, [[(0, 0, 0), (0, 0, 0), (0, 0, 0), (0, 0, 0), (0, 0, 0), (0, 0, 0), (3, 0, 0), (3, 0, 0)], [(3, 0, 0), (3, 0, 0), (3, 0, 0), (3, 0, 0), (3, 0, 0)]]), (3, [[(3, 0, 0), (3, 0, 0), (3, 0, 0)]]), (2, [[(3, 0, 0), (3, 0, 0)]]), (2, [[(1, 0, 0), (1, 0, 0)]]), (6, [[(3, 0, 0), (3, 0, 0), (3, 0, 0), (3, 0, 0), (3, 0, 0), (3, 0, 0)]]), (9, [[(3, 0, 0), (0, 0, 0), (0, 0, 0), (0, 0, 0), (3, 0, 0), (0, 0, 0), (0, 0, 0), (0, 0, 0)], [(0, 0, 0)]]), (3, [[(3, 0, 0), (3, 0, 0), (3, 0, 0)]]), (6, [[(3, 0, 0), (0, 0, 0), (3, 0, 0), (3, 0, 0), (3, 0, 0), (3, 0, 0)]]), (7, [[(0, 0, 0), (0, 0, 0), (0, 0, 0), (3, 0, 0), (3, 0, 0), (3, 0, 0), (3, 0, 0)]]), (13, [[(3, 0, 0), (3, 0, 0), (3, 0, 0), (3, 0, 0), (3, 0, 0), (3, 0, 0), (3, 0, 0), (3, 0, 0)], [(3, 0, 0), (3, 0, 0), (3, 0, 0), (3, 0, 0), (3, 0, 0)]]), (42, [[(0, 0, 0), (3, 0, 0), (3, 0, 0), (3, 0, 0), (3, 0, 0), (3, 0, 0), (0, 0, 0), (0, 0, 0)], [(0, 0, 0), (0, 0, 0), (0, 0, 0), (1, 0, 0), (0, 0, 0), (0, 0, 0), (0, 0, 0), (0, 0, 0)], [(3, 0, 0), (3, 0, 0), (3, 0, 0), (3, 0, 0), (3, 0, 0), (3, 0, 0), (3, 0, 0), (3, 0, 0)], [(0, 0, 0), (0, 0, 0), (3, 0, 0), (3, 0, 0), (3, 0, 0), (3, 0, 0), (0, 0, 0), (3, 0, 0)], [(3, 0, 0), (3, 0, 0), (3, 0, 0), (3, 0, 0), (0, 0, 0), (0, 0, 0), (0, 0, 0), (1, 0, 0)], [(3, 0, 0), (3, 0, 0)]])]
abbrev xv_S : Type := xv_A × Nat × Nat × Nat
abbrev xv_K : Type := Nat → List xv_V → List xv_V → xv_S → Option xv_R
/-- a copy of n places, from sp on of one row to dp on of another -/
noncomputable def xv_copy (e : List (List xv_V)) (sp dp n : Nat) : List (List xv_V) → Option (List (List xv_V)) := Nat.rec (motive := fun _ => List (List xv_V) → Option (List (List xv_V))) (fun g => some g) (fun j ih g => match xv_get 8 e (sp + j) with
  | some v => ih (xv_upd 8 g (dp + j) v)
  | none => none) n
def xv_tgt (pc : Nat) (off : Int) : Nat := (Int.ofNat pc + off).toNat
noncomputable def xv_br (k : xv_K) (o : Option Bool) (pc : Nat) (off : Int) (L st : List xv_V) (s : xv_S) : Option xv_R := bif xv_le 0 (Int.ofNat pc + off) then (match o with
  | some true => k (xv_tgt pc off) L st s
  | some false => k (pc + 3) L st s
  | none => none) else none
noncomputable def xv_cell (h : xv_A) (o : xv_V) : Option xv_C := bif Nat.beq o.1 2 && xv_le 0 o.2.1 then xv_get 14 h o.2.1.toNat else none
noncomputable def xv_go (k : xv_K) (pc : Nat) (L : List xv_V) (s : xv_S) (o : Option (List xv_V)) : Option xv_R := match o with
  | some st => k pc L st s
  | none => none
noncomputable def xv_ldk (k : xv_K) (pc : Nat) (L st : List xv_V) (s : xv_S) (o : Option xv_V) : Option xv_R := match o with
  | some v => k pc L (v :: st) s
  | none => none
noncomputable def xv_lda (L : List xv_V) (i : Nat) : Option xv_V := match xv_nth L i with
  | some v => bif Nat.beq v.1 2 || (Nat.beq v.1 3 || Nat.beq v.1 5) then some v else none
  | none => none
noncomputable def xv_sto (k : xv_K) (kd pc i : Nat) (L st : List xv_V) (s : xv_S) : Option xv_R := match st with
  | v :: r => bif Nat.beq v.1 kd && Nat.ble (i + 1) L.length then k pc (xv_st1 L i v) r s else none
  | [] => none
noncomputable def xv_stoa (k : xv_K) (pc i : Nat) (L st : List xv_V) (s : xv_S) : Option xv_R := match st with
  | v :: r => bif (Nat.beq v.1 2 || Nat.beq v.1 3) && Nat.ble (i + 1) L.length then k pc (xv_st1 L i v) r s else none
  | [] => none
noncomputable def xv_stol (k : xv_K) (pc i : Nat) (L st : List xv_V) (s : xv_S) : Option xv_R := match st with
  | v :: r => bif Nat.beq v.1 1 && Nat.ble (i + 2) L.length then k pc (xv_st2 L i v) r s else none
  | [] => none
/-- a row's place is read: kd the kind of row -/
noncomputable def xv_ald (k : xv_K) (kd pc : Nat) (L st : List xv_V) (s : xv_S) : Option xv_R := match st with
  | i :: o :: r => (match xv_cell s.1 o with
    | some c => bif Nat.beq i.1 0 && Nat.beq c.1 kd then xv_ldk k pc L r s (xv_read c i) else none
    | none => none)
  | _ => none
noncomputable def xv_ast (k : xv_K) (kd pc : Nat) (L st : List xv_V) (s : xv_S) (ok : xv_V → Bool) : Option xv_R := match st with
  | v :: i :: o :: r => (match xv_cell s.1 o with
    | some c => bif Nat.beq i.1 0 && Nat.beq c.1 kd && ok v then (match xv_write c i v with
      | some c' => k pc L r (xv_upd 14 s.1 o.2.1.toNat c', s.2)
      | none => none) else none
    | none => none)
  | _ => none
noncomputable def xv_ret (st : List xv_V) (L : List xv_V) (s : xv_S) : Option xv_R := some (st, L, s.1, s.2.1, s.2.2.1, s.2.2.2)
noncomputable def xv_call (k : xv_K) (call : Nat → List xv_V → xv_A → Nat → Option xv_R) (id pc : Nat) (args L rest : List xv_V) (s : xv_S) : Option xv_R :=
  bif Nat.ble (xv_cats rest) 8 then (match call id args s.1 s.2.1 with
    | some r => k pc L (r.1 ++ rest) (r.2.2.1, r.2.2.2.1, s.2.2.1 + r.2.2.2.2.1, s.2.2.2 + r.2.2.2.2.2)
    | none => none) else none
noncomputable def xv_step (call : Nat → List xv_V → xv_A → Nat → Option xv_R) (scr : List xv_V) (k : xv_K) (ins : Instr) (a b : Nat) (v : Int) (pc : Nat) (L st : List xv_V) (s : xv_S) : Option xv_R :=
  match ins with
  | .iconst i => k (pc + 1) L (xv_int i i :: st) s
  | .bipush i => bif xv_le (-128) i && xv_le i 127 then k (pc + 2) L ((0, i, i) :: st) s else none
  | .sipush i => bif xv_le (-32768) i && xv_le i 32767 then k (pc + 3) L ((0, i, i) :: st) s else none
  | .lconst i => k (pc + 1) L ((1, Int.ofNat i.val, Int.ofNat i.val) :: st) s
  | .iload i => xv_ldk k (pc + 2) L st s (xv_ld 0 L i)
  | .iload_n i => xv_ldk k (pc + 1) L st s (xv_ld 0 L i.val)
  | .lload i => xv_ldk k (pc + 2) L st s (xv_ld 1 L i)
  | .lload_n i => xv_ldk k (pc + 1) L st s (xv_ld 1 L i.val)
  | .aload_n i => xv_ldk k (pc + 1) L st s (xv_lda L i.val)
  | .istore i => xv_sto k 0 (pc + 2) i L st s
  | .istore_n i => xv_sto k 0 (pc + 1) i.val L st s
  | .astore_n i => xv_stoa k (pc + 1) i.val L st s
  | .iinc i c => (match xv_ld 0 L i with
    | some x => k (pc + 3) (xv_st1 L i (xv_int (x.2.1 + c) (x.2.2 + c))) st s
    | none => none)
  | .iadd => xv_go k (pc + 1) L s (xv_two 0 st xv_add)
  | .isub => xv_go k (pc + 1) L s (xv_two 0 st xv_sub)
  | .imul => xv_go k (pc + 1) L s (xv_two 0 st xv_mul)
  | .iand => xv_go k (pc + 1) L s (xv_two 0 st xv_and)
  | .iushr => xv_go k (pc + 1) L s (xv_two 0 st (fun _ _ => xv_ti))
  | .ishr => xv_go k (pc + 1) L s (xv_two 0 st (fun _ _ => xv_ti))
  | .lsub => xv_go k (pc + 1) L s (xv_two 1 st xv_lsub)
  | .land => xv_go k (pc + 1) L s (xv_two 1 st (fun _ _ => xv_tl))
  | .lor => xv_go k (pc + 1) L s (xv_two 1 st (fun _ _ => xv_tl))
  | .lshl => (match st with
    | y :: x :: r => bif Nat.beq y.1 0 && Nat.beq x.1 1 then k (pc + 1) L (xv_tl :: r) s else none
    | _ => none)
  | .lcmp => xv_go k (pc + 1) L s (xv_two 1 st xv_cmpl)
  | .i2l => xv_go k (pc + 1) L s (xv_one 0 st (fun x => (1, x.2.1, x.2.2)))
  | .i2b => xv_go k (pc + 1) L s (xv_one 0 st (fun _ => (0, -128, 127)))
  | .dup => (match st with
    | x :: r => bif Nat.beq x.1 0 || (Nat.beq x.1 2 || Nat.beq x.1 5) then k (pc + 1) L (x :: x :: r) s else none
    | _ => none)
  | .goto off => bif xv_le 0 (Int.ofNat pc + off) then k (xv_tgt pc off) L st s else none
  | .ifCond c off => (match st with
    | x :: r => bif Nat.beq x.1 0 then xv_br k (xv_cond c x (0, 0, 0)) pc off L r s else none
    | _ => none)
  | .if_icmp c off => (match st with
    | y :: x :: r => bif Nat.beq x.1 0 && Nat.beq y.1 0 then xv_br k (xv_cond c x y) pc off L r s else none
    | _ => none)
  | .ifnonnull off => (match st with
    | x :: r => bif Nat.beq x.1 3 then k (pc + 3) L r s else bif Nat.beq x.1 2 && xv_le 0 (Int.ofNat pc + off) then k (xv_tgt pc off) L r s else none
    | _ => none)
  | .tableswitch d lo hi offs => (match st with
    | x :: r => bif Nat.beq x.1 0 then
        (bif xv_le (x.2.2 + 1) lo || xv_le (hi + 1) x.2.1 then (bif xv_le 0 (Int.ofNat pc + d) then k (xv_tgt pc d) L r s else none)
        else bif xv_le lo x.2.1 && (xv_le x.2.2 hi && xv_le x.2.2 x.2.1) then (match xv_nth offs.toList (x.2.1 - lo).toNat with
          | some off => bif xv_le 0 (Int.ofNat pc + off) then k (xv_tgt pc off) L r s else none
          | none => none) else none) else none
    | _ => none)
  | .ldc_w _ => k (pc + 3) L (xv_int v v :: st) s
  | .ldc2_w _ => k (pc + 3) L (xv_lng v v :: st) s
  | .getfield _ => (match st with
    | o :: r => (match xv_cell s.1 o with
      | some c => bif Nat.beq c.1 0 && Nat.beq c.2.1 a then xv_ldk k (pc + 3) L r s (xv_get 8 c.2.2.2 b) else none
      | none => none)
    | _ => none)
  | .putfield _ => (match st with
    | x :: o :: r => (match xv_cell s.1 o with
      | some c => bif Nat.beq c.1 0 && (Nat.beq c.2.1 a && (Nat.ble (b + 1) c.2.2.1 && Nat.beq x.1 v.toNat)) then k (pc + 3) L r (xv_upd 14 s.1 o.2.1.toNat (c.1, c.2.1, c.2.2.1, xv_upd 8 c.2.2.2 b x), s.2) else none
      | none => none)
    | _ => none)
  | .new _ => (match xv_nth xv_news a with
    | some q => k (pc + 3) L ((2, Int.ofNat s.2.1, 0) :: st) (xv_upd 14 s.1 s.2.1 (0, a, q.1, q.2), s.2.1 + 1, s.2.2.1 + 1, s.2.2.2 + q.1)
    | none => none)
  | .newarray t => (match st with
    | x :: r => bif Nat.beq x.1 0 && (xv_isOne x && xv_le x.2.1 65536) then
        (match t with
        | .int => k (pc + 2) L ((2, Int.ofNat s.2.1, 0) :: r) (xv_upd 14 s.1 s.2.1 (xv_row 1 x.2.1.toNat (0, 0, 0)), s.2.1 + 1, s.2.2.1 + 1, s.2.2.2 + x.2.1.toNat)
        | .byte => k (pc + 2) L ((2, Int.ofNat s.2.1, 0) :: r) (xv_upd 14 s.1 s.2.1 (xv_row 2 x.2.1.toNat (0, 0, 0)), s.2.1 + 1, s.2.2.1 + 1, s.2.2.2 + x.2.1.toNat)
        | .boolean => k (pc + 2) L ((2, Int.ofNat s.2.1, 0) :: r) (xv_upd 14 s.1 s.2.1 (xv_row 3 x.2.1.toNat (0, 0, 0)), s.2.1 + 1, s.2.2.1 + 1, s.2.2.2 + x.2.1.toNat)
        | .long => k (pc + 2) L ((2, Int.ofNat s.2.1, 0) :: r) (xv_upd 14 s.1 s.2.1 (xv_row 4 x.2.1.toNat (1, 0, 0)), s.2.1 + 1, s.2.2.1 + 1, s.2.2.2 + x.2.1.toNat)
        | _ => none) else none
    | _ => none)
  | .anewarray _ => (match st with
    | x :: r => bif Nat.beq x.1 0 && (xv_isOne x && xv_le x.2.1 65536) then k (pc + 3) L ((2, Int.ofNat s.2.1, 0) :: r) (xv_upd 14 s.1 s.2.1 (xv_row 7 x.2.1.toNat (3, 0, 0)), s.2.1 + 1, s.2.2.1 + 1, s.2.2.2 + x.2.1.toNat) else none
    | _ => none)
  | .multianewarray _ _ => (match st with
    | y :: x :: r => bif Nat.beq x.1 0 && (Nat.beq y.1 0 && (xv_isOne x && (xv_isOne y && (xv_le x.2.1 8 && xv_le y.2.1 64)))) then
        k (pc + 4) L ((2, Int.ofNat s.2.1, 0) :: r) (xv_fills (xv_upd 14 s.1 s.2.1 (a + 4, x.2.1.toNat, x.2.1.toNat, [xv_refs (s.2.1 + 1) x.2.1.toNat])) (xv_row b y.2.1.toNat (v.toNat, 0, 0)) x.2.1.toNat (s.2.1 + 1), s.2.1 + 1 + x.2.1.toNat, s.2.2.1 + 1 + x.2.1.toNat, s.2.2.2 + x.2.1.toNat + x.2.1.toNat * y.2.1.toNat) else none
    | _ => none)
  | .arraylength => (match st with
    | o :: r => bif Nat.beq o.1 5 then (bif !scr.isEmpty then k (pc + 1) L ((0, Int.ofNat scr.length, Int.ofNat scr.length) :: r) s else none) else (match xv_cell s.1 o with
      | some c => bif Nat.ble 1 c.1 && Nat.ble c.1 7 then k (pc + 1) L ((0, Int.ofNat c.2.1, Int.ofNat c.2.1) :: r) s else none
      | none => none)
    | _ => none)
  | .iaload => (match st with
    | i :: o :: r => bif Nat.beq o.1 5 then (bif Nat.beq i.1 0 && xv_isOne i then xv_ldk k (pc + 1) L r s (xv_nth scr i.2.1.toNat) else none) else xv_ald k 1 (pc + 1) L st s
    | _ => none)
  | .baload => (match st with
    | _ :: o :: _ => (match xv_cell s.1 o with
      | some c => bif Nat.beq c.1 2 then xv_ald k 2 (pc + 1) L st s else xv_ald k 3 (pc + 1) L st s
      | none => none)
    | _ => none)
  | .laload => xv_ald k 4 (pc + 1) L st s
  | .aaload => (match st with
    | _ :: o :: _ => (match xv_cell s.1 o with
      | some c => bif Nat.beq c.1 5 then xv_ald k 5 (pc + 1) L st s else bif Nat.beq c.1 6 then xv_ald k 6 (pc + 1) L st s else xv_ald k 7 (pc + 1) L st s
      | none => none)
    | _ => none)
  | .iastore => xv_ast k 1 (pc + 1) L st s (fun v => Nat.beq v.1 0)
  | .bastore => (match st with
    | _ :: _ :: o :: _ => (match xv_cell s.1 o with
      | some c => bif Nat.beq c.1 2 then xv_ast k 2 (pc + 1) L st s (fun v => Nat.beq v.1 0 && (xv_le (-128) v.2.1 && xv_le v.2.2 127)) else xv_ast k 3 (pc + 1) L st s (fun v => Nat.beq v.1 0 && (xv_le 0 v.2.1 && xv_le v.2.2 1))
      | none => none)
    | _ => none)
  | .lastore => xv_ast k 4 (pc + 1) L st s (fun v => Nat.beq v.1 1)
  | .aastore => xv_ast k 7 (pc + 1) L st s (fun v => Nat.beq v.1 2 && (match xv_cell s.1 v with
      | some c => Nat.beq c.1 0 && Nat.beq c.2.1 4
      | none => false))
  | .invokevirtual _ => (match xv_take b [] st with
    | some (as, o :: r) => (match xv_cell s.1 o with
      | some c => bif Nat.beq c.1 0 && Nat.beq c.2.1 v.toNat then xv_call k call a (pc + 3) (o :: as) L r s else none
      | none => none)
    | _ => none)
  | .invokestatic _ => (bif Nat.beq a 9999 then (match st with
      | n :: dp :: d :: sp :: o :: r => (match xv_cell s.1 o, xv_cell s.1 d with
        | some c, some g => bif Nat.beq n.1 0 && (Nat.beq dp.1 0 && (Nat.beq sp.1 0 && (xv_isOne n && (xv_isOne dp && (xv_isOne sp && (Nat.beq c.1 1 && (Nat.beq g.1 1 && (Nat.ble (sp.2.1.toNat + n.2.1.toNat) c.2.1 && (Nat.ble (dp.2.1.toNat + n.2.1.toNat) g.2.1 && (Nat.beq c.2.1 c.2.2.1 && (Nat.beq g.2.1 g.2.2.1 && (Nat.ble (xv_cats r) 8 && !(Nat.beq o.2.1.toNat d.2.1.toNat))))))))))))) then
            (match xv_copy c.2.2.2 sp.2.1.toNat dp.2.1.toNat n.2.1.toNat g.2.2.2 with
            | some e => k (pc + 3) L r (xv_upd 14 s.1 d.2.1.toNat (g.1, g.2.1, g.2.2.1, e), s.2)
            | none => none) else none
        | _, _ => none)
      | _ => none) else (match xv_take b [] st with
    | some (as, r) => xv_call k call a (pc + 3) as L r s
    | none => none))
  | .invokespecial _ => bif Nat.beq a 9998 then (match st with
      | o :: r => bif Nat.beq o.1 2 && Nat.ble (xv_cats r) 8 then k (pc + 3) L r s else none
      | _ => none) else (match xv_take b [] st with
    | some (as, o :: r) => bif Nat.beq o.1 2 then xv_call k call a (pc + 3) (o :: as) L r s else none
    | _ => none)
  | .ireturn => (match st with
    | [x] => bif Nat.beq x.1 0 && (Nat.beq a 0 || (xv_le 0 x.2.1 && xv_le x.2.2 1)) then xv_ret [x] L s else none
    | _ => none)
  | .lreturn => (match st with
    | [x] => bif Nat.beq x.1 1 then xv_ret [x] L s else none
    | _ => none)
  | .return_ => (match st with
    | [] => xv_ret [] L s
    | _ => none)
  | _ => none
noncomputable def xv_find (full : List xv_E) (pc : Nat) : Option (xv_E × List xv_E) := List.rec (motive := fun _ => Option (xv_E × List xv_E)) none (fun e t ih => bif Nat.beq e.1 pc then some (e, t) else ih) full
noncomputable def xv_fetch (full rest : List xv_E) (pc : Nat) : Option (xv_E × List xv_E) := match rest with
  | e :: t => bif Nat.beq e.1 pc then some (e, t) else xv_find full pc
  | [] => xv_find full pc
noncomputable def xv_run (call : Nat → List xv_V → xv_A → Nat → Option xv_R) (scr : List xv_V) (stop : Nat) (full : List xv_E) : Nat → List xv_E → xv_K := Nat.rec (motive := fun _ => List xv_E → xv_K) (fun _ _ _ _ _ => none) (fun _ ih rest pc L st s => bif Nat.beq (pc + 1) stop then xv_ret st L s else match xv_fetch full rest pc with
  | some (e, t) => xv_step call scr (ih t) e.2.1 e.2.2.2.1 e.2.2.2.2.1 e.2.2.2.2.2.2 pc L st s
  | none => none)
noncomputable def xv_locs (args : List xv_V) : Nat → List xv_V := List.rec (motive := fun _ => Nat → List xv_V) (fun n => xv_rep n xv_un) (fun v _ ih n => bif Nat.beq v.1 1 then v :: xv_un :: ih (n - 2) else v :: ih (n - 1)) args
abbrev xv_M : Type := List (List (List xv_E × Nat))
noncomputable def xv_calls (M : xv_M) (F : Nat) : Nat → Nat → List xv_V → xv_A → Nat → Option xv_R := Nat.rec (motive := fun _ => Nat → List xv_V → xv_A → Nat → Option xv_R) (fun _ _ _ _ => none) (fun _ ih id args h n => match xv_get 20 M id with
  | some q => bif Nat.ble (xv_cats args) q.2 then xv_run ih [] 0 q.1 F q.1 0 (xv_locs args q.2) [] (h, n, 0, 0) else none
  | none => none)
def xv_none : xv_C := (99, 0, 0, [])
def xv_h0 : xv_A := xv_rep 14 (xv_rep 14 xv_none)
end
section
set_option maxRecDepth 100000 in
noncomputable def xt_0 : List xv_E := [(0, .aload_n 0, 1, 0, 0, 0, 0), (1, .invokespecial 3, 3, 9998, 0, 261, 0), (4, .aload_n 0, 1, 0, 0, 0, 0), (5, .iconst 3, 1, 0, 0, 0, 0), (6, .newarray .int, 2, 0, 0, 0, 0), (8, .putfield 9, 3, 0, 2, 266, 2), (11, .aload_n 0, 1, 0, 0, 0, 0), (12, .bipush 7, 2, 0, 0, 0, 0), (14, .newarray .int, 2, 0, 0, 0, 0), (16, .putfield 15, 3, 0, 3, 268, 2), (19, .aload_n 0, 1, 0, 0, 0, 0), (20, .bipush 40, 2, 0, 0, 0, 0), (22, .newarray .int, 2, 0, 0, 0, 0), (24, .putfield 18, 3, 0, 4, 270, 2), (27, .aload_n 0, 1, 0, 0, 0, 0), (28, .bipush 40, 2, 0, 0, 0, 0), (30, .newarray .int, 2, 0, 0, 0, 0), (32, .putfield 21, 3, 0, 5, 271, 2), (35, .return_, 1, 0, 0, 0, 0)]
set_option maxRecDepth 100000 in
noncomputable def xt_1 : List xv_E := [(0, .aload_n 0, 1, 0, 0, 0, 0), (1, .iconst 0, 1, 0, 0, 0, 0), (2, .putfield 24, 3, 0, 0, 262, 0), (5, .aload_n 0, 1, 0, 0, 0, 0), (6, .iconst 0, 1, 0, 0, 0, 0), (7, .putfield 28, 3, 0, 1, 264, 0), (10, .aload_n 1, 1, 0, 0, 0, 0), (11, .getfield 31, 3, 2, 12, 190, 2), (14, .iconst 0, 1, 0, 0, 0, 0), (15, .aload_n 0, 1, 0, 0, 0, 0), (16, .getfield 9, 3, 0, 2, 266, 2), (19, .iconst 0, 1, 0, 0, 0, 0), (20, .iconst 3, 1, 0, 0, 0, 0), (21, .invokestatic 36, 3, 9999, 5, 686, 0), (24, .aload_n 0, 1, 0, 0, 0, 0), (25, .getfield 15, 3, 0, 3, 268, 2), (28, .iconst (-1), 1, 0, 0, 0, 0), (29, .invokestatic 42, 3, 189, 2, 687, 99), (32, .return_, 1, 0, 0, 0, 0)]
set_option maxRecDepth 100000 in
noncomputable def xt_2 : List xv_E := [(0, .aload_n 0, 1, 0, 0, 0, 0), (1, .aload_n 1, 1, 0, 0, 0, 0), (2, .getfield 24, 3, 0, 0, 262, 0), (5, .putfield 24, 3, 0, 0, 262, 0), (8, .aload_n 0, 1, 0, 0, 0, 0), (9, .aload_n 1, 1, 0, 0, 0, 0), (10, .getfield 28, 3, 0, 1, 264, 0), (13, .putfield 28, 3, 0, 1, 264, 0), (16, .aload_n 1, 1, 0, 0, 0, 0), (17, .getfield 9, 3, 0, 2, 266, 2), (20, .iconst 0, 1, 0, 0, 0, 0), (21, .aload_n 0, 1, 0, 0, 0, 0), (22, .getfield 9, 3, 0, 2, 266, 2), (25, .iconst 0, 1, 0, 0, 0, 0), (26, .iconst 3, 1, 0, 0, 0, 0), (27, .invokestatic 36, 3, 9999, 5, 686, 0), (30, .aload_n 1, 1, 0, 0, 0, 0), (31, .getfield 15, 3, 0, 3, 268, 2), (34, .iconst 0, 1, 0, 0, 0, 0), (35, .aload_n 0, 1, 0, 0, 0, 0), (36, .getfield 15, 3, 0, 3, 268, 2), (39, .iconst 0, 1, 0, 0, 0, 0), (40, .bipush 7, 2, 0, 0, 0, 0), (42, .invokestatic 36, 3, 9999, 5, 686, 0), (45, .aload_n 1, 1, 0, 0, 0, 0), (46, .getfield 18, 3, 0, 4, 270, 2), (49, .iconst 0, 1, 0, 0, 0, 0), (50, .aload_n 0, 1, 0, 0, 0, 0), (51, .getfield 18, 3, 0, 4, 270, 2), (54, .iconst 0, 1, 0, 0, 0, 0), (55, .bipush 40, 2, 0, 0, 0, 0), (57, .invokestatic 36, 3, 9999, 5, 686, 0), (60, .aload_n 1, 1, 0, 0, 0, 0), (61, .getfield 21, 3, 0, 5, 271, 2), (64, .iconst 0, 1, 0, 0, 0, 0), (65, .aload_n 0, 1, 0, 0, 0, 0), (66, .getfield 21, 3, 0, 5, 271, 2), (69, .iconst 0, 1, 0, 0, 0, 0), (70, .bipush 40, 2, 0, 0, 0, 0), (72, .invokestatic 36, 3, 9999, 5, 686, 0), (75, .return_, 1, 0, 0, 0, 0)]
set_option maxRecDepth 100000 in
noncomputable def xt_3 : List xv_E := [(0, .aload_n 0, 1, 0, 0, 0, 0), (1, .invokespecial 5, 3, 9998, 0, 318, 0), (4, .aload_n 0, 1, 0, 0, 0, 0), (5, .bipush 7, 2, 0, 0, 0, 0), (7, .newarray .int, 2, 0, 0, 0, 0), (9, .putfield 11, 3, 1, 3, 327, 2), (12, .aload_n 0, 1, 0, 0, 0, 0), (13, .bipush 8, 2, 0, 0, 0, 0), (15, .newarray .int, 2, 0, 0, 0, 0), (17, .putfield 15, 3, 1, 4, 330, 2), (20, .aload_n 0, 1, 0, 0, 0, 0), (21, .bipush 8, 2, 0, 0, 0, 0), (23, .bipush 7, 2, 0, 0, 0, 0), (25, .multianewarray 18 2, 4, 1, 1, 319, 0), (29, .putfield 20, 3, 1, 5, 333, 2), (32, .aload_n 0, 1, 0, 0, 0, 0), (33, .aload_n 1, 1, 0, 0, 0, 0), (34, .putfield 23, 3, 1, 0, 320, 2), (37, .return_, 1, 0, 0, 0, 0)]
set_option maxRecDepth 100000 in
noncomputable def xt_4 : List xv_E := [(0, .aload_n 0, 1, 0, 0, 0, 0), (1, .invokespecial 3, 3, 9998, 0, 140, 0), (4, .aload_n 0, 1, 0, 0, 0, 0), (5, .bipush 8, 2, 0, 0, 0, 0), (7, .newarray .int, 2, 0, 0, 0, 0), (9, .putfield 9, 3, 2, 6, 167, 2), (12, .aload_n 0, 1, 0, 0, 0, 0), (13, .bipush 7, 2, 0, 0, 0, 0), (15, .newarray .int, 2, 0, 0, 0, 0), (17, .putfield 15, 3, 2, 7, 170, 2), (20, .aload_n 0, 1, 0, 0, 0, 0), (21, .bipush 7, 2, 0, 0, 0, 0), (23, .newarray .int, 2, 0, 0, 0, 0), (25, .putfield 18, 3, 2, 8, 176, 2), (28, .aload_n 0, 1, 0, 0, 0, 0), (29, .bipush 7, 2, 0, 0, 0, 0), (31, .newarray .int, 2, 0, 0, 0, 0), (33, .putfield 21, 3, 2, 9, 179, 2), (36, .aload_n 0, 1, 0, 0, 0, 0), (37, .bipush 7, 2, 0, 0, 0, 0), (39, .newarray .int, 2, 0, 0, 0, 0), (41, .putfield 24, 3, 2, 10, 185, 2), (44, .aload_n 0, 1, 0, 0, 0, 0), (45, .bipush 7, 2, 0, 0, 0, 0), (47, .bipush 8, 2, 0, 0, 0, 0), (49, .multianewarray 27 2, 4, 1, 1, 141, 0), (53, .putfield 29, 3, 2, 11, 188, 2), (56, .aload_n 0, 1, 0, 0, 0, 0), (57, .iconst 3, 1, 0, 0, 0, 0), (58, .newarray .int, 2, 0, 0, 0, 0), (60, .putfield 32, 3, 2, 12, 189, 2), (63, .return_, 1, 0, 0, 0, 0)]
set_option maxRecDepth 100000 in
noncomputable def xt_5 : List xv_E := [(0, .aload_n 0, 1, 0, 0, 0, 0), (1, .iconst 0, 1, 0, 0, 0, 0), (2, .putfield 35, 3, 2, 0, 143, 0), (5, .aload_n 0, 1, 0, 0, 0, 0), (6, .iconst 0, 1, 0, 0, 0, 0), (7, .putfield 39, 3, 2, 1, 146, 0), (10, .aload_n 0, 1, 0, 0, 0, 0), (11, .iconst 0, 1, 0, 0, 0, 0), (12, .putfield 42, 3, 2, 2, 149, 0), (15, .aload_n 0, 1, 0, 0, 0, 0), (16, .iconst 0, 1, 0, 0, 0, 0), (17, .putfield 45, 3, 2, 3, 152, 0), (20, .aload_n 0, 1, 0, 0, 0, 0), (21, .iconst 0, 1, 0, 0, 0, 0), (22, .putfield 48, 3, 2, 4, 155, 0), (25, .aload_n 0, 1, 0, 0, 0, 0), (26, .iconst 0, 1, 0, 0, 0, 0), (27, .putfield 51, 3, 2, 5, 163, 0), (30, .iconst 0, 1, 0, 0, 0, 0), (31, .istore_n 1, 1, 0, 0, 0, 0), (32, .iload_n 1, 1, 0, 0, 0, 0), (33, .bipush 7, 2, 0, 0, 0, 0), (35, .if_icmp .ge 19, 3, 0, 0, 0, 0), (38, .aload_n 0, 1, 0, 0, 0, 0), (39, .getfield 29, 3, 2, 11, 188, 2), (42, .iload_n 1, 1, 0, 0, 0, 0), (43, .aaload, 1, 0, 0, 0, 0), (44, .iconst 0, 1, 0, 0, 0, 0), (45, .invokestatic 54, 3, 189, 2, 537, 99), (48, .iinc 1 1, 3, 0, 0, 0, 0), (51, .goto (-19), 3, 0, 0, 0, 0), (54, .aload_n 0, 1, 0, 0, 0, 0), (55, .getfield 32, 3, 2, 12, 189, 2), (58, .iconst (-1), 1, 0, 0, 0, 0), (59, .invokestatic 54, 3, 189, 2, 537, 99), (62, .return_, 1, 0, 0, 0, 0)]
set_option maxRecDepth 100000 in
noncomputable def xt_6 : List xv_E := [(0, .aload_n 0, 1, 0, 0, 0, 0), (1, .aload_n 1, 1, 0, 0, 0, 0), (2, .getfield 35, 3, 2, 0, 143, 0), (5, .putfield 35, 3, 2, 0, 143, 0), (8, .aload_n 0, 1, 0, 0, 0, 0), (9, .aload_n 1, 1, 0, 0, 0, 0), (10, .getfield 39, 3, 2, 1, 146, 0), (13, .putfield 39, 3, 2, 1, 146, 0), (16, .aload_n 0, 1, 0, 0, 0, 0), (17, .aload_n 1, 1, 0, 0, 0, 0), (18, .getfield 42, 3, 2, 2, 149, 0), (21, .putfield 42, 3, 2, 2, 149, 0), (24, .aload_n 0, 1, 0, 0, 0, 0), (25, .aload_n 1, 1, 0, 0, 0, 0), (26, .getfield 45, 3, 2, 3, 152, 0), (29, .putfield 45, 3, 2, 3, 152, 0), (32, .aload_n 0, 1, 0, 0, 0, 0), (33, .aload_n 1, 1, 0, 0, 0, 0), (34, .getfield 48, 3, 2, 4, 155, 0), (37, .putfield 48, 3, 2, 4, 155, 0), (40, .aload_n 0, 1, 0, 0, 0, 0), (41, .aload_n 1, 1, 0, 0, 0, 0), (42, .getfield 51, 3, 2, 5, 163, 0), (45, .putfield 51, 3, 2, 5, 163, 0), (48, .aload_n 1, 1, 0, 0, 0, 0), (49, .getfield 9, 3, 2, 6, 167, 2), (52, .iconst 0, 1, 0, 0, 0, 0), (53, .aload_n 0, 1, 0, 0, 0, 0), (54, .getfield 9, 3, 2, 6, 167, 2), (57, .iconst 0, 1, 0, 0, 0, 0), (58, .bipush 8, 2, 0, 0, 0, 0), (60, .invokestatic 60, 3, 9999, 5, 679, 0), (63, .aload_n 1, 1, 0, 0, 0, 0), (64, .getfield 15, 3, 2, 7, 170, 2), (67, .iconst 0, 1, 0, 0, 0, 0), (68, .aload_n 0, 1, 0, 0, 0, 0), (69, .getfield 15, 3, 2, 7, 170, 2), (72, .iconst 0, 1, 0, 0, 0, 0), (73, .bipush 7, 2, 0, 0, 0, 0), (75, .invokestatic 60, 3, 9999, 5, 679, 0), (78, .aload_n 1, 1, 0, 0, 0, 0), (79, .getfield 18, 3, 2, 8, 176, 2), (82, .iconst 0, 1, 0, 0, 0, 0), (83, .aload_n 0, 1, 0, 0, 0, 0), (84, .getfield 18, 3, 2, 8, 176, 2), (87, .iconst 0, 1, 0, 0, 0, 0), (88, .bipush 7, 2, 0, 0, 0, 0), (90, .invokestatic 60, 3, 9999, 5, 679, 0), (93, .aload_n 1, 1, 0, 0, 0, 0), (94, .getfield 21, 3, 2, 9, 179, 2), (97, .iconst 0, 1, 0, 0, 0, 0), (98, .aload_n 0, 1, 0, 0, 0, 0), (99, .getfield 21, 3, 2, 9, 179, 2), (102, .iconst 0, 1, 0, 0, 0, 0), (103, .bipush 7, 2, 0, 0, 0, 0), (105, .invokestatic 60, 3, 9999, 5, 679, 0), (108, .aload_n 1, 1, 0, 0, 0, 0), (109, .getfield 24, 3, 2, 10, 185, 2), (112, .iconst 0, 1, 0, 0, 0, 0), (113, .aload_n 0, 1, 0, 0, 0, 0), (114, .getfield 24, 3, 2, 10, 185, 2), (117, .iconst 0, 1, 0, 0, 0, 0), (118, .bipush 7, 2, 0, 0, 0, 0), (120, .invokestatic 60, 3, 9999, 5, 679, 0), (123, .iconst 0, 1, 0, 0, 0, 0), (124, .istore_n 2, 1, 0, 0, 0, 0), (125, .iload_n 2, 1, 0, 0, 0, 0), (126, .bipush 7, 2, 0, 0, 0, 0), (128, .if_icmp .ge 28, 3, 0, 0, 0, 0), (131, .aload_n 1, 1, 0, 0, 0, 0), (132, .getfield 29, 3, 2, 11, 188, 2), (135, .iload_n 2, 1, 0, 0, 0, 0), (136, .aaload, 1, 0, 0, 0, 0), (137, .iconst 0, 1, 0, 0, 0, 0), (138, .aload_n 0, 1, 0, 0, 0, 0), (139, .getfield 29, 3, 2, 11, 188, 2), (142, .iload_n 2, 1, 0, 0, 0, 0), (143, .aaload, 1, 0, 0, 0, 0), (144, .iconst 0, 1, 0, 0, 0, 0), (145, .bipush 8, 2, 0, 0, 0, 0), (147, .invokestatic 60, 3, 9999, 5, 679, 0), (150, .iinc 2 1, 3, 0, 0, 0, 0), (153, .goto (-28), 3, 0, 0, 0, 0), (156, .aload_n 1, 1, 0, 0, 0, 0), (157, .getfield 32, 3, 2, 12, 189, 2), (160, .iconst 0, 1, 0, 0, 0, 0), (161, .aload_n 0, 1, 0, 0, 0, 0), (162, .getfield 32, 3, 2, 12, 189, 2), (165, .iconst 0, 1, 0, 0, 0, 0), (166, .iconst 3, 1, 0, 0, 0, 0), (167, .invokestatic 60, 3, 9999, 5, 679, 0), (170, .return_, 1, 0, 0, 0, 0)]
set_option maxRecDepth 100000 in
noncomputable def xt_7 : List xv_E := [(0, .aload_n 0, 1, 0, 0, 0, 0), (1, .getfield 35, 3, 2, 0, 143, 0), (4, .ifCond .ne 7, 3, 0, 0, 0, 0), (7, .iconst 1, 1, 0, 0, 0, 0), (8, .goto 4, 3, 0, 0, 0, 0), (11, .iconst 0, 1, 0, 0, 0, 0), (12, .ireturn, 1, 1, 0, 0, 0)]
set_option maxRecDepth 100000 in
noncomputable def xt_8 : List xv_E := [(0, .iload_n 1, 1, 0, 0, 0, 0), (1, .ifCond .lt 15, 3, 0, 0, 0, 0), (4, .iload_n 1, 1, 0, 0, 0, 0), (5, .aload_n 0, 1, 0, 0, 0, 0), (6, .getfield 48, 3, 2, 4, 155, 0), (9, .if_icmp .ge 7, 3, 0, 0, 0, 0), (12, .iconst 1, 1, 0, 0, 0, 0), (13, .goto 4, 3, 0, 0, 0, 0), (16, .iconst 0, 1, 0, 0, 0, 0), (17, .ireturn, 1, 1, 0, 0, 0)]
set_option maxRecDepth 100000 in
noncomputable def xt_9 : List xv_E := [(0, .iload_n 1, 1, 0, 0, 0, 0), (1, .ifCond .lt 15, 3, 0, 0, 0, 0), (4, .iload_n 1, 1, 0, 0, 0, 0), (5, .aload_n 0, 1, 0, 0, 0, 0), (6, .getfield 51, 3, 2, 5, 163, 0), (9, .if_icmp .ge 7, 3, 0, 0, 0, 0), (12, .iconst 1, 1, 0, 0, 0, 0), (13, .goto 4, 3, 0, 0, 0, 0), (16, .iconst 0, 1, 0, 0, 0, 0), (17, .ireturn, 1, 1, 0, 0, 0)]
set_option maxRecDepth 100000 in
noncomputable def xt_10 : List xv_E := [(0, .iload_n 1, 1, 0, 0, 0, 0), (1, .ifCond .lt 15, 3, 0, 0, 0, 0), (4, .iload_n 1, 1, 0, 0, 0, 0), (5, .aload_n 0, 1, 0, 0, 0, 0), (6, .getfield 42, 3, 2, 2, 149, 0), (9, .if_icmp .ge 7, 3, 0, 0, 0, 0), (12, .iconst 1, 1, 0, 0, 0, 0), (13, .goto 4, 3, 0, 0, 0, 0), (16, .iconst 0, 1, 0, 0, 0, 0), (17, .ireturn, 1, 1, 0, 0, 0)]
set_option maxRecDepth 100000 in
noncomputable def xt_11 : List xv_E := [(0, .aload_n 0, 1, 0, 0, 0, 0), (1, .invokespecial 3, 3, 9998, 0, 440, 0), (4, .aload_n 0, 1, 0, 0, 0, 0), (5, .sipush 128, 3, 0, 0, 0, 0), (8, .newarray .int, 2, 0, 0, 0, 0), (10, .putfield 9, 3, 3, 1, 442, 2), (13, .aload_n 0, 1, 0, 0, 0, 0), (14, .bipush 7, 2, 0, 0, 0, 0), (16, .newarray .int, 2, 0, 0, 0, 0), (18, .putfield 15, 3, 3, 2, 444, 2), (21, .aload_n 0, 1, 0, 0, 0, 0), (22, .aload_n 1, 1, 0, 0, 0, 0), (23, .putfield 18, 3, 3, 0, 441, 2), (26, .return_, 1, 0, 0, 0, 0)]
set_option maxRecDepth 100000 in
noncomputable def xt_12 : List xv_E := [(0, .aload_n 0, 1, 0, 0, 0, 0), (1, .invokespecial 1, 3, 9998, 0, 1291, 0), (4, .aload_n 0, 1, 0, 0, 0, 0), (5, .new 7, 3, 2, 0, 1292, 0), (8, .dup, 1, 0, 0, 0, 0), (9, .invokespecial 9, 3, 4, 0, 1293, 2), (12, .putfield 10, 3, 4, 0, 1296, 2), (15, .aload_n 0, 1, 0, 0, 0, 0), (16, .new 16, 3, 0, 0, 1294, 0), (19, .dup, 1, 0, 0, 0, 0), (20, .invokespecial 18, 3, 0, 0, 1295, 0), (23, .putfield 19, 3, 4, 1, 1298, 2), (26, .return_, 1, 0, 0, 0, 0)]
set_option maxRecDepth 100000 in
noncomputable def xt_13 : List xv_E := [(0, .aload_n 0, 1, 0, 0, 0, 0), (1, .invokespecial 1, 3, 9998, 0, 457, 0), (4, .aload_n 0, 1, 0, 0, 0, 0), (5, .lconst 1, 1, 0, 0, 0, 0), (6, .putfield 7, 3, 5, 1, 460, 1), (9, .return_, 1, 0, 0, 0, 0)]
set_option maxRecDepth 100000 in
noncomputable def xt_14 : List xv_E := [(0, .aload_n 0, 1, 0, 0, 0, 0), (1, .invokespecial 3, 3, 9998, 0, 353, 0), (4, .aload_n 0, 1, 0, 0, 0, 0), (5, .sipush 1024, 3, 0, 0, 0, 0), (8, .newarray .int, 2, 0, 0, 0, 0), (10, .putfield 11, 3, 6, 1, 355, 2), (13, .aload_n 0, 1, 0, 0, 0, 0), (14, .sipush 1024, 3, 0, 0, 0, 0), (17, .newarray .int, 2, 0, 0, 0, 0), (19, .putfield 17, 3, 6, 2, 357, 2), (22, .aload_n 0, 1, 0, 0, 0, 0), (23, .sipush 1024, 3, 0, 0, 0, 0), (26, .newarray .int, 2, 0, 0, 0, 0), (28, .putfield 20, 3, 6, 3, 359, 2), (31, .aload_n 0, 1, 0, 0, 0, 0), (32, .sipush 1024, 3, 0, 0, 0, 0), (35, .newarray .int, 2, 0, 0, 0, 0), (37, .putfield 23, 3, 6, 4, 361, 2), (40, .aload_n 0, 1, 0, 0, 0, 0), (41, .sipush 1024, 3, 0, 0, 0, 0), (44, .newarray .int, 2, 0, 0, 0, 0), (46, .putfield 26, 3, 6, 5, 363, 2), (49, .aload_n 0, 1, 0, 0, 0, 0), (50, .aload_n 1, 1, 0, 0, 0, 0), (51, .putfield 29, 3, 6, 0, 354, 2), (54, .return_, 1, 0, 0, 0, 0)]
set_option maxRecDepth 100000 in
noncomputable def xt_15 : List xv_E := [(0, .aload_n 0, 1, 0, 0, 0, 0), (1, .invokespecial 3, 3, 9998, 0, 134, 0), (4, .aload_n 0, 1, 0, 0, 0, 0), (5, .new 9, 3, 2, 0, 135, 0), (8, .dup, 1, 0, 0, 0, 0), (9, .invokespecial 11, 3, 4, 0, 137, 2), (12, .putfield 12, 3, 7, 0, 222, 2), (15, .aload_n 0, 1, 0, 0, 0, 0), (16, .iconst 0, 1, 0, 0, 0, 0), (17, .putfield 18, 3, 7, 2, 226, 0), (20, .aload_n 0, 1, 0, 0, 0, 0), (21, .iconst (-1), 1, 0, 0, 0, 0), (22, .putfield 22, 3, 7, 3, 228, 0), (25, .aload_n 0, 1, 0, 0, 0, 0), (26, .sipush 1200, 3, 0, 0, 0, 0), (29, .newarray .int, 2, 0, 0, 0, 0), (31, .putfield 25, 3, 7, 4, 230, 2), (34, .return_, 1, 0, 0, 0, 0)]
set_option maxRecDepth 100000 in
noncomputable def xt_16 : List xv_E := [(0, .aload_n 0, 1, 0, 0, 0, 0), (1, .getfield 29, 3, 7, 1, 224, 0), (4, .bipush 20, 2, 0, 0, 0, 0), (6, .iadd, 1, 0, 0, 0, 0), (7, .sipush 1200, 3, 0, 0, 0, 0), (10, .if_icmp .gt 7, 3, 0, 0, 0, 0), (13, .iconst 1, 1, 0, 0, 0, 0), (14, .goto 4, 3, 0, 0, 0, 0), (17, .iconst 0, 1, 0, 0, 0, 0), (18, .ireturn, 1, 1, 0, 0, 0)]
set_option maxRecDepth 100000 in
noncomputable def xt_17 : List xv_E := [(0, .bipush 24, 2, 0, 0, 0, 0), (2, .istore_n 2, 1, 0, 0, 0, 0), (3, .iload_n 2, 1, 0, 0, 0, 0), (4, .ifCond .lt 45, 3, 0, 0, 0, 0), (7, .aload_n 0, 1, 0, 0, 0, 0), (8, .getfield 29, 3, 7, 1, 224, 0), (11, .sipush 1200, 3, 0, 0, 0, 0), (14, .if_icmp .ge 35, 3, 0, 0, 0, 0), (17, .aload_n 0, 1, 0, 0, 0, 0), (18, .getfield 25, 3, 7, 4, 230, 2), (21, .aload_n 0, 1, 0, 0, 0, 0), (22, .getfield 29, 3, 7, 1, 224, 0), (25, .iload_n 1, 1, 0, 0, 0, 0), (26, .iload_n 2, 1, 0, 0, 0, 0), (27, .iushr, 1, 0, 0, 0, 0), (28, .sipush 255, 3, 0, 0, 0, 0), (31, .iand, 1, 0, 0, 0, 0), (32, .iastore, 1, 0, 0, 0, 0), (33, .aload_n 0, 1, 0, 0, 0, 0), (34, .dup, 1, 0, 0, 0, 0), (35, .getfield 29, 3, 7, 1, 224, 0), (38, .iconst 1, 1, 0, 0, 0, 0), (39, .iadd, 1, 0, 0, 0, 0), (40, .putfield 29, 3, 7, 1, 224, 0), (43, .iinc 2 (-8), 3, 0, 0, 0, 0), (46, .goto (-43), 3, 0, 0, 0, 0), (49, .return_, 1, 0, 0, 0, 0)]
set_option maxRecDepth 100000 in
noncomputable def xt_18 : List xv_E := [(0, .aload_n 0, 1, 0, 0, 0, 0), (1, .getfield 12, 3, 7, 0, 222, 2), (4, .invokevirtual 32, 3, 5, 0, 533, 2), (7, .aload_n 0, 1, 0, 0, 0, 0), (8, .iconst 0, 1, 0, 0, 0, 0), (9, .putfield 18, 3, 7, 2, 226, 0), (12, .aload_n 0, 1, 0, 0, 0, 0), (13, .iconst (-1), 1, 0, 0, 0, 0), (14, .putfield 22, 3, 7, 3, 228, 0), (17, .aload_n 0, 1, 0, 0, 0, 0), (18, .iconst 0, 1, 0, 0, 0, 0), (19, .putfield 35, 3, 7, 6, 232, 0), (22, .aload_n 0, 1, 0, 0, 0, 0), (23, .invokevirtual 38, 3, 19, 0, 538, 7), (26, .iconst 0, 1, 0, 0, 0, 0), (27, .istore_n 1, 1, 0, 0, 0, 0), (28, .iload_n 1, 1, 0, 0, 0, 0), (29, .sipush 1200, 3, 0, 0, 0, 0), (32, .if_icmp .ge 44, 3, 0, 0, 0, 0), (35, .aload_n 0, 1, 0, 0, 0, 0), (36, .getfield 41, 3, 7, 7, 233, 0), (39, .ifCond .eq 37, 3, 0, 0, 0, 0), (42, .aload_n 0, 1, 0, 0, 0, 0), (43, .invokevirtual 44, 3, 9990, 0, 554, 7), (46, .ifCond .eq 10, 3, 0, 0, 0, 0), (49, .aload_n 0, 1, 0, 0, 0, 0), (50, .invokevirtual 48, 3, 9990, 0, 671, 7), (53, .ifCond .ne 4, 3, 0, 0, 0, 0), (56, .return_, 1, 0, 0, 0, 0), (57, .aload_n 0, 1, 0, 0, 0, 0), (58, .getfield 12, 3, 7, 0, 222, 2), (61, .dup, 1, 0, 0, 0, 0), (62, .getfield 51, 3, 2, 0, 145, 0), (65, .iconst 1, 1, 0, 0, 0, 0), (66, .iadd, 1, 0, 0, 0, 0), (67, .putfield 51, 3, 2, 0, 145, 0), (70, .iinc 1 1, 3, 0, 0, 0, 0), (73, .goto (-45), 3, 0, 0, 0, 0), (76, .return_, 1, 0, 0, 0, 0)]
set_option maxRecDepth 100000 in
noncomputable def xt_19 : List xv_E := [(0, .aload_n 0, 1, 0, 0, 0, 0), (1, .getfield 35, 3, 7, 6, 232, 0), (4, .aload_n 0, 1, 0, 0, 0, 0), (5, .getfield 29, 3, 7, 1, 224, 0), (8, .if_icmp .ge 28, 3, 0, 0, 0, 0), (11, .aload_n 0, 1, 0, 0, 0, 0), (12, .aload_n 0, 1, 0, 0, 0, 0), (13, .getfield 35, 3, 7, 6, 232, 0), (16, .invokevirtual 159, 3, 20, 1, 542, 7), (19, .iconst 4, 1, 0, 0, 0, 0), (20, .if_icmp .ne 16, 3, 0, 0, 0, 0), (23, .aload_n 0, 1, 0, 0, 0, 0), (24, .dup, 1, 0, 0, 0, 0), (25, .getfield 35, 3, 7, 6, 232, 0), (28, .iconst 1, 1, 0, 0, 0, 0), (29, .iadd, 1, 0, 0, 0, 0), (30, .putfield 35, 3, 7, 6, 232, 0), (33, .goto (-33), 3, 0, 0, 0, 0), (36, .aload_n 0, 1, 0, 0, 0, 0), (37, .aload_n 0, 1, 0, 0, 0, 0), (38, .getfield 35, 3, 7, 6, 232, 0), (41, .putfield 148, 3, 7, 5, 231, 0), (44, .aload_n 0, 1, 0, 0, 0, 0), (45, .aload_n 0, 1, 0, 0, 0, 0), (46, .aload_n 0, 1, 0, 0, 0, 0), (47, .getfield 148, 3, 7, 5, 231, 0), (50, .invokevirtual 159, 3, 20, 1, 542, 7), (53, .putfield 41, 3, 7, 7, 233, 0), (56, .aload_n 0, 1, 0, 0, 0, 0), (57, .getfield 35, 3, 7, 6, 232, 0), (60, .aload_n 0, 1, 0, 0, 0, 0), (61, .getfield 29, 3, 7, 1, 224, 0), (64, .if_icmp .ge 13, 3, 0, 0, 0, 0), (67, .aload_n 0, 1, 0, 0, 0, 0), (68, .dup, 1, 0, 0, 0, 0), (69, .getfield 35, 3, 7, 6, 232, 0), (72, .iconst 1, 1, 0, 0, 0, 0), (73, .iadd, 1, 0, 0, 0, 0), (74, .putfield 35, 3, 7, 6, 232, 0), (77, .aload_n 0, 1, 0, 0, 0, 0), (78, .getfield 41, 3, 7, 7, 233, 0), (81, .iconst 1, 1, 0, 0, 0, 0), (82, .if_icmp .eq 11, 3, 0, 0, 0, 0), (85, .aload_n 0, 1, 0, 0, 0, 0), (86, .getfield 41, 3, 7, 7, 233, 0), (89, .iconst 2, 1, 0, 0, 0, 0), (90, .if_icmp .ne 7, 3, 0, 0, 0, 0), (93, .iconst 1, 1, 0, 0, 0, 0), (94, .goto 4, 3, 0, 0, 0, 0), (97, .iconst 0, 1, 0, 0, 0, 0), (98, .istore_n 1, 1, 0, 0, 0, 0), (99, .iload_n 1, 1, 0, 0, 0, 0), (100, .ifCond .eq 42, 3, 0, 0, 0, 0), (103, .aload_n 0, 1, 0, 0, 0, 0), (104, .getfield 35, 3, 7, 6, 232, 0), (107, .aload_n 0, 1, 0, 0, 0, 0), (108, .getfield 29, 3, 7, 1, 224, 0), (111, .if_icmp .ge 31, 3, 0, 0, 0, 0), (114, .aload_n 0, 1, 0, 0, 0, 0), (115, .aload_n 0, 1, 0, 0, 0, 0), (116, .getfield 35, 3, 7, 6, 232, 0), (119, .invokevirtual 159, 3, 20, 1, 542, 7), (122, .aload_n 0, 1, 0, 0, 0, 0), (123, .getfield 41, 3, 7, 7, 233, 0), (126, .if_icmp .ne 16, 3, 0, 0, 0, 0), (129, .aload_n 0, 1, 0, 0, 0, 0), (130, .dup, 1, 0, 0, 0, 0), (131, .getfield 35, 3, 7, 6, 232, 0), (134, .iconst 1, 1, 0, 0, 0, 0), (135, .iadd, 1, 0, 0, 0, 0), (136, .putfield 35, 3, 7, 6, 232, 0), (139, .goto (-40), 3, 0, 0, 0, 0), (142, .aload_n 0, 1, 0, 0, 0, 0), (143, .getfield 41, 3, 7, 7, 233, 0), (146, .iconst 2, 1, 0, 0, 0, 0), (147, .if_icmp .ne 7, 3, 0, 0, 0, 0), (150, .aload_n 0, 1, 0, 0, 0, 0), (151, .invokevirtual 163, 3, 9990, 0, 546, 7), (154, .return_, 1, 0, 0, 0, 0)]
set_option maxRecDepth 100000 in
noncomputable def xt_20 : List xv_E := [(0, .iload_n 1, 1, 0, 0, 0, 0), (1, .ifCond .lt 11, 3, 0, 0, 0, 0), (4, .iload_n 1, 1, 0, 0, 0, 0), (5, .aload_n 0, 1, 0, 0, 0, 0), (6, .getfield 29, 3, 7, 1, 224, 0), (9, .if_icmp .lt 5, 3, 0, 0, 0, 0), (12, .iconst 0, 1, 0, 0, 0, 0), (13, .ireturn, 1, 0, 0, 0, 0), (14, .aload_n 0, 1, 0, 0, 0, 0), (15, .getfield 25, 3, 7, 4, 230, 2), (18, .iload_n 1, 1, 0, 0, 0, 0), (19, .iaload, 1, 0, 0, 0, 0), (20, .istore_n 2, 1, 0, 0, 0, 0), (21, .iload_n 2, 1, 0, 0, 0, 0), (22, .bipush 97, 2, 0, 0, 0, 0), (24, .if_icmp .lt 11, 3, 0, 0, 0, 0), (27, .iload_n 2, 1, 0, 0, 0, 0), (28, .bipush 122, 2, 0, 0, 0, 0), (30, .if_icmp .gt 5, 3, 0, 0, 0, 0), (33, .iconst 1, 1, 0, 0, 0, 0), (34, .ireturn, 1, 0, 0, 0, 0), (35, .iload_n 2, 1, 0, 0, 0, 0), (36, .bipush 48, 2, 0, 0, 0, 0), (38, .if_icmp .lt 11, 3, 0, 0, 0, 0), (41, .iload_n 2, 1, 0, 0, 0, 0), (42, .bipush 57, 2, 0, 0, 0, 0), (44, .if_icmp .gt 5, 3, 0, 0, 0, 0), (47, .iconst 2, 1, 0, 0, 0, 0), (48, .ireturn, 1, 0, 0, 0, 0), (49, .iload_n 2, 1, 0, 0, 0, 0), (50, .bipush 32, 2, 0, 0, 0, 0), (52, .if_icmp .eq 9, 3, 0, 0, 0, 0), (55, .iload_n 2, 1, 0, 0, 0, 0), (56, .bipush 10, 2, 0, 0, 0, 0), (58, .if_icmp .ne 5, 3, 0, 0, 0, 0), (61, .iconst 4, 1, 0, 0, 0, 0), (62, .ireturn, 1, 0, 0, 0, 0), (63, .iload_n 2, 1, 0, 0, 0, 0), (64, .bipush 59, 2, 0, 0, 0, 0), (66, .if_icmp .ne 7, 3, 0, 0, 0, 0), (69, .iconst 3, 1, 0, 0, 0, 0), (70, .goto 4, 3, 0, 0, 0, 0), (73, .iconst 5, 1, 0, 0, 0, 0), (74, .ireturn, 1, 0, 0, 0, 0)]
set_option maxRecDepth 100000 in
noncomputable def xt_21 : List xv_E := [(0, .aload_n 0, 1, 0, 0, 0, 0), (1, .invokespecial 3, 3, 9998, 0, 290, 0), (4, .aload_n 0, 1, 0, 0, 0, 0), (5, .iconst 4, 1, 0, 0, 0, 0), (6, .bipush 60, 2, 0, 0, 0, 0), (8, .multianewarray 11 2, 4, 2, 4, 291, 1), (12, .putfield 13, 3, 8, 0, 296, 2), (15, .aload_n 0, 1, 0, 0, 0, 0), (16, .iconst 4, 1, 0, 0, 0, 0), (17, .newarray .int, 2, 0, 0, 0, 0), (19, .putfield 16, 3, 8, 1, 300, 2), (22, .aload_n 0, 1, 0, 0, 0, 0), (23, .iconst 4, 1, 0, 0, 0, 0), (24, .newarray .int, 2, 0, 0, 0, 0), (26, .putfield 20, 3, 8, 2, 302, 2), (29, .aload_n 0, 1, 0, 0, 0, 0), (30, .getfield 20, 3, 8, 2, 302, 2), (33, .iconst (-1), 1, 0, 0, 0, 0), (34, .invokestatic 23, 3, 189, 2, 293, 99), (37, .return_, 1, 0, 0, 0, 0)]
set_option maxRecDepth 100000 in
noncomputable def xt_22 : List xv_E := [(0, .iload_n 1, 1, 0, 0, 0, 0), (1, .ifCond .lt 12, 3, 0, 0, 0, 0), (4, .iload_n 1, 1, 0, 0, 0, 0), (5, .iconst 4, 1, 0, 0, 0, 0), (6, .if_icmp .ge 7, 3, 0, 0, 0, 0), (9, .iconst 1, 1, 0, 0, 0, 0), (10, .goto 4, 3, 0, 0, 0, 0), (13, .iconst 0, 1, 0, 0, 0, 0), (14, .ireturn, 1, 1, 0, 0, 0)]
set_option maxRecDepth 100000 in
noncomputable def xt_23 : List xv_E := [(0, .aload_n 0, 1, 0, 0, 0, 0), (1, .iload_n 1, 1, 0, 0, 0, 0), (2, .invokevirtual 29, 3, 22, 1, 1056, 8), (5, .ifCond .eq 17, 3, 0, 0, 0, 0), (8, .aload_n 0, 1, 0, 0, 0, 0), (9, .getfield 20, 3, 8, 2, 302, 2), (12, .iload_n 1, 1, 0, 0, 0, 0), (13, .iaload, 1, 0, 0, 0, 0), (14, .iconst (-1), 1, 0, 0, 0, 0), (15, .if_icmp .eq 7, 3, 0, 0, 0, 0), (18, .iconst 1, 1, 0, 0, 0, 0), (19, .goto 4, 3, 0, 0, 0, 0), (22, .iconst 0, 1, 0, 0, 0, 0), (23, .ireturn, 1, 1, 0, 0, 0)]
set_option maxRecDepth 100000 in
noncomputable def xt_24 : List xv_E := [(0, .iconst 0, 1, 0, 0, 0, 0), (1, .istore_n 1, 1, 0, 0, 0, 0), (2, .iconst 0, 1, 0, 0, 0, 0), (3, .istore_n 2, 1, 0, 0, 0, 0), (4, .iload_n 2, 1, 0, 0, 0, 0), (5, .iconst 4, 1, 0, 0, 0, 0), (6, .if_icmp .ge 20, 3, 0, 0, 0, 0), (9, .aload_n 0, 1, 0, 0, 0, 0), (10, .iload_n 2, 1, 0, 0, 0, 0), (11, .invokevirtual 33, 3, 23, 1, 1282, 8), (14, .ifCond .eq 6, 3, 0, 0, 0, 0), (17, .iinc 1 1, 3, 0, 0, 0, 0), (20, .iinc 2 1, 3, 0, 0, 0, 0), (23, .goto (-19), 3, 0, 0, 0, 0), (26, .iload_n 1, 1, 0, 0, 0, 0), (27, .ireturn, 1, 0, 0, 0, 0)]
set_option maxRecDepth 100000 in
noncomputable def xt_25 : List xv_E := [(0, .aload_n 0, 1, 0, 0, 0, 0), (1, .getfield 16, 3, 8, 1, 300, 2), (4, .iload_n 1, 1, 0, 0, 0, 0), (5, .iload_n 2, 1, 0, 0, 0, 0), (6, .iastore, 1, 0, 0, 0, 0), (7, .aload_n 0, 1, 0, 0, 0, 0), (8, .getfield 20, 3, 8, 2, 302, 2), (11, .iload_n 1, 1, 0, 0, 0, 0), (12, .iload_n 3, 1, 0, 0, 0, 0), (13, .iastore, 1, 0, 0, 0, 0), (14, .aload_n 0, 1, 0, 0, 0, 0), (15, .getfield 13, 3, 8, 0, 296, 2), (18, .iload_n 1, 1, 0, 0, 0, 0), (19, .aaload, 1, 0, 0, 0, 0), (20, .lconst 0, 1, 0, 0, 0, 0), (21, .invokestatic 36, 3, 188, 2, 1321, 99), (24, .return_, 1, 0, 0, 0, 0)]
set_option maxRecDepth 100000 in
noncomputable def xt_26 : List xv_E := [(0, .aload_n 0, 1, 0, 0, 0, 0), (1, .invokespecial 5, 3, 9998, 0, 383, 0), (4, .aload_n 0, 1, 0, 0, 0, 0), (5, .bipush 7, 2, 0, 0, 0, 0), (7, .newarray .int, 2, 0, 0, 0, 0), (9, .putfield 11, 3, 9, 2, 388, 2), (12, .aload_n 0, 1, 0, 0, 0, 0), (13, .sipush 1024, 3, 0, 0, 0, 0), (16, .newarray .int, 2, 0, 0, 0, 0), (18, .putfield 17, 3, 9, 3, 389, 2), (21, .aload_n 0, 1, 0, 0, 0, 0), (22, .sipush 1024, 3, 0, 0, 0, 0), (25, .newarray .int, 2, 0, 0, 0, 0), (27, .putfield 20, 3, 9, 4, 390, 2), (30, .aload_n 0, 1, 0, 0, 0, 0), (31, .bipush 7, 2, 0, 0, 0, 0), (33, .bipush 9, 2, 0, 0, 0, 0), (35, .multianewarray 23 2, 4, 1, 1, 384, 0), (39, .putfield 25, 3, 9, 5, 391, 2), (42, .aload_n 0, 1, 0, 0, 0, 0), (43, .aload_n 1, 1, 0, 0, 0, 0), (44, .putfield 28, 3, 9, 0, 385, 2), (47, .return_, 1, 0, 0, 0, 0)]
set_option maxRecDepth 100000 in
noncomputable def xt_27 : List xv_E := [(0, .aload_n 0, 1, 0, 0, 0, 0), (1, .invokespecial 3, 3, 9998, 0, 410, 0), (4, .aload_n 0, 1, 0, 0, 0, 0), (5, .bipush 7, 2, 0, 0, 0, 0), (7, .newarray .int, 2, 0, 0, 0, 0), (9, .putfield 9, 3, 10, 3, 416, 2), (12, .aload_n 0, 1, 0, 0, 0, 0), (13, .bipush 7, 2, 0, 0, 0, 0), (15, .newarray .int, 2, 0, 0, 0, 0), (17, .putfield 15, 3, 10, 4, 417, 2), (20, .aload_n 0, 1, 0, 0, 0, 0), (21, .sipush 128, 3, 0, 0, 0, 0), (24, .newarray .long, 2, 0, 0, 0, 0), (26, .putfield 18, 3, 10, 5, 418, 2), (29, .aload_n 0, 1, 0, 0, 0, 0), (30, .sipush 128, 3, 0, 0, 0, 0), (33, .newarray .int, 2, 0, 0, 0, 0), (35, .putfield 22, 3, 10, 6, 419, 2), (38, .return_, 1, 0, 0, 0, 0)]
set_option maxRecDepth 100000 in
noncomputable def xt_28 : List xv_E := [(0, .aload_n 0, 1, 0, 0, 0, 0), (1, .invokespecial 3, 3, 9998, 0, 126, 0), (4, .aload_n 0, 1, 0, 0, 0, 0), (5, .new 9, 3, 7, 0, 129, 0), (8, .dup, 1, 0, 0, 0, 0), (9, .invokespecial 11, 3, 15, 0, 131, 7), (12, .putfield 12, 3, 11, 0, 469, 2), (15, .aload_n 0, 1, 0, 0, 0, 0), (16, .new 16, 3, 2, 0, 254, 0), (19, .dup, 1, 0, 0, 0, 0), (20, .invokespecial 18, 3, 4, 0, 255, 2), (23, .putfield 19, 3, 11, 1, 470, 2), (26, .aload_n 0, 1, 0, 0, 0, 0), (27, .new 16, 3, 2, 0, 254, 0), (30, .dup, 1, 0, 0, 0, 0), (31, .invokespecial 18, 3, 4, 0, 255, 2), (34, .putfield 23, 3, 11, 2, 471, 2), (37, .aload_n 0, 1, 0, 0, 0, 0), (38, .new 26, 3, 0, 0, 256, 0), (41, .dup, 1, 0, 0, 0, 0), (42, .invokespecial 28, 3, 0, 0, 258, 0), (45, .putfield 29, 3, 11, 3, 472, 2), (48, .aload_n 0, 1, 0, 0, 0, 0), (49, .new 33, 3, 8, 0, 285, 0), (52, .dup, 1, 0, 0, 0, 0), (53, .invokespecial 35, 3, 21, 0, 287, 8), (56, .putfield 36, 3, 11, 4, 473, 2), (59, .aload_n 0, 1, 0, 0, 0, 0), (60, .new 40, 3, 1, 0, 313, 0), (63, .dup, 1, 0, 0, 0, 0), (64, .aload_n 0, 1, 0, 0, 0, 0), (65, .getfield 19, 3, 11, 1, 470, 2), (68, .invokespecial 42, 3, 3, 1, 315, 1), (71, .putfield 45, 3, 11, 5, 474, 2), (74, .aload_n 0, 1, 0, 0, 0, 0), (75, .new 49, 3, 6, 0, 348, 0), (78, .dup, 1, 0, 0, 0, 0), (79, .aload_n 0, 1, 0, 0, 0, 0), (80, .getfield 45, 3, 11, 5, 474, 2), (83, .invokespecial 51, 3, 14, 1, 350, 6), (86, .putfield 54, 3, 11, 6, 475, 2), (89, .aload_n 0, 1, 0, 0, 0, 0), (90, .new 58, 3, 9, 0, 378, 0), (93, .dup, 1, 0, 0, 0, 0), (94, .aload_n 0, 1, 0, 0, 0, 0), (95, .getfield 45, 3, 11, 5, 474, 2), (98, .invokespecial 60, 3, 26, 1, 380, 9), (101, .putfield 61, 3, 11, 7, 476, 2), (104, .aload_n 0, 1, 0, 0, 0, 0), (105, .new 65, 3, 10, 0, 405, 0), (108, .dup, 1, 0, 0, 0, 0), (109, .invokespecial 67, 3, 27, 0, 407, 10), (112, .putfield 68, 3, 11, 8, 477, 2), (115, .aload_n 0, 1, 0, 0, 0, 0), (116, .new 72, 3, 3, 0, 435, 0), (119, .dup, 1, 0, 0, 0, 0), (120, .aload_n 0, 1, 0, 0, 0, 0), (121, .getfield 19, 3, 11, 1, 470, 2), (124, .invokespecial 74, 3, 11, 1, 437, 3), (127, .putfield 75, 3, 11, 9, 478, 2), (130, .aload_n 0, 1, 0, 0, 0, 0), (131, .new 79, 3, 5, 0, 452, 0), (134, .dup, 1, 0, 0, 0, 0), (135, .invokespecial 81, 3, 13, 0, 454, 5), (138, .putfield 82, 3, 11, 10, 479, 2), (141, .aload_n 0, 1, 0, 0, 0, 0), (142, .new 79, 3, 5, 0, 452, 0), (145, .dup, 1, 0, 0, 0, 0), (146, .invokespecial 81, 3, 13, 0, 454, 5), (149, .putfield 86, 3, 11, 11, 480, 2), (152, .aload_n 0, 1, 0, 0, 0, 0), (153, .iconst 3, 1, 0, 0, 0, 0), (154, .anewarray 89, 3, 0, 0, 467, 0), (157, .putfield 91, 3, 11, 12, 481, 2), (160, .return_, 1, 0, 0, 0, 0)]
set_option maxRecDepth 100000 in
noncomputable def xt_29 : List xv_E := [(0, .aload_n 0, 1, 0, 0, 0, 0), (1, .getfield 12, 3, 11, 0, 469, 2), (4, .invokevirtual 95, 3, 16, 0, 513, 7), (7, .ifCond .ne 5, 3, 0, 0, 0, 0), (10, .iconst (-1), 1, 0, 0, 0, 0), (11, .ireturn, 1, 0, 0, 0, 0), (12, .aload_n 0, 1, 0, 0, 0, 0), (13, .getfield 12, 3, 11, 0, 469, 2), (16, .iload_n 1, 1, 0, 0, 0, 0), (17, .invokevirtual 99, 3, 17, 1, 517, 7), (20, .aload_n 0, 1, 0, 0, 0, 0), (21, .getfield 12, 3, 11, 0, 469, 2), (24, .iload_n 2, 1, 0, 0, 0, 0), (25, .invokevirtual 99, 3, 17, 1, 517, 7), (28, .aload_n 0, 1, 0, 0, 0, 0), (29, .getfield 12, 3, 11, 0, 469, 2), (32, .iload_n 3, 1, 0, 0, 0, 0), (33, .invokevirtual 99, 3, 17, 1, 517, 7), (36, .aload_n 0, 1, 0, 0, 0, 0), (37, .getfield 12, 3, 11, 0, 469, 2), (40, .iload 4, 2, 0, 0, 0, 0), (42, .invokevirtual 99, 3, 17, 1, 517, 7), (45, .aload_n 0, 1, 0, 0, 0, 0), (46, .getfield 12, 3, 11, 0, 469, 2), (49, .iload 5, 2, 0, 0, 0, 0), (51, .invokevirtual 99, 3, 17, 1, 517, 7), (54, .aload_n 0, 1, 0, 0, 0, 0), (55, .getfield 12, 3, 11, 0, 469, 2), (58, .getfield 103, 3, 7, 1, 225, 0), (61, .ireturn, 1, 0, 0, 0, 0)]
set_option maxRecDepth 100000 in
noncomputable def xt_30 : List xv_E := [(0, .iload_n 1, 1, 0, 0, 0, 0), (1, .ifCond .lt 14, 3, 0, 0, 0, 0), (4, .iload_n 1, 1, 0, 0, 0, 0), (5, .aload_n 0, 1, 0, 0, 0, 0), (6, .getfield 12, 3, 11, 0, 469, 2), (9, .getfield 103, 3, 7, 1, 225, 0), (12, .if_icmp .le 5, 3, 0, 0, 0, 0), (15, .iconst (-1), 1, 0, 0, 0, 0), (16, .ireturn, 1, 0, 0, 0, 0), (17, .aload_n 0, 1, 0, 0, 0, 0), (18, .getfield 12, 3, 11, 0, 469, 2), (21, .iload_n 1, 1, 0, 0, 0, 0), (22, .putfield 103, 3, 7, 1, 225, 0), (25, .iload_n 1, 1, 0, 0, 0, 0), (26, .ireturn, 1, 0, 0, 0, 0)]
set_option maxRecDepth 100000 in
noncomputable def xt_31 : List xv_E := [(0, .aload_n 0, 1, 0, 0, 0, 0), (1, .getfield 12, 3, 11, 0, 469, 2), (4, .invokevirtual 107, 3, 18, 0, 529, 7), (7, .aload_n 0, 1, 0, 0, 0, 0), (8, .getfield 12, 3, 11, 0, 469, 2), (11, .getfield 110, 3, 7, 2, 227, 0), (14, .ifCond .eq 6, 3, 0, 0, 0, 0), (17, .bipush (-4), 2, 0, 0, 0, 0), (19, .ireturn, 1, 0, 0, 0, 0), (20, .aload_n 0, 1, 0, 0, 0, 0), (21, .getfield 12, 3, 11, 0, 469, 2), (24, .iconst 0, 1, 0, 0, 0, 0), (25, .putfield 103, 3, 7, 1, 225, 0), (28, .aload_n 0, 1, 0, 0, 0, 0), (29, .getfield 19, 3, 11, 1, 470, 2), (32, .aload_n 0, 1, 0, 0, 0, 0), (33, .getfield 12, 3, 11, 0, 469, 2), (36, .getfield 113, 3, 7, 0, 223, 2), (39, .invokevirtual 116, 3, 6, 1, 675, 2), (42, .aload_n 0, 1, 0, 0, 0, 0), (43, .getfield 29, 3, 11, 3, 472, 2), (46, .aload_n 0, 1, 0, 0, 0, 0), (47, .getfield 19, 3, 11, 1, 470, 2), (50, .invokevirtual 119, 3, 1, 1, 682, 0), (53, .aload_n 0, 1, 0, 0, 0, 0), (54, .getfield 19, 3, 11, 1, 470, 2), (57, .getfield 122, 3, 2, 0, 144, 0), (60, .ireturn, 1, 0, 0, 0, 0)]
set_option maxRecDepth 100000 in
noncomputable def xt_32 : List xv_E := [(0, .iload_n 1, 1, 0, 0, 0, 0), (1, .ifCond .ne 11, 3, 0, 0, 0, 0), (4, .aload_n 0, 1, 0, 0, 0, 0), (5, .getfield 12, 3, 11, 0, 469, 2), (8, .getfield 110, 3, 7, 2, 227, 0), (11, .ireturn, 1, 0, 0, 0, 0), (12, .iload_n 1, 1, 0, 0, 0, 0), (13, .iconst 1, 1, 0, 0, 0, 0), (14, .if_icmp .ne 13, 3, 0, 0, 0, 0), (17, .aload_n 0, 1, 0, 0, 0, 0), (18, .getfield 12, 3, 11, 0, 469, 2), (21, .getfield 125, 3, 7, 3, 229, 0), (24, .goto 4, 3, 0, 0, 0, 0), (27, .iconst (-1), 1, 0, 0, 0, 0), (28, .ireturn, 1, 0, 0, 0, 0)]
set_option maxRecDepth 100000 in
noncomputable def xt_33 : List xv_E := [(0, .aload_n 0, 1, 0, 0, 0, 0), (1, .getfield 19, 3, 11, 1, 470, 2), (4, .iload_n 1, 1, 0, 0, 0, 0), (5, .invokevirtual 128, 3, 8, 1, 697, 2), (8, .ifCond .eq 15, 3, 0, 0, 0, 0), (11, .aload_n 0, 1, 0, 0, 0, 0), (12, .getfield 19, 3, 11, 1, 470, 2), (15, .getfield 132, 3, 2, 6, 168, 2), (18, .iload_n 1, 1, 0, 0, 0, 0), (19, .iaload, 1, 0, 0, 0, 0), (20, .goto 5, 3, 0, 0, 0, 0), (23, .bipush (-2), 2, 0, 0, 0, 0), (25, .ireturn, 1, 0, 0, 0, 0)]
set_option maxRecDepth 100000 in
noncomputable def xt_34 : List xv_E := [(0, .aload_n 0, 1, 0, 0, 0, 0), (1, .getfield 19, 3, 11, 1, 470, 2), (4, .iload_n 1, 1, 0, 0, 0, 0), (5, .invokevirtual 136, 3, 9, 1, 702, 2), (8, .ifCond .ne 6, 3, 0, 0, 0, 0), (11, .bipush (-2), 2, 0, 0, 0, 0), (13, .ireturn, 1, 0, 0, 0, 0), (14, .iload_n 2, 1, 0, 0, 0, 0), (15, .tableswitch 69 0 3 #[29, 39, 49, 59], 29, 0, 0, 0, 0), (44, .aload_n 0, 1, 0, 0, 0, 0), (45, .getfield 19, 3, 11, 1, 470, 2), (48, .getfield 139, 3, 2, 7, 174, 2), (51, .iload_n 1, 1, 0, 0, 0, 0), (52, .iaload, 1, 0, 0, 0, 0), (53, .ireturn, 1, 0, 0, 0, 0), (54, .aload_n 0, 1, 0, 0, 0, 0), (55, .getfield 19, 3, 11, 1, 470, 2), (58, .getfield 142, 3, 2, 8, 177, 2), (61, .iload_n 1, 1, 0, 0, 0, 0), (62, .iaload, 1, 0, 0, 0, 0), (63, .ireturn, 1, 0, 0, 0, 0), (64, .aload_n 0, 1, 0, 0, 0, 0), (65, .getfield 19, 3, 11, 1, 470, 2), (68, .getfield 145, 3, 2, 9, 183, 2), (71, .iload_n 1, 1, 0, 0, 0, 0), (72, .iaload, 1, 0, 0, 0, 0), (73, .ireturn, 1, 0, 0, 0, 0), (74, .aload_n 0, 1, 0, 0, 0, 0), (75, .getfield 19, 3, 11, 1, 470, 2), (78, .getfield 148, 3, 2, 10, 186, 2), (81, .iload_n 1, 1, 0, 0, 0, 0), (82, .iaload, 1, 0, 0, 0, 0), (83, .ireturn, 1, 0, 0, 0, 0), (84, .bipush (-2), 2, 0, 0, 0, 0), (86, .ireturn, 1, 0, 0, 0, 0)]
set_option maxRecDepth 100000 in
noncomputable def xt_35 : List xv_E := [(0, .aload_n 0, 1, 0, 0, 0, 0), (1, .getfield 19, 3, 11, 1, 470, 2), (4, .iload_n 1, 1, 0, 0, 0, 0), (5, .invokevirtual 136, 3, 9, 1, 702, 2), (8, .ifCond .eq 14, 3, 0, 0, 0, 0), (11, .aload_n 0, 1, 0, 0, 0, 0), (12, .getfield 19, 3, 11, 1, 470, 2), (15, .iload_n 2, 1, 0, 0, 0, 0), (16, .invokevirtual 128, 3, 8, 1, 697, 2), (19, .ifCond .ne 6, 3, 0, 0, 0, 0), (22, .bipush (-2), 2, 0, 0, 0, 0), (24, .ireturn, 1, 0, 0, 0, 0), (25, .aload_n 0, 1, 0, 0, 0, 0), (26, .getfield 19, 3, 11, 1, 470, 2), (29, .iload_n 1, 1, 0, 0, 0, 0), (30, .iload_n 2, 1, 0, 0, 0, 0), (31, .invokevirtual 151, 3, 9990, 2, 707, 2), (34, .ireturn, 1, 0, 0, 0, 0)]
set_option maxRecDepth 100000 in
noncomputable def xt_36 : List xv_E := [(0, .aload_n 0, 1, 0, 0, 0, 0), (1, .getfield 19, 3, 11, 1, 470, 2), (4, .iload_n 1, 1, 0, 0, 0, 0), (5, .invokevirtual 136, 3, 9, 1, 702, 2), (8, .ifCond .eq 14, 3, 0, 0, 0, 0), (11, .aload_n 0, 1, 0, 0, 0, 0), (12, .getfield 19, 3, 11, 1, 470, 2), (15, .iload_n 2, 1, 0, 0, 0, 0), (16, .invokevirtual 155, 3, 9990, 1, 715, 2), (19, .ifCond .ne 6, 3, 0, 0, 0, 0), (22, .bipush (-2), 2, 0, 0, 0, 0), (24, .ireturn, 1, 0, 0, 0, 0), (25, .aload_n 0, 1, 0, 0, 0, 0), (26, .getfield 19, 3, 11, 1, 470, 2), (29, .iload_n 1, 1, 0, 0, 0, 0), (30, .iload_n 2, 1, 0, 0, 0, 0), (31, .invokevirtual 158, 3, 9990, 2, 719, 2), (34, .ireturn, 1, 0, 0, 0, 0)]
set_option maxRecDepth 100000 in
noncomputable def xt_37 : List xv_E := [(0, .aload_n 0, 1, 0, 0, 0, 0), (1, .getfield 19, 3, 11, 1, 470, 2), (4, .iload_n 1, 1, 0, 0, 0, 0), (5, .invokevirtual 161, 3, 10, 1, 727, 2), (8, .ifCond .eq 15, 3, 0, 0, 0, 0), (11, .aload_n 0, 1, 0, 0, 0, 0), (12, .getfield 19, 3, 11, 1, 470, 2), (15, .getfield 164, 3, 2, 12, 192, 2), (18, .iload_n 1, 1, 0, 0, 0, 0), (19, .iaload, 1, 0, 0, 0, 0), (20, .goto 5, 3, 0, 0, 0, 0), (23, .bipush (-2), 2, 0, 0, 0, 0), (25, .ireturn, 1, 0, 0, 0, 0)]
set_option maxRecDepth 100000 in
noncomputable def xt_38 : List xv_E := [(0, .aload_n 0, 1, 0, 0, 0, 0), (1, .getfield 19, 3, 11, 1, 470, 2), (4, .iload_n 1, 1, 0, 0, 0, 0), (5, .invokevirtual 161, 3, 10, 1, 727, 2), (8, .ifCond .eq 15, 3, 0, 0, 0, 0), (11, .aload_n 0, 1, 0, 0, 0, 0), (12, .getfield 19, 3, 11, 1, 470, 2), (15, .iload_n 1, 1, 0, 0, 0, 0), (16, .iload_n 2, 1, 0, 0, 0, 0), (17, .invokevirtual 167, 3, 9990, 2, 735, 2), (20, .goto 5, 3, 0, 0, 0, 0), (23, .bipush (-2), 2, 0, 0, 0, 0), (25, .ireturn, 1, 0, 0, 0, 0)]
set_option maxRecDepth 100000 in
noncomputable def xt_39 : List xv_E := [(0, .aload_n 0, 1, 0, 0, 0, 0), (1, .getfield 19, 3, 11, 1, 470, 2), (4, .iload_n 1, 1, 0, 0, 0, 0), (5, .invokevirtual 136, 3, 9, 1, 702, 2), (8, .ifCond .eq 16, 3, 0, 0, 0, 0), (11, .aload_n 0, 1, 0, 0, 0, 0), (12, .getfield 19, 3, 11, 1, 470, 2), (15, .iload_n 1, 1, 0, 0, 0, 0), (16, .bipush 127, 2, 0, 0, 0, 0), (18, .invokevirtual 170, 3, 9990, 2, 751, 2), (21, .goto 5, 3, 0, 0, 0, 0), (24, .bipush (-2), 2, 0, 0, 0, 0), (26, .ireturn, 1, 0, 0, 0, 0)]
set_option maxRecDepth 100000 in
noncomputable def xt_40 : List xv_E := [(0, .aload_n 0, 1, 0, 0, 0, 0), (1, .getfield 19, 3, 11, 1, 470, 2), (4, .iload_n 1, 1, 0, 0, 0, 0), (5, .invokevirtual 136, 3, 9, 1, 702, 2), (8, .ifCond .eq 14, 3, 0, 0, 0, 0), (11, .aload_n 0, 1, 0, 0, 0, 0), (12, .getfield 19, 3, 11, 1, 470, 2), (15, .iload_n 1, 1, 0, 0, 0, 0), (16, .invokevirtual 173, 3, 9990, 1, 763, 2), (19, .goto 5, 3, 0, 0, 0, 0), (22, .bipush (-2), 2, 0, 0, 0, 0), (24, .ireturn, 1, 0, 0, 0, 0)]
set_option maxRecDepth 100000 in
noncomputable def xt_41 : List xv_E := [(0, .aload_n 0, 1, 0, 0, 0, 0), (1, .getfield 19, 3, 11, 1, 470, 2), (4, .iload_n 1, 1, 0, 0, 0, 0), (5, .invokevirtual 136, 3, 9, 1, 702, 2), (8, .ifCond .eq 13, 3, 0, 0, 0, 0), (11, .iload_n 2, 1, 0, 0, 0, 0), (12, .ifCond .lt 9, 3, 0, 0, 0, 0), (15, .iload_n 2, 1, 0, 0, 0, 0), (16, .bipush 20, 2, 0, 0, 0, 0), (18, .if_icmp .le 6, 3, 0, 0, 0, 0), (21, .bipush (-2), 2, 0, 0, 0, 0), (23, .ireturn, 1, 0, 0, 0, 0), (24, .aload_n 0, 1, 0, 0, 0, 0), (25, .getfield 19, 3, 11, 1, 470, 2), (28, .aload_n 0, 1, 0, 0, 0, 0), (29, .getfield 19, 3, 11, 1, 470, 2), (32, .getfield 145, 3, 2, 9, 183, 2), (35, .iload_n 1, 1, 0, 0, 0, 0), (36, .iaload, 1, 0, 0, 0, 0), (37, .aload_n 0, 1, 0, 0, 0, 0), (38, .getfield 19, 3, 11, 1, 470, 2), (41, .iload_n 1, 1, 0, 0, 0, 0), (42, .invokevirtual 177, 3, 9990, 1, 771, 2), (45, .iload_n 2, 1, 0, 0, 0, 0), (46, .isub, 1, 0, 0, 0, 0), (47, .invokevirtual 167, 3, 9990, 2, 735, 2), (50, .ireturn, 1, 0, 0, 0, 0)]
set_option maxRecDepth 100000 in
noncomputable def xt_42 : List xv_E := [(0, .aload_n 0, 1, 0, 0, 0, 0), (1, .getfield 19, 3, 11, 1, 470, 2), (4, .iload_n 1, 1, 0, 0, 0, 0), (5, .invokevirtual 161, 3, 10, 1, 727, 2), (8, .ifCond .eq 14, 3, 0, 0, 0, 0), (11, .aload_n 0, 1, 0, 0, 0, 0), (12, .getfield 19, 3, 11, 1, 470, 2), (15, .iload_n 1, 1, 0, 0, 0, 0), (16, .invokevirtual 180, 3, 9990, 1, 776, 2), (19, .goto 5, 3, 0, 0, 0, 0), (22, .bipush (-2), 2, 0, 0, 0, 0), (24, .ireturn, 1, 0, 0, 0, 0)]
set_option maxRecDepth 100000 in
noncomputable def xt_43 : List xv_E := [(0, .aload_n 0, 1, 0, 0, 0, 0), (1, .getfield 19, 3, 11, 1, 470, 2), (4, .iload_n 1, 1, 0, 0, 0, 0), (5, .invokevirtual 161, 3, 10, 1, 727, 2), (8, .ifCond .eq 21, 3, 0, 0, 0, 0), (11, .aload_n 0, 1, 0, 0, 0, 0), (12, .getfield 19, 3, 11, 1, 470, 2), (15, .aload_n 0, 1, 0, 0, 0, 0), (16, .getfield 19, 3, 11, 1, 470, 2), (19, .iload_n 1, 1, 0, 0, 0, 0), (20, .invokevirtual 183, 3, 9990, 1, 784, 2), (23, .invokevirtual 186, 3, 9990, 1, 788, 2), (26, .goto 5, 3, 0, 0, 0, 0), (29, .bipush (-2), 2, 0, 0, 0, 0), (31, .ireturn, 1, 0, 0, 0, 0)]
set_option maxRecDepth 100000 in
noncomputable def xt_44 : List xv_E := [(0, .aload_n 0, 1, 0, 0, 0, 0), (1, .getfield 19, 3, 11, 1, 470, 2), (4, .invokevirtual 189, 3, 7, 0, 798, 2), (7, .ifCond .eq 6, 3, 0, 0, 0, 0), (10, .bipush (-2), 2, 0, 0, 0, 0), (12, .ireturn, 1, 0, 0, 0, 0), (13, .iconst 0, 1, 0, 0, 0, 0), (14, .istore_n 1, 1, 0, 0, 0, 0), (15, .iconst 0, 1, 0, 0, 0, 0), (16, .istore_n 2, 1, 0, 0, 0, 0), (17, .iload_n 2, 1, 0, 0, 0, 0), (18, .aload_n 0, 1, 0, 0, 0, 0), (19, .getfield 19, 3, 11, 1, 470, 2), (22, .getfield 192, 3, 2, 5, 166, 0), (25, .if_icmp .ge 37, 3, 0, 0, 0, 0), (28, .aload_n 0, 1, 0, 0, 0, 0), (29, .getfield 19, 3, 11, 1, 470, 2), (32, .iload_n 2, 1, 0, 0, 0, 0), (33, .bipush 127, 2, 0, 0, 0, 0), (35, .invokevirtual 170, 3, 9990, 2, 751, 2), (38, .aload_n 0, 1, 0, 0, 0, 0), (39, .getfield 19, 3, 11, 1, 470, 2), (42, .getfield 139, 3, 2, 7, 174, 2), (45, .iload_n 2, 1, 0, 0, 0, 0), (46, .iaload, 1, 0, 0, 0, 0), (47, .if_icmp .ne 9, 3, 0, 0, 0, 0), (50, .iload_n 1, 1, 0, 0, 0, 0), (51, .iconst 1, 1, 0, 0, 0, 0), (52, .iload_n 2, 1, 0, 0, 0, 0), (53, .ishl, 1, 0, 0, 0, 0), (54, .ior, 1, 0, 0, 0, 0), (55, .istore_n 1, 1, 0, 0, 0, 0), (56, .iinc 2 1, 3, 0, 0, 0, 0), (59, .goto (-42), 3, 0, 0, 0, 0), (62, .iload_n 1, 1, 0, 0, 0, 0), (63, .ireturn, 1, 0, 0, 0, 0)]
set_option maxRecDepth 100000 in
noncomputable def xt_45 : List xv_E := [(0, .aload_n 0, 1, 0, 0, 0, 0), (1, .getfield 19, 3, 11, 1, 470, 2), (4, .invokevirtual 189, 3, 7, 0, 798, 2), (7, .ifCond .eq 6, 3, 0, 0, 0, 0), (10, .bipush (-2), 2, 0, 0, 0, 0), (12, .ireturn, 1, 0, 0, 0, 0), (13, .iconst 0, 1, 0, 0, 0, 0), (14, .istore_n 1, 1, 0, 0, 0, 0), (15, .iconst 0, 1, 0, 0, 0, 0), (16, .istore_n 2, 1, 0, 0, 0, 0), (17, .iload_n 2, 1, 0, 0, 0, 0), (18, .aload_n 0, 1, 0, 0, 0, 0), (19, .getfield 19, 3, 11, 1, 470, 2), (22, .getfield 192, 3, 2, 5, 166, 0), (25, .if_icmp .ge 26, 3, 0, 0, 0, 0), (28, .aload_n 0, 1, 0, 0, 0, 0), (29, .getfield 19, 3, 11, 1, 470, 2), (32, .iload_n 2, 1, 0, 0, 0, 0), (33, .invokevirtual 195, 3, 9990, 1, 806, 2), (36, .ifCond .ge 9, 3, 0, 0, 0, 0), (39, .iload_n 1, 1, 0, 0, 0, 0), (40, .iconst 1, 1, 0, 0, 0, 0), (41, .iload_n 2, 1, 0, 0, 0, 0), (42, .ishl, 1, 0, 0, 0, 0), (43, .ior, 1, 0, 0, 0, 0), (44, .istore_n 1, 1, 0, 0, 0, 0), (45, .iinc 2 1, 3, 0, 0, 0, 0), (48, .goto (-31), 3, 0, 0, 0, 0), (51, .iload_n 1, 1, 0, 0, 0, 0), (52, .ireturn, 1, 0, 0, 0, 0)]
set_option maxRecDepth 100000 in
noncomputable def xt_46 : List xv_E := [(0, .aload_n 0, 1, 0, 0, 0, 0), (1, .getfield 19, 3, 11, 1, 470, 2), (4, .invokevirtual 189, 3, 7, 0, 798, 2), (7, .ifCond .eq 6, 3, 0, 0, 0, 0), (10, .bipush (-2), 2, 0, 0, 0, 0), (12, .ireturn, 1, 0, 0, 0, 0), (13, .iconst (-1), 1, 0, 0, 0, 0), (14, .istore_n 1, 1, 0, 0, 0, 0), (15, .iconst 0, 1, 0, 0, 0, 0), (16, .istore_n 2, 1, 0, 0, 0, 0), (17, .iconst 0, 1, 0, 0, 0, 0), (18, .istore_n 3, 1, 0, 0, 0, 0), (19, .iload_n 3, 1, 0, 0, 0, 0), (20, .aload_n 0, 1, 0, 0, 0, 0), (21, .getfield 19, 3, 11, 1, 470, 2), (24, .getfield 192, 3, 2, 5, 166, 0), (27, .if_icmp .ge 30, 3, 0, 0, 0, 0), (30, .aload_n 0, 1, 0, 0, 0, 0), (31, .getfield 19, 3, 11, 1, 470, 2), (34, .iload_n 3, 1, 0, 0, 0, 0), (35, .invokevirtual 195, 3, 9990, 1, 806, 2), (38, .istore 4, 2, 0, 0, 0, 0), (40, .iload 4, 2, 0, 0, 0, 0), (42, .iload_n 2, 1, 0, 0, 0, 0), (43, .if_icmp .le 8, 3, 0, 0, 0, 0), (46, .iload 4, 2, 0, 0, 0, 0), (48, .istore_n 2, 1, 0, 0, 0, 0), (49, .iload_n 3, 1, 0, 0, 0, 0), (50, .istore_n 1, 1, 0, 0, 0, 0), (51, .iinc 3 1, 3, 0, 0, 0, 0), (54, .goto (-35), 3, 0, 0, 0, 0), (57, .iload_n 1, 1, 0, 0, 0, 0), (58, .ireturn, 1, 0, 0, 0, 0)]
set_option maxRecDepth 100000 in
noncomputable def xt_47 : List xv_E := [(0, .aload_n 0, 1, 0, 0, 0, 0), (1, .getfield 19, 3, 11, 1, 470, 2), (4, .invokevirtual 189, 3, 7, 0, 798, 2), (7, .ifCond .ne 14, 3, 0, 0, 0, 0), (10, .aload_n 0, 1, 0, 0, 0, 0), (11, .getfield 19, 3, 11, 1, 470, 2), (14, .iload_n 1, 1, 0, 0, 0, 0), (15, .invokevirtual 155, 3, 9990, 1, 715, 2), (18, .ifCond .ne 6, 3, 0, 0, 0, 0), (21, .bipush (-2), 2, 0, 0, 0, 0), (23, .ireturn, 1, 0, 0, 0, 0), (24, .iconst 0, 1, 0, 0, 0, 0), (25, .istore_n 2, 1, 0, 0, 0, 0), (26, .iconst 0, 1, 0, 0, 0, 0), (27, .istore_n 3, 1, 0, 0, 0, 0), (28, .iload_n 3, 1, 0, 0, 0, 0), (29, .aload_n 0, 1, 0, 0, 0, 0), (30, .getfield 19, 3, 11, 1, 470, 2), (33, .getfield 192, 3, 2, 5, 166, 0), (36, .if_icmp .ge 29, 3, 0, 0, 0, 0), (39, .aload_n 0, 1, 0, 0, 0, 0), (40, .getfield 19, 3, 11, 1, 470, 2), (43, .iload_n 3, 1, 0, 0, 0, 0), (44, .bipush 127, 2, 0, 0, 0, 0), (46, .invokevirtual 170, 3, 9990, 2, 751, 2), (49, .iload_n 1, 1, 0, 0, 0, 0), (50, .if_icmp .ne 9, 3, 0, 0, 0, 0), (53, .iload_n 2, 1, 0, 0, 0, 0), (54, .iconst 1, 1, 0, 0, 0, 0), (55, .iload_n 3, 1, 0, 0, 0, 0), (56, .ishl, 1, 0, 0, 0, 0), (57, .ior, 1, 0, 0, 0, 0), (58, .istore_n 2, 1, 0, 0, 0, 0), (59, .iinc 3 1, 3, 0, 0, 0, 0), (62, .goto (-34), 3, 0, 0, 0, 0), (65, .iload_n 2, 1, 0, 0, 0, 0), (66, .ireturn, 1, 0, 0, 0, 0)]
set_option maxRecDepth 100000 in
noncomputable def xt_48 : List xv_E := [(0, .aload_n 0, 1, 0, 0, 0, 0), (1, .getfield 19, 3, 11, 1, 470, 2), (4, .iload_n 1, 1, 0, 0, 0, 0), (5, .invokevirtual 136, 3, 9, 1, 702, 2), (8, .ifCond .eq 14, 3, 0, 0, 0, 0), (11, .aload_n 0, 1, 0, 0, 0, 0), (12, .getfield 19, 3, 11, 1, 470, 2), (15, .iload_n 1, 1, 0, 0, 0, 0), (16, .invokevirtual 177, 3, 9990, 1, 771, 2), (19, .goto 5, 3, 0, 0, 0, 0), (22, .bipush (-2), 2, 0, 0, 0, 0), (24, .ireturn, 1, 0, 0, 0, 0)]
set_option maxRecDepth 100000 in
noncomputable def xt_49 : List xv_E := [(0, .aload_n 0, 1, 0, 0, 0, 0), (1, .getfield 19, 3, 11, 1, 470, 2), (4, .iload_n 1, 1, 0, 0, 0, 0), (5, .invokevirtual 136, 3, 9, 1, 702, 2), (8, .ifCond .ne 6, 3, 0, 0, 0, 0), (11, .bipush (-2), 2, 0, 0, 0, 0), (13, .ireturn, 1, 0, 0, 0, 0), (14, .aload_n 0, 1, 0, 0, 0, 0), (15, .getfield 19, 3, 11, 1, 470, 2), (18, .iload_n 1, 1, 0, 0, 0, 0), (19, .bipush 127, 2, 0, 0, 0, 0), (21, .invokevirtual 170, 3, 9990, 2, 751, 2), (24, .istore_n 2, 1, 0, 0, 0, 0), (25, .aload_n 0, 1, 0, 0, 0, 0), (26, .getfield 19, 3, 11, 1, 470, 2), (29, .iload_n 1, 1, 0, 0, 0, 0), (30, .iload_n 2, 1, 0, 0, 0, 0), (31, .invokevirtual 158, 3, 9990, 2, 719, 2), (34, .istore_n 3, 1, 0, 0, 0, 0), (35, .iconst (-1), 1, 0, 0, 0, 0), (36, .istore 4, 2, 0, 0, 0, 0), (38, .iconst 0, 1, 0, 0, 0, 0), (39, .istore 5, 2, 0, 0, 0, 0), (41, .iload 5, 2, 0, 0, 0, 0), (43, .aload_n 0, 1, 0, 0, 0, 0), (44, .getfield 19, 3, 11, 1, 470, 2), (47, .getfield 192, 3, 2, 5, 166, 0), (50, .if_icmp .ge 71, 3, 0, 0, 0, 0), (53, .aload_n 0, 1, 0, 0, 0, 0), (54, .getfield 19, 3, 11, 1, 470, 2), (57, .iload 5, 2, 0, 0, 0, 0), (59, .bipush 127, 2, 0, 0, 0, 0), (61, .invokevirtual 170, 3, 9990, 2, 751, 2), (64, .istore 6, 2, 0, 0, 0, 0), (66, .aload_n 0, 1, 0, 0, 0, 0), (67, .getfield 19, 3, 11, 1, 470, 2), (70, .iload_n 1, 1, 0, 0, 0, 0), (71, .iload 6, 2, 0, 0, 0, 0), (73, .invokevirtual 158, 3, 9990, 2, 719, 2), (76, .istore 7, 2, 0, 0, 0, 0), (78, .iload 7, 2, 0, 0, 0, 0), (80, .iload_n 3, 1, 0, 0, 0, 0), (81, .if_icmp .ge 34, 3, 0, 0, 0, 0), (84, .aload_n 0, 1, 0, 0, 0, 0), (85, .getfield 19, 3, 11, 1, 470, 2), (88, .iload 5, 2, 0, 0, 0, 0), (90, .iload_n 2, 1, 0, 0, 0, 0), (91, .invokevirtual 158, 3, 9990, 2, 719, 2), (94, .aload_n 0, 1, 0, 0, 0, 0), (95, .getfield 19, 3, 11, 1, 470, 2), (98, .iload 5, 2, 0, 0, 0, 0), (100, .iload 6, 2, 0, 0, 0, 0), (102, .invokevirtual 158, 3, 9990, 2, 719, 2), (105, .if_icmp .gt 10, 3, 0, 0, 0, 0), (108, .iload 7, 2, 0, 0, 0, 0), (110, .istore_n 3, 1, 0, 0, 0, 0), (111, .iload 5, 2, 0, 0, 0, 0), (113, .istore 4, 2, 0, 0, 0, 0), (115, .iinc 5 1, 3, 0, 0, 0, 0), (118, .goto (-77), 3, 0, 0, 0, 0), (121, .iload 4, 2, 0, 0, 0, 0), (123, .ireturn, 1, 0, 0, 0, 0)]
set_option maxRecDepth 100000 in
noncomputable def xt_50 : List xv_E := [(0, .aload_n 0, 1, 0, 0, 0, 0), (1, .getfield 19, 3, 11, 1, 470, 2), (4, .iload_n 1, 1, 0, 0, 0, 0), (5, .invokevirtual 136, 3, 9, 1, 702, 2), (8, .ifCond .eq 22, 3, 0, 0, 0, 0), (11, .aload_n 0, 1, 0, 0, 0, 0), (12, .getfield 19, 3, 11, 1, 470, 2), (15, .iload_n 1, 1, 0, 0, 0, 0), (16, .aload_n 0, 1, 0, 0, 0, 0), (17, .getfield 19, 3, 11, 1, 470, 2), (20, .iload_n 1, 1, 0, 0, 0, 0), (21, .invokevirtual 198, 3, 9990, 1, 830, 2), (24, .invokevirtual 201, 3, 9990, 2, 840, 2), (27, .goto 5, 3, 0, 0, 0, 0), (30, .bipush (-2), 2, 0, 0, 0, 0), (32, .ireturn, 1, 0, 0, 0, 0)]
set_option maxRecDepth 100000 in
noncomputable def xt_51 : List xv_E := [(0, .aload_n 0, 1, 0, 0, 0, 0), (1, .getfield 19, 3, 11, 1, 470, 2), (4, .iload_n 1, 1, 0, 0, 0, 0), (5, .invokevirtual 136, 3, 9, 1, 702, 2), (8, .ifCond .eq 14, 3, 0, 0, 0, 0), (11, .aload_n 0, 1, 0, 0, 0, 0), (12, .getfield 19, 3, 11, 1, 470, 2), (15, .iload_n 1, 1, 0, 0, 0, 0), (16, .invokevirtual 198, 3, 9990, 1, 830, 2), (19, .goto 5, 3, 0, 0, 0, 0), (22, .bipush (-2), 2, 0, 0, 0, 0), (24, .ireturn, 1, 0, 0, 0, 0)]
set_option maxRecDepth 100000 in
noncomputable def xt_52 : List xv_E := [(0, .aload_n 0, 1, 0, 0, 0, 0), (1, .iload_n 1, 1, 0, 0, 0, 0), (2, .invokevirtual 204, 3, 58, 1, 849, 11), (5, .ifCond .eq 16, 3, 0, 0, 0, 0), (8, .aload_n 0, 1, 0, 0, 0, 0), (9, .getfield 54, 3, 11, 6, 475, 2), (12, .getfield 207, 3, 6, 1, 356, 2), (15, .bipush 7, 2, 0, 0, 0, 0), (17, .iaload, 1, 0, 0, 0, 0), (18, .goto 5, 3, 0, 0, 0, 0), (21, .bipush (-2), 2, 0, 0, 0, 0), (23, .ireturn, 1, 0, 0, 0, 0)]
set_option maxRecDepth 100000 in
noncomputable def xt_53 : List xv_E := [(0, .aload_n 0, 1, 0, 0, 0, 0), (1, .iload_n 1, 1, 0, 0, 0, 0), (2, .invokevirtual 204, 3, 58, 1, 849, 11), (5, .ifCond .eq 14, 3, 0, 0, 0, 0), (8, .aload_n 0, 1, 0, 0, 0, 0), (9, .getfield 54, 3, 11, 6, 475, 2), (12, .iload_n 2, 1, 0, 0, 0, 0), (13, .invokevirtual 210, 3, 9990, 1, 890, 6), (16, .goto 5, 3, 0, 0, 0, 0), (19, .bipush (-2), 2, 0, 0, 0, 0), (21, .ireturn, 1, 0, 0, 0, 0)]
set_option maxRecDepth 100000 in
noncomputable def xt_54 : List xv_E := [(0, .aload_n 0, 1, 0, 0, 0, 0), (1, .iload_n 1, 1, 0, 0, 0, 0), (2, .invokevirtual 204, 3, 58, 1, 849, 11), (5, .ifCond .eq 16, 3, 0, 0, 0, 0), (8, .aload_n 0, 1, 0, 0, 0, 0), (9, .getfield 54, 3, 11, 6, 475, 2), (12, .getfield 213, 3, 6, 3, 360, 2), (15, .bipush 7, 2, 0, 0, 0, 0), (17, .iaload, 1, 0, 0, 0, 0), (18, .goto 5, 3, 0, 0, 0, 0), (21, .bipush (-2), 2, 0, 0, 0, 0), (23, .ireturn, 1, 0, 0, 0, 0)]
set_option maxRecDepth 100000 in
noncomputable def xt_55 : List xv_E := [(0, .aload_n 0, 1, 0, 0, 0, 0), (1, .iload_n 1, 1, 0, 0, 0, 0), (2, .invokevirtual 204, 3, 58, 1, 849, 11), (5, .ifCond .eq 16, 3, 0, 0, 0, 0), (8, .aload_n 0, 1, 0, 0, 0, 0), (9, .getfield 54, 3, 11, 6, 475, 2), (12, .getfield 216, 3, 6, 4, 362, 2), (15, .bipush 7, 2, 0, 0, 0, 0), (17, .iaload, 1, 0, 0, 0, 0), (18, .goto 5, 3, 0, 0, 0, 0), (21, .bipush (-2), 2, 0, 0, 0, 0), (23, .ireturn, 1, 0, 0, 0, 0)]
set_option maxRecDepth 100000 in
noncomputable def xt_56 : List xv_E := [(0, .aload_n 0, 1, 0, 0, 0, 0), (1, .iload_n 1, 1, 0, 0, 0, 0), (2, .invokevirtual 204, 3, 58, 1, 849, 11), (5, .ifCond .eq 16, 3, 0, 0, 0, 0), (8, .aload_n 0, 1, 0, 0, 0, 0), (9, .getfield 54, 3, 11, 6, 475, 2), (12, .getfield 219, 3, 6, 5, 364, 2), (15, .bipush 7, 2, 0, 0, 0, 0), (17, .iaload, 1, 0, 0, 0, 0), (18, .goto 5, 3, 0, 0, 0, 0), (21, .bipush (-2), 2, 0, 0, 0, 0), (23, .ireturn, 1, 0, 0, 0, 0)]
set_option maxRecDepth 100000 in
noncomputable def xt_57 : List xv_E := [(0, .aload_n 0, 1, 0, 0, 0, 0), (1, .iload_n 1, 1, 0, 0, 0, 0), (2, .invokevirtual 204, 3, 58, 1, 849, 11), (5, .ifCond .eq 16, 3, 0, 0, 0, 0), (8, .aload_n 0, 1, 0, 0, 0, 0), (9, .getfield 54, 3, 11, 6, 475, 2), (12, .getfield 222, 3, 6, 2, 358, 2), (15, .bipush 7, 2, 0, 0, 0, 0), (17, .iaload, 1, 0, 0, 0, 0), (18, .goto 5, 3, 0, 0, 0, 0), (21, .bipush (-2), 2, 0, 0, 0, 0), (23, .ireturn, 1, 0, 0, 0, 0)]
set_option maxRecDepth 100000 in
noncomputable def xt_58 : List xv_E := [(0, .aload_n 0, 1, 0, 0, 0, 0), (1, .getfield 19, 3, 11, 1, 470, 2), (4, .iload_n 1, 1, 0, 0, 0, 0), (5, .invokevirtual 161, 3, 10, 1, 727, 2), (8, .ifCond .ne 5, 3, 0, 0, 0, 0), (11, .iconst 0, 1, 0, 0, 0, 0), (12, .ireturn, 1, 1, 0, 0, 0), (13, .aload_n 0, 1, 0, 0, 0, 0), (14, .getfield 45, 3, 11, 5, 474, 2), (17, .iload_n 1, 1, 0, 0, 0, 0), (18, .invokevirtual 225, 3, 9990, 1, 853, 1), (21, .aload_n 0, 1, 0, 0, 0, 0), (22, .getfield 54, 3, 11, 6, 475, 2), (25, .invokevirtual 228, 3, 9990, 0, 858, 6), (28, .iconst 1, 1, 0, 0, 0, 0), (29, .ireturn, 1, 1, 0, 0, 0)]
set_option maxRecDepth 100000 in
noncomputable def xt_59 : List xv_E := [(0, .aload_n 0, 1, 0, 0, 0, 0), (1, .getfield 19, 3, 11, 1, 470, 2), (4, .iload_n 1, 1, 0, 0, 0, 0), (5, .invokevirtual 136, 3, 9, 1, 702, 2), (8, .ifCond .eq 14, 3, 0, 0, 0, 0), (11, .aload_n 0, 1, 0, 0, 0, 0), (12, .getfield 19, 3, 11, 1, 470, 2), (15, .iload_n 2, 1, 0, 0, 0, 0), (16, .invokevirtual 231, 3, 9990, 1, 918, 2), (19, .ifCond .ne 6, 3, 0, 0, 0, 0), (22, .bipush (-2), 2, 0, 0, 0, 0), (24, .ireturn, 1, 0, 0, 0, 0), (25, .aload_n 0, 1, 0, 0, 0, 0), (26, .getfield 19, 3, 11, 1, 470, 2), (29, .iload_n 1, 1, 0, 0, 0, 0), (30, .iload_n 2, 1, 0, 0, 0, 0), (31, .invokevirtual 234, 3, 9990, 2, 922, 2), (34, .ireturn, 1, 0, 0, 0, 0)]
set_option maxRecDepth 100000 in
noncomputable def xt_60 : List xv_E := [(0, .aload_n 0, 1, 0, 0, 0, 0), (1, .getfield 19, 3, 11, 1, 470, 2), (4, .iload_n 1, 1, 0, 0, 0, 0), (5, .invokevirtual 136, 3, 9, 1, 702, 2), (8, .ifCond .eq 14, 3, 0, 0, 0, 0), (11, .aload_n 0, 1, 0, 0, 0, 0), (12, .getfield 19, 3, 11, 1, 470, 2), (15, .iload_n 1, 1, 0, 0, 0, 0), (16, .invokevirtual 237, 3, 9990, 1, 930, 2), (19, .goto 5, 3, 0, 0, 0, 0), (22, .bipush (-2), 2, 0, 0, 0, 0), (24, .ireturn, 1, 0, 0, 0, 0)]
set_option maxRecDepth 100000 in
noncomputable def xt_61 : List xv_E := [(0, .aload_n 0, 1, 0, 0, 0, 0), (1, .getfield 19, 3, 11, 1, 470, 2), (4, .invokevirtual 189, 3, 7, 0, 798, 2), (7, .ifCond .eq 8, 3, 0, 0, 0, 0), (10, .bipush (-2), 2, 0, 0, 0, 0), (12, .goto 10, 3, 0, 0, 0, 0), (15, .aload_n 0, 1, 0, 0, 0, 0), (16, .getfield 19, 3, 11, 1, 470, 2), (19, .invokevirtual 240, 3, 9990, 0, 939, 2), (22, .ireturn, 1, 0, 0, 0, 0)]
set_option maxRecDepth 100000 in
noncomputable def xt_62 : List xv_E := [(0, .aload_n 0, 1, 0, 0, 0, 0), (1, .getfield 19, 3, 11, 1, 470, 2), (4, .invokevirtual 189, 3, 7, 0, 798, 2), (7, .ifCond .eq 6, 3, 0, 0, 0, 0), (10, .bipush (-2), 2, 0, 0, 0, 0), (12, .ireturn, 1, 0, 0, 0, 0), (13, .aload_n 0, 1, 0, 0, 0, 0), (14, .getfield 23, 3, 11, 2, 471, 2), (17, .aload_n 0, 1, 0, 0, 0, 0), (18, .getfield 19, 3, 11, 1, 470, 2), (21, .invokevirtual 116, 3, 6, 1, 675, 2), (24, .aload_n 0, 1, 0, 0, 0, 0), (25, .getfield 23, 3, 11, 2, 471, 2), (28, .invokevirtual 244, 3, 9990, 0, 948, 2), (31, .ireturn, 1, 0, 0, 0, 0)]
set_option maxRecDepth 100000 in
noncomputable def xt_63 : List xv_E := [(0, .aload_n 0, 1, 0, 0, 0, 0), (1, .getfield 19, 3, 11, 1, 470, 2), (4, .iload_n 1, 1, 0, 0, 0, 0), (5, .invokevirtual 136, 3, 9, 1, 702, 2), (8, .ifCond .ne 6, 3, 0, 0, 0, 0), (11, .bipush (-2), 2, 0, 0, 0, 0), (13, .ireturn, 1, 0, 0, 0, 0), (14, .aload_n 0, 1, 0, 0, 0, 0), (15, .getfield 23, 3, 11, 2, 471, 2), (18, .aload_n 0, 1, 0, 0, 0, 0), (19, .getfield 19, 3, 11, 1, 470, 2), (22, .invokevirtual 116, 3, 6, 1, 675, 2), (25, .aload_n 0, 1, 0, 0, 0, 0), (26, .getfield 23, 3, 11, 2, 471, 2), (29, .invokevirtual 244, 3, 9990, 0, 948, 2), (32, .iconst (-1), 1, 0, 0, 0, 0), (33, .if_icmp .ne 7, 3, 0, 0, 0, 0), (36, .iconst (-1), 1, 0, 0, 0, 0), (37, .goto 12, 3, 0, 0, 0, 0), (40, .aload_n 0, 1, 0, 0, 0, 0), (41, .getfield 23, 3, 11, 2, 471, 2), (44, .getfield 142, 3, 2, 8, 177, 2), (47, .iload_n 1, 1, 0, 0, 0, 0), (48, .iaload, 1, 0, 0, 0, 0), (49, .ireturn, 1, 0, 0, 0, 0)]
set_option maxRecDepth 100000 in
noncomputable def xt_64 : List xv_E := [(0, .aload_n 0, 1, 0, 0, 0, 0), (1, .getfield 19, 3, 11, 1, 470, 2), (4, .invokevirtual 189, 3, 7, 0, 798, 2), (7, .ifCond .eq 6, 3, 0, 0, 0, 0), (10, .bipush (-2), 2, 0, 0, 0, 0), (12, .ireturn, 1, 0, 0, 0, 0), (13, .aload_n 0, 1, 0, 0, 0, 0), (14, .getfield 68, 3, 11, 8, 477, 2), (17, .aload_n 0, 1, 0, 0, 0, 0), (18, .getfield 19, 3, 11, 1, 470, 2), (21, .invokevirtual 247, 3, 9990, 1, 965, 10), (24, .aload_n 0, 1, 0, 0, 0, 0), (25, .getfield 68, 3, 11, 8, 477, 2), (28, .invokevirtual 250, 3, 9990, 0, 970, 10), (31, .ireturn, 1, 0, 0, 0, 0)]
set_option maxRecDepth 100000 in
noncomputable def xt_65 : List xv_E := [(0, .aload_n 0, 1, 0, 0, 0, 0), (1, .getfield 19, 3, 11, 1, 470, 2), (4, .invokevirtual 189, 3, 7, 0, 798, 2), (7, .ifCond .ne 12, 3, 0, 0, 0, 0), (10, .iload_n 1, 1, 0, 0, 0, 0), (11, .ifCond .lt 8, 3, 0, 0, 0, 0), (14, .iload_n 1, 1, 0, 0, 0, 0), (15, .iconst 1, 1, 0, 0, 0, 0), (16, .if_icmp .le 6, 3, 0, 0, 0, 0), (19, .bipush (-2), 2, 0, 0, 0, 0), (21, .ireturn, 1, 0, 0, 0, 0), (22, .aload_n 0, 1, 0, 0, 0, 0), (23, .getfield 68, 3, 11, 8, 477, 2), (26, .aload_n 0, 1, 0, 0, 0, 0), (27, .getfield 19, 3, 11, 1, 470, 2), (30, .invokevirtual 247, 3, 9990, 1, 965, 10), (33, .aload_n 0, 1, 0, 0, 0, 0), (34, .getfield 68, 3, 11, 8, 477, 2), (37, .invokevirtual 253, 3, 9990, 0, 982, 10), (40, .iload_n 1, 1, 0, 0, 0, 0), (41, .ifCond .ne 13, 3, 0, 0, 0, 0), (44, .aload_n 0, 1, 0, 0, 0, 0), (45, .getfield 68, 3, 11, 8, 477, 2), (48, .getfield 256, 3, 10, 0, 412, 0), (51, .goto 10, 3, 0, 0, 0, 0), (54, .aload_n 0, 1, 0, 0, 0, 0), (55, .getfield 68, 3, 11, 8, 477, 2), (58, .getfield 259, 3, 10, 1, 414, 0), (61, .ireturn, 1, 0, 0, 0, 0)]
set_option maxRecDepth 100000 in
noncomputable def xt_66 : List xv_E := [(0, .aload_n 0, 1, 0, 0, 0, 0), (1, .getfield 19, 3, 11, 1, 470, 2), (4, .invokevirtual 189, 3, 7, 0, 798, 2), (7, .ifCond .eq 6, 3, 0, 0, 0, 0), (10, .bipush (-2), 2, 0, 0, 0, 0), (12, .ireturn, 1, 0, 0, 0, 0), (13, .iconst 0, 1, 0, 0, 0, 0), (14, .istore_n 1, 1, 0, 0, 0, 0), (15, .iconst 0, 1, 0, 0, 0, 0), (16, .istore_n 2, 1, 0, 0, 0, 0), (17, .iload_n 2, 1, 0, 0, 0, 0), (18, .aload_n 0, 1, 0, 0, 0, 0), (19, .getfield 19, 3, 11, 1, 470, 2), (22, .getfield 192, 3, 2, 5, 166, 0), (25, .if_icmp .ge 42, 3, 0, 0, 0, 0), (28, .iload_n 2, 1, 0, 0, 0, 0), (29, .iconst 1, 1, 0, 0, 0, 0), (30, .iadd, 1, 0, 0, 0, 0), (31, .istore_n 3, 1, 0, 0, 0, 0), (32, .iload_n 3, 1, 0, 0, 0, 0), (33, .aload_n 0, 1, 0, 0, 0, 0), (34, .getfield 19, 3, 11, 1, 470, 2), (37, .getfield 192, 3, 2, 5, 166, 0), (40, .if_icmp .ge 21, 3, 0, 0, 0, 0), (43, .aload_n 0, 1, 0, 0, 0, 0), (44, .iload_n 2, 1, 0, 0, 0, 0), (45, .iload_n 3, 1, 0, 0, 0, 0), (46, .invokevirtual 262, 3, 9990, 2, 999, 11), (49, .ifCond .eq 6, 3, 0, 0, 0, 0), (52, .iinc 1 1, 3, 0, 0, 0, 0), (55, .iinc 3 1, 3, 0, 0, 0, 0), (58, .goto (-26), 3, 0, 0, 0, 0), (61, .iinc 2 1, 3, 0, 0, 0, 0), (64, .goto (-47), 3, 0, 0, 0, 0), (67, .iload_n 1, 1, 0, 0, 0, 0), (68, .ireturn, 1, 0, 0, 0, 0)]
set_option maxRecDepth 100000 in
noncomputable def xt_67 : List xv_E := [(0, .aload_n 0, 1, 0, 0, 0, 0), (1, .getfield 19, 3, 11, 1, 470, 2), (4, .invokevirtual 189, 3, 7, 0, 798, 2), (7, .ifCond .eq 6, 3, 0, 0, 0, 0), (10, .bipush (-2), 2, 0, 0, 0, 0), (12, .ireturn, 1, 0, 0, 0, 0), (13, .aload_n 0, 1, 0, 0, 0, 0), (14, .getfield 75, 3, 11, 9, 478, 2), (17, .invokevirtual 266, 3, 9990, 0, 1007, 3), (20, .aload_n 0, 1, 0, 0, 0, 0), (21, .getfield 75, 3, 11, 9, 478, 2), (24, .getfield 267, 3, 3, 1, 443, 2), (27, .iconst 0, 1, 0, 0, 0, 0), (28, .iaload, 1, 0, 0, 0, 0), (29, .ireturn, 1, 0, 0, 0, 0)]
set_option maxRecDepth 100000 in
noncomputable def xt_68 : List xv_E := [(0, .aload_n 0, 1, 0, 0, 0, 0), (1, .getfield 19, 3, 11, 1, 470, 2), (4, .iload_n 1, 1, 0, 0, 0, 0), (5, .invokevirtual 136, 3, 9, 1, 702, 2), (8, .ifCond .ne 6, 3, 0, 0, 0, 0), (11, .bipush (-2), 2, 0, 0, 0, 0), (13, .ireturn, 1, 0, 0, 0, 0), (14, .aload_n 0, 1, 0, 0, 0, 0), (15, .getfield 75, 3, 11, 9, 478, 2), (18, .invokevirtual 266, 3, 9990, 0, 1007, 3), (21, .aload_n 0, 1, 0, 0, 0, 0), (22, .getfield 75, 3, 11, 9, 478, 2), (25, .iload_n 1, 1, 0, 0, 0, 0), (26, .invokevirtual 268, 3, 9990, 1, 1029, 3), (29, .ireturn, 1, 0, 0, 0, 0)]
set_option maxRecDepth 100000 in
noncomputable def xt_69 : List xv_E := [(0, .aload_n 0, 1, 0, 0, 0, 0), (1, .iload_n 1, 1, 0, 0, 0, 0), (2, .iload_n 2, 1, 0, 0, 0, 0), (3, .invokevirtual 271, 3, 74, 2, 1044, 11), (6, .istore_n 3, 1, 0, 0, 0, 0), (7, .iload_n 3, 1, 0, 0, 0, 0), (8, .ifCond .ne 13, 3, 0, 0, 0, 0), (11, .aload_n 0, 1, 0, 0, 0, 0), (12, .getfield 61, 3, 11, 7, 476, 2), (15, .invokevirtual 274, 3, 9990, 0, 1092, 9), (18, .goto 4, 3, 0, 0, 0, 0), (21, .iload_n 3, 1, 0, 0, 0, 0), (22, .ireturn, 1, 0, 0, 0, 0)]
set_option maxRecDepth 100000 in
noncomputable def xt_70 : List xv_E := [(0, .aload_n 0, 1, 0, 0, 0, 0), (1, .iload_n 1, 1, 0, 0, 0, 0), (2, .iload_n 2, 1, 0, 0, 0, 0), (3, .invokevirtual 271, 3, 74, 2, 1044, 11), (6, .istore_n 3, 1, 0, 0, 0, 0), (7, .iload_n 3, 1, 0, 0, 0, 0), (8, .ifCond .ne 13, 3, 0, 0, 0, 0), (11, .aload_n 0, 1, 0, 0, 0, 0), (12, .getfield 61, 3, 11, 7, 476, 2), (15, .getfield 277, 3, 9, 1, 387, 0), (18, .goto 4, 3, 0, 0, 0, 0), (21, .iload_n 3, 1, 0, 0, 0, 0), (22, .ireturn, 1, 0, 0, 0, 0)]
set_option maxRecDepth 100000 in
noncomputable def xt_71 : List xv_E := [(0, .aload_n 0, 1, 0, 0, 0, 0), (1, .getfield 19, 3, 11, 1, 470, 2), (4, .iload_n 3, 1, 0, 0, 0, 0), (5, .invokevirtual 136, 3, 9, 1, 702, 2), (8, .ifCond .eq 16, 3, 0, 0, 0, 0), (11, .aload_n 0, 1, 0, 0, 0, 0), (12, .getfield 19, 3, 11, 1, 470, 2), (15, .getfield 145, 3, 2, 9, 183, 2), (18, .iload_n 3, 1, 0, 0, 0, 0), (19, .iaload, 1, 0, 0, 0, 0), (20, .iload_n 2, 1, 0, 0, 0, 0), (21, .if_icmp .eq 6, 3, 0, 0, 0, 0), (24, .bipush (-2), 2, 0, 0, 0, 0), (26, .ireturn, 1, 0, 0, 0, 0), (27, .aload_n 0, 1, 0, 0, 0, 0), (28, .iload_n 1, 1, 0, 0, 0, 0), (29, .iload_n 2, 1, 0, 0, 0, 0), (30, .invokevirtual 271, 3, 74, 2, 1044, 11), (33, .istore 4, 2, 0, 0, 0, 0), (35, .iload 4, 2, 0, 0, 0, 0), (37, .ifCond .ne 14, 3, 0, 0, 0, 0), (40, .aload_n 0, 1, 0, 0, 0, 0), (41, .getfield 61, 3, 11, 7, 476, 2), (44, .iload_n 3, 1, 0, 0, 0, 0), (45, .invokevirtual 280, 3, 9990, 1, 1104, 9), (48, .goto 5, 3, 0, 0, 0, 0), (51, .iload 4, 2, 0, 0, 0, 0), (53, .ireturn, 1, 0, 0, 0, 0)]
set_option maxRecDepth 100000 in
noncomputable def xt_72 : List xv_E := [(0, .aload_n 0, 1, 0, 0, 0, 0), (1, .iload_n 1, 1, 0, 0, 0, 0), (2, .iload_n 2, 1, 0, 0, 0, 0), (3, .invokevirtual 271, 3, 74, 2, 1044, 11), (6, .istore_n 3, 1, 0, 0, 0, 0), (7, .iload_n 3, 1, 0, 0, 0, 0), (8, .ifCond .ne 13, 3, 0, 0, 0, 0), (11, .aload_n 0, 1, 0, 0, 0, 0), (12, .getfield 61, 3, 11, 7, 476, 2), (15, .invokevirtual 283, 3, 9990, 0, 1112, 9), (18, .goto 4, 3, 0, 0, 0, 0), (21, .iload_n 3, 1, 0, 0, 0, 0), (22, .ireturn, 1, 0, 0, 0, 0)]
set_option maxRecDepth 100000 in
noncomputable def xt_73 : List xv_E := [(0, .aload_n 0, 1, 0, 0, 0, 0), (1, .iload_n 1, 1, 0, 0, 0, 0), (2, .iload_n 2, 1, 0, 0, 0, 0), (3, .invokevirtual 271, 3, 74, 2, 1044, 11), (6, .istore_n 3, 1, 0, 0, 0, 0), (7, .iload_n 3, 1, 0, 0, 0, 0), (8, .ifCond .eq 5, 3, 0, 0, 0, 0), (11, .iload_n 3, 1, 0, 0, 0, 0), (12, .ireturn, 1, 0, 0, 0, 0), (13, .aload_n 0, 1, 0, 0, 0, 0), (14, .getfield 61, 3, 11, 7, 476, 2), (17, .invokevirtual 283, 3, 9990, 0, 1112, 9), (20, .istore 4, 2, 0, 0, 0, 0), (22, .iload 4, 2, 0, 0, 0, 0), (24, .iconst (-1), 1, 0, 0, 0, 0), (25, .if_icmp .ne 13, 3, 0, 0, 0, 0), (28, .aload_n 0, 1, 0, 0, 0, 0), (29, .getfield 61, 3, 11, 7, 476, 2), (32, .invokevirtual 274, 3, 9990, 0, 1092, 9), (35, .goto 12, 3, 0, 0, 0, 0), (38, .aload_n 0, 1, 0, 0, 0, 0), (39, .getfield 61, 3, 11, 7, 476, 2), (42, .iload 4, 2, 0, 0, 0, 0), (44, .invokevirtual 286, 3, 9990, 1, 1126, 9), (47, .ireturn, 1, 0, 0, 0, 0)]
set_option maxRecDepth 100000 in
noncomputable def xt_74 : List xv_E := [(0, .aload_n 0, 1, 0, 0, 0, 0), (1, .getfield 36, 3, 11, 4, 473, 2), (4, .iload_n 1, 1, 0, 0, 0, 0), (5, .invokevirtual 289, 3, 22, 1, 1048, 8), (8, .ifCond .eq 14, 3, 0, 0, 0, 0), (11, .aload_n 0, 1, 0, 0, 0, 0), (12, .getfield 19, 3, 11, 1, 470, 2), (15, .iload_n 2, 1, 0, 0, 0, 0), (16, .invokevirtual 161, 3, 10, 1, 727, 2), (19, .ifCond .ne 6, 3, 0, 0, 0, 0), (22, .bipush (-2), 2, 0, 0, 0, 0), (24, .ireturn, 1, 0, 0, 0, 0), (25, .aload_n 0, 1, 0, 0, 0, 0), (26, .getfield 36, 3, 11, 4, 473, 2), (29, .iload_n 1, 1, 0, 0, 0, 0), (30, .invokevirtual 292, 3, 23, 1, 1052, 8), (33, .ifCond .ne 6, 3, 0, 0, 0, 0), (36, .bipush (-6), 2, 0, 0, 0, 0), (38, .ireturn, 1, 0, 0, 0, 0), (39, .aload_n 0, 1, 0, 0, 0, 0), (40, .getfield 45, 3, 11, 5, 474, 2), (43, .iload_n 2, 1, 0, 0, 0, 0), (44, .invokevirtual 225, 3, 9990, 1, 853, 1), (47, .aload_n 0, 1, 0, 0, 0, 0), (48, .getfield 61, 3, 11, 7, 476, 2), (51, .aload_n 0, 1, 0, 0, 0, 0), (52, .getfield 36, 3, 11, 4, 473, 2), (55, .iload_n 1, 1, 0, 0, 0, 0), (56, .invokevirtual 295, 3, 9990, 2, 1057, 9), (59, .ifCond .ne 6, 3, 0, 0, 0, 0), (62, .bipush (-2), 2, 0, 0, 0, 0), (64, .ireturn, 1, 0, 0, 0, 0), (65, .aload_n 0, 1, 0, 0, 0, 0), (66, .getfield 61, 3, 11, 7, 476, 2), (69, .invokevirtual 299, 3, 9990, 0, 1073, 9), (72, .iconst 0, 1, 0, 0, 0, 0), (73, .ireturn, 1, 0, 0, 0, 0)]
set_option maxRecDepth 100000 in
noncomputable def xt_75 : List xv_E := [(0, .aload_n 0, 1, 0, 0, 0, 0), (1, .iload_n 1, 1, 0, 0, 0, 0), (2, .iload_n 2, 1, 0, 0, 0, 0), (3, .iconst 1, 1, 0, 0, 0, 0), (4, .iload_n 3, 1, 0, 0, 0, 0), (5, .invokevirtual 302, 3, 77, 4, 1131, 11), (8, .lreturn, 1, 0, 0, 0, 0)]
set_option maxRecDepth 100000 in
noncomputable def xt_76 : List xv_E := [(0, .aload_n 0, 1, 0, 0, 0, 0), (1, .getfield 19, 3, 11, 1, 470, 2), (4, .iload_n 1, 1, 0, 0, 0, 0), (5, .invokevirtual 136, 3, 9, 1, 702, 2), (8, .ifCond .ne 6, 3, 0, 0, 0, 0), (11, .bipush (-2), 2, 0, 0, 0, 0), (13, .ireturn, 1, 0, 0, 0, 0), (14, .iconst (-1), 1, 0, 0, 0, 0), (15, .istore_n 2, 1, 0, 0, 0, 0), (16, .iconst 0, 1, 0, 0, 0, 0), (17, .istore_n 3, 1, 0, 0, 0, 0), (18, .iload_n 3, 1, 0, 0, 0, 0), (19, .iconst 4, 1, 0, 0, 0, 0), (20, .if_icmp .ge 98, 3, 0, 0, 0, 0), (23, .aload_n 0, 1, 0, 0, 0, 0), (24, .getfield 36, 3, 11, 4, 473, 2), (27, .iload_n 3, 1, 0, 0, 0, 0), (28, .invokevirtual 292, 3, 23, 1, 1052, 8), (31, .ifCond .eq 81, 3, 0, 0, 0, 0), (34, .aload_n 0, 1, 0, 0, 0, 0), (35, .getfield 36, 3, 11, 4, 473, 2), (38, .iload_n 3, 1, 0, 0, 0, 0), (39, .aload_n 0, 1, 0, 0, 0, 0), (40, .getfield 19, 3, 11, 1, 470, 2), (43, .getfield 306, 3, 2, 4, 159, 0), (46, .invokevirtual 309, 3, 9990, 2, 1140, 8), (49, .ifCond .eq 63, 3, 0, 0, 0, 0), (52, .aload_n 0, 1, 0, 0, 0, 0), (53, .getfield 82, 3, 11, 10, 479, 2), (56, .aload_n 0, 1, 0, 0, 0, 0), (57, .getfield 36, 3, 11, 4, 473, 2), (60, .iload_n 3, 1, 0, 0, 0, 0), (61, .aload_n 0, 1, 0, 0, 0, 0), (62, .getfield 19, 3, 11, 1, 470, 2), (65, .iload_n 1, 1, 0, 0, 0, 0), (66, .iconst 1, 1, 0, 0, 0, 0), (67, .invokevirtual 312, 3, 9990, 5, 1145, 5), (70, .iload_n 2, 1, 0, 0, 0, 0), (71, .iconst (-1), 1, 0, 0, 0, 0), (72, .if_icmp .eq 17, 3, 0, 0, 0, 0), (75, .aload_n 0, 1, 0, 0, 0, 0), (76, .getfield 82, 3, 11, 10, 479, 2), (79, .aload_n 0, 1, 0, 0, 0, 0), (80, .getfield 86, 3, 11, 11, 480, 2), (83, .invokevirtual 316, 3, 9990, 1, 1161, 5), (86, .ifCond .eq 26, 3, 0, 0, 0, 0), (89, .aload_n 0, 1, 0, 0, 0, 0), (90, .getfield 86, 3, 11, 11, 480, 2), (93, .aload_n 0, 1, 0, 0, 0, 0), (94, .getfield 82, 3, 11, 10, 479, 2), (97, .getfield 320, 3, 5, 0, 459, 1), (100, .aload_n 0, 1, 0, 0, 0, 0), (101, .getfield 82, 3, 11, 10, 479, 2), (104, .getfield 324, 3, 5, 1, 461, 1), (107, .invokevirtual 327, 3, 9990, 2, 1165, 5), (110, .iload_n 3, 1, 0, 0, 0, 0), (111, .istore_n 2, 1, 0, 0, 0, 0), (112, .iinc 3 1, 3, 0, 0, 0, 0), (115, .goto (-97), 3, 0, 0, 0, 0), (118, .iload_n 2, 1, 0, 0, 0, 0), (119, .ireturn, 1, 0, 0, 0, 0)]
set_option maxRecDepth 100000 in
noncomputable def xt_77 : List xv_E := [(0, .iload 4, 2, 0, 0, 0, 0), (2, .ifCond .lt 9, 3, 0, 0, 0, 0), (5, .iload 4, 2, 0, 0, 0, 0), (7, .iconst 1, 1, 0, 0, 0, 0), (8, .if_icmp .le 7, 3, 0, 0, 0, 0), (11, .ldc2_w 331, 3, 0, 0, 1135, (-2)), (14, .lreturn, 1, 0, 0, 0, 0), (15, .aload_n 0, 1, 0, 0, 0, 0), (16, .iload_n 1, 1, 0, 0, 0, 0), (17, .iload_n 2, 1, 0, 0, 0, 0), (18, .iload_n 3, 1, 0, 0, 0, 0), (19, .invokevirtual 333, 3, 79, 3, 1136, 11), (22, .istore 5, 2, 0, 0, 0, 0), (24, .iload 5, 2, 0, 0, 0, 0), (26, .ifCond .eq 7, 3, 0, 0, 0, 0), (29, .iload 5, 2, 0, 0, 0, 0), (31, .i2l, 1, 0, 0, 0, 0), (32, .lreturn, 1, 0, 0, 0, 0), (33, .aload_n 0, 1, 0, 0, 0, 0), (34, .getfield 82, 3, 11, 10, 479, 2), (37, .aload_n 0, 1, 0, 0, 0, 0), (38, .getfield 36, 3, 11, 4, 473, 2), (41, .iload_n 1, 1, 0, 0, 0, 0), (42, .aload_n 0, 1, 0, 0, 0, 0), (43, .getfield 19, 3, 11, 1, 470, 2), (46, .iload_n 2, 1, 0, 0, 0, 0), (47, .iload_n 3, 1, 0, 0, 0, 0), (48, .invokevirtual 312, 3, 9990, 5, 1145, 5), (51, .iload 4, 2, 0, 0, 0, 0), (53, .ifCond .ne 13, 3, 0, 0, 0, 0), (56, .aload_n 0, 1, 0, 0, 0, 0), (57, .getfield 82, 3, 11, 10, 479, 2), (60, .getfield 320, 3, 5, 0, 459, 1), (63, .goto 10, 3, 0, 0, 0, 0), (66, .aload_n 0, 1, 0, 0, 0, 0), (67, .getfield 82, 3, 11, 10, 479, 2), (70, .getfield 324, 3, 5, 1, 461, 1), (73, .lreturn, 1, 0, 0, 0, 0)]
set_option maxRecDepth 100000 in
noncomputable def xt_78 : List xv_E := [(0, .aload_n 0, 1, 0, 0, 0, 0), (1, .iload_n 1, 1, 0, 0, 0, 0), (2, .iload_n 2, 1, 0, 0, 0, 0), (3, .iload_n 3, 1, 0, 0, 0, 0), (4, .invokevirtual 333, 3, 79, 3, 1136, 11), (7, .istore 4, 2, 0, 0, 0, 0), (9, .iload 4, 2, 0, 0, 0, 0), (11, .ifCond .eq 6, 3, 0, 0, 0, 0), (14, .iload 4, 2, 0, 0, 0, 0), (16, .ireturn, 1, 0, 0, 0, 0), (17, .iload_n 3, 1, 0, 0, 0, 0), (18, .iconst 1, 1, 0, 0, 0, 0), (19, .if_icmp .ne 7, 3, 0, 0, 0, 0), (22, .ldc_w 337, 3, 0, 0, 1171, 1000000), (25, .ireturn, 1, 0, 0, 0, 0), (26, .aload_n 0, 1, 0, 0, 0, 0), (27, .getfield 82, 3, 11, 10, 479, 2), (30, .aload_n 0, 1, 0, 0, 0, 0), (31, .getfield 36, 3, 11, 4, 473, 2), (34, .iload_n 1, 1, 0, 0, 0, 0), (35, .aload_n 0, 1, 0, 0, 0, 0), (36, .getfield 19, 3, 11, 1, 470, 2), (39, .iload_n 2, 1, 0, 0, 0, 0), (40, .iload_n 3, 1, 0, 0, 0, 0), (41, .iconst 1, 1, 0, 0, 0, 0), (42, .isub, 1, 0, 0, 0, 0), (43, .invokevirtual 312, 3, 9990, 5, 1145, 5), (46, .aload_n 0, 1, 0, 0, 0, 0), (47, .getfield 82, 3, 11, 10, 479, 2), (50, .invokevirtual 338, 3, 9990, 0, 1172, 5), (53, .ireturn, 1, 0, 0, 0, 0)]
set_option maxRecDepth 100000 in
noncomputable def xt_79 : List xv_E := [(0, .aload_n 0, 1, 0, 0, 0, 0), (1, .getfield 36, 3, 11, 4, 473, 2), (4, .iload_n 1, 1, 0, 0, 0, 0), (5, .invokevirtual 289, 3, 22, 1, 1048, 8), (8, .ifCond .eq 24, 3, 0, 0, 0, 0), (11, .aload_n 0, 1, 0, 0, 0, 0), (12, .getfield 19, 3, 11, 1, 470, 2), (15, .iload_n 2, 1, 0, 0, 0, 0), (16, .invokevirtual 136, 3, 9, 1, 702, 2), (19, .ifCond .eq 13, 3, 0, 0, 0, 0), (22, .iload_n 3, 1, 0, 0, 0, 0), (23, .iconst 1, 1, 0, 0, 0, 0), (24, .if_icmp .lt 8, 3, 0, 0, 0, 0), (27, .iload_n 3, 1, 0, 0, 0, 0), (28, .iconst 5, 1, 0, 0, 0, 0), (29, .if_icmp .le 6, 3, 0, 0, 0, 0), (32, .bipush (-2), 2, 0, 0, 0, 0), (34, .ireturn, 1, 0, 0, 0, 0), (35, .aload_n 0, 1, 0, 0, 0, 0), (36, .getfield 36, 3, 11, 4, 473, 2), (39, .iload_n 1, 1, 0, 0, 0, 0), (40, .invokevirtual 292, 3, 23, 1, 1052, 8), (43, .ifCond .ne 6, 3, 0, 0, 0, 0), (46, .bipush (-6), 2, 0, 0, 0, 0), (48, .ireturn, 1, 0, 0, 0, 0), (49, .aload_n 0, 1, 0, 0, 0, 0), (50, .getfield 36, 3, 11, 4, 473, 2), (53, .iload_n 1, 1, 0, 0, 0, 0), (54, .aload_n 0, 1, 0, 0, 0, 0), (55, .getfield 19, 3, 11, 1, 470, 2), (58, .getfield 306, 3, 2, 4, 159, 0), (61, .invokevirtual 309, 3, 9990, 2, 1140, 8), (64, .ifCond .eq 7, 3, 0, 0, 0, 0), (67, .iconst 0, 1, 0, 0, 0, 0), (68, .goto 5, 3, 0, 0, 0, 0), (71, .bipush (-2), 2, 0, 0, 0, 0), (73, .ireturn, 1, 0, 0, 0, 0)]
set_option maxRecDepth 100000 in
noncomputable def xt_80 : List xv_E := [(0, .aload_n 0, 1, 0, 0, 0, 0), (1, .getfield 19, 3, 11, 1, 470, 2), (4, .iload_n 1, 1, 0, 0, 0, 0), (5, .invokevirtual 136, 3, 9, 1, 702, 2), (8, .ifCond .ne 6, 3, 0, 0, 0, 0), (11, .bipush (-2), 2, 0, 0, 0, 0), (13, .ireturn, 1, 0, 0, 0, 0), (14, .aload_n 0, 1, 0, 0, 0, 0), (15, .getfield 29, 3, 11, 3, 472, 2), (18, .iload_n 1, 1, 0, 0, 0, 0), (19, .invokevirtual 341, 3, 9990, 1, 1180, 0), (22, .ifCond .ne 13, 3, 0, 0, 0, 0), (25, .aload_n 0, 1, 0, 0, 0, 0), (26, .getfield 29, 3, 11, 3, 472, 2), (29, .invokevirtual 344, 3, 9990, 0, 1184, 0), (32, .ifCond .eq 6, 3, 0, 0, 0, 0), (35, .bipush (-5), 2, 0, 0, 0, 0), (37, .ireturn, 1, 0, 0, 0, 0), (38, .aload_n 0, 1, 0, 0, 0, 0), (39, .getfield 29, 3, 11, 3, 472, 2), (42, .aload_n 0, 1, 0, 0, 0, 0), (43, .getfield 19, 3, 11, 1, 470, 2), (46, .iload_n 1, 1, 0, 0, 0, 0), (47, .invokevirtual 347, 3, 9990, 2, 1188, 0), (50, .ireturn, 1, 0, 0, 0, 0)]
set_option maxRecDepth 100000 in
noncomputable def xt_81 : List xv_E := [(0, .aload_n 0, 1, 0, 0, 0, 0), (1, .getfield 19, 3, 11, 1, 470, 2), (4, .iload_n 1, 1, 0, 0, 0, 0), (5, .invokevirtual 136, 3, 9, 1, 702, 2), (8, .ifCond .eq 19, 3, 0, 0, 0, 0), (11, .aload_n 0, 1, 0, 0, 0, 0), (12, .getfield 19, 3, 11, 1, 470, 2), (15, .iload_n 2, 1, 0, 0, 0, 0), (16, .invokevirtual 136, 3, 9, 1, 702, 2), (19, .ifCond .eq 8, 3, 0, 0, 0, 0), (22, .iload_n 1, 1, 0, 0, 0, 0), (23, .iload_n 2, 1, 0, 0, 0, 0), (24, .if_icmp .ne 6, 3, 0, 0, 0, 0), (27, .bipush (-2), 2, 0, 0, 0, 0), (29, .ireturn, 1, 0, 0, 0, 0), (30, .aload_n 0, 1, 0, 0, 0, 0), (31, .getfield 29, 3, 11, 3, 472, 2), (34, .iload_n 1, 1, 0, 0, 0, 0), (35, .invokevirtual 341, 3, 9990, 1, 1180, 0), (38, .ifCond .eq 24, 3, 0, 0, 0, 0), (41, .aload_n 0, 1, 0, 0, 0, 0), (42, .getfield 29, 3, 11, 3, 472, 2), (45, .iload_n 2, 1, 0, 0, 0, 0), (46, .invokevirtual 341, 3, 9990, 1, 1180, 0), (49, .ifCond .eq 13, 3, 0, 0, 0, 0), (52, .aload_n 0, 1, 0, 0, 0, 0), (53, .getfield 29, 3, 11, 3, 472, 2), (56, .invokevirtual 344, 3, 9990, 0, 1184, 0), (59, .ifCond .eq 6, 3, 0, 0, 0, 0), (62, .bipush (-5), 2, 0, 0, 0, 0), (64, .ireturn, 1, 0, 0, 0, 0), (65, .aload_n 0, 1, 0, 0, 0, 0), (66, .getfield 29, 3, 11, 3, 472, 2), (69, .iload_n 1, 1, 0, 0, 0, 0), (70, .iload_n 2, 1, 0, 0, 0, 0), (71, .invokevirtual 351, 3, 9990, 2, 1200, 0), (74, .iconst 0, 1, 0, 0, 0, 0), (75, .ireturn, 1, 0, 0, 0, 0)]
set_option maxRecDepth 100000 in
noncomputable def xt_82 : List xv_E := [(0, .aload_n 0, 1, 0, 0, 0, 0), (1, .getfield 19, 3, 11, 1, 470, 2), (4, .iload_n 1, 1, 0, 0, 0, 0), (5, .invokevirtual 161, 3, 10, 1, 727, 2), (8, .ifCond .eq 15, 3, 0, 0, 0, 0), (11, .aload_n 0, 1, 0, 0, 0, 0), (12, .getfield 29, 3, 11, 3, 472, 2), (15, .getfield 355, 3, 0, 2, 267, 2), (18, .iload_n 1, 1, 0, 0, 0, 0), (19, .iaload, 1, 0, 0, 0, 0), (20, .goto 5, 3, 0, 0, 0, 0), (23, .bipush (-2), 2, 0, 0, 0, 0), (25, .ireturn, 1, 0, 0, 0, 0)]
set_option maxRecDepth 100000 in
noncomputable def xt_83 : List xv_E := [(0, .aload_n 0, 1, 0, 0, 0, 0), (1, .getfield 19, 3, 11, 1, 470, 2), (4, .iload_n 1, 1, 0, 0, 0, 0), (5, .invokevirtual 136, 3, 9, 1, 702, 2), (8, .ifCond .ne 6, 3, 0, 0, 0, 0), (11, .bipush (-2), 2, 0, 0, 0, 0), (13, .ireturn, 1, 0, 0, 0, 0), (14, .aload_n 0, 1, 0, 0, 0, 0), (15, .getfield 29, 3, 11, 3, 472, 2), (18, .iload_n 1, 1, 0, 0, 0, 0), (19, .invokevirtual 341, 3, 9990, 1, 1180, 0), (22, .ifCond .eq 15, 3, 0, 0, 0, 0), (25, .aload_n 0, 1, 0, 0, 0, 0), (26, .getfield 29, 3, 11, 3, 472, 2), (29, .getfield 358, 3, 0, 3, 269, 2), (32, .iload_n 1, 1, 0, 0, 0, 0), (33, .iaload, 1, 0, 0, 0, 0), (34, .goto 5, 3, 0, 0, 0, 0), (37, .bipush (-3), 2, 0, 0, 0, 0), (39, .ireturn, 1, 0, 0, 0, 0)]
set_option maxRecDepth 100000 in
noncomputable def xt_84 : List xv_E := [(0, .aload_n 0, 1, 0, 0, 0, 0), (1, .getfield 19, 3, 11, 1, 470, 2), (4, .invokevirtual 189, 3, 7, 0, 798, 2), (7, .ifCond .eq 8, 3, 0, 0, 0, 0), (10, .bipush (-2), 2, 0, 0, 0, 0), (12, .goto 10, 3, 0, 0, 0, 0), (15, .aload_n 0, 1, 0, 0, 0, 0), (16, .getfield 29, 3, 11, 3, 472, 2), (19, .getfield 361, 3, 0, 1, 265, 0), (22, .ireturn, 1, 0, 0, 0, 0)]
set_option maxRecDepth 100000 in
noncomputable def xt_85 : List xv_E := [(0, .aload_n 0, 1, 0, 0, 0, 0), (1, .getfield 19, 3, 11, 1, 470, 2), (4, .invokevirtual 189, 3, 7, 0, 798, 2), (7, .ifCond .eq 6, 3, 0, 0, 0, 0), (10, .bipush (-2), 2, 0, 0, 0, 0), (12, .ireturn, 1, 0, 0, 0, 0), (13, .iconst 0, 1, 0, 0, 0, 0), (14, .istore_n 1, 1, 0, 0, 0, 0), (15, .iconst 0, 1, 0, 0, 0, 0), (16, .istore_n 2, 1, 0, 0, 0, 0), (17, .iload_n 2, 1, 0, 0, 0, 0), (18, .aload_n 0, 1, 0, 0, 0, 0), (19, .getfield 19, 3, 11, 1, 470, 2), (22, .getfield 192, 3, 2, 5, 166, 0), (25, .if_icmp .ge 29, 3, 0, 0, 0, 0), (28, .iload_n 1, 1, 0, 0, 0, 0), (29, .aload_n 0, 1, 0, 0, 0, 0), (30, .getfield 19, 3, 11, 1, 470, 2), (33, .iload_n 2, 1, 0, 0, 0, 0), (34, .aload_n 0, 1, 0, 0, 0, 0), (35, .getfield 29, 3, 11, 3, 472, 2), (38, .getfield 358, 3, 0, 3, 269, 2), (41, .iload_n 2, 1, 0, 0, 0, 0), (42, .iaload, 1, 0, 0, 0, 0), (43, .invokevirtual 158, 3, 9990, 2, 719, 2), (46, .iadd, 1, 0, 0, 0, 0), (47, .istore_n 1, 1, 0, 0, 0, 0), (48, .iinc 2 1, 3, 0, 0, 0, 0), (51, .goto (-34), 3, 0, 0, 0, 0), (54, .iload_n 1, 1, 0, 0, 0, 0), (55, .ireturn, 1, 0, 0, 0, 0)]
set_option maxRecDepth 100000 in
noncomputable def xt_86 : List xv_E := [(0, .aload_n 0, 1, 0, 0, 0, 0), (1, .getfield 19, 3, 11, 1, 470, 2), (4, .invokevirtual 189, 3, 7, 0, 798, 2), (7, .ifCond .eq 6, 3, 0, 0, 0, 0), (10, .bipush (-2), 2, 0, 0, 0, 0), (12, .ireturn, 1, 0, 0, 0, 0), (13, .aload_n 0, 1, 0, 0, 0, 0), (14, .getfield 29, 3, 11, 3, 472, 2), (17, .getfield 364, 3, 0, 0, 263, 0), (20, .ifCond .ne 6, 3, 0, 0, 0, 0), (23, .bipush (-5), 2, 0, 0, 0, 0), (25, .ireturn, 1, 0, 0, 0, 0), (26, .aload_n 0, 1, 0, 0, 0, 0), (27, .getfield 29, 3, 11, 3, 472, 2), (30, .aload_n 0, 1, 0, 0, 0, 0), (31, .getfield 19, 3, 11, 1, 470, 2), (34, .invokevirtual 367, 3, 9990, 1, 1228, 0), (37, .aload_n 0, 1, 0, 0, 0, 0), (38, .getfield 29, 3, 11, 3, 472, 2), (41, .getfield 364, 3, 0, 0, 263, 0), (44, .ireturn, 1, 0, 0, 0, 0)]
set_option maxRecDepth 100000 in
noncomputable def xt_87 : List xv_E := [(0, .aload_n 0, 1, 0, 0, 0, 0), (1, .getfield 19, 3, 11, 1, 470, 2), (4, .invokevirtual 189, 3, 7, 0, 798, 2), (7, .ifCond .eq 6, 3, 0, 0, 0, 0), (10, .bipush (-2), 2, 0, 0, 0, 0), (12, .ireturn, 1, 0, 0, 0, 0), (13, .aload_n 0, 1, 0, 0, 0, 0), (14, .getfield 29, 3, 11, 3, 472, 2), (17, .getfield 364, 3, 0, 0, 263, 0), (20, .istore_n 1, 1, 0, 0, 0, 0), (21, .aload_n 0, 1, 0, 0, 0, 0), (22, .getfield 29, 3, 11, 3, 472, 2), (25, .aload_n 0, 1, 0, 0, 0, 0), (26, .getfield 19, 3, 11, 1, 470, 2), (29, .invokevirtual 119, 3, 1, 1, 682, 0), (32, .iload_n 1, 1, 0, 0, 0, 0), (33, .ireturn, 1, 0, 0, 0, 0)]
set_option maxRecDepth 100000 in
noncomputable def xt_88 : List xv_E := [(0, .aload_n 0, 1, 0, 0, 0, 0), (1, .getfield 19, 3, 11, 1, 470, 2), (4, .invokevirtual 189, 3, 7, 0, 798, 2), (7, .ifCond .ne 19, 3, 0, 0, 0, 0), (10, .iload_n 1, 1, 0, 0, 0, 0), (11, .invokestatic 370, 3, 91, 1, 1240, 11), (14, .ifCond .eq 12, 3, 0, 0, 0, 0), (17, .iload_n 2, 1, 0, 0, 0, 0), (18, .ifCond .lt 8, 3, 0, 0, 0, 0), (21, .iload_n 2, 1, 0, 0, 0, 0), (22, .iconst 1, 1, 0, 0, 0, 0), (23, .if_icmp .le 6, 3, 0, 0, 0, 0), (26, .bipush (-2), 2, 0, 0, 0, 0), (28, .ireturn, 1, 0, 0, 0, 0), (29, .aload_n 0, 1, 0, 0, 0, 0), (30, .getfield 19, 3, 11, 1, 470, 2), (33, .iload_n 1, 1, 0, 0, 0, 0), (34, .i2l, 1, 0, 0, 0, 0), (35, .invokevirtual 373, 3, 9990, 1, 1244, 2), (38, .istore_n 3, 1, 0, 0, 0, 0), (39, .iload_n 2, 1, 0, 0, 0, 0), (40, .ifCond .ne 7, 3, 0, 0, 0, 0), (43, .iload_n 3, 1, 0, 0, 0, 0), (44, .goto 11, 3, 0, 0, 0, 0), (47, .aload_n 0, 1, 0, 0, 0, 0), (48, .getfield 19, 3, 11, 1, 470, 2), (51, .iload_n 3, 1, 0, 0, 0, 0), (52, .invokevirtual 186, 3, 9990, 1, 788, 2), (55, .ireturn, 1, 0, 0, 0, 0)]
set_option maxRecDepth 100000 in
noncomputable def xt_89 : List xv_E := [(0, .iload_n 1, 1, 0, 0, 0, 0), (1, .invokestatic 370, 3, 91, 1, 1240, 11), (4, .ifCond .eq 14, 3, 0, 0, 0, 0), (7, .aload_n 0, 1, 0, 0, 0, 0), (8, .getfield 19, 3, 11, 1, 470, 2), (11, .iload_n 2, 1, 0, 0, 0, 0), (12, .invokevirtual 136, 3, 9, 1, 702, 2), (15, .ifCond .ne 6, 3, 0, 0, 0, 0), (18, .bipush (-2), 2, 0, 0, 0, 0), (20, .ireturn, 1, 0, 0, 0, 0), (21, .aload_n 0, 1, 0, 0, 0, 0), (22, .getfield 19, 3, 11, 1, 470, 2), (25, .iload_n 2, 1, 0, 0, 0, 0), (26, .iload_n 1, 1, 0, 0, 0, 0), (27, .i2l, 1, 0, 0, 0, 0), (28, .invokevirtual 377, 3, 9990, 2, 1257, 2), (31, .ireturn, 1, 0, 0, 0, 0)]
set_option maxRecDepth 100000 in
noncomputable def xt_90 : List xv_E := [(0, .iload_n 1, 1, 0, 0, 0, 0), (1, .invokestatic 370, 3, 91, 1, 1240, 11), (4, .ifCond .eq 25, 3, 0, 0, 0, 0), (7, .iload_n 2, 1, 0, 0, 0, 0), (8, .iconst 1, 1, 0, 0, 0, 0), (9, .if_icmp .lt 20, 3, 0, 0, 0, 0), (12, .iload_n 2, 1, 0, 0, 0, 0), (13, .bipush 20, 2, 0, 0, 0, 0), (15, .if_icmp .gt 14, 3, 0, 0, 0, 0), (18, .aload_n 0, 1, 0, 0, 0, 0), (19, .getfield 19, 3, 11, 1, 470, 2), (22, .iload_n 3, 1, 0, 0, 0, 0), (23, .invokevirtual 136, 3, 9, 1, 702, 2), (26, .ifCond .ne 6, 3, 0, 0, 0, 0), (29, .bipush (-2), 2, 0, 0, 0, 0), (31, .ireturn, 1, 0, 0, 0, 0), (32, .aload_n 0, 1, 0, 0, 0, 0), (33, .getfield 19, 3, 11, 1, 470, 2), (36, .iload_n 3, 1, 0, 0, 0, 0), (37, .aload_n 0, 1, 0, 0, 0, 0), (38, .getfield 19, 3, 11, 1, 470, 2), (41, .getfield 139, 3, 2, 7, 174, 2), (44, .iload_n 3, 1, 0, 0, 0, 0), (45, .iaload, 1, 0, 0, 0, 0), (46, .invokevirtual 158, 3, 9990, 2, 719, 2), (49, .istore 4, 2, 0, 0, 0, 0), (51, .iconst 0, 1, 0, 0, 0, 0), (52, .istore 5, 2, 0, 0, 0, 0), (54, .iconst 0, 1, 0, 0, 0, 0), (55, .istore 6, 2, 0, 0, 0, 0), (57, .iload 6, 2, 0, 0, 0, 0), (59, .iload_n 2, 1, 0, 0, 0, 0), (60, .if_icmp .ge 38, 3, 0, 0, 0, 0), (63, .aload_n 0, 1, 0, 0, 0, 0), (64, .getfield 19, 3, 11, 1, 470, 2), (67, .iload_n 3, 1, 0, 0, 0, 0), (68, .aload_n 0, 1, 0, 0, 0, 0), (69, .getfield 19, 3, 11, 1, 470, 2), (72, .iload_n 3, 1, 0, 0, 0, 0), (73, .iload_n 1, 1, 0, 0, 0, 0), (74, .iload 6, 2, 0, 0, 0, 0), (76, .iadd, 1, 0, 0, 0, 0), (77, .i2l, 1, 0, 0, 0, 0), (78, .invokevirtual 377, 3, 9990, 2, 1257, 2), (81, .invokevirtual 158, 3, 9990, 2, 719, 2), (84, .iload 4, 2, 0, 0, 0, 0), (86, .if_icmp .gt 6, 3, 0, 0, 0, 0), (89, .iinc 5 1, 3, 0, 0, 0, 0), (92, .iinc 6 1, 3, 0, 0, 0, 0), (95, .goto (-38), 3, 0, 0, 0, 0), (98, .iload 5, 2, 0, 0, 0, 0), (100, .ireturn, 1, 0, 0, 0, 0)]
set_option maxRecDepth 100000 in
noncomputable def xt_91 : List xv_E := [(0, .iload_n 0, 1, 0, 0, 0, 0), (1, .ifCond .lt 14, 3, 0, 0, 0, 0), (4, .iload_n 0, 1, 0, 0, 0, 0), (5, .ldc_w 381, 3, 0, 0, 1243, 2000000000), (8, .if_icmp .gt 7, 3, 0, 0, 0, 0), (11, .iconst 1, 1, 0, 0, 0, 0), (12, .goto 4, 3, 0, 0, 0, 0), (15, .iconst 0, 1, 0, 0, 0, 0), (16, .ireturn, 1, 1, 0, 0, 0)]
set_option maxRecDepth 100000 in
noncomputable def xt_92 : List xv_E := [(0, .aload_n 0, 1, 0, 0, 0, 0), (1, .getfield 19, 3, 11, 1, 470, 2), (4, .iload_n 1, 1, 0, 0, 0, 0), (5, .invokevirtual 128, 3, 8, 1, 697, 2), (8, .ifCond .eq 13, 3, 0, 0, 0, 0), (11, .iload_n 2, 1, 0, 0, 0, 0), (12, .ifCond .lt 9, 3, 0, 0, 0, 0), (15, .iload_n 2, 1, 0, 0, 0, 0), (16, .bipush 99, 2, 0, 0, 0, 0), (18, .if_icmp .le 6, 3, 0, 0, 0, 0), (21, .bipush (-2), 2, 0, 0, 0, 0), (23, .ireturn, 1, 0, 0, 0, 0), (24, .aload_n 0, 1, 0, 0, 0, 0), (25, .getfield 29, 3, 11, 3, 472, 2), (28, .getfield 364, 3, 0, 0, 263, 0), (31, .ifCond .le 6, 3, 0, 0, 0, 0), (34, .bipush (-5), 2, 0, 0, 0, 0), (36, .ireturn, 1, 0, 0, 0, 0), (37, .aload_n 0, 1, 0, 0, 0, 0), (38, .getfield 19, 3, 11, 1, 470, 2), (41, .getfield 132, 3, 2, 6, 168, 2), (44, .iload_n 1, 1, 0, 0, 0, 0), (45, .iaload, 1, 0, 0, 0, 0), (46, .istore_n 3, 1, 0, 0, 0, 0), (47, .aload_n 0, 1, 0, 0, 0, 0), (48, .getfield 19, 3, 11, 1, 470, 2), (51, .getfield 132, 3, 2, 6, 168, 2), (54, .iload_n 1, 1, 0, 0, 0, 0), (55, .iload_n 2, 1, 0, 0, 0, 0), (56, .iastore, 1, 0, 0, 0, 0), (57, .iload_n 3, 1, 0, 0, 0, 0), (58, .ireturn, 1, 0, 0, 0, 0)]
set_option maxRecDepth 100000 in
noncomputable def xt_93 : List xv_E := [(0, .aload_n 0, 1, 0, 0, 0, 0), (1, .getfield 19, 3, 11, 1, 470, 2), (4, .iload_n 1, 1, 0, 0, 0, 0), (5, .invokevirtual 136, 3, 9, 1, 702, 2), (8, .ifCond .eq 14, 3, 0, 0, 0, 0), (11, .aload_n 0, 1, 0, 0, 0, 0), (12, .getfield 19, 3, 11, 1, 470, 2), (15, .iload_n 2, 1, 0, 0, 0, 0), (16, .invokevirtual 231, 3, 9990, 1, 918, 2), (19, .ifCond .ne 6, 3, 0, 0, 0, 0), (22, .bipush (-2), 2, 0, 0, 0, 0), (24, .ireturn, 1, 0, 0, 0, 0), (25, .aload_n 0, 1, 0, 0, 0, 0), (26, .getfield 29, 3, 11, 3, 472, 2), (29, .getfield 364, 3, 0, 0, 263, 0), (32, .ifCond .le 6, 3, 0, 0, 0, 0), (35, .bipush (-5), 2, 0, 0, 0, 0), (37, .ireturn, 1, 0, 0, 0, 0), (38, .aload_n 0, 1, 0, 0, 0, 0), (39, .getfield 19, 3, 11, 1, 470, 2), (42, .getfield 142, 3, 2, 8, 177, 2), (45, .iload_n 1, 1, 0, 0, 0, 0), (46, .iaload, 1, 0, 0, 0, 0), (47, .istore_n 3, 1, 0, 0, 0, 0), (48, .aload_n 0, 1, 0, 0, 0, 0), (49, .getfield 19, 3, 11, 1, 470, 2), (52, .getfield 142, 3, 2, 8, 177, 2), (55, .iload_n 1, 1, 0, 0, 0, 0), (56, .iload_n 2, 1, 0, 0, 0, 0), (57, .iastore, 1, 0, 0, 0, 0), (58, .iload_n 3, 1, 0, 0, 0, 0), (59, .ireturn, 1, 0, 0, 0, 0)]
set_option maxRecDepth 100000 in
noncomputable def xt_94 : List xv_E := [(0, .iload_n 1, 1, 0, 0, 0, 0), (1, .tableswitch 123 0 8 #[51, 59, 67, 75, 83, 91, 99, 107, 115], 51, 0, 0, 0, 0), (52, .aload_n 0, 1, 0, 0, 0, 0), (53, .getfield 19, 3, 11, 1, 470, 2), (56, .getfield 382, 3, 2, 1, 148, 0), (59, .ireturn, 1, 0, 0, 0, 0), (60, .aload_n 0, 1, 0, 0, 0, 0), (61, .getfield 19, 3, 11, 1, 470, 2), (64, .getfield 385, 3, 2, 2, 151, 0), (67, .ireturn, 1, 0, 0, 0, 0), (68, .aload_n 0, 1, 0, 0, 0, 0), (69, .getfield 19, 3, 11, 1, 470, 2), (72, .getfield 388, 3, 2, 3, 154, 0), (75, .ireturn, 1, 0, 0, 0, 0), (76, .aload_n 0, 1, 0, 0, 0, 0), (77, .getfield 19, 3, 11, 1, 470, 2), (80, .getfield 306, 3, 2, 4, 159, 0), (83, .ireturn, 1, 0, 0, 0, 0), (84, .aload_n 0, 1, 0, 0, 0, 0), (85, .getfield 19, 3, 11, 1, 470, 2), (88, .getfield 192, 3, 2, 5, 166, 0), (91, .ireturn, 1, 0, 0, 0, 0), (92, .aload_n 0, 1, 0, 0, 0, 0), (93, .getfield 29, 3, 11, 3, 472, 2), (96, .getfield 364, 3, 0, 0, 263, 0), (99, .ireturn, 1, 0, 0, 0, 0), (100, .aload_n 0, 1, 0, 0, 0, 0), (101, .getfield 19, 3, 11, 1, 470, 2), (104, .getfield 122, 3, 2, 0, 144, 0), (107, .ireturn, 1, 0, 0, 0, 0), (108, .aload_n 0, 1, 0, 0, 0, 0), (109, .getfield 12, 3, 11, 0, 469, 2), (112, .getfield 103, 3, 7, 1, 225, 0), (115, .ireturn, 1, 0, 0, 0, 0), (116, .aload_n 0, 1, 0, 0, 0, 0), (117, .getfield 36, 3, 11, 4, 473, 2), (120, .invokevirtual 391, 3, 24, 0, 1278, 8), (123, .ireturn, 1, 0, 0, 0, 0), (124, .iconst (-1), 1, 0, 0, 0, 0), (125, .ireturn, 1, 0, 0, 0, 0)]
set_option maxRecDepth 100000 in
noncomputable def xt_95 : List xv_E := [(0, .iload_n 1, 1, 0, 0, 0, 0), (1, .ifCond .lt 12, 3, 0, 0, 0, 0), (4, .iload_n 1, 1, 0, 0, 0, 0), (5, .aload_n 0, 1, 0, 0, 0, 0), (6, .getfield 91, 3, 11, 12, 481, 2), (9, .arraylength, 1, 0, 0, 0, 0), (10, .if_icmp .lt 6, 3, 0, 0, 0, 0), (13, .bipush (-2), 2, 0, 0, 0, 0), (15, .ireturn, 1, 0, 0, 0, 0), (16, .aload_n 0, 1, 0, 0, 0, 0), (17, .getfield 91, 3, 11, 12, 481, 2), (20, .iload_n 1, 1, 0, 0, 0, 0), (21, .aaload, 1, 0, 0, 0, 0), (22, .astore_n 2, 1, 0, 0, 0, 0), (23, .aload_n 2, 1, 0, 0, 0, 0), (24, .ifnonnull 18, 3, 0, 0, 0, 0), (27, .new 89, 3, 4, 0, 467, 0), (30, .dup, 1, 0, 0, 0, 0), (31, .invokespecial 394, 3, 12, 0, 1288, 4), (34, .astore_n 2, 1, 0, 0, 0, 0), (35, .aload_n 0, 1, 0, 0, 0, 0), (36, .getfield 91, 3, 11, 12, 481, 2), (39, .iload_n 1, 1, 0, 0, 0, 0), (40, .aload_n 2, 1, 0, 0, 0, 0), (41, .aastore, 1, 0, 0, 0, 0), (42, .aload_n 2, 1, 0, 0, 0, 0), (43, .getfield 395, 3, 4, 0, 1297, 2), (46, .aload_n 0, 1, 0, 0, 0, 0), (47, .getfield 19, 3, 11, 1, 470, 2), (50, .invokevirtual 116, 3, 6, 1, 675, 2), (53, .aload_n 2, 1, 0, 0, 0, 0), (54, .getfield 396, 3, 4, 1, 1299, 2), (57, .aload_n 0, 1, 0, 0, 0, 0), (58, .getfield 29, 3, 11, 3, 472, 2), (61, .invokevirtual 397, 3, 2, 1, 1305, 0), (64, .iconst 0, 1, 0, 0, 0, 0), (65, .ireturn, 1, 0, 0, 0, 0)]
set_option maxRecDepth 100000 in
noncomputable def xt_96 : List xv_E := [(0, .iload_n 1, 1, 0, 0, 0, 0), (1, .ifCond .lt 12, 3, 0, 0, 0, 0), (4, .iload_n 1, 1, 0, 0, 0, 0), (5, .aload_n 0, 1, 0, 0, 0, 0), (6, .getfield 91, 3, 11, 12, 481, 2), (9, .arraylength, 1, 0, 0, 0, 0), (10, .if_icmp .lt 6, 3, 0, 0, 0, 0), (13, .bipush (-2), 2, 0, 0, 0, 0), (15, .ireturn, 1, 0, 0, 0, 0), (16, .aload_n 0, 1, 0, 0, 0, 0), (17, .getfield 91, 3, 11, 12, 481, 2), (20, .iload_n 1, 1, 0, 0, 0, 0), (21, .aaload, 1, 0, 0, 0, 0), (22, .astore_n 2, 1, 0, 0, 0, 0), (23, .aload_n 2, 1, 0, 0, 0, 0), (24, .ifnonnull 6, 3, 0, 0, 0, 0), (27, .bipush (-6), 2, 0, 0, 0, 0), (29, .ireturn, 1, 0, 0, 0, 0), (30, .aload_n 0, 1, 0, 0, 0, 0), (31, .getfield 19, 3, 11, 1, 470, 2), (34, .aload_n 2, 1, 0, 0, 0, 0), (35, .getfield 395, 3, 4, 0, 1297, 2), (38, .invokevirtual 116, 3, 6, 1, 675, 2), (41, .aload_n 0, 1, 0, 0, 0, 0), (42, .getfield 29, 3, 11, 3, 472, 2), (45, .aload_n 2, 1, 0, 0, 0, 0), (46, .getfield 396, 3, 4, 1, 1299, 2), (49, .invokevirtual 397, 3, 2, 1, 1305, 0), (52, .iconst 0, 1, 0, 0, 0, 0), (53, .ireturn, 1, 0, 0, 0, 0)]
set_option maxRecDepth 100000 in
noncomputable def xt_97 : List xv_E := [(0, .aload_n 0, 1, 0, 0, 0, 0), (1, .getfield 36, 3, 11, 4, 473, 2), (4, .iload_n 1, 1, 0, 0, 0, 0), (5, .invokevirtual 289, 3, 22, 1, 1048, 8), (8, .ifCond .eq 18, 3, 0, 0, 0, 0), (11, .iload_n 2, 1, 0, 0, 0, 0), (12, .ifCond .lt 14, 3, 0, 0, 0, 0), (15, .iload_n 2, 1, 0, 0, 0, 0), (16, .iconst 3, 1, 0, 0, 0, 0), (17, .if_icmp .gt 9, 3, 0, 0, 0, 0), (20, .iload_n 3, 1, 0, 0, 0, 0), (21, .bipush 60, 2, 0, 0, 0, 0), (23, .if_icmp .le 6, 3, 0, 0, 0, 0), (26, .bipush (-2), 2, 0, 0, 0, 0), (28, .ireturn, 1, 0, 0, 0, 0), (29, .iload_n 3, 1, 0, 0, 0, 0), (30, .ifCond .ge 6, 3, 0, 0, 0, 0), (33, .bipush (-3), 2, 0, 0, 0, 0), (35, .ireturn, 1, 0, 0, 0, 0), (36, .aload_n 0, 1, 0, 0, 0, 0), (37, .getfield 36, 3, 11, 4, 473, 2), (40, .iload_n 1, 1, 0, 0, 0, 0), (41, .iload_n 2, 1, 0, 0, 0, 0), (42, .iload_n 3, 1, 0, 0, 0, 0), (43, .invokevirtual 400, 3, 25, 3, 1317, 8), (46, .iconst 0, 1, 0, 0, 0, 0), (47, .ireturn, 1, 0, 0, 0, 0)]
set_option maxRecDepth 100000 in
noncomputable def xt_98 : List xv_E := [(0, .aload_n 0, 1, 0, 0, 0, 0), (1, .getfield 36, 3, 11, 4, 473, 2), (4, .iload_n 1, 1, 0, 0, 0, 0), (5, .invokevirtual 289, 3, 22, 1, 1048, 8), (8, .ifCond .ne 6, 3, 0, 0, 0, 0), (11, .bipush (-2), 2, 0, 0, 0, 0), (13, .ireturn, 1, 0, 0, 0, 0), (14, .aload_n 0, 1, 0, 0, 0, 0), (15, .getfield 36, 3, 11, 4, 473, 2), (18, .iload_n 1, 1, 0, 0, 0, 0), (19, .invokevirtual 292, 3, 23, 1, 1052, 8), (22, .ifCond .ne 6, 3, 0, 0, 0, 0), (25, .bipush (-6), 2, 0, 0, 0, 0), (27, .ireturn, 1, 0, 0, 0, 0), (28, .iload_n 2, 1, 0, 0, 0, 0), (29, .ifCond .lt 16, 3, 0, 0, 0, 0), (32, .iload_n 2, 1, 0, 0, 0, 0), (33, .aload_n 0, 1, 0, 0, 0, 0), (34, .getfield 36, 3, 11, 4, 473, 2), (37, .getfield 404, 3, 8, 2, 304, 2), (40, .iload_n 1, 1, 0, 0, 0, 0), (41, .iaload, 1, 0, 0, 0, 0), (42, .if_icmp .lt 6, 3, 0, 0, 0, 0), (45, .bipush (-7), 2, 0, 0, 0, 0), (47, .ireturn, 1, 0, 0, 0, 0), (48, .aload_n 0, 1, 0, 0, 0, 0), (49, .getfield 36, 3, 11, 4, 473, 2), (52, .iload_n 1, 1, 0, 0, 0, 0), (53, .iload_n 2, 1, 0, 0, 0, 0), (54, .lload_n 3, 1, 0, 0, 0, 0), (55, .invokevirtual 407, 3, 9990, 3, 1328, 8), (58, .iconst 0, 1, 0, 0, 0, 0), (59, .ireturn, 1, 0, 0, 0, 0)]
set_option maxRecDepth 100000 in
noncomputable def xt_99 : List xv_E := [(0, .aload_n 0, 1, 0, 0, 0, 0), (1, .getfield 36, 3, 11, 4, 473, 2), (4, .iload_n 1, 1, 0, 0, 0, 0), (5, .invokevirtual 289, 3, 22, 1, 1048, 8), (8, .ifCond .eq 14, 3, 0, 0, 0, 0), (11, .aload_n 0, 1, 0, 0, 0, 0), (12, .getfield 36, 3, 11, 4, 473, 2), (15, .iload_n 3, 1, 0, 0, 0, 0), (16, .invokevirtual 289, 3, 22, 1, 1048, 8), (19, .ifCond .ne 6, 3, 0, 0, 0, 0), (22, .bipush (-2), 2, 0, 0, 0, 0), (24, .ireturn, 1, 0, 0, 0, 0), (25, .aload_n 0, 1, 0, 0, 0, 0), (26, .getfield 36, 3, 11, 4, 473, 2), (29, .iload_n 1, 1, 0, 0, 0, 0), (30, .invokevirtual 292, 3, 23, 1, 1052, 8), (33, .ifCond .eq 14, 3, 0, 0, 0, 0), (36, .aload_n 0, 1, 0, 0, 0, 0), (37, .getfield 36, 3, 11, 4, 473, 2), (40, .iload_n 3, 1, 0, 0, 0, 0), (41, .invokevirtual 292, 3, 23, 1, 1052, 8), (44, .ifCond .ne 6, 3, 0, 0, 0, 0), (47, .bipush (-6), 2, 0, 0, 0, 0), (49, .ireturn, 1, 0, 0, 0, 0), (50, .aload_n 0, 1, 0, 0, 0, 0), (51, .getfield 36, 3, 11, 4, 473, 2), (54, .getfield 410, 3, 8, 1, 301, 2), (57, .iload_n 1, 1, 0, 0, 0, 0), (58, .iaload, 1, 0, 0, 0, 0), (59, .aload_n 0, 1, 0, 0, 0, 0), (60, .getfield 36, 3, 11, 4, 473, 2), (63, .getfield 410, 3, 8, 1, 301, 2), (66, .iload_n 3, 1, 0, 0, 0, 0), (67, .iaload, 1, 0, 0, 0, 0), (68, .if_icmp .eq 6, 3, 0, 0, 0, 0), (71, .bipush (-8), 2, 0, 0, 0, 0), (73, .ireturn, 1, 0, 0, 0, 0), (74, .aload_n 0, 1, 0, 0, 0, 0), (75, .getfield 36, 3, 11, 4, 473, 2), (78, .iload_n 1, 1, 0, 0, 0, 0), (79, .iload_n 2, 1, 0, 0, 0, 0), (80, .iload 5, 2, 0, 0, 0, 0), (82, .invokevirtual 413, 3, 9990, 3, 1339, 8), (85, .ifCond .eq 18, 3, 0, 0, 0, 0), (88, .aload_n 0, 1, 0, 0, 0, 0), (89, .getfield 36, 3, 11, 4, 473, 2), (92, .iload_n 3, 1, 0, 0, 0, 0), (93, .iload 4, 2, 0, 0, 0, 0), (95, .iload 5, 2, 0, 0, 0, 0), (97, .invokevirtual 413, 3, 9990, 3, 1339, 8), (100, .ifCond .ne 6, 3, 0, 0, 0, 0), (103, .bipush (-7), 2, 0, 0, 0, 0), (105, .ireturn, 1, 0, 0, 0, 0), (106, .aload_n 0, 1, 0, 0, 0, 0), (107, .getfield 36, 3, 11, 4, 473, 2), (110, .getfield 417, 3, 8, 0, 299, 2), (113, .iload_n 1, 1, 0, 0, 0, 0), (114, .aaload, 1, 0, 0, 0, 0), (115, .iload_n 2, 1, 0, 0, 0, 0), (116, .aload_n 0, 1, 0, 0, 0, 0), (117, .getfield 36, 3, 11, 4, 473, 2), (120, .getfield 417, 3, 8, 0, 299, 2), (123, .iload_n 3, 1, 0, 0, 0, 0), (124, .aaload, 1, 0, 0, 0, 0), (125, .iload 4, 2, 0, 0, 0, 0), (127, .iload 5, 2, 0, 0, 0, 0), (129, .invokestatic 421, 3, 9999, 5, 1343, 0), (132, .iconst 0, 1, 0, 0, 0, 0), (133, .ireturn, 1, 0, 0, 0, 0)]
set_option maxRecDepth 100000 in
noncomputable def xt_100 : List xv_E := [(0, .aload_n 0, 1, 0, 0, 0, 0), (1, .invokespecial 1, 3, 9998, 0, 1349, 0), (4, .aload_n 0, 1, 0, 0, 0, 0), (5, .iconst 4, 1, 0, 0, 0, 0), (6, .newarray .int, 2, 0, 0, 0, 0), (8, .putfield 7, 3, 12, 1, 1351, 2), (11, .aload_n 0, 1, 0, 0, 0, 0), (12, .iconst 4, 1, 0, 0, 0, 0), (13, .newarray .int, 2, 0, 0, 0, 0), (15, .putfield 13, 3, 12, 2, 1352, 2), (18, .aload_n 0, 1, 0, 0, 0, 0), (19, .sipush 240, 3, 0, 0, 0, 0), (22, .newarray .long, 2, 0, 0, 0, 0), (24, .putfield 16, 3, 12, 3, 1353, 2), (27, .aload_n 0, 1, 0, 0, 0, 0), (28, .bipush 60, 2, 0, 0, 0, 0), (30, .newarray .long, 2, 0, 0, 0, 0), (32, .putfield 20, 3, 12, 4, 1354, 2), (35, .aload_n 0, 1, 0, 0, 0, 0), (36, .sipush 1200, 3, 0, 0, 0, 0), (39, .newarray .byte, 2, 0, 0, 0, 0), (41, .putfield 23, 3, 12, 5, 1355, 2), (44, .aload_n 0, 1, 0, 0, 0, 0), (45, .iconst (-1), 1, 0, 0, 0, 0), (46, .putfield 27, 3, 12, 15, 1365, 0), (49, .aload_n 0, 1, 0, 0, 0, 0), (50, .iconst 5, 1, 0, 0, 0, 0), (51, .newarray .int, 2, 0, 0, 0, 0), (53, .putfield 31, 3, 12, 16, 1366, 2), (56, .aload_n 0, 1, 0, 0, 0, 0), (57, .bipush 30, 2, 0, 0, 0, 0), (59, .newarray .int, 2, 0, 0, 0, 0), (61, .putfield 34, 3, 12, 17, 1367, 2), (64, .aload_n 0, 1, 0, 0, 0, 0), (65, .bipush 40, 2, 0, 0, 0, 0), (67, .newarray .int, 2, 0, 0, 0, 0), (69, .putfield 37, 3, 12, 18, 1368, 2), (72, .aload_n 0, 1, 0, 0, 0, 0), (73, .sipush 420, 3, 0, 0, 0, 0), (76, .newarray .int, 2, 0, 0, 0, 0), (78, .putfield 40, 3, 12, 19, 1369, 2), (81, .aload_n 0, 1, 0, 0, 0, 0), (82, .bipush 15, 2, 0, 0, 0, 0), (84, .newarray .int, 2, 0, 0, 0, 0), (86, .putfield 43, 3, 12, 20, 1370, 2), (89, .aload_n 0, 1, 0, 0, 0, 0), (90, .sipush 400, 3, 0, 0, 0, 0), (93, .newarray .int, 2, 0, 0, 0, 0), (95, .putfield 46, 3, 12, 21, 1371, 2), (98, .aload_n 0, 1, 0, 0, 0, 0), (99, .iconst 3, 1, 0, 0, 0, 0), (100, .newarray .boolean, 2, 0, 0, 0, 0), (102, .putfield 49, 3, 12, 22, 1372, 2), (105, .aload_n 0, 1, 0, 0, 0, 0), (106, .bipush 7, 2, 0, 0, 0, 0), (108, .newarray .int, 2, 0, 0, 0, 0), (110, .putfield 53, 3, 12, 23, 1373, 2), (113, .aload_n 0, 1, 0, 0, 0, 0), (114, .sipush 1024, 3, 0, 0, 0, 0), (117, .newarray .int, 2, 0, 0, 0, 0), (119, .putfield 56, 3, 12, 26, 1376, 2), (122, .aload_n 0, 1, 0, 0, 0, 0), (123, .sipush 1024, 3, 0, 0, 0, 0), (126, .newarray .int, 2, 0, 0, 0, 0), (128, .putfield 59, 3, 12, 27, 1377, 2), (131, .aload_n 0, 1, 0, 0, 0, 0), (132, .bipush 7, 2, 0, 0, 0, 0), (134, .newarray .int, 2, 0, 0, 0, 0), (136, .putfield 62, 3, 12, 28, 1378, 2), (139, .aload_n 0, 1, 0, 0, 0, 0), (140, .bipush 7, 2, 0, 0, 0, 0), (142, .newarray .int, 2, 0, 0, 0, 0), (144, .putfield 65, 3, 12, 29, 1379, 2), (147, .aload_n 0, 1, 0, 0, 0, 0), (148, .sipush 1024, 3, 0, 0, 0, 0), (151, .newarray .int, 2, 0, 0, 0, 0), (153, .putfield 68, 3, 12, 31, 1381, 2), (156, .aload_n 0, 1, 0, 0, 0, 0), (157, .bipush 7, 2, 0, 0, 0, 0), (159, .newarray .int, 2, 0, 0, 0, 0), (161, .putfield 71, 3, 12, 32, 1382, 2), (164, .aload_n 0, 1, 0, 0, 0, 0), (165, .bipush 7, 2, 0, 0, 0, 0), (167, .newarray .int, 2, 0, 0, 0, 0), (169, .putfield 74, 3, 12, 33, 1383, 2), (172, .aload_n 0, 1, 0, 0, 0, 0), (173, .bipush 63, 2, 0, 0, 0, 0), (175, .newarray .int, 2, 0, 0, 0, 0), (177, .putfield 77, 3, 12, 34, 1384, 2), (180, .aload_n 0, 1, 0, 0, 0, 0), (181, .bipush 7, 2, 0, 0, 0, 0), (183, .newarray .int, 2, 0, 0, 0, 0), (185, .putfield 80, 3, 12, 35, 1385, 2), (188, .aload_n 0, 1, 0, 0, 0, 0), (189, .iconst 3, 1, 0, 0, 0, 0), (190, .newarray .int, 2, 0, 0, 0, 0), (192, .putfield 83, 3, 12, 40, 1390, 2), (195, .aload_n 0, 1, 0, 0, 0, 0), (196, .bipush 7, 2, 0, 0, 0, 0), (198, .newarray .int, 2, 0, 0, 0, 0), (200, .putfield 86, 3, 12, 41, 1391, 2), (203, .iconst 0, 1, 0, 0, 0, 0), (204, .istore_n 1, 1, 0, 0, 0, 0), (205, .iload_n 1, 1, 0, 0, 0, 0), (206, .iconst 4, 1, 0, 0, 0, 0), (207, .if_icmp .ge 16, 3, 0, 0, 0, 0), (210, .aload_n 0, 1, 0, 0, 0, 0), (211, .getfield 7, 3, 12, 1, 1351, 2), (214, .iload_n 1, 1, 0, 0, 0, 0), (215, .iconst (-1), 1, 0, 0, 0, 0), (216, .iastore, 1, 0, 0, 0, 0), (217, .iinc 1 1, 3, 0, 0, 0, 0), (220, .goto (-15), 3, 0, 0, 0, 0), (223, .return_, 1, 0, 0, 0, 0)]
set_option maxRecDepth 100000 in
noncomputable def xt_101 : List xv_E := [(0, .lload_n 0, 1, 0, 0, 0, 0), (1, .lload_n 2, 1, 0, 0, 0, 0), (2, .lcmp, 1, 0, 0, 0, 0), (3, .ifCond .lt 14, 3, 0, 0, 0, 0), (6, .lload_n 0, 1, 0, 0, 0, 0), (7, .lload 4, 2, 0, 0, 0, 0), (9, .lcmp, 1, 0, 0, 0, 0), (10, .ifCond .gt 7, 3, 0, 0, 0, 0), (13, .iconst 1, 1, 0, 0, 0, 0), (14, .goto 4, 3, 0, 0, 0, 0), (17, .iconst 0, 1, 0, 0, 0, 0), (18, .ireturn, 1, 1, 0, 0, 0)]
set_option maxRecDepth 100000 in
noncomputable def xt_102 : List xv_E := [(0, .iload_n 0, 1, 0, 0, 0, 0), (1, .i2l, 1, 0, 0, 0, 0), (2, .lconst 0, 1, 0, 0, 0, 0), (3, .ldc2_w 92, 3, 0, 0, 1485, 3), (6, .invokestatic 94, 3, 101, 3, 1486, 12), (9, .ireturn, 1, 1, 0, 0, 0)]
set_option maxRecDepth 100000 in
noncomputable def xt_103 : List xv_E := [(0, .aload_n 0, 1, 0, 0, 0, 0), (1, .iconst 0, 1, 0, 0, 0, 0), (2, .putfield 89, 3, 12, 0, 1350, 0), (5, .iload_n 1, 1, 0, 0, 0, 0), (6, .invokestatic 98, 3, 102, 1, 1482, 12), (9, .ifCond .eq 21, 3, 0, 0, 0, 0), (12, .iload_n 2, 1, 0, 0, 0, 0), (13, .i2l, 1, 0, 0, 0, 0), (14, .lconst 0, 1, 0, 0, 0, 0), (15, .ldc2_w 92, 3, 0, 0, 1485, 3), (18, .invokestatic 94, 3, 101, 3, 1486, 12), (21, .ifCond .eq 9, 3, 0, 0, 0, 0), (24, .iload_n 3, 1, 0, 0, 0, 0), (25, .bipush 60, 2, 0, 0, 0, 0), (27, .if_icmp .le 6, 3, 0, 0, 0, 0), (30, .bipush (-2), 2, 0, 0, 0, 0), (32, .ireturn, 1, 0, 0, 0, 0), (33, .iload_n 3, 1, 0, 0, 0, 0), (34, .ifCond .ge 6, 3, 0, 0, 0, 0), (37, .bipush (-3), 2, 0, 0, 0, 0), (39, .ireturn, 1, 0, 0, 0, 0), (40, .aload_n 0, 1, 0, 0, 0, 0), (41, .getfield 7, 3, 12, 1, 1351, 2), (44, .iload_n 1, 1, 0, 0, 0, 0), (45, .iload_n 2, 1, 0, 0, 0, 0), (46, .iastore, 1, 0, 0, 0, 0), (47, .aload_n 0, 1, 0, 0, 0, 0), (48, .getfield 13, 3, 12, 2, 1352, 2), (51, .iload_n 1, 1, 0, 0, 0, 0), (52, .iload_n 3, 1, 0, 0, 0, 0), (53, .iastore, 1, 0, 0, 0, 0), (54, .iconst 0, 1, 0, 0, 0, 0), (55, .istore 4, 2, 0, 0, 0, 0), (57, .iload 4, 2, 0, 0, 0, 0), (59, .iload_n 3, 1, 0, 0, 0, 0), (60, .if_icmp .ge 22, 3, 0, 0, 0, 0), (63, .aload_n 0, 1, 0, 0, 0, 0), (64, .getfield 16, 3, 12, 3, 1353, 2), (67, .bipush 60, 2, 0, 0, 0, 0), (69, .iload_n 1, 1, 0, 0, 0, 0), (70, .imul, 1, 0, 0, 0, 0), (71, .iload 4, 2, 0, 0, 0, 0), (73, .iadd, 1, 0, 0, 0, 0), (74, .lconst 0, 1, 0, 0, 0, 0), (75, .lastore, 1, 0, 0, 0, 0), (76, .iinc 4 1, 3, 0, 0, 0, 0), (79, .goto (-22), 3, 0, 0, 0, 0), (82, .iconst 0, 1, 0, 0, 0, 0), (83, .ireturn, 1, 0, 0, 0, 0)]
set_option maxRecDepth 100000 in
noncomputable def xt_104 : List xv_E := [(0, .aload_n 0, 1, 0, 0, 0, 0), (1, .iconst 0, 1, 0, 0, 0, 0), (2, .putfield 89, 3, 12, 0, 1350, 0), (5, .iload_n 1, 1, 0, 0, 0, 0), (6, .invokestatic 98, 3, 102, 1, 1482, 12), (9, .ifCond .ne 6, 3, 0, 0, 0, 0), (12, .bipush (-2), 2, 0, 0, 0, 0), (14, .ireturn, 1, 0, 0, 0, 0), (15, .aload_n 0, 1, 0, 0, 0, 0), (16, .getfield 7, 3, 12, 1, 1351, 2), (19, .iload_n 1, 1, 0, 0, 0, 0), (20, .iaload, 1, 0, 0, 0, 0), (21, .iconst (-1), 1, 0, 0, 0, 0), (22, .if_icmp .ne 6, 3, 0, 0, 0, 0), (25, .bipush (-6), 2, 0, 0, 0, 0), (27, .ireturn, 1, 0, 0, 0, 0), (28, .iload_n 2, 1, 0, 0, 0, 0), (29, .i2l, 1, 0, 0, 0, 0), (30, .lconst 0, 1, 0, 0, 0, 0), (31, .aload_n 0, 1, 0, 0, 0, 0), (32, .getfield 13, 3, 12, 2, 1352, 2), (35, .iload_n 1, 1, 0, 0, 0, 0), (36, .iaload, 1, 0, 0, 0, 0), (37, .iconst 1, 1, 0, 0, 0, 0), (38, .isub, 1, 0, 0, 0, 0), (39, .i2l, 1, 0, 0, 0, 0), (40, .invokestatic 94, 3, 101, 3, 1486, 12), (43, .ifCond .ne 6, 3, 0, 0, 0, 0), (46, .bipush (-7), 2, 0, 0, 0, 0), (48, .ireturn, 1, 0, 0, 0, 0), (49, .aload_n 0, 1, 0, 0, 0, 0), (50, .getfield 16, 3, 12, 3, 1353, 2), (53, .bipush 60, 2, 0, 0, 0, 0), (55, .iload_n 1, 1, 0, 0, 0, 0), (56, .imul, 1, 0, 0, 0, 0), (57, .iload_n 2, 1, 0, 0, 0, 0), (58, .iadd, 1, 0, 0, 0, 0), (59, .lload_n 3, 1, 0, 0, 0, 0), (60, .aload_n 0, 1, 0, 0, 0, 0), (61, .getfield 7, 3, 12, 1, 1351, 2), (64, .iload_n 1, 1, 0, 0, 0, 0), (65, .iaload, 1, 0, 0, 0, 0), (66, .invokestatic 102, 3, 9990, 2, 1493, 12), (69, .lastore, 1, 0, 0, 0, 0), (70, .iconst 0, 1, 0, 0, 0, 0), (71, .ireturn, 1, 0, 0, 0, 0)]
set_option maxRecDepth 100000 in
noncomputable def xt_105 : List xv_E := [(0, .aload_n 0, 1, 0, 0, 0, 0), (1, .iconst 0, 1, 0, 0, 0, 0), (2, .putfield 89, 3, 12, 0, 1350, 0), (5, .iload_n 1, 1, 0, 0, 0, 0), (6, .invokestatic 98, 3, 102, 1, 1482, 12), (9, .ifCond .eq 10, 3, 0, 0, 0, 0), (12, .iload_n 3, 1, 0, 0, 0, 0), (13, .invokestatic 98, 3, 102, 1, 1482, 12), (16, .ifCond .ne 6, 3, 0, 0, 0, 0), (19, .bipush (-2), 2, 0, 0, 0, 0), (21, .ireturn, 1, 0, 0, 0, 0), (22, .aload_n 0, 1, 0, 0, 0, 0), (23, .getfield 7, 3, 12, 1, 1351, 2), (26, .iload_n 1, 1, 0, 0, 0, 0), (27, .iaload, 1, 0, 0, 0, 0), (28, .iconst (-1), 1, 0, 0, 0, 0), (29, .if_icmp .eq 13, 3, 0, 0, 0, 0), (32, .aload_n 0, 1, 0, 0, 0, 0), (33, .getfield 7, 3, 12, 1, 1351, 2), (36, .iload_n 3, 1, 0, 0, 0, 0), (37, .iaload, 1, 0, 0, 0, 0), (38, .iconst (-1), 1, 0, 0, 0, 0), (39, .if_icmp .ne 6, 3, 0, 0, 0, 0), (42, .bipush (-6), 2, 0, 0, 0, 0), (44, .ireturn, 1, 0, 0, 0, 0), (45, .aload_n 0, 1, 0, 0, 0, 0), (46, .getfield 7, 3, 12, 1, 1351, 2), (49, .iload_n 1, 1, 0, 0, 0, 0), (50, .iaload, 1, 0, 0, 0, 0), (51, .aload_n 0, 1, 0, 0, 0, 0), (52, .getfield 7, 3, 12, 1, 1351, 2), (55, .iload_n 3, 1, 0, 0, 0, 0), (56, .iaload, 1, 0, 0, 0, 0), (57, .if_icmp .eq 6, 3, 0, 0, 0, 0), (60, .bipush (-8), 2, 0, 0, 0, 0), (62, .ireturn, 1, 0, 0, 0, 0), (63, .iload_n 2, 1, 0, 0, 0, 0), (64, .ifCond .lt 48, 3, 0, 0, 0, 0), (67, .iload 4, 2, 0, 0, 0, 0), (69, .ifCond .lt 43, 3, 0, 0, 0, 0), (72, .iload 5, 2, 0, 0, 0, 0), (74, .ifCond .lt 38, 3, 0, 0, 0, 0), (77, .iload_n 2, 1, 0, 0, 0, 0), (78, .i2l, 1, 0, 0, 0, 0), (79, .iload 5, 2, 0, 0, 0, 0), (81, .i2l, 1, 0, 0, 0, 0), (82, .ladd, 1, 0, 0, 0, 0), (83, .aload_n 0, 1, 0, 0, 0, 0), (84, .getfield 13, 3, 12, 2, 1352, 2), (87, .iload_n 1, 1, 0, 0, 0, 0), (88, .iaload, 1, 0, 0, 0, 0), (89, .i2l, 1, 0, 0, 0, 0), (90, .lcmp, 1, 0, 0, 0, 0), (91, .ifCond .gt 21, 3, 0, 0, 0, 0), (94, .iload 4, 2, 0, 0, 0, 0), (96, .i2l, 1, 0, 0, 0, 0), (97, .iload 5, 2, 0, 0, 0, 0), (99, .i2l, 1, 0, 0, 0, 0), (100, .ladd, 1, 0, 0, 0, 0), (101, .aload_n 0, 1, 0, 0, 0, 0), (102, .getfield 13, 3, 12, 2, 1352, 2), (105, .iload_n 3, 1, 0, 0, 0, 0), (106, .iaload, 1, 0, 0, 0, 0), (107, .i2l, 1, 0, 0, 0, 0), (108, .lcmp, 1, 0, 0, 0, 0), (109, .ifCond .le 6, 3, 0, 0, 0, 0), (112, .bipush (-7), 2, 0, 0, 0, 0), (114, .ireturn, 1, 0, 0, 0, 0), (115, .iconst 0, 1, 0, 0, 0, 0), (116, .istore 6, 2, 0, 0, 0, 0), (118, .iload 6, 2, 0, 0, 0, 0), (120, .iload 5, 2, 0, 0, 0, 0), (122, .if_icmp .ge 30, 3, 0, 0, 0, 0), (125, .aload_n 0, 1, 0, 0, 0, 0), (126, .getfield 20, 3, 12, 4, 1354, 2), (129, .iload 6, 2, 0, 0, 0, 0), (131, .aload_n 0, 1, 0, 0, 0, 0), (132, .getfield 16, 3, 12, 3, 1353, 2), (135, .bipush 60, 2, 0, 0, 0, 0), (137, .iload_n 1, 1, 0, 0, 0, 0), (138, .imul, 1, 0, 0, 0, 0), (139, .iload_n 2, 1, 0, 0, 0, 0), (140, .iadd, 1, 0, 0, 0, 0), (141, .iload 6, 2, 0, 0, 0, 0), (143, .iadd, 1, 0, 0, 0, 0), (144, .laload, 1, 0, 0, 0, 0), (145, .lastore, 1, 0, 0, 0, 0), (146, .iinc 6 1, 3, 0, 0, 0, 0), (149, .goto (-31), 3, 0, 0, 0, 0), (152, .iconst 0, 1, 0, 0, 0, 0), (153, .istore 6, 2, 0, 0, 0, 0), (155, .iload 6, 2, 0, 0, 0, 0), (157, .iload 5, 2, 0, 0, 0, 0), (159, .if_icmp .ge 31, 3, 0, 0, 0, 0), (162, .aload_n 0, 1, 0, 0, 0, 0), (163, .getfield 16, 3, 12, 3, 1353, 2), (166, .bipush 60, 2, 0, 0, 0, 0), (168, .iload_n 3, 1, 0, 0, 0, 0), (169, .imul, 1, 0, 0, 0, 0), (170, .iload 4, 2, 0, 0, 0, 0), (172, .iadd, 1, 0, 0, 0, 0), (173, .iload 6, 2, 0, 0, 0, 0), (175, .iadd, 1, 0, 0, 0, 0), (176, .aload_n 0, 1, 0, 0, 0, 0), (177, .getfield 20, 3, 12, 4, 1354, 2), (180, .iload 6, 2, 0, 0, 0, 0), (182, .laload, 1, 0, 0, 0, 0), (183, .lastore, 1, 0, 0, 0, 0), (184, .iinc 6 1, 3, 0, 0, 0, 0), (187, .goto (-32), 3, 0, 0, 0, 0), (190, .iconst 0, 1, 0, 0, 0, 0), (191, .ireturn, 1, 0, 0, 0, 0)]
set_option maxRecDepth 100000 in
noncomputable def xt_106 : List xv_E := [(0, .aload_n 0, 1, 0, 0, 0, 0), (1, .iconst 0, 1, 0, 0, 0, 0), (2, .putfield 89, 3, 12, 0, 1350, 0), (5, .aload_n 0, 1, 0, 0, 0, 0), (6, .getfield 106, 3, 12, 6, 1356, 0), (9, .bipush 20, 2, 0, 0, 0, 0), (11, .iadd, 1, 0, 0, 0, 0), (12, .sipush 1200, 3, 0, 0, 0, 0), (15, .if_icmp .le 5, 3, 0, 0, 0, 0), (18, .iconst (-1), 1, 0, 0, 0, 0), (19, .ireturn, 1, 0, 0, 0, 0), (20, .aload_n 0, 1, 0, 0, 0, 0), (21, .iload_n 1, 1, 0, 0, 0, 0), (22, .invokevirtual 109, 3, 107, 1, 1504, 12), (25, .aload_n 0, 1, 0, 0, 0, 0), (26, .iload_n 2, 1, 0, 0, 0, 0), (27, .invokevirtual 109, 3, 107, 1, 1504, 12), (30, .aload_n 0, 1, 0, 0, 0, 0), (31, .iload_n 3, 1, 0, 0, 0, 0), (32, .invokevirtual 109, 3, 107, 1, 1504, 12), (35, .aload_n 0, 1, 0, 0, 0, 0), (36, .iload 4, 2, 0, 0, 0, 0), (38, .invokevirtual 109, 3, 107, 1, 1504, 12), (41, .aload_n 0, 1, 0, 0, 0, 0), (42, .iload 5, 2, 0, 0, 0, 0), (44, .invokevirtual 109, 3, 107, 1, 1504, 12), (47, .aload_n 0, 1, 0, 0, 0, 0), (48, .getfield 106, 3, 12, 6, 1356, 0), (51, .ireturn, 1, 0, 0, 0, 0)]
set_option maxRecDepth 100000 in
noncomputable def xt_107 : List xv_E := [(0, .bipush 24, 2, 0, 0, 0, 0), (2, .istore_n 2, 1, 0, 0, 0, 0), (3, .iload_n 2, 1, 0, 0, 0, 0), (4, .ifCond .lt 32, 3, 0, 0, 0, 0), (7, .aload_n 0, 1, 0, 0, 0, 0), (8, .getfield 23, 3, 12, 5, 1355, 2), (11, .aload_n 0, 1, 0, 0, 0, 0), (12, .getfield 106, 3, 12, 6, 1356, 0), (15, .iload_n 1, 1, 0, 0, 0, 0), (16, .iload_n 2, 1, 0, 0, 0, 0), (17, .ishr, 1, 0, 0, 0, 0), (18, .i2b, 1, 0, 0, 0, 0), (19, .bastore, 1, 0, 0, 0, 0), (20, .aload_n 0, 1, 0, 0, 0, 0), (21, .dup, 1, 0, 0, 0, 0), (22, .getfield 106, 3, 12, 6, 1356, 0), (25, .iconst 1, 1, 0, 0, 0, 0), (26, .iadd, 1, 0, 0, 0, 0), (27, .putfield 106, 3, 12, 6, 1356, 0), (30, .iinc 2 (-8), 3, 0, 0, 0, 0), (33, .goto (-30), 3, 0, 0, 0, 0), (36, .return_, 1, 0, 0, 0, 0)]
set_option maxRecDepth 100000 in
noncomputable def xt_108 : List xv_E := [(0, .aload_n 0, 1, 0, 0, 0, 0), (1, .iconst 0, 1, 0, 0, 0, 0), (2, .putfield 89, 3, 12, 0, 1350, 0), (5, .iload_n 1, 1, 0, 0, 0, 0), (6, .i2l, 1, 0, 0, 0, 0), (7, .lconst 0, 1, 0, 0, 0, 0), (8, .aload_n 0, 1, 0, 0, 0, 0), (9, .getfield 106, 3, 12, 6, 1356, 0), (12, .i2l, 1, 0, 0, 0, 0), (13, .invokestatic 94, 3, 101, 3, 1486, 12), (16, .ifCond .ne 5, 3, 0, 0, 0, 0), (19, .iconst (-1), 1, 0, 0, 0, 0), (20, .ireturn, 1, 0, 0, 0, 0), (21, .aload_n 0, 1, 0, 0, 0, 0), (22, .iload_n 1, 1, 0, 0, 0, 0), (23, .putfield 106, 3, 12, 6, 1356, 0), (26, .iload_n 1, 1, 0, 0, 0, 0), (27, .ireturn, 1, 0, 0, 0, 0)]
set_option maxRecDepth 100000 in
noncomputable def xt_109 : List xv_E := [(0, .iload_n 1, 1, 0, 0, 0, 0), (1, .aload_n 0, 1, 0, 0, 0, 0), (2, .getfield 106, 3, 12, 6, 1356, 0), (5, .if_icmp .ge 27, 3, 0, 0, 0, 0), (8, .aload_n 0, 1, 0, 0, 0, 0), (9, .getfield 23, 3, 12, 5, 1355, 2), (12, .iload_n 1, 1, 0, 0, 0, 0), (13, .baload, 1, 0, 0, 0, 0), (14, .iload_n 2, 1, 0, 0, 0, 0), (15, .if_icmp .lt 17, 3, 0, 0, 0, 0), (18, .aload_n 0, 1, 0, 0, 0, 0), (19, .getfield 23, 3, 12, 5, 1355, 2), (22, .iload_n 1, 1, 0, 0, 0, 0), (23, .baload, 1, 0, 0, 0, 0), (24, .iload_n 3, 1, 0, 0, 0, 0), (25, .if_icmp .gt 7, 3, 0, 0, 0, 0), (28, .iconst 1, 1, 0, 0, 0, 0), (29, .goto 4, 3, 0, 0, 0, 0), (32, .iconst 0, 1, 0, 0, 0, 0), (33, .ireturn, 1, 1, 0, 0, 0)]
set_option maxRecDepth 100000 in
noncomputable def xt_110 : List xv_E := [(0, .aload_n 0, 1, 0, 0, 0, 0), (1, .aload_n 0, 1, 0, 0, 0, 0), (2, .getfield 113, 3, 12, 7, 1357, 0), (5, .bipush 32, 2, 0, 0, 0, 0), (7, .bipush 32, 2, 0, 0, 0, 0), (9, .invokevirtual 116, 3, 109, 3, 1536, 12), (12, .ifCond .ne 18, 3, 0, 0, 0, 0), (15, .aload_n 0, 1, 0, 0, 0, 0), (16, .aload_n 0, 1, 0, 0, 0, 0), (17, .getfield 113, 3, 12, 7, 1357, 0), (20, .bipush 10, 2, 0, 0, 0, 0), (22, .bipush 10, 2, 0, 0, 0, 0), (24, .invokevirtual 116, 3, 109, 3, 1536, 12), (27, .ifCond .eq 16, 3, 0, 0, 0, 0), (30, .aload_n 0, 1, 0, 0, 0, 0), (31, .dup, 1, 0, 0, 0, 0), (32, .getfield 113, 3, 12, 7, 1357, 0), (35, .iconst 1, 1, 0, 0, 0, 0), (36, .iadd, 1, 0, 0, 0, 0), (37, .putfield 113, 3, 12, 7, 1357, 0), (40, .goto (-40), 3, 0, 0, 0, 0), (43, .aload_n 0, 1, 0, 0, 0, 0), (44, .aload_n 0, 1, 0, 0, 0, 0), (45, .getfield 113, 3, 12, 7, 1357, 0), (48, .putfield 120, 3, 12, 9, 1359, 0), (51, .aload_n 0, 1, 0, 0, 0, 0), (52, .iconst 0, 1, 0, 0, 0, 0), (53, .putfield 123, 3, 12, 10, 1360, 0), (56, .aload_n 0, 1, 0, 0, 0, 0), (57, .lconst 0, 1, 0, 0, 0, 0), (58, .putfield 126, 3, 12, 11, 1361, 1), (61, .aload_n 0, 1, 0, 0, 0, 0), (62, .getfield 113, 3, 12, 7, 1357, 0), (65, .aload_n 0, 1, 0, 0, 0, 0), (66, .getfield 106, 3, 12, 6, 1356, 0), (69, .if_icmp .ne 11, 3, 0, 0, 0, 0), (72, .aload_n 0, 1, 0, 0, 0, 0), (73, .iconst 0, 1, 0, 0, 0, 0), (74, .putfield 130, 3, 12, 8, 1358, 0), (77, .goto 230, 3, 0, 0, 0, 0), (80, .aload_n 0, 1, 0, 0, 0, 0), (81, .aload_n 0, 1, 0, 0, 0, 0), (82, .getfield 113, 3, 12, 7, 1357, 0), (85, .bipush 97, 2, 0, 0, 0, 0), (87, .bipush 122, 2, 0, 0, 0, 0), (89, .invokevirtual 116, 3, 109, 3, 1536, 12), (92, .ifCond .eq 96, 3, 0, 0, 0, 0), (95, .aload_n 0, 1, 0, 0, 0, 0), (96, .iconst 1, 1, 0, 0, 0, 0), (97, .putfield 130, 3, 12, 8, 1358, 0), (100, .iconst 0, 1, 0, 0, 0, 0), (101, .istore_n 1, 1, 0, 0, 0, 0), (102, .aload_n 0, 1, 0, 0, 0, 0), (103, .aload_n 0, 1, 0, 0, 0, 0), (104, .getfield 113, 3, 12, 7, 1357, 0), (107, .bipush 97, 2, 0, 0, 0, 0), (109, .bipush 122, 2, 0, 0, 0, 0), (111, .invokevirtual 116, 3, 109, 3, 1536, 12), (114, .ifCond .eq 71, 3, 0, 0, 0, 0), (117, .aload_n 0, 1, 0, 0, 0, 0), (118, .iload_n 1, 1, 0, 0, 0, 0), (119, .bipush 11, 2, 0, 0, 0, 0), (121, .if_icmp .le 9, 3, 0, 0, 0, 0), (124, .ldc2_w 133, 3, 0, 0, 1540, (-1)), (127, .goto 26, 3, 0, 0, 0, 0), (130, .ldc2_w 135, 3, 0, 0, 1541, 27), (133, .aload_n 0, 1, 0, 0, 0, 0), (134, .getfield 126, 3, 12, 11, 1361, 1), (137, .lmul, 1, 0, 0, 0, 0), (138, .aload_n 0, 1, 0, 0, 0, 0), (139, .getfield 23, 3, 12, 5, 1355, 2), (142, .aload_n 0, 1, 0, 0, 0, 0), (143, .getfield 113, 3, 12, 7, 1357, 0), (146, .baload, 1, 0, 0, 0, 0), (147, .i2l, 1, 0, 0, 0, 0), (148, .ladd, 1, 0, 0, 0, 0), (149, .ldc2_w 137, 3, 0, 0, 1542, 96), (152, .lsub, 1, 0, 0, 0, 0), (153, .putfield 126, 3, 12, 11, 1361, 1), (156, .iload_n 1, 1, 0, 0, 0, 0), (157, .bipush 11, 2, 0, 0, 0, 0), (159, .if_icmp .le 10, 3, 0, 0, 0, 0), (162, .aload_n 0, 1, 0, 0, 0, 0), (163, .ldc2_w 133, 3, 0, 0, 1540, (-1)), (166, .putfield 126, 3, 12, 11, 1361, 1), (169, .aload_n 0, 1, 0, 0, 0, 0), (170, .dup, 1, 0, 0, 0, 0), (171, .getfield 113, 3, 12, 7, 1357, 0), (174, .iconst 1, 1, 0, 0, 0, 0), (175, .iadd, 1, 0, 0, 0, 0), (176, .putfield 113, 3, 12, 7, 1357, 0), (179, .iinc 1 1, 3, 0, 0, 0, 0), (182, .goto (-80), 3, 0, 0, 0, 0), (185, .goto 122, 3, 0, 0, 0, 0), (188, .aload_n 0, 1, 0, 0, 0, 0), (189, .aload_n 0, 1, 0, 0, 0, 0), (190, .getfield 113, 3, 12, 7, 1357, 0), (193, .bipush 48, 2, 0, 0, 0, 0), (195, .bipush 57, 2, 0, 0, 0, 0), (197, .invokevirtual 116, 3, 109, 3, 1536, 12), (200, .ifCond .eq 74, 3, 0, 0, 0, 0), (203, .aload_n 0, 1, 0, 0, 0, 0), (204, .iconst 2, 1, 0, 0, 0, 0), (205, .putfield 130, 3, 12, 8, 1358, 0), (208, .aload_n 0, 1, 0, 0, 0, 0), (209, .aload_n 0, 1, 0, 0, 0, 0), (210, .getfield 113, 3, 12, 7, 1357, 0), (213, .bipush 48, 2, 0, 0, 0, 0), (215, .bipush 57, 2, 0, 0, 0, 0), (217, .invokevirtual 116, 3, 109, 3, 1536, 12), (220, .ifCond .eq 87, 3, 0, 0, 0, 0), (223, .aload_n 0, 1, 0, 0, 0, 0), (224, .aload_n 0, 1, 0, 0, 0, 0), (225, .getfield 123, 3, 12, 10, 1360, 0), (228, .ldc 139, 2, 0, 0, 1543, 100000), (230, .if_icmp .le 8, 3, 0, 0, 0, 0), (233, .ldc 140, 2, 0, 0, 1544, 1000000), (235, .goto 23, 3, 0, 0, 0, 0), (238, .bipush 10, 2, 0, 0, 0, 0), (240, .aload_n 0, 1, 0, 0, 0, 0), (241, .getfield 123, 3, 12, 10, 1360, 0), (244, .imul, 1, 0, 0, 0, 0), (245, .aload_n 0, 1, 0, 0, 0, 0), (246, .getfield 23, 3, 12, 5, 1355, 2), (249, .aload_n 0, 1, 0, 0, 0, 0), (250, .getfield 113, 3, 12, 7, 1357, 0), (253, .baload, 1, 0, 0, 0, 0), (254, .iadd, 1, 0, 0, 0, 0), (255, .bipush 48, 2, 0, 0, 0, 0), (257, .isub, 1, 0, 0, 0, 0), (258, .putfield 123, 3, 12, 10, 1360, 0), (261, .aload_n 0, 1, 0, 0, 0, 0), (262, .dup, 1, 0, 0, 0, 0), (263, .getfield 113, 3, 12, 7, 1357, 0), (266, .iconst 1, 1, 0, 0, 0, 0), (267, .iadd, 1, 0, 0, 0, 0), (268, .putfield 113, 3, 12, 7, 1357, 0), (271, .goto (-63), 3, 0, 0, 0, 0), (274, .aload_n 0, 1, 0, 0, 0, 0), (275, .aload_n 0, 1, 0, 0, 0, 0), (276, .getfield 23, 3, 12, 5, 1355, 2), (279, .aload_n 0, 1, 0, 0, 0, 0), (280, .getfield 113, 3, 12, 7, 1357, 0), (283, .baload, 1, 0, 0, 0, 0), (284, .bipush 59, 2, 0, 0, 0, 0), (286, .if_icmp .ne 7, 3, 0, 0, 0, 0), (289, .iconst 3, 1, 0, 0, 0, 0), (290, .goto 4, 3, 0, 0, 0, 0), (293, .iconst 4, 1, 0, 0, 0, 0), (294, .putfield 130, 3, 12, 8, 1358, 0), (297, .aload_n 0, 1, 0, 0, 0, 0), (298, .dup, 1, 0, 0, 0, 0), (299, .getfield 113, 3, 12, 7, 1357, 0), (302, .iconst 1, 1, 0, 0, 0, 0), (303, .iadd, 1, 0, 0, 0, 0), (304, .putfield 113, 3, 12, 7, 1357, 0), (307, .return_, 1, 0, 0, 0, 0)]
set_option maxRecDepth 100000 in
noncomputable def xt_111 : List xv_E := [(0, .aload_n 0, 1, 0, 0, 0, 0), (1, .getfield 141, 3, 12, 12, 1362, 0), (4, .ifCond .ne 7, 3, 0, 0, 0, 0), (7, .iconst 1, 1, 0, 0, 0, 0), (8, .goto 4, 3, 0, 0, 0, 0), (11, .iconst 0, 1, 0, 0, 0, 0), (12, .ireturn, 1, 1, 0, 0, 0)]
set_option maxRecDepth 100000 in
noncomputable def xt_112 : List xv_E := [(0, .aload_n 0, 1, 0, 0, 0, 0), (1, .iconst 0, 1, 0, 0, 0, 0), (2, .putfield 141, 3, 12, 12, 1362, 0), (5, .aload_n 0, 1, 0, 0, 0, 0), (6, .iconst (-1), 1, 0, 0, 0, 0), (7, .putfield 144, 3, 12, 13, 1363, 0), (10, .aload_n 0, 1, 0, 0, 0, 0), (11, .iconst 0, 1, 0, 0, 0, 0), (12, .putfield 113, 3, 12, 7, 1357, 0), (15, .aload_n 0, 1, 0, 0, 0, 0), (16, .invokevirtual 151, 3, 110, 0, 1532, 12), (19, .return_, 1, 0, 0, 0, 0)]
set_option maxRecDepth 100000 in
noncomputable def xt_113 : List xv_E := [(0, .aload_n 0, 1, 0, 0, 0, 0), (1, .iconst 0, 1, 0, 0, 0, 0), (2, .putfield 106, 3, 12, 6, 1356, 0), (5, .aload_n 0, 1, 0, 0, 0, 0), (6, .aload_n 0, 1, 0, 0, 0, 0), (7, .getfield 141, 3, 12, 12, 1362, 0), (10, .putfield 168, 3, 12, 14, 1364, 0), (13, .aload_n 0, 1, 0, 0, 0, 0), (14, .aload_n 0, 1, 0, 0, 0, 0), (15, .getfield 141, 3, 12, 12, 1362, 0), (18, .ifCond .ne 7, 3, 0, 0, 0, 0), (21, .iconst (-1), 1, 0, 0, 0, 0), (22, .goto 7, 3, 0, 0, 0, 0), (25, .aload_n 0, 1, 0, 0, 0, 0), (26, .getfield 144, 3, 12, 13, 1363, 0), (29, .putfield 27, 3, 12, 15, 1365, 0), (32, .return_, 1, 0, 0, 0, 0)]
set_option maxRecDepth 100000 in
noncomputable def xt_114 : List xv_E := [(0, .aload_n 0, 1, 0, 0, 0, 0), (1, .iconst 0, 1, 0, 0, 0, 0), (2, .putfield 89, 3, 12, 0, 1350, 0), (5, .iload_n 1, 1, 0, 0, 0, 0), (6, .ifCond .ne 10, 3, 0, 0, 0, 0), (9, .aload_n 0, 1, 0, 0, 0, 0), (10, .getfield 168, 3, 12, 14, 1364, 0), (13, .goto 16, 3, 0, 0, 0, 0), (16, .iload_n 1, 1, 0, 0, 0, 0), (17, .iconst 1, 1, 0, 0, 0, 0), (18, .if_icmp .ne 10, 3, 0, 0, 0, 0), (21, .aload_n 0, 1, 0, 0, 0, 0), (22, .getfield 27, 3, 12, 15, 1365, 0), (25, .goto 4, 3, 0, 0, 0, 0), (28, .iconst (-1), 1, 0, 0, 0, 0), (29, .ireturn, 1, 0, 0, 0, 0)]
set_option maxRecDepth 100000 in
noncomputable def xt_115 : List xv_E := [(0, .aload_n 0, 1, 0, 0, 0, 0), (1, .getfield 34, 3, 12, 17, 1367, 2), (4, .bipush 24, 2, 0, 0, 0, 0), (6, .iload_n 1, 1, 0, 0, 0, 0), (7, .iadd, 1, 0, 0, 0, 0), (8, .iload_n 2, 1, 0, 0, 0, 0), (9, .iastore, 1, 0, 0, 0, 0), (10, .return_, 1, 0, 0, 0, 0)]
set_option maxRecDepth 100000 in
noncomputable def xt_116 : List xv_E := [(0, .aload_n 0, 1, 0, 0, 0, 0), (1, .getfield 31, 3, 12, 16, 1366, 2), (4, .iconst 4, 1, 0, 0, 0, 0), (5, .iconst 0, 1, 0, 0, 0, 0), (6, .iastore, 1, 0, 0, 0, 0), (7, .iconst 0, 1, 0, 0, 0, 0), (8, .istore_n 1, 1, 0, 0, 0, 0), (9, .iload_n 1, 1, 0, 0, 0, 0), (10, .bipush 6, 2, 0, 0, 0, 0), (12, .if_icmp .ge 15, 3, 0, 0, 0, 0), (15, .aload_n 0, 1, 0, 0, 0, 0), (16, .iload_n 1, 1, 0, 0, 0, 0), (17, .iconst 0, 1, 0, 0, 0, 0), (18, .invokevirtual 199, 3, 115, 2, 1524, 12), (21, .iinc 1 1, 3, 0, 0, 0, 0), (24, .goto (-15), 3, 0, 0, 0, 0), (27, .iconst 0, 1, 0, 0, 0, 0), (28, .istore_n 1, 1, 0, 0, 0, 0), (29, .iload_n 1, 1, 0, 0, 0, 0), (30, .iconst 3, 1, 0, 0, 0, 0), (31, .if_icmp .ge 19, 3, 0, 0, 0, 0), (34, .aload_n 0, 1, 0, 0, 0, 0), (35, .getfield 43, 3, 12, 20, 1370, 2), (38, .bipush 12, 2, 0, 0, 0, 0), (40, .iload_n 1, 1, 0, 0, 0, 0), (41, .iadd, 1, 0, 0, 0, 0), (42, .iconst (-1), 1, 0, 0, 0, 0), (43, .iastore, 1, 0, 0, 0, 0), (44, .iinc 1 1, 3, 0, 0, 0, 0), (47, .goto (-18), 3, 0, 0, 0, 0), (50, .return_, 1, 0, 0, 0, 0)]
set_option maxRecDepth 100000 in
noncomputable def xt_117 : List xv_E := [(0, .aload_n 0, 1, 0, 0, 0, 0), (1, .iconst 0, 1, 0, 0, 0, 0), (2, .putfield 89, 3, 12, 0, 1350, 0), (5, .aload_n 0, 1, 0, 0, 0, 0), (6, .invokevirtual 218, 3, 116, 0, 1520, 12), (9, .aload_n 0, 1, 0, 0, 0, 0), (10, .invokevirtual 221, 3, 112, 0, 1528, 12), (13, .aload_n 0, 1, 0, 0, 0, 0), (14, .invokevirtual 195, 3, 111, 0, 1545, 12), (17, .ifCond .eq 101, 3, 0, 0, 0, 0), (20, .aload_n 0, 1, 0, 0, 0, 0), (21, .getfield 130, 3, 12, 8, 1358, 0), (24, .ifCond .eq 94, 3, 0, 0, 0, 0), (27, .aload_n 0, 1, 0, 0, 0, 0), (28, .getfield 31, 3, 12, 16, 1366, 2), (31, .iconst 4, 1, 0, 0, 0, 0), (32, .iaload, 1, 0, 0, 0, 0), (33, .ifCond .ne 57, 3, 0, 0, 0, 0), (36, .aload_n 0, 1, 0, 0, 0, 0), (37, .ldc2_w 224, 3, 0, 0, 1549, 47724803), (40, .invokevirtual 160, 3, 9990, 1, 1550, 12), (43, .aload_n 0, 1, 0, 0, 0, 0), (44, .iconst 0, 1, 0, 0, 0, 0), (45, .aload_n 0, 1, 0, 0, 0, 0), (46, .ldc2_w 226, 3, 0, 0, 1566, 4562587), (49, .iconst 1, 1, 0, 0, 0, 0), (50, .bipush 12, 2, 0, 0, 0, 0), (52, .invokevirtual 190, 3, 9990, 3, 1567, 12), (55, .invokevirtual 199, 3, 115, 2, 1524, 12), (58, .aload_n 0, 1, 0, 0, 0, 0), (59, .iconst 1, 1, 0, 0, 0, 0), (60, .aload_n 0, 1, 0, 0, 0, 0), (61, .ldc2_w 228, 3, 0, 0, 1575, 1375777), (64, .iconst 1, 1, 0, 0, 0, 0), (65, .iconst 3, 1, 0, 0, 0, 0), (66, .invokevirtual 190, 3, 9990, 3, 1567, 12), (69, .invokevirtual 199, 3, 115, 2, 1524, 12), (72, .aload_n 0, 1, 0, 0, 0, 0), (73, .iconst 2, 1, 0, 0, 0, 0), (74, .aload_n 0, 1, 0, 0, 0, 0), (75, .ldc2_w 230, 3, 0, 0, 1576, 298288), (78, .iconst 0, 1, 0, 0, 0, 0), (79, .bipush 100, 2, 0, 0, 0, 0), (81, .invokevirtual 190, 3, 9990, 3, 1567, 12), (84, .invokevirtual 199, 3, 115, 2, 1524, 12), (87, .goto 7, 3, 0, 0, 0, 0), (90, .aload_n 0, 1, 0, 0, 0, 0), (91, .invokevirtual 232, 3, 9990, 0, 1577, 12), (94, .aload_n 0, 1, 0, 0, 0, 0), (95, .invokevirtual 195, 3, 111, 0, 1545, 12), (98, .ifCond .eq 7, 3, 0, 0, 0, 0), (101, .aload_n 0, 1, 0, 0, 0, 0), (102, .invokevirtual 235, 3, 9990, 0, 1610, 12), (105, .aload_n 0, 1, 0, 0, 0, 0), (106, .getfield 31, 3, 12, 16, 1366, 2), (109, .iconst 4, 1, 0, 0, 0, 0), (110, .dup2, 1, 0, 0, 0, 0), (111, .iaload, 1, 0, 0, 0, 0), (112, .iconst 1, 1, 0, 0, 0, 0), (113, .iadd, 1, 0, 0, 0, 0), (114, .iastore, 1, 0, 0, 0, 0), (115, .goto (-102), 3, 0, 0, 0, 0), (118, .aload_n 0, 1, 0, 0, 0, 0), (119, .invokevirtual 238, 3, 113, 0, 1614, 12), (122, .aload_n 0, 1, 0, 0, 0, 0), (123, .getfield 141, 3, 12, 12, 1362, 0), (126, .ifCond .eq 6, 3, 0, 0, 0, 0), (129, .bipush (-4), 2, 0, 0, 0, 0), (131, .ireturn, 1, 0, 0, 0, 0), (132, .aload_n 0, 1, 0, 0, 0, 0), (133, .iconst 4, 1, 0, 0, 0, 0), (134, .iconst 0, 1, 0, 0, 0, 0), (135, .invokevirtual 241, 3, 119, 2, 1618, 12), (138, .aload_n 0, 1, 0, 0, 0, 0), (139, .getfield 31, 3, 12, 16, 1366, 2), (142, .iconst 0, 1, 0, 0, 0, 0), (143, .iaload, 1, 0, 0, 0, 0), (144, .ireturn, 1, 0, 0, 0, 0)]
set_option maxRecDepth 100000 in
noncomputable def xt_118 : List xv_E := [(0, .iconst 0, 1, 0, 0, 0, 0), (1, .istore 4, 2, 0, 0, 0, 0), (3, .iload 4, 2, 0, 0, 0, 0), (5, .iload_n 1, 1, 0, 0, 0, 0), (6, .if_icmp .ge 25, 3, 0, 0, 0, 0), (9, .aload_n 0, 1, 0, 0, 0, 0), (10, .iload_n 1, 1, 0, 0, 0, 0), (11, .iload_n 3, 1, 0, 0, 0, 0), (12, .imul, 1, 0, 0, 0, 0), (13, .iload 4, 2, 0, 0, 0, 0), (15, .iadd, 1, 0, 0, 0, 0), (16, .aload_n 0, 1, 0, 0, 0, 0), (17, .iload_n 1, 1, 0, 0, 0, 0), (18, .iload_n 2, 1, 0, 0, 0, 0), (19, .imul, 1, 0, 0, 0, 0), (20, .iload 4, 2, 0, 0, 0, 0), (22, .iadd, 1, 0, 0, 0, 0), (23, .iaload, 1, 0, 0, 0, 0), (24, .iastore, 1, 0, 0, 0, 0), (25, .iinc 4 1, 3, 0, 0, 0, 0), (28, .goto (-25), 3, 0, 0, 0, 0), (31, .return_, 1, 0, 0, 0, 0)]
set_option maxRecDepth 100000 in
noncomputable def xt_119 : List xv_E := [(0, .aload_n 0, 1, 0, 0, 0, 0), (1, .getfield 31, 3, 12, 16, 1366, 2), (4, .iconst 1, 1, 0, 0, 0, 0), (5, .iload_n 1, 1, 0, 0, 0, 0), (6, .iload_n 2, 1, 0, 0, 0, 0), (7, .invokestatic 244, 3, 118, 4, 1622, 12), (10, .aload_n 0, 1, 0, 0, 0, 0), (11, .getfield 34, 3, 12, 17, 1367, 2), (14, .bipush 6, 2, 0, 0, 0, 0), (16, .iload_n 1, 1, 0, 0, 0, 0), (17, .iload_n 2, 1, 0, 0, 0, 0), (18, .invokestatic 244, 3, 118, 4, 1622, 12), (21, .aload_n 0, 1, 0, 0, 0, 0), (22, .getfield 37, 3, 12, 18, 1368, 2), (25, .bipush 8, 2, 0, 0, 0, 0), (27, .iload_n 1, 1, 0, 0, 0, 0), (28, .iload_n 2, 1, 0, 0, 0, 0), (29, .invokestatic 244, 3, 118, 4, 1622, 12), (32, .aload_n 0, 1, 0, 0, 0, 0), (33, .getfield 40, 3, 12, 19, 1369, 2), (36, .bipush 84, 2, 0, 0, 0, 0), (38, .iload_n 1, 1, 0, 0, 0, 0), (39, .iload_n 2, 1, 0, 0, 0, 0), (40, .invokestatic 244, 3, 118, 4, 1622, 12), (43, .aload_n 0, 1, 0, 0, 0, 0), (44, .getfield 43, 3, 12, 20, 1370, 2), (47, .iconst 3, 1, 0, 0, 0, 0), (48, .iload_n 1, 1, 0, 0, 0, 0), (49, .iload_n 2, 1, 0, 0, 0, 0), (50, .invokestatic 244, 3, 118, 4, 1622, 12), (53, .aload_n 0, 1, 0, 0, 0, 0), (54, .getfield 46, 3, 12, 21, 1371, 2), (57, .bipush 80, 2, 0, 0, 0, 0), (59, .iload_n 1, 1, 0, 0, 0, 0), (60, .iload_n 2, 1, 0, 0, 0, 0), (61, .invokestatic 244, 3, 118, 4, 1622, 12), (64, .return_, 1, 0, 0, 0, 0)]
set_option maxRecDepth 100000 in
noncomputable def xt_120 : List xv_E := [(0, .aload_n 0, 1, 0, 0, 0, 0), (1, .getfield 31, 3, 12, 16, 1366, 2), (4, .iconst 0, 1, 0, 0, 0, 0), (5, .iaload, 1, 0, 0, 0, 0), (6, .ifCond .le 7, 3, 0, 0, 0, 0), (9, .iconst 1, 1, 0, 0, 0, 0), (10, .goto 4, 3, 0, 0, 0, 0), (13, .iconst 0, 1, 0, 0, 0, 0), (14, .ireturn, 1, 1, 0, 0, 0)]
set_option maxRecDepth 100000 in
noncomputable def xt_121 : List xv_E := [(0, .lload_n 1, 1, 0, 0, 0, 0), (1, .lconst 0, 1, 0, 0, 0, 0), (2, .aload_n 0, 1, 0, 0, 0, 0), (3, .getfield 34, 3, 12, 17, 1367, 2), (6, .iconst 3, 1, 0, 0, 0, 0), (7, .iaload, 1, 0, 0, 0, 0), (8, .i2l, 1, 0, 0, 0, 0), (9, .lconst 1, 1, 0, 0, 0, 0), (10, .lsub, 1, 0, 0, 0, 0), (11, .invokestatic 94, 3, 101, 3, 1486, 12), (14, .ireturn, 1, 1, 0, 0, 0)]
set_option maxRecDepth 100000 in
noncomputable def xt_122 : List xv_E := [(0, .lload_n 1, 1, 0, 0, 0, 0), (1, .lconst 0, 1, 0, 0, 0, 0), (2, .aload_n 0, 1, 0, 0, 0, 0), (3, .getfield 34, 3, 12, 17, 1367, 2), (6, .iconst 4, 1, 0, 0, 0, 0), (7, .iaload, 1, 0, 0, 0, 0), (8, .i2l, 1, 0, 0, 0, 0), (9, .lconst 1, 1, 0, 0, 0, 0), (10, .lsub, 1, 0, 0, 0, 0), (11, .invokestatic 94, 3, 101, 3, 1486, 12), (14, .ireturn, 1, 1, 0, 0, 0)]
set_option maxRecDepth 100000 in
noncomputable def xt_123 : List xv_E := [(0, .iload_n 1, 1, 0, 0, 0, 0), (1, .i2l, 1, 0, 0, 0, 0), (2, .lconst 0, 1, 0, 0, 0, 0), (3, .aload_n 0, 1, 0, 0, 0, 0), (4, .getfield 34, 3, 12, 17, 1367, 2), (7, .iconst 1, 1, 0, 0, 0, 0), (8, .iaload, 1, 0, 0, 0, 0), (9, .iconst 1, 1, 0, 0, 0, 0), (10, .isub, 1, 0, 0, 0, 0), (11, .i2l, 1, 0, 0, 0, 0), (12, .invokestatic 94, 3, 101, 3, 1486, 12), (15, .ireturn, 1, 1, 0, 0, 0)]
set_option maxRecDepth 100000 in
noncomputable def xt_124 : List xv_E := [(0, .aload_n 0, 1, 0, 0, 0, 0), (1, .iconst 0, 1, 0, 0, 0, 0), (2, .putfield 89, 3, 12, 0, 1350, 0), (5, .aload_n 0, 1, 0, 0, 0, 0), (6, .iload_n 1, 1, 0, 0, 0, 0), (7, .i2l, 1, 0, 0, 0, 0), (8, .invokevirtual 276, 3, 121, 1, 1629, 12), (11, .ifCond .eq 12, 3, 0, 0, 0, 0), (14, .aload_n 0, 1, 0, 0, 0, 0), (15, .getfield 37, 3, 12, 18, 1368, 2), (18, .iload_n 1, 1, 0, 0, 0, 0), (19, .iaload, 1, 0, 0, 0, 0), (20, .goto 5, 3, 0, 0, 0, 0), (23, .bipush (-2), 2, 0, 0, 0, 0), (25, .ireturn, 1, 0, 0, 0, 0)]
set_option maxRecDepth 100000 in
noncomputable def xt_125 : List xv_E := [(0, .aload_n 0, 1, 0, 0, 0, 0), (1, .iconst 0, 1, 0, 0, 0, 0), (2, .putfield 89, 3, 12, 0, 1350, 0), (5, .aload_n 0, 1, 0, 0, 0, 0), (6, .iload_n 1, 1, 0, 0, 0, 0), (7, .i2l, 1, 0, 0, 0, 0), (8, .invokevirtual 279, 3, 122, 1, 1637, 12), (11, .ifCond .eq 29, 3, 0, 0, 0, 0), (14, .iload_n 2, 1, 0, 0, 0, 0), (15, .i2l, 1, 0, 0, 0, 0), (16, .lconst 0, 1, 0, 0, 0, 0), (17, .ldc2_w 92, 3, 0, 0, 1485, 3), (20, .invokestatic 94, 3, 101, 3, 1486, 12), (23, .ifCond .eq 17, 3, 0, 0, 0, 0), (26, .aload_n 0, 1, 0, 0, 0, 0), (27, .getfield 40, 3, 12, 19, 1369, 2), (30, .bipush 12, 2, 0, 0, 0, 0), (32, .iload_n 1, 1, 0, 0, 0, 0), (33, .imul, 1, 0, 0, 0, 0), (34, .iload_n 2, 1, 0, 0, 0, 0), (35, .iadd, 1, 0, 0, 0, 0), (36, .iaload, 1, 0, 0, 0, 0), (37, .goto 5, 3, 0, 0, 0, 0), (40, .bipush (-2), 2, 0, 0, 0, 0), (42, .ireturn, 1, 0, 0, 0, 0)]
set_option maxRecDepth 100000 in
noncomputable def xt_126 : List xv_E := [(0, .aload_n 0, 1, 0, 0, 0, 0), (1, .iconst 0, 1, 0, 0, 0, 0), (2, .putfield 89, 3, 12, 0, 1350, 0), (5, .aload_n 0, 1, 0, 0, 0, 0), (6, .iload_n 1, 1, 0, 0, 0, 0), (7, .i2l, 1, 0, 0, 0, 0), (8, .invokevirtual 279, 3, 122, 1, 1637, 12), (11, .ifCond .eq 28, 3, 0, 0, 0, 0), (14, .aload_n 0, 1, 0, 0, 0, 0), (15, .iload_n 2, 1, 0, 0, 0, 0), (16, .i2l, 1, 0, 0, 0, 0), (17, .invokevirtual 276, 3, 121, 1, 1629, 12), (20, .ifCond .eq 19, 3, 0, 0, 0, 0), (23, .aload_n 0, 1, 0, 0, 0, 0), (24, .getfield 40, 3, 12, 19, 1369, 2), (27, .bipush 12, 2, 0, 0, 0, 0), (29, .iload_n 1, 1, 0, 0, 0, 0), (30, .imul, 1, 0, 0, 0, 0), (31, .iconst 4, 1, 0, 0, 0, 0), (32, .iadd, 1, 0, 0, 0, 0), (33, .iload_n 2, 1, 0, 0, 0, 0), (34, .iadd, 1, 0, 0, 0, 0), (35, .iaload, 1, 0, 0, 0, 0), (36, .goto 5, 3, 0, 0, 0, 0), (39, .bipush (-2), 2, 0, 0, 0, 0), (41, .ireturn, 1, 0, 0, 0, 0)]
set_option maxRecDepth 100000 in
noncomputable def xt_127 : List xv_E := [(0, .aload_n 0, 1, 0, 0, 0, 0), (1, .iconst 0, 1, 0, 0, 0, 0), (2, .putfield 89, 3, 12, 0, 1350, 0), (5, .aload_n 0, 1, 0, 0, 0, 0), (6, .iload_n 1, 1, 0, 0, 0, 0), (7, .i2l, 1, 0, 0, 0, 0), (8, .invokevirtual 279, 3, 122, 1, 1637, 12), (11, .ifCond .eq 26, 3, 0, 0, 0, 0), (14, .iload_n 2, 1, 0, 0, 0, 0), (15, .iconst (-1), 1, 0, 0, 0, 0), (16, .if_icmp .eq 12, 3, 0, 0, 0, 0), (19, .aload_n 0, 1, 0, 0, 0, 0), (20, .iload_n 2, 1, 0, 0, 0, 0), (21, .i2l, 1, 0, 0, 0, 0), (22, .invokevirtual 276, 3, 121, 1, 1629, 12), (25, .ifCond .eq 12, 3, 0, 0, 0, 0), (28, .aload_n 0, 1, 0, 0, 0, 0), (29, .iload_n 1, 1, 0, 0, 0, 0), (30, .iload_n 2, 1, 0, 0, 0, 0), (31, .invokevirtual 273, 3, 9990, 2, 1649, 12), (34, .goto 5, 3, 0, 0, 0, 0), (37, .bipush (-2), 2, 0, 0, 0, 0), (39, .ireturn, 1, 0, 0, 0, 0)]
set_option maxRecDepth 100000 in
noncomputable def xt_128 : List xv_E := [(0, .aload_n 0, 1, 0, 0, 0, 0), (1, .iconst 0, 1, 0, 0, 0, 0), (2, .putfield 89, 3, 12, 0, 1350, 0), (5, .aload_n 0, 1, 0, 0, 0, 0), (6, .iload_n 1, 1, 0, 0, 0, 0), (7, .invokevirtual 282, 3, 123, 1, 1657, 12), (10, .ifCond .eq 12, 3, 0, 0, 0, 0), (13, .aload_n 0, 1, 0, 0, 0, 0), (14, .getfield 43, 3, 12, 20, 1370, 2), (17, .iload_n 1, 1, 0, 0, 0, 0), (18, .iaload, 1, 0, 0, 0, 0), (19, .goto 5, 3, 0, 0, 0, 0), (22, .bipush (-2), 2, 0, 0, 0, 0), (24, .ireturn, 1, 0, 0, 0, 0)]
set_option maxRecDepth 100000 in
noncomputable def xt_129 : List xv_E := [(0, .aload_n 0, 1, 0, 0, 0, 0), (1, .iconst 0, 1, 0, 0, 0, 0), (2, .putfield 89, 3, 12, 0, 1350, 0), (5, .aload_n 0, 1, 0, 0, 0, 0), (6, .iload_n 1, 1, 0, 0, 0, 0), (7, .invokevirtual 282, 3, 123, 1, 1657, 12), (10, .ifCond .ne 6, 3, 0, 0, 0, 0), (13, .bipush (-2), 2, 0, 0, 0, 0), (15, .ireturn, 1, 0, 0, 0, 0), (16, .aload_n 0, 1, 0, 0, 0, 0), (17, .invokevirtual 285, 3, 9990, 0, 1665, 12), (20, .iconst 0, 1, 0, 0, 0, 0), (21, .istore_n 3, 1, 0, 0, 0, 0), (22, .iload_n 3, 1, 0, 0, 0, 0), (23, .aload_n 0, 1, 0, 0, 0, 0), (24, .getfield 34, 3, 12, 17, 1367, 2), (27, .iconst 4, 1, 0, 0, 0, 0), (28, .iaload, 1, 0, 0, 0, 0), (29, .if_icmp .ge 82, 3, 0, 0, 0, 0), (32, .aload_n 0, 1, 0, 0, 0, 0), (33, .iload_n 3, 1, 0, 0, 0, 0), (34, .invokevirtual 248, 3, 9990, 1, 1673, 12), (37, .iload_n 1, 1, 0, 0, 0, 0), (38, .if_icmp .eq 6, 3, 0, 0, 0, 0), (41, .goto 64, 3, 0, 0, 0, 0), (44, .iconst 0, 1, 0, 0, 0, 0), (45, .istore 4, 2, 0, 0, 0, 0), (47, .iconst 0, 1, 0, 0, 0, 0), (48, .istore 5, 2, 0, 0, 0, 0), (50, .iload 5, 2, 0, 0, 0, 0), (52, .aload_n 0, 1, 0, 0, 0, 0), (53, .getfield 34, 3, 12, 17, 1367, 2), (56, .iconst 4, 1, 0, 0, 0, 0), (57, .iaload, 1, 0, 0, 0, 0), (58, .if_icmp .ge 39, 3, 0, 0, 0, 0), (61, .iload 4, 2, 0, 0, 0, 0), (63, .aload_n 0, 1, 0, 0, 0, 0), (64, .iload 5, 2, 0, 0, 0, 0), (66, .invokevirtual 248, 3, 9990, 1, 1673, 12), (69, .iload_n 1, 1, 0, 0, 0, 0), (70, .if_icmp .ne 17, 3, 0, 0, 0, 0), (73, .aload_n 0, 1, 0, 0, 0, 0), (74, .iload 5, 2, 0, 0, 0, 0), (76, .iload_n 3, 1, 0, 0, 0, 0), (77, .invokevirtual 261, 3, 9990, 2, 1677, 12), (80, .ifCond .eq 7, 3, 0, 0, 0, 0), (83, .iconst 1, 1, 0, 0, 0, 0), (84, .goto 4, 3, 0, 0, 0, 0), (87, .iconst 0, 1, 0, 0, 0, 0), (88, .iadd, 1, 0, 0, 0, 0), (89, .istore 4, 2, 0, 0, 0, 0), (91, .iinc 5 1, 3, 0, 0, 0, 0), (94, .goto (-44), 3, 0, 0, 0, 0), (97, .iload 4, 2, 0, 0, 0, 0), (99, .iload_n 2, 1, 0, 0, 0, 0), (100, .if_icmp .ne 5, 3, 0, 0, 0, 0), (103, .iload_n 3, 1, 0, 0, 0, 0), (104, .ireturn, 1, 0, 0, 0, 0), (105, .iinc 3 1, 3, 0, 0, 0, 0), (108, .goto (-86), 3, 0, 0, 0, 0), (111, .iconst (-1), 1, 0, 0, 0, 0), (112, .ireturn, 1, 0, 0, 0, 0)]
set_option maxRecDepth 100000 in
noncomputable def xt_130 : List xv_E := [(0, .aload_n 0, 1, 0, 0, 0, 0), (1, .iconst 0, 1, 0, 0, 0, 0), (2, .putfield 89, 3, 12, 0, 1350, 0), (5, .aload_n 0, 1, 0, 0, 0, 0), (6, .iload_n 1, 1, 0, 0, 0, 0), (7, .i2l, 1, 0, 0, 0, 0), (8, .invokevirtual 279, 3, 122, 1, 1637, 12), (11, .ifCond .ne 6, 3, 0, 0, 0, 0), (14, .bipush (-2), 2, 0, 0, 0, 0), (16, .ireturn, 1, 0, 0, 0, 0), (17, .aload_n 0, 1, 0, 0, 0, 0), (18, .invokevirtual 285, 3, 9990, 0, 1665, 12), (21, .aload_n 0, 1, 0, 0, 0, 0), (22, .iload_n 1, 1, 0, 0, 0, 0), (23, .invokevirtual 270, 3, 9990, 1, 1685, 12), (26, .ireturn, 1, 0, 0, 0, 0)]
set_option maxRecDepth 100000 in
noncomputable def xt_131 : List xv_E := [(0, .aload_n 0, 1, 0, 0, 0, 0), (1, .iconst 0, 1, 0, 0, 0, 0), (2, .putfield 89, 3, 12, 0, 1350, 0), (5, .aload_n 0, 1, 0, 0, 0, 0), (6, .iload_n 1, 1, 0, 0, 0, 0), (7, .i2l, 1, 0, 0, 0, 0), (8, .invokevirtual 279, 3, 122, 1, 1637, 12), (11, .ifCond .ne 6, 3, 0, 0, 0, 0), (14, .bipush (-2), 2, 0, 0, 0, 0), (16, .ireturn, 1, 0, 0, 0, 0), (17, .aload_n 0, 1, 0, 0, 0, 0), (18, .invokevirtual 285, 3, 9990, 0, 1665, 12), (21, .aload_n 0, 1, 0, 0, 0, 0), (22, .iload_n 1, 1, 0, 0, 0, 0), (23, .invokevirtual 264, 3, 9990, 1, 1689, 12), (26, .ireturn, 1, 0, 0, 0, 0)]
set_option maxRecDepth 100000 in
noncomputable def xt_132 : List xv_E := [(0, .aload_n 0, 1, 0, 0, 0, 0), (1, .iconst 0, 1, 0, 0, 0, 0), (2, .putfield 89, 3, 12, 0, 1350, 0), (5, .aload_n 0, 1, 0, 0, 0, 0), (6, .iload_n 1, 1, 0, 0, 0, 0), (7, .i2l, 1, 0, 0, 0, 0), (8, .invokevirtual 279, 3, 122, 1, 1637, 12), (11, .ifCond .eq 15, 3, 0, 0, 0, 0), (14, .iload_n 2, 1, 0, 0, 0, 0), (15, .i2l, 1, 0, 0, 0, 0), (16, .lconst 0, 1, 0, 0, 0, 0), (17, .ldc2_w 288, 3, 0, 0, 1708, 20), (20, .invokestatic 94, 3, 101, 3, 1486, 12), (23, .ifCond .ne 6, 3, 0, 0, 0, 0), (26, .bipush (-2), 2, 0, 0, 0, 0), (28, .ireturn, 1, 0, 0, 0, 0), (29, .aload_n 0, 1, 0, 0, 0, 0), (30, .invokevirtual 285, 3, 9990, 0, 1665, 12), (33, .iload_n 1, 1, 0, 0, 0, 0), (34, .istore_n 3, 1, 0, 0, 0, 0), (35, .iconst 0, 1, 0, 0, 0, 0), (36, .istore 4, 2, 0, 0, 0, 0), (38, .iload 4, 2, 0, 0, 0, 0), (40, .iload_n 2, 1, 0, 0, 0, 0), (41, .if_icmp .ge 20, 3, 0, 0, 0, 0), (44, .iload_n 3, 1, 0, 0, 0, 0), (45, .iconst (-1), 1, 0, 0, 0, 0), (46, .if_icmp .eq 15, 3, 0, 0, 0, 0), (49, .aload_n 0, 1, 0, 0, 0, 0), (50, .iload_n 3, 1, 0, 0, 0, 0), (51, .invokevirtual 264, 3, 9990, 1, 1689, 12), (54, .istore_n 3, 1, 0, 0, 0, 0), (55, .iinc 4 1, 3, 0, 0, 0, 0), (58, .goto (-20), 3, 0, 0, 0, 0), (61, .iload_n 3, 1, 0, 0, 0, 0), (62, .ireturn, 1, 0, 0, 0, 0)]
set_option maxRecDepth 100000 in
noncomputable def xt_133 : List xv_E := [(0, .aload_n 0, 1, 0, 0, 0, 0), (1, .iconst 0, 1, 0, 0, 0, 0), (2, .putfield 89, 3, 12, 0, 1350, 0), (5, .aload_n 0, 1, 0, 0, 0, 0), (6, .iload_n 1, 1, 0, 0, 0, 0), (7, .invokevirtual 282, 3, 123, 1, 1657, 12), (10, .ifCond .ne 6, 3, 0, 0, 0, 0), (13, .bipush (-2), 2, 0, 0, 0, 0), (15, .ireturn, 1, 0, 0, 0, 0), (16, .aload_n 0, 1, 0, 0, 0, 0), (17, .invokevirtual 285, 3, 9990, 0, 1665, 12), (20, .iconst (-1), 1, 0, 0, 0, 0), (21, .istore_n 2, 1, 0, 0, 0, 0), (22, .iconst 0, 1, 0, 0, 0, 0), (23, .istore_n 3, 1, 0, 0, 0, 0), (24, .iload_n 3, 1, 0, 0, 0, 0), (25, .aload_n 0, 1, 0, 0, 0, 0), (26, .getfield 34, 3, 12, 17, 1367, 2), (29, .iconst 4, 1, 0, 0, 0, 0), (30, .iaload, 1, 0, 0, 0, 0), (31, .if_icmp .ge 34, 3, 0, 0, 0, 0), (34, .aload_n 0, 1, 0, 0, 0, 0), (35, .iload_n 3, 1, 0, 0, 0, 0), (36, .invokevirtual 248, 3, 9990, 1, 1673, 12), (39, .iload_n 1, 1, 0, 0, 0, 0), (40, .if_icmp .ne 19, 3, 0, 0, 0, 0), (43, .iload_n 2, 1, 0, 0, 0, 0), (44, .iconst (-1), 1, 0, 0, 0, 0), (45, .if_icmp .eq 12, 3, 0, 0, 0, 0), (48, .aload_n 0, 1, 0, 0, 0, 0), (49, .iload_n 2, 1, 0, 0, 0, 0), (50, .iload_n 3, 1, 0, 0, 0, 0), (51, .invokevirtual 261, 3, 9990, 2, 1677, 12), (54, .ifCond .eq 5, 3, 0, 0, 0, 0), (57, .iload_n 3, 1, 0, 0, 0, 0), (58, .istore_n 2, 1, 0, 0, 0, 0), (59, .iinc 3 1, 3, 0, 0, 0, 0), (62, .goto (-38), 3, 0, 0, 0, 0), (65, .iload_n 2, 1, 0, 0, 0, 0), (66, .iconst (-1), 1, 0, 0, 0, 0), (67, .if_icmp .ne 12, 3, 0, 0, 0, 0), (70, .aload_n 0, 1, 0, 0, 0, 0), (71, .getfield 43, 3, 12, 20, 1370, 2), (74, .iload_n 1, 1, 0, 0, 0, 0), (75, .iaload, 1, 0, 0, 0, 0), (76, .goto 8, 3, 0, 0, 0, 0), (79, .aload_n 0, 1, 0, 0, 0, 0), (80, .iload_n 2, 1, 0, 0, 0, 0), (81, .invokevirtual 267, 3, 9990, 1, 1696, 12), (84, .ireturn, 1, 0, 0, 0, 0)]
set_option maxRecDepth 100000 in
noncomputable def xt_134 : List xv_E := [(0, .aload_n 0, 1, 0, 0, 0, 0), (1, .iconst 0, 1, 0, 0, 0, 0), (2, .putfield 89, 3, 12, 0, 1350, 0), (5, .aload_n 0, 1, 0, 0, 0, 0), (6, .iload_n 1, 1, 0, 0, 0, 0), (7, .invokevirtual 282, 3, 123, 1, 1657, 12), (10, .ifCond .ne 6, 3, 0, 0, 0, 0), (13, .bipush (-2), 2, 0, 0, 0, 0), (15, .ireturn, 1, 0, 0, 0, 0), (16, .aload_n 0, 1, 0, 0, 0, 0), (17, .invokevirtual 285, 3, 9990, 0, 1665, 12), (20, .iconst 0, 1, 0, 0, 0, 0), (21, .istore_n 2, 1, 0, 0, 0, 0), (22, .iconst 0, 1, 0, 0, 0, 0), (23, .istore_n 3, 1, 0, 0, 0, 0), (24, .iload_n 3, 1, 0, 0, 0, 0), (25, .aload_n 0, 1, 0, 0, 0, 0), (26, .getfield 34, 3, 12, 17, 1367, 2), (29, .iconst 4, 1, 0, 0, 0, 0), (30, .iaload, 1, 0, 0, 0, 0), (31, .if_icmp .ge 30, 3, 0, 0, 0, 0), (34, .iload_n 2, 1, 0, 0, 0, 0), (35, .aload_n 0, 1, 0, 0, 0, 0), (36, .iload_n 3, 1, 0, 0, 0, 0), (37, .invokevirtual 248, 3, 9990, 1, 1673, 12), (40, .iload_n 1, 1, 0, 0, 0, 0), (41, .if_icmp .ne 11, 3, 0, 0, 0, 0), (44, .aload_n 0, 1, 0, 0, 0, 0), (45, .iload_n 3, 1, 0, 0, 0, 0), (46, .invokevirtual 290, 3, 9990, 1, 1717, 12), (49, .goto 4, 3, 0, 0, 0, 0), (52, .iconst 0, 1, 0, 0, 0, 0), (53, .iadd, 1, 0, 0, 0, 0), (54, .istore_n 2, 1, 0, 0, 0, 0), (55, .iinc 3 1, 3, 0, 0, 0, 0), (58, .goto (-34), 3, 0, 0, 0, 0), (61, .iload_n 2, 1, 0, 0, 0, 0), (62, .ireturn, 1, 0, 0, 0, 0)]
set_option maxRecDepth 100000 in
noncomputable def xt_135 : List xv_E := [(0, .aload_n 0, 1, 0, 0, 0, 0), (1, .iconst 0, 1, 0, 0, 0, 0), (2, .putfield 89, 3, 12, 0, 1350, 0), (5, .aload_n 0, 1, 0, 0, 0, 0), (6, .invokevirtual 293, 3, 120, 0, 1725, 12), (9, .ifCond .ne 6, 3, 0, 0, 0, 0), (12, .bipush (-2), 2, 0, 0, 0, 0), (14, .ireturn, 1, 0, 0, 0, 0), (15, .aload_n 0, 1, 0, 0, 0, 0), (16, .invokevirtual 285, 3, 9990, 0, 1665, 12), (19, .iconst 0, 1, 0, 0, 0, 0), (20, .istore_n 1, 1, 0, 0, 0, 0), (21, .iconst 0, 1, 0, 0, 0, 0), (22, .istore_n 2, 1, 0, 0, 0, 0), (23, .iload_n 2, 1, 0, 0, 0, 0), (24, .aload_n 0, 1, 0, 0, 0, 0), (25, .getfield 34, 3, 12, 17, 1367, 2), (28, .iconst 4, 1, 0, 0, 0, 0), (29, .iaload, 1, 0, 0, 0, 0), (30, .if_icmp .ge 32, 3, 0, 0, 0, 0), (33, .iload_n 1, 1, 0, 0, 0, 0), (34, .aload_n 0, 1, 0, 0, 0, 0), (35, .iload_n 2, 1, 0, 0, 0, 0), (36, .invokevirtual 270, 3, 9990, 1, 1685, 12), (39, .aload_n 0, 1, 0, 0, 0, 0), (40, .iload_n 2, 1, 0, 0, 0, 0), (41, .invokevirtual 267, 3, 9990, 1, 1696, 12), (44, .if_icmp .ne 9, 3, 0, 0, 0, 0), (47, .iconst 1, 1, 0, 0, 0, 0), (48, .iload_n 2, 1, 0, 0, 0, 0), (49, .ishl, 1, 0, 0, 0, 0), (50, .goto 4, 3, 0, 0, 0, 0), (53, .iconst 0, 1, 0, 0, 0, 0), (54, .ior, 1, 0, 0, 0, 0), (55, .istore_n 1, 1, 0, 0, 0, 0), (56, .iinc 2 1, 3, 0, 0, 0, 0), (59, .goto (-36), 3, 0, 0, 0, 0), (62, .iload_n 1, 1, 0, 0, 0, 0), (63, .ireturn, 1, 0, 0, 0, 0)]
set_option maxRecDepth 100000 in
noncomputable def xt_136 : List xv_E := [(0, .aload_n 0, 1, 0, 0, 0, 0), (1, .iconst 0, 1, 0, 0, 0, 0), (2, .putfield 89, 3, 12, 0, 1350, 0), (5, .aload_n 0, 1, 0, 0, 0, 0), (6, .invokevirtual 293, 3, 120, 0, 1725, 12), (9, .ifCond .ne 6, 3, 0, 0, 0, 0), (12, .bipush (-2), 2, 0, 0, 0, 0), (14, .ireturn, 1, 0, 0, 0, 0), (15, .aload_n 0, 1, 0, 0, 0, 0), (16, .invokevirtual 285, 3, 9990, 0, 1665, 12), (19, .iconst 0, 1, 0, 0, 0, 0), (20, .istore_n 1, 1, 0, 0, 0, 0), (21, .iconst 0, 1, 0, 0, 0, 0), (22, .istore_n 2, 1, 0, 0, 0, 0), (23, .iload_n 2, 1, 0, 0, 0, 0), (24, .aload_n 0, 1, 0, 0, 0, 0), (25, .getfield 34, 3, 12, 17, 1367, 2), (28, .iconst 4, 1, 0, 0, 0, 0), (29, .iaload, 1, 0, 0, 0, 0), (30, .if_icmp .ge 37, 3, 0, 0, 0, 0), (33, .iload_n 1, 1, 0, 0, 0, 0), (34, .aload_n 0, 1, 0, 0, 0, 0), (35, .iload_n 2, 1, 0, 0, 0, 0), (36, .invokevirtual 290, 3, 9990, 1, 1717, 12), (39, .aload_n 0, 1, 0, 0, 0, 0), (40, .iload_n 2, 1, 0, 0, 0, 0), (41, .aload_n 0, 1, 0, 0, 0, 0), (42, .iload_n 2, 1, 0, 0, 0, 0), (43, .invokevirtual 267, 3, 9990, 1, 1696, 12), (46, .invokevirtual 273, 3, 9990, 2, 1649, 12), (49, .if_icmp .ge 9, 3, 0, 0, 0, 0), (52, .iconst 1, 1, 0, 0, 0, 0), (53, .iload_n 2, 1, 0, 0, 0, 0), (54, .ishl, 1, 0, 0, 0, 0), (55, .goto 4, 3, 0, 0, 0, 0), (58, .iconst 0, 1, 0, 0, 0, 0), (59, .ior, 1, 0, 0, 0, 0), (60, .istore_n 1, 1, 0, 0, 0, 0), (61, .iinc 2 1, 3, 0, 0, 0, 0), (64, .goto (-41), 3, 0, 0, 0, 0), (67, .iload_n 1, 1, 0, 0, 0, 0), (68, .ireturn, 1, 0, 0, 0, 0)]
set_option maxRecDepth 100000 in
noncomputable def xt_137 : List xv_E := [(0, .aload_n 0, 1, 0, 0, 0, 0), (1, .iconst 0, 1, 0, 0, 0, 0), (2, .putfield 89, 3, 12, 0, 1350, 0), (5, .aload_n 0, 1, 0, 0, 0, 0), (6, .invokevirtual 293, 3, 120, 0, 1725, 12), (9, .ifCond .ne 6, 3, 0, 0, 0, 0), (12, .bipush (-2), 2, 0, 0, 0, 0), (14, .ireturn, 1, 0, 0, 0, 0), (15, .aload_n 0, 1, 0, 0, 0, 0), (16, .invokevirtual 285, 3, 9990, 0, 1665, 12), (19, .iconst (-1), 1, 0, 0, 0, 0), (20, .istore_n 1, 1, 0, 0, 0, 0), (21, .iconst 0, 1, 0, 0, 0, 0), (22, .istore_n 2, 1, 0, 0, 0, 0), (23, .iconst 0, 1, 0, 0, 0, 0), (24, .istore_n 3, 1, 0, 0, 0, 0), (25, .iload_n 3, 1, 0, 0, 0, 0), (26, .aload_n 0, 1, 0, 0, 0, 0), (27, .getfield 34, 3, 12, 17, 1367, 2), (30, .iconst 4, 1, 0, 0, 0, 0), (31, .iaload, 1, 0, 0, 0, 0), (32, .if_icmp .ge 41, 3, 0, 0, 0, 0), (35, .aload_n 0, 1, 0, 0, 0, 0), (36, .iload_n 3, 1, 0, 0, 0, 0), (37, .invokevirtual 290, 3, 9990, 1, 1717, 12), (40, .aload_n 0, 1, 0, 0, 0, 0), (41, .iload_n 3, 1, 0, 0, 0, 0), (42, .aload_n 0, 1, 0, 0, 0, 0), (43, .iload_n 3, 1, 0, 0, 0, 0), (44, .invokevirtual 267, 3, 9990, 1, 1696, 12), (47, .invokevirtual 273, 3, 9990, 2, 1649, 12), (50, .isub, 1, 0, 0, 0, 0), (51, .istore 4, 2, 0, 0, 0, 0), (53, .iload 4, 2, 0, 0, 0, 0), (55, .iload_n 2, 1, 0, 0, 0, 0), (56, .if_icmp .gt 6, 3, 0, 0, 0, 0), (59, .goto 8, 3, 0, 0, 0, 0), (62, .iload_n 3, 1, 0, 0, 0, 0), (63, .istore_n 1, 1, 0, 0, 0, 0), (64, .iload 4, 2, 0, 0, 0, 0), (66, .istore_n 2, 1, 0, 0, 0, 0), (67, .iinc 3 1, 3, 0, 0, 0, 0), (70, .goto (-45), 3, 0, 0, 0, 0), (73, .iload_n 1, 1, 0, 0, 0, 0), (74, .ireturn, 1, 0, 0, 0, 0)]
set_option maxRecDepth 100000 in
noncomputable def xt_138 : List xv_E := [(0, .aload_n 0, 1, 0, 0, 0, 0), (1, .iconst 0, 1, 0, 0, 0, 0), (2, .putfield 89, 3, 12, 0, 1350, 0), (5, .aload_n 0, 1, 0, 0, 0, 0), (6, .invokevirtual 293, 3, 120, 0, 1725, 12), (9, .ifCond .eq 17, 3, 0, 0, 0, 0), (12, .iload_n 1, 1, 0, 0, 0, 0), (13, .iconst (-1), 1, 0, 0, 0, 0), (14, .if_icmp .eq 15, 3, 0, 0, 0, 0), (17, .aload_n 0, 1, 0, 0, 0, 0), (18, .iload_n 1, 1, 0, 0, 0, 0), (19, .i2l, 1, 0, 0, 0, 0), (20, .invokevirtual 276, 3, 121, 1, 1629, 12), (23, .ifCond .ne 6, 3, 0, 0, 0, 0), (26, .bipush (-2), 2, 0, 0, 0, 0), (28, .ireturn, 1, 0, 0, 0, 0), (29, .aload_n 0, 1, 0, 0, 0, 0), (30, .invokevirtual 285, 3, 9990, 0, 1665, 12), (33, .iconst 0, 1, 0, 0, 0, 0), (34, .istore_n 2, 1, 0, 0, 0, 0), (35, .iconst 0, 1, 0, 0, 0, 0), (36, .istore_n 3, 1, 0, 0, 0, 0), (37, .iload_n 3, 1, 0, 0, 0, 0), (38, .aload_n 0, 1, 0, 0, 0, 0), (39, .getfield 34, 3, 12, 17, 1367, 2), (42, .iconst 4, 1, 0, 0, 0, 0), (43, .iaload, 1, 0, 0, 0, 0), (44, .if_icmp .ge 28, 3, 0, 0, 0, 0), (47, .iload_n 2, 1, 0, 0, 0, 0), (48, .aload_n 0, 1, 0, 0, 0, 0), (49, .iload_n 3, 1, 0, 0, 0, 0), (50, .invokevirtual 270, 3, 9990, 1, 1685, 12), (53, .iload_n 1, 1, 0, 0, 0, 0), (54, .if_icmp .ne 9, 3, 0, 0, 0, 0), (57, .iconst 1, 1, 0, 0, 0, 0), (58, .iload_n 3, 1, 0, 0, 0, 0), (59, .ishl, 1, 0, 0, 0, 0), (60, .goto 4, 3, 0, 0, 0, 0), (63, .iconst 0, 1, 0, 0, 0, 0), (64, .ior, 1, 0, 0, 0, 0), (65, .istore_n 2, 1, 0, 0, 0, 0), (66, .iinc 3 1, 3, 0, 0, 0, 0), (69, .goto (-32), 3, 0, 0, 0, 0), (72, .iload_n 2, 1, 0, 0, 0, 0), (73, .ireturn, 1, 0, 0, 0, 0)]
set_option maxRecDepth 100000 in
noncomputable def xt_139 : List xv_E := [(0, .aload_n 0, 1, 0, 0, 0, 0), (1, .iconst 0, 1, 0, 0, 0, 0), (2, .putfield 89, 3, 12, 0, 1350, 0), (5, .aload_n 0, 1, 0, 0, 0, 0), (6, .iload_n 1, 1, 0, 0, 0, 0), (7, .i2l, 1, 0, 0, 0, 0), (8, .invokevirtual 279, 3, 122, 1, 1637, 12), (11, .ifCond .ne 6, 3, 0, 0, 0, 0), (14, .bipush (-2), 2, 0, 0, 0, 0), (16, .ireturn, 1, 0, 0, 0, 0), (17, .aload_n 0, 1, 0, 0, 0, 0), (18, .invokevirtual 285, 3, 9990, 0, 1665, 12), (21, .iconst 0, 1, 0, 0, 0, 0), (22, .istore_n 2, 1, 0, 0, 0, 0), (23, .aload_n 0, 1, 0, 0, 0, 0), (24, .iload_n 1, 1, 0, 0, 0, 0), (25, .invokevirtual 264, 3, 9990, 1, 1689, 12), (28, .istore_n 3, 1, 0, 0, 0, 0), (29, .iload_n 3, 1, 0, 0, 0, 0), (30, .iconst (-1), 1, 0, 0, 0, 0), (31, .if_icmp .eq 15, 3, 0, 0, 0, 0), (34, .iinc 2 1, 3, 0, 0, 0, 0), (37, .aload_n 0, 1, 0, 0, 0, 0), (38, .iload_n 3, 1, 0, 0, 0, 0), (39, .invokevirtual 264, 3, 9990, 1, 1689, 12), (42, .istore_n 3, 1, 0, 0, 0, 0), (43, .goto (-14), 3, 0, 0, 0, 0), (46, .iload_n 2, 1, 0, 0, 0, 0), (47, .ireturn, 1, 0, 0, 0, 0)]
set_option maxRecDepth 100000 in
noncomputable def xt_140 : List xv_E := [(0, .aload_n 0, 1, 0, 0, 0, 0), (1, .iconst 0, 1, 0, 0, 0, 0), (2, .putfield 89, 3, 12, 0, 1350, 0), (5, .aload_n 0, 1, 0, 0, 0, 0), (6, .iload_n 1, 1, 0, 0, 0, 0), (7, .i2l, 1, 0, 0, 0, 0), (8, .invokevirtual 279, 3, 122, 1, 1637, 12), (11, .ifCond .ne 6, 3, 0, 0, 0, 0), (14, .bipush (-2), 2, 0, 0, 0, 0), (16, .ireturn, 1, 0, 0, 0, 0), (17, .aload_n 0, 1, 0, 0, 0, 0), (18, .invokevirtual 285, 3, 9990, 0, 1665, 12), (21, .iconst (-1), 1, 0, 0, 0, 0), (22, .istore_n 2, 1, 0, 0, 0, 0), (23, .aload_n 0, 1, 0, 0, 0, 0), (24, .iload_n 1, 1, 0, 0, 0, 0), (25, .invokevirtual 290, 3, 9990, 1, 1717, 12), (28, .istore_n 3, 1, 0, 0, 0, 0), (29, .iconst 0, 1, 0, 0, 0, 0), (30, .istore 4, 2, 0, 0, 0, 0), (32, .iload 4, 2, 0, 0, 0, 0), (34, .aload_n 0, 1, 0, 0, 0, 0), (35, .getfield 34, 3, 12, 17, 1367, 2), (38, .iconst 4, 1, 0, 0, 0, 0), (39, .iaload, 1, 0, 0, 0, 0), (40, .if_icmp .ge 63, 3, 0, 0, 0, 0), (43, .aload_n 0, 1, 0, 0, 0, 0), (44, .iload_n 1, 1, 0, 0, 0, 0), (45, .aload_n 0, 1, 0, 0, 0, 0), (46, .iload 4, 2, 0, 0, 0, 0), (48, .invokevirtual 270, 3, 9990, 1, 1685, 12), (51, .invokevirtual 273, 3, 9990, 2, 1649, 12), (54, .istore 5, 2, 0, 0, 0, 0), (56, .iload 4, 2, 0, 0, 0, 0), (58, .iload_n 1, 1, 0, 0, 0, 0), (59, .if_icmp .eq 38, 3, 0, 0, 0, 0), (62, .iload 5, 2, 0, 0, 0, 0), (64, .iload_n 3, 1, 0, 0, 0, 0), (65, .if_icmp .ge 32, 3, 0, 0, 0, 0), (68, .aload_n 0, 1, 0, 0, 0, 0), (69, .iload 4, 2, 0, 0, 0, 0), (71, .aload_n 0, 1, 0, 0, 0, 0), (72, .iload_n 1, 1, 0, 0, 0, 0), (73, .invokevirtual 270, 3, 9990, 1, 1685, 12), (76, .invokevirtual 273, 3, 9990, 2, 1649, 12), (79, .aload_n 0, 1, 0, 0, 0, 0), (80, .iload 4, 2, 0, 0, 0, 0), (82, .invokevirtual 290, 3, 9990, 1, 1717, 12), (85, .if_icmp .le 6, 3, 0, 0, 0, 0), (88, .goto 9, 3, 0, 0, 0, 0), (91, .iload 4, 2, 0, 0, 0, 0), (93, .istore_n 2, 1, 0, 0, 0, 0), (94, .iload 5, 2, 0, 0, 0, 0), (96, .istore_n 3, 1, 0, 0, 0, 0), (97, .iinc 4 1, 3, 0, 0, 0, 0), (100, .goto (-68), 3, 0, 0, 0, 0), (103, .iload_n 2, 1, 0, 0, 0, 0), (104, .ireturn, 1, 0, 0, 0, 0)]
set_option maxRecDepth 100000 in
noncomputable def xt_141 : List xv_E := [(0, .aload_n 0, 1, 0, 0, 0, 0), (1, .iconst 0, 1, 0, 0, 0, 0), (2, .putfield 89, 3, 12, 0, 1350, 0), (5, .aload_n 0, 1, 0, 0, 0, 0), (6, .iload_n 1, 1, 0, 0, 0, 0), (7, .i2l, 1, 0, 0, 0, 0), (8, .invokevirtual 279, 3, 122, 1, 1637, 12), (11, .ifCond .ne 6, 3, 0, 0, 0, 0), (14, .bipush (-2), 2, 0, 0, 0, 0), (16, .ireturn, 1, 0, 0, 0, 0), (17, .aload_n 0, 1, 0, 0, 0, 0), (18, .iload_n 1, 1, 0, 0, 0, 0), (19, .invokevirtual 300, 3, 9990, 1, 1753, 12), (22, .pop, 1, 0, 0, 0, 0), (23, .aload_n 0, 1, 0, 0, 0, 0), (24, .getfield 297, 3, 12, 25, 1375, 0), (27, .ireturn, 1, 0, 0, 0, 0)]
set_option maxRecDepth 100000 in
noncomputable def xt_142 : List xv_E := [(0, .aload_n 0, 1, 0, 0, 0, 0), (1, .iconst 0, 1, 0, 0, 0, 0), (2, .putfield 89, 3, 12, 0, 1350, 0), (5, .aload_n 0, 1, 0, 0, 0, 0), (6, .iload_n 1, 1, 0, 0, 0, 0), (7, .i2l, 1, 0, 0, 0, 0), (8, .invokevirtual 279, 3, 122, 1, 1637, 12), (11, .ifCond .eq 11, 3, 0, 0, 0, 0), (14, .aload_n 0, 1, 0, 0, 0, 0), (15, .iload_n 1, 1, 0, 0, 0, 0), (16, .invokevirtual 300, 3, 9990, 1, 1753, 12), (19, .goto 5, 3, 0, 0, 0, 0), (22, .bipush (-2), 2, 0, 0, 0, 0), (24, .ireturn, 1, 0, 0, 0, 0)]
set_option maxRecDepth 100000 in
noncomputable def xt_143 : List xv_E := [(0, .aload_n 0, 1, 0, 0, 0, 0), (1, .iconst 0, 1, 0, 0, 0, 0), (2, .putfield 89, 3, 12, 0, 1350, 0), (5, .aload_n 0, 1, 0, 0, 0, 0), (6, .iload_n 2, 1, 0, 0, 0, 0), (7, .invokevirtual 282, 3, 123, 1, 1657, 12), (10, .ifCond .ne 6, 3, 0, 0, 0, 0), (13, .bipush (-2), 2, 0, 0, 0, 0), (15, .ireturn, 1, 0, 0, 0, 0), (16, .aload_n 0, 1, 0, 0, 0, 0), (17, .iload_n 1, 1, 0, 0, 0, 0), (18, .iload_n 2, 1, 0, 0, 0, 0), (19, .invokevirtual 317, 3, 9990, 2, 1770, 12), (22, .aload_n 0, 1, 0, 0, 0, 0), (23, .getfield 56, 3, 12, 26, 1376, 2), (26, .iconst 0, 1, 0, 0, 0, 0), (27, .iaload, 1, 0, 0, 0, 0), (28, .ireturn, 1, 0, 0, 0, 0)]
set_option maxRecDepth 100000 in
noncomputable def xt_144 : List xv_E := [(0, .aload_n 0, 1, 0, 0, 0, 0), (1, .iconst 0, 1, 0, 0, 0, 0), (2, .iload_n 1, 1, 0, 0, 0, 0), (3, .invokevirtual 320, 3, 143, 2, 1766, 12), (6, .ireturn, 1, 0, 0, 0, 0)]
set_option maxRecDepth 100000 in
noncomputable def xt_145 : List xv_E := [(0, .aload_n 0, 1, 0, 0, 0, 0), (1, .iconst 0, 1, 0, 0, 0, 0), (2, .iload_n 1, 1, 0, 0, 0, 0), (3, .invokevirtual 320, 3, 143, 2, 1766, 12), (6, .bipush (-2), 2, 0, 0, 0, 0), (8, .if_icmp .ne 6, 3, 0, 0, 0, 0), (11, .bipush (-2), 2, 0, 0, 0, 0), (13, .ireturn, 1, 0, 0, 0, 0), (14, .aload_n 0, 1, 0, 0, 0, 0), (15, .iload_n 1, 1, 0, 0, 0, 0), (16, .invokevirtual 303, 3, 9990, 1, 1774, 12), (19, .istore_n 3, 1, 0, 0, 0, 0), (20, .iconst 0, 1, 0, 0, 0, 0), (21, .istore 4, 2, 0, 0, 0, 0), (23, .iconst (-1), 1, 0, 0, 0, 0), (24, .istore 5, 2, 0, 0, 0, 0), (26, .iconst 0, 1, 0, 0, 0, 0), (27, .istore 6, 2, 0, 0, 0, 0), (29, .iload 4, 2, 0, 0, 0, 0), (31, .iload_n 3, 1, 0, 0, 0, 0), (32, .if_icmp .eq 106, 3, 0, 0, 0, 0), (35, .iconst 0, 1, 0, 0, 0, 0), (36, .istore 7, 2, 0, 0, 0, 0), (38, .iload_n 3, 1, 0, 0, 0, 0), (39, .iload 4, 2, 0, 0, 0, 0), (41, .iconst (-1), 1, 0, 0, 0, 0), (42, .ixor, 1, 0, 0, 0, 0), (43, .iand, 1, 0, 0, 0, 0), (44, .iload 7, 2, 0, 0, 0, 0), (46, .invokestatic 257, 3, 9990, 2, 1693, 12), (49, .ifCond .eq 55, 3, 0, 0, 0, 0), (52, .iconst 0, 1, 0, 0, 0, 0), (53, .aload_n 0, 1, 0, 0, 0, 0), (54, .iconst 0, 1, 0, 0, 0, 0), (55, .iload_n 1, 1, 0, 0, 0, 0), (56, .iload 5, 2, 0, 0, 0, 0), (58, .iload 7, 2, 0, 0, 0, 0), (60, .invokevirtual 306, 3, 9990, 4, 1778, 12), (63, .aload_n 0, 1, 0, 0, 0, 0), (64, .getfield 56, 3, 12, 26, 1376, 2), (67, .bipush 8, 2, 0, 0, 0, 0), (69, .iload 4, 2, 0, 0, 0, 0), (71, .iconst 1, 1, 0, 0, 0, 0), (72, .iload 7, 2, 0, 0, 0, 0), (74, .ishl, 1, 0, 0, 0, 0), (75, .ior, 1, 0, 0, 0, 0), (76, .imul, 1, 0, 0, 0, 0), (77, .iload 7, 2, 0, 0, 0, 0), (79, .iadd, 1, 0, 0, 0, 0), (80, .iconst 1, 1, 0, 0, 0, 0), (81, .iadd, 1, 0, 0, 0, 0), (82, .iaload, 1, 0, 0, 0, 0), (83, .invokestatic 310, 3, 9990, 3, 1782, 12), (86, .aload_n 0, 1, 0, 0, 0, 0), (87, .getfield 56, 3, 12, 26, 1376, 2), (90, .bipush 8, 2, 0, 0, 0, 0), (92, .iload 4, 2, 0, 0, 0, 0), (94, .imul, 1, 0, 0, 0, 0), (95, .iload 5, 2, 0, 0, 0, 0), (97, .iadd, 1, 0, 0, 0, 0), (98, .iconst 1, 1, 0, 0, 0, 0), (99, .iadd, 1, 0, 0, 0, 0), (100, .iaload, 1, 0, 0, 0, 0), (101, .if_icmp .eq 9, 3, 0, 0, 0, 0), (104, .iinc 7 1, 3, 0, 0, 0, 0), (107, .goto (-69), 3, 0, 0, 0, 0), (110, .iload 6, 2, 0, 0, 0, 0), (112, .iload_n 2, 1, 0, 0, 0, 0), (113, .if_icmp .ne 6, 3, 0, 0, 0, 0), (116, .iload 7, 2, 0, 0, 0, 0), (118, .ireturn, 1, 0, 0, 0, 0), (119, .iload 4, 2, 0, 0, 0, 0), (121, .iconst 1, 1, 0, 0, 0, 0), (122, .iload 7, 2, 0, 0, 0, 0), (124, .ishl, 1, 0, 0, 0, 0), (125, .ior, 1, 0, 0, 0, 0), (126, .istore 4, 2, 0, 0, 0, 0), (128, .iload 7, 2, 0, 0, 0, 0), (130, .istore 5, 2, 0, 0, 0, 0), (132, .iinc 6 1, 3, 0, 0, 0, 0), (135, .goto (-106), 3, 0, 0, 0, 0), (138, .iconst (-1), 1, 0, 0, 0, 0), (139, .ireturn, 1, 0, 0, 0, 0)]
set_option maxRecDepth 100000 in
noncomputable def xt_146 : List xv_E := [(0, .aload_n 0, 1, 0, 0, 0, 0), (1, .iconst 1, 1, 0, 0, 0, 0), (2, .iload_n 1, 1, 0, 0, 0, 0), (3, .invokevirtual 320, 3, 143, 2, 1766, 12), (6, .ireturn, 1, 0, 0, 0, 0)]
set_option maxRecDepth 100000 in
noncomputable def xt_147 : List xv_E := [(0, .aload_n 0, 1, 0, 0, 0, 0), (1, .iconst 2, 1, 0, 0, 0, 0), (2, .iload_n 1, 1, 0, 0, 0, 0), (3, .invokevirtual 320, 3, 143, 2, 1766, 12), (6, .ireturn, 1, 0, 0, 0, 0)]
set_option maxRecDepth 100000 in
noncomputable def xt_148 : List xv_E := [(0, .aload_n 0, 1, 0, 0, 0, 0), (1, .iconst 3, 1, 0, 0, 0, 0), (2, .iload_n 1, 1, 0, 0, 0, 0), (3, .invokevirtual 320, 3, 143, 2, 1766, 12), (6, .ireturn, 1, 0, 0, 0, 0)]
set_option maxRecDepth 100000 in
noncomputable def xt_149 : List xv_E := [(0, .aload_n 0, 1, 0, 0, 0, 0), (1, .iconst 0, 1, 0, 0, 0, 0), (2, .iload_n 1, 1, 0, 0, 0, 0), (3, .invokevirtual 320, 3, 143, 2, 1766, 12), (6, .bipush (-2), 2, 0, 0, 0, 0), (8, .if_icmp .ne 8, 3, 0, 0, 0, 0), (11, .bipush (-2), 2, 0, 0, 0, 0), (13, .goto 9, 3, 0, 0, 0, 0), (16, .aload_n 0, 1, 0, 0, 0, 0), (17, .getfield 59, 3, 12, 27, 1377, 2), (20, .iconst 0, 1, 0, 0, 0, 0), (21, .iaload, 1, 0, 0, 0, 0), (22, .ireturn, 1, 0, 0, 0, 0)]
set_option maxRecDepth 100000 in
noncomputable def xt_150 : List xv_E := [(0, .aload_n 0, 1, 0, 0, 0, 0), (1, .iconst 0, 1, 0, 0, 0, 0), (2, .putfield 89, 3, 12, 0, 1350, 0), (5, .aload_n 0, 1, 0, 0, 0, 0), (6, .iload_n 1, 1, 0, 0, 0, 0), (7, .i2l, 1, 0, 0, 0, 0), (8, .invokevirtual 279, 3, 122, 1, 1637, 12), (11, .ifCond .eq 11, 3, 0, 0, 0, 0), (14, .aload_n 0, 1, 0, 0, 0, 0), (15, .iload_n 2, 1, 0, 0, 0, 0), (16, .invokevirtual 329, 3, 9990, 1, 1812, 12), (19, .ifCond .ne 6, 3, 0, 0, 0, 0), (22, .bipush (-2), 2, 0, 0, 0, 0), (24, .ireturn, 1, 0, 0, 0, 0), (25, .aload_n 0, 1, 0, 0, 0, 0), (26, .invokevirtual 285, 3, 9990, 0, 1665, 12), (29, .aload_n 0, 1, 0, 0, 0, 0), (30, .iload_n 1, 1, 0, 0, 0, 0), (31, .iload_n 2, 1, 0, 0, 0, 0), (32, .invokevirtual 323, 3, 9990, 2, 1816, 12), (35, .ireturn, 1, 0, 0, 0, 0)]
set_option maxRecDepth 100000 in
noncomputable def xt_151 : List xv_E := [(0, .aload_n 0, 1, 0, 0, 0, 0), (1, .iconst 0, 1, 0, 0, 0, 0), (2, .putfield 89, 3, 12, 0, 1350, 0), (5, .aload_n 0, 1, 0, 0, 0, 0), (6, .iload_n 1, 1, 0, 0, 0, 0), (7, .i2l, 1, 0, 0, 0, 0), (8, .invokevirtual 279, 3, 122, 1, 1637, 12), (11, .ifCond .ne 6, 3, 0, 0, 0, 0), (14, .bipush (-2), 2, 0, 0, 0, 0), (16, .ireturn, 1, 0, 0, 0, 0), (17, .aload_n 0, 1, 0, 0, 0, 0), (18, .invokevirtual 285, 3, 9990, 0, 1665, 12), (21, .aload_n 0, 1, 0, 0, 0, 0), (22, .iload_n 1, 1, 0, 0, 0, 0), (23, .invokevirtual 326, 3, 9990, 1, 1824, 12), (26, .ireturn, 1, 0, 0, 0, 0)]
set_option maxRecDepth 100000 in
noncomputable def xt_152 : List xv_E := [(0, .aload_n 0, 1, 0, 0, 0, 0), (1, .iconst 0, 1, 0, 0, 0, 0), (2, .putfield 89, 3, 12, 0, 1350, 0), (5, .aload_n 0, 1, 0, 0, 0, 0), (6, .invokevirtual 293, 3, 120, 0, 1725, 12), (9, .ifCond .ne 6, 3, 0, 0, 0, 0), (12, .bipush (-2), 2, 0, 0, 0, 0), (14, .ireturn, 1, 0, 0, 0, 0), (15, .aload_n 0, 1, 0, 0, 0, 0), (16, .invokevirtual 285, 3, 9990, 0, 1665, 12), (19, .iconst 0, 1, 0, 0, 0, 0), (20, .istore_n 1, 1, 0, 0, 0, 0), (21, .iconst 0, 1, 0, 0, 0, 0), (22, .istore_n 2, 1, 0, 0, 0, 0), (23, .iload_n 2, 1, 0, 0, 0, 0), (24, .aload_n 0, 1, 0, 0, 0, 0), (25, .getfield 34, 3, 12, 17, 1367, 2), (28, .iconst 4, 1, 0, 0, 0, 0), (29, .iaload, 1, 0, 0, 0, 0), (30, .if_icmp .ge 27, 3, 0, 0, 0, 0), (33, .iload_n 1, 1, 0, 0, 0, 0), (34, .aload_n 0, 1, 0, 0, 0, 0), (35, .iload_n 2, 1, 0, 0, 0, 0), (36, .invokevirtual 332, 3, 9990, 1, 1832, 12), (39, .ifCond .eq 9, 3, 0, 0, 0, 0), (42, .iconst 1, 1, 0, 0, 0, 0), (43, .iload_n 2, 1, 0, 0, 0, 0), (44, .ishl, 1, 0, 0, 0, 0), (45, .goto 4, 3, 0, 0, 0, 0), (48, .iconst 0, 1, 0, 0, 0, 0), (49, .ior, 1, 0, 0, 0, 0), (50, .istore_n 1, 1, 0, 0, 0, 0), (51, .iinc 2 1, 3, 0, 0, 0, 0), (54, .goto (-31), 3, 0, 0, 0, 0), (57, .iload_n 1, 1, 0, 0, 0, 0), (58, .ireturn, 1, 0, 0, 0, 0)]
set_option maxRecDepth 100000 in
noncomputable def xt_153 : List xv_E := [(0, .aload_n 0, 1, 0, 0, 0, 0), (1, .iconst 0, 1, 0, 0, 0, 0), (2, .putfield 89, 3, 12, 0, 1350, 0), (5, .aload_n 0, 1, 0, 0, 0, 0), (6, .invokevirtual 293, 3, 120, 0, 1725, 12), (9, .ifCond .eq 10, 3, 0, 0, 0, 0), (12, .aload_n 0, 1, 0, 0, 0, 0), (13, .invokevirtual 335, 3, 9990, 0, 1840, 12), (16, .goto 5, 3, 0, 0, 0, 0), (19, .bipush (-2), 2, 0, 0, 0, 0), (21, .ireturn, 1, 0, 0, 0, 0)]
set_option maxRecDepth 100000 in
noncomputable def xt_154 : List xv_E := [(0, .aload_n 0, 1, 0, 0, 0, 0), (1, .iconst 0, 1, 0, 0, 0, 0), (2, .putfield 89, 3, 12, 0, 1350, 0), (5, .aload_n 0, 1, 0, 0, 0, 0), (6, .iload_n 1, 1, 0, 0, 0, 0), (7, .i2l, 1, 0, 0, 0, 0), (8, .invokevirtual 279, 3, 122, 1, 1637, 12), (11, .ifCond .ne 6, 3, 0, 0, 0, 0), (14, .bipush (-2), 2, 0, 0, 0, 0), (16, .ireturn, 1, 0, 0, 0, 0), (17, .aload_n 0, 1, 0, 0, 0, 0), (18, .invokevirtual 335, 3, 9990, 0, 1840, 12), (21, .iconst (-1), 1, 0, 0, 0, 0), (22, .if_icmp .ne 7, 3, 0, 0, 0, 0), (25, .iconst (-1), 1, 0, 0, 0, 0), (26, .goto 9, 3, 0, 0, 0, 0), (29, .aload_n 0, 1, 0, 0, 0, 0), (30, .getfield 53, 3, 12, 23, 1373, 2), (33, .iload_n 1, 1, 0, 0, 0, 0), (34, .iaload, 1, 0, 0, 0, 0), (35, .ireturn, 1, 0, 0, 0, 0)]
set_option maxRecDepth 100000 in
noncomputable def xt_155 : List xv_E := [(0, .aload_n 0, 1, 0, 0, 0, 0), (1, .iconst 0, 1, 0, 0, 0, 0), (2, .putfield 89, 3, 12, 0, 1350, 0), (5, .aload_n 0, 1, 0, 0, 0, 0), (6, .invokevirtual 293, 3, 120, 0, 1725, 12), (9, .ifCond .ne 6, 3, 0, 0, 0, 0), (12, .bipush (-2), 2, 0, 0, 0, 0), (14, .ireturn, 1, 0, 0, 0, 0), (15, .aload_n 0, 1, 0, 0, 0, 0), (16, .invokevirtual 347, 3, 9990, 0, 1852, 12), (19, .aload_n 0, 1, 0, 0, 0, 0), (20, .invokevirtual 350, 3, 9990, 0, 1856, 12), (23, .ireturn, 1, 0, 0, 0, 0)]
set_option maxRecDepth 100000 in
noncomputable def xt_156 : List xv_E := [(0, .aload_n 0, 1, 0, 0, 0, 0), (1, .iconst 0, 1, 0, 0, 0, 0), (2, .putfield 89, 3, 12, 0, 1350, 0), (5, .aload_n 0, 1, 0, 0, 0, 0), (6, .invokevirtual 293, 3, 120, 0, 1725, 12), (9, .ifCond .eq 13, 3, 0, 0, 0, 0), (12, .iload_n 1, 1, 0, 0, 0, 0), (13, .i2l, 1, 0, 0, 0, 0), (14, .lconst 0, 1, 0, 0, 0, 0), (15, .lconst 1, 1, 0, 0, 0, 0), (16, .invokestatic 94, 3, 101, 3, 1486, 12), (19, .ifCond .ne 6, 3, 0, 0, 0, 0), (22, .bipush (-2), 2, 0, 0, 0, 0), (24, .ireturn, 1, 0, 0, 0, 0), (25, .aload_n 0, 1, 0, 0, 0, 0), (26, .invokevirtual 347, 3, 9990, 0, 1852, 12), (29, .aload_n 0, 1, 0, 0, 0, 0), (30, .invokevirtual 350, 3, 9990, 0, 1856, 12), (33, .istore_n 2, 1, 0, 0, 0, 0), (34, .iconst 0, 1, 0, 0, 0, 0), (35, .istore_n 3, 1, 0, 0, 0, 0), (36, .iload_n 3, 1, 0, 0, 0, 0), (37, .aload_n 0, 1, 0, 0, 0, 0), (38, .getfield 34, 3, 12, 17, 1367, 2), (41, .iconst 4, 1, 0, 0, 0, 0), (42, .iaload, 1, 0, 0, 0, 0), (43, .if_icmp .ge 74, 3, 0, 0, 0, 0), (46, .iload_n 2, 1, 0, 0, 0, 0), (47, .ifCond .le 70, 3, 0, 0, 0, 0), (50, .iload_n 3, 1, 0, 0, 0, 0), (51, .iconst 1, 1, 0, 0, 0, 0), (52, .iadd, 1, 0, 0, 0, 0), (53, .istore 4, 2, 0, 0, 0, 0), (55, .iload 4, 2, 0, 0, 0, 0), (57, .aload_n 0, 1, 0, 0, 0, 0), (58, .getfield 34, 3, 12, 17, 1367, 2), (61, .iconst 4, 1, 0, 0, 0, 0), (62, .iaload, 1, 0, 0, 0, 0), (63, .if_icmp .ge 48, 3, 0, 0, 0, 0), (66, .aload_n 0, 1, 0, 0, 0, 0), (67, .iload_n 3, 1, 0, 0, 0, 0), (68, .iload 4, 2, 0, 0, 0, 0), (70, .invokevirtual 353, 3, 9990, 2, 1872, 12), (73, .aload_n 0, 1, 0, 0, 0, 0), (74, .invokevirtual 350, 3, 9990, 0, 1856, 12), (77, .istore 5, 2, 0, 0, 0, 0), (79, .aload_n 0, 1, 0, 0, 0, 0), (80, .iload_n 3, 1, 0, 0, 0, 0), (81, .iload 4, 2, 0, 0, 0, 0), (83, .invokevirtual 353, 3, 9990, 2, 1872, 12), (86, .iload 5, 2, 0, 0, 0, 0), (88, .iload_n 2, 1, 0, 0, 0, 0), (89, .iconst 1, 1, 0, 0, 0, 0), (90, .isub, 1, 0, 0, 0, 0), (91, .if_icmp .ne 14, 3, 0, 0, 0, 0), (94, .iload_n 1, 1, 0, 0, 0, 0), (95, .ifCond .ne 7, 3, 0, 0, 0, 0), (98, .iload_n 3, 1, 0, 0, 0, 0), (99, .goto 5, 3, 0, 0, 0, 0), (102, .iload 4, 2, 0, 0, 0, 0), (104, .ireturn, 1, 0, 0, 0, 0), (105, .iinc 4 1, 3, 0, 0, 0, 0), (108, .goto (-53), 3, 0, 0, 0, 0), (111, .iinc 3 1, 3, 0, 0, 0, 0), (114, .goto (-78), 3, 0, 0, 0, 0), (117, .iconst (-1), 1, 0, 0, 0, 0), (118, .ireturn, 1, 0, 0, 0, 0)]
set_option maxRecDepth 100000 in
noncomputable def xt_157 : List xv_E := [(0, .aload_n 0, 1, 0, 0, 0, 0), (1, .iconst 0, 1, 0, 0, 0, 0), (2, .putfield 89, 3, 12, 0, 1350, 0), (5, .aload_n 0, 1, 0, 0, 0, 0), (6, .invokevirtual 293, 3, 120, 0, 1725, 12), (9, .ifCond .ne 6, 3, 0, 0, 0, 0), (12, .bipush (-2), 2, 0, 0, 0, 0), (14, .ireturn, 1, 0, 0, 0, 0), (15, .aload_n 0, 1, 0, 0, 0, 0), (16, .invokevirtual 347, 3, 9990, 0, 1852, 12), (19, .iconst 0, 1, 0, 0, 0, 0), (20, .istore_n 1, 1, 0, 0, 0, 0), (21, .iconst 0, 1, 0, 0, 0, 0), (22, .istore_n 2, 1, 0, 0, 0, 0), (23, .iload_n 2, 1, 0, 0, 0, 0), (24, .aload_n 0, 1, 0, 0, 0, 0), (25, .getfield 34, 3, 12, 17, 1367, 2), (28, .iconst 4, 1, 0, 0, 0, 0), (29, .iaload, 1, 0, 0, 0, 0), (30, .if_icmp .ge 87, 3, 0, 0, 0, 0), (33, .iload_n 2, 1, 0, 0, 0, 0), (34, .iconst 1, 1, 0, 0, 0, 0), (35, .iadd, 1, 0, 0, 0, 0), (36, .istore_n 3, 1, 0, 0, 0, 0), (37, .iload_n 3, 1, 0, 0, 0, 0), (38, .aload_n 0, 1, 0, 0, 0, 0), (39, .getfield 34, 3, 12, 17, 1367, 2), (42, .iconst 4, 1, 0, 0, 0, 0), (43, .iaload, 1, 0, 0, 0, 0), (44, .if_icmp .ge 67, 3, 0, 0, 0, 0), (47, .iload_n 1, 1, 0, 0, 0, 0), (48, .aload_n 0, 1, 0, 0, 0, 0), (49, .iload_n 2, 1, 0, 0, 0, 0), (50, .aload_n 0, 1, 0, 0, 0, 0), (51, .getfield 62, 3, 12, 28, 1378, 2), (54, .iload_n 3, 1, 0, 0, 0, 0), (55, .iaload, 1, 0, 0, 0, 0), (56, .invokevirtual 273, 3, 9990, 2, 1649, 12), (59, .aload_n 0, 1, 0, 0, 0, 0), (60, .iload_n 2, 1, 0, 0, 0, 0), (61, .aload_n 0, 1, 0, 0, 0, 0), (62, .getfield 62, 3, 12, 28, 1378, 2), (65, .iload_n 2, 1, 0, 0, 0, 0), (66, .iaload, 1, 0, 0, 0, 0), (67, .invokevirtual 273, 3, 9990, 2, 1649, 12), (70, .if_icmp .ge 32, 3, 0, 0, 0, 0), (73, .aload_n 0, 1, 0, 0, 0, 0), (74, .iload_n 3, 1, 0, 0, 0, 0), (75, .aload_n 0, 1, 0, 0, 0, 0), (76, .getfield 62, 3, 12, 28, 1378, 2), (79, .iload_n 2, 1, 0, 0, 0, 0), (80, .iaload, 1, 0, 0, 0, 0), (81, .invokevirtual 273, 3, 9990, 2, 1649, 12), (84, .aload_n 0, 1, 0, 0, 0, 0), (85, .iload_n 3, 1, 0, 0, 0, 0), (86, .aload_n 0, 1, 0, 0, 0, 0), (87, .getfield 62, 3, 12, 28, 1378, 2), (90, .iload_n 3, 1, 0, 0, 0, 0), (91, .iaload, 1, 0, 0, 0, 0), (92, .invokevirtual 273, 3, 9990, 2, 1649, 12), (95, .if_icmp .ge 7, 3, 0, 0, 0, 0), (98, .iconst 1, 1, 0, 0, 0, 0), (99, .goto 4, 3, 0, 0, 0, 0), (102, .iconst 0, 1, 0, 0, 0, 0), (103, .iadd, 1, 0, 0, 0, 0), (104, .istore_n 1, 1, 0, 0, 0, 0), (105, .iinc 3 1, 3, 0, 0, 0, 0), (108, .goto (-71), 3, 0, 0, 0, 0), (111, .iinc 2 1, 3, 0, 0, 0, 0), (114, .goto (-91), 3, 0, 0, 0, 0), (117, .iload_n 1, 1, 0, 0, 0, 0), (118, .ireturn, 1, 0, 0, 0, 0)]
set_option maxRecDepth 100000 in
noncomputable def xt_158 : List xv_E := [(0, .aload_n 0, 1, 0, 0, 0, 0), (1, .iconst 0, 1, 0, 0, 0, 0), (2, .putfield 89, 3, 12, 0, 1350, 0), (5, .aload_n 0, 1, 0, 0, 0, 0), (6, .invokevirtual 293, 3, 120, 0, 1725, 12), (9, .ifCond .ne 6, 3, 0, 0, 0, 0), (12, .bipush (-2), 2, 0, 0, 0, 0), (14, .ireturn, 1, 0, 0, 0, 0), (15, .aload_n 0, 1, 0, 0, 0, 0), (16, .invokevirtual 356, 3, 9990, 0, 1884, 12), (19, .aload_n 0, 1, 0, 0, 0, 0), (20, .getfield 68, 3, 12, 31, 1381, 2), (23, .iconst 0, 1, 0, 0, 0, 0), (24, .iaload, 1, 0, 0, 0, 0), (25, .ireturn, 1, 0, 0, 0, 0)]
set_option maxRecDepth 100000 in
noncomputable def xt_159 : List xv_E := [(0, .aload_n 0, 1, 0, 0, 0, 0), (1, .iconst 0, 1, 0, 0, 0, 0), (2, .putfield 89, 3, 12, 0, 1350, 0), (5, .aload_n 0, 1, 0, 0, 0, 0), (6, .iload_n 1, 1, 0, 0, 0, 0), (7, .i2l, 1, 0, 0, 0, 0), (8, .invokevirtual 279, 3, 122, 1, 1637, 12), (11, .ifCond .ne 6, 3, 0, 0, 0, 0), (14, .bipush (-2), 2, 0, 0, 0, 0), (16, .ireturn, 1, 0, 0, 0, 0), (17, .aload_n 0, 1, 0, 0, 0, 0), (18, .invokevirtual 356, 3, 9990, 0, 1884, 12), (21, .iconst 0, 1, 0, 0, 0, 0), (22, .istore_n 2, 1, 0, 0, 0, 0), (23, .iconst 0, 1, 0, 0, 0, 0), (24, .istore_n 3, 1, 0, 0, 0, 0), (25, .iload_n 3, 1, 0, 0, 0, 0), (26, .iload_n 1, 1, 0, 0, 0, 0), (27, .if_icmp .ge 20, 3, 0, 0, 0, 0), (30, .iload_n 2, 1, 0, 0, 0, 0), (31, .iconst 1, 1, 0, 0, 0, 0), (32, .aload_n 0, 1, 0, 0, 0, 0), (33, .iload_n 3, 1, 0, 0, 0, 0), (34, .iload_n 2, 1, 0, 0, 0, 0), (35, .invokevirtual 359, 3, 9990, 2, 1892, 12), (38, .ishl, 1, 0, 0, 0, 0), (39, .ior, 1, 0, 0, 0, 0), (40, .istore_n 2, 1, 0, 0, 0, 0), (41, .iinc 3 1, 3, 0, 0, 0, 0), (44, .goto (-19), 3, 0, 0, 0, 0), (47, .aload_n 0, 1, 0, 0, 0, 0), (48, .getfield 62, 3, 12, 28, 1378, 2), (51, .aload_n 0, 1, 0, 0, 0, 0), (52, .iload_n 1, 1, 0, 0, 0, 0), (53, .iload_n 2, 1, 0, 0, 0, 0), (54, .invokevirtual 359, 3, 9990, 2, 1892, 12), (57, .iaload, 1, 0, 0, 0, 0), (58, .ireturn, 1, 0, 0, 0, 0)]
set_option maxRecDepth 100000 in
noncomputable def xt_160 : List xv_E := [(0, .iload_n 1, 1, 0, 0, 0, 0), (1, .invokestatic 98, 3, 102, 1, 1482, 12), (4, .ifCond .eq 11, 3, 0, 0, 0, 0), (7, .aload_n 0, 1, 0, 0, 0, 0), (8, .iload_n 2, 1, 0, 0, 0, 0), (9, .invokevirtual 282, 3, 123, 1, 1657, 12), (12, .ifCond .ne 6, 3, 0, 0, 0, 0), (15, .bipush (-2), 2, 0, 0, 0, 0), (17, .ireturn, 1, 0, 0, 0, 0), (18, .aload_n 0, 1, 0, 0, 0, 0), (19, .getfield 7, 3, 12, 1, 1351, 2), (22, .iload_n 1, 1, 0, 0, 0, 0), (23, .iaload, 1, 0, 0, 0, 0), (24, .iconst (-1), 1, 0, 0, 0, 0), (25, .if_icmp .ne 6, 3, 0, 0, 0, 0), (28, .bipush (-6), 2, 0, 0, 0, 0), (30, .ireturn, 1, 0, 0, 0, 0), (31, .aload_n 0, 1, 0, 0, 0, 0), (32, .getfield 13, 3, 12, 2, 1352, 2), (35, .iload_n 1, 1, 0, 0, 0, 0), (36, .iaload, 1, 0, 0, 0, 0), (37, .iconst 2, 1, 0, 0, 0, 0), (38, .irem, 1, 0, 0, 0, 0), (39, .ifCond .eq 6, 3, 0, 0, 0, 0), (42, .bipush (-2), 2, 0, 0, 0, 0), (44, .ireturn, 1, 0, 0, 0, 0), (45, .iconst 0, 1, 0, 0, 0, 0), (46, .istore_n 3, 1, 0, 0, 0, 0), (47, .iload_n 3, 1, 0, 0, 0, 0), (48, .aload_n 0, 1, 0, 0, 0, 0), (49, .getfield 13, 3, 12, 2, 1352, 2), (52, .iload_n 1, 1, 0, 0, 0, 0), (53, .iaload, 1, 0, 0, 0, 0), (54, .if_icmp .ge 82, 3, 0, 0, 0, 0), (57, .bipush 60, 2, 0, 0, 0, 0), (59, .iload_n 1, 1, 0, 0, 0, 0), (60, .imul, 1, 0, 0, 0, 0), (61, .iload_n 3, 1, 0, 0, 0, 0), (62, .iadd, 1, 0, 0, 0, 0), (63, .istore 4, 2, 0, 0, 0, 0), (65, .aload_n 0, 1, 0, 0, 0, 0), (66, .aload_n 0, 1, 0, 0, 0, 0), (67, .getfield 16, 3, 12, 3, 1353, 2), (70, .iload 4, 2, 0, 0, 0, 0), (72, .laload, 1, 0, 0, 0, 0), (73, .invokevirtual 279, 3, 122, 1, 1637, 12), (76, .ifCond .eq 51, 3, 0, 0, 0, 0), (79, .aload_n 0, 1, 0, 0, 0, 0), (80, .aload_n 0, 1, 0, 0, 0, 0), (81, .getfield 16, 3, 12, 3, 1353, 2), (84, .iload 4, 2, 0, 0, 0, 0), (86, .laload, 1, 0, 0, 0, 0), (87, .l2i, 1, 0, 0, 0, 0), (88, .invokevirtual 248, 3, 9990, 1, 1673, 12), (91, .iload_n 2, 1, 0, 0, 0, 0), (92, .if_icmp .ne 35, 3, 0, 0, 0, 0), (95, .aload_n 0, 1, 0, 0, 0, 0), (96, .getfield 16, 3, 12, 3, 1353, 2), (99, .iload 4, 2, 0, 0, 0, 0), (101, .iconst 1, 1, 0, 0, 0, 0), (102, .iadd, 1, 0, 0, 0, 0), (103, .laload, 1, 0, 0, 0, 0), (104, .ldc2_w 133, 3, 0, 0, 1540, (-1)), (107, .lcmp, 1, 0, 0, 0, 0), (108, .ifCond .eq 22, 3, 0, 0, 0, 0), (111, .aload_n 0, 1, 0, 0, 0, 0), (112, .aload_n 0, 1, 0, 0, 0, 0), (113, .getfield 16, 3, 12, 3, 1353, 2), (116, .iload 4, 2, 0, 0, 0, 0), (118, .iconst 1, 1, 0, 0, 0, 0), (119, .iadd, 1, 0, 0, 0, 0), (120, .laload, 1, 0, 0, 0, 0), (121, .invokevirtual 276, 3, 121, 1, 1629, 12), (124, .ifCond .ne 6, 3, 0, 0, 0, 0), (127, .bipush (-2), 2, 0, 0, 0, 0), (129, .ireturn, 1, 0, 0, 0, 0), (130, .iinc 3 2, 3, 0, 0, 0, 0), (133, .goto (-86), 3, 0, 0, 0, 0), (136, .iconst 0, 1, 0, 0, 0, 0), (137, .ireturn, 1, 0, 0, 0, 0)]
set_option maxRecDepth 100000 in
noncomputable def xt_161 : List xv_E := [(0, .aload_n 0, 1, 0, 0, 0, 0), (1, .iconst 0, 1, 0, 0, 0, 0), (2, .putfield 89, 3, 12, 0, 1350, 0), (5, .aload_n 0, 1, 0, 0, 0, 0), (6, .iload_n 1, 1, 0, 0, 0, 0), (7, .iload_n 2, 1, 0, 0, 0, 0), (8, .invokevirtual 369, 3, 160, 2, 1900, 12), (11, .istore_n 3, 1, 0, 0, 0, 0), (12, .iload_n 3, 1, 0, 0, 0, 0), (13, .ifCond .eq 5, 3, 0, 0, 0, 0), (16, .iload_n 3, 1, 0, 0, 0, 0), (17, .ireturn, 1, 0, 0, 0, 0), (18, .aload_n 0, 1, 0, 0, 0, 0), (19, .iload_n 1, 1, 0, 0, 0, 0), (20, .iload_n 2, 1, 0, 0, 0, 0), (21, .invokevirtual 372, 3, 9990, 2, 1904, 12), (24, .aload_n 0, 1, 0, 0, 0, 0), (25, .getfield 362, 3, 12, 36, 1386, 0), (28, .ireturn, 1, 0, 0, 0, 0)]
set_option maxRecDepth 100000 in
noncomputable def xt_162 : List xv_E := [(0, .aload_n 0, 1, 0, 0, 0, 0), (1, .iconst 0, 1, 0, 0, 0, 0), (2, .putfield 89, 3, 12, 0, 1350, 0), (5, .aload_n 0, 1, 0, 0, 0, 0), (6, .iload_n 1, 1, 0, 0, 0, 0), (7, .iload_n 2, 1, 0, 0, 0, 0), (8, .invokevirtual 369, 3, 160, 2, 1900, 12), (11, .istore_n 3, 1, 0, 0, 0, 0), (12, .iload_n 3, 1, 0, 0, 0, 0), (13, .ifCond .eq 5, 3, 0, 0, 0, 0), (16, .iload_n 3, 1, 0, 0, 0, 0), (17, .ireturn, 1, 0, 0, 0, 0), (18, .aload_n 0, 1, 0, 0, 0, 0), (19, .iload_n 1, 1, 0, 0, 0, 0), (20, .iload_n 2, 1, 0, 0, 0, 0), (21, .invokevirtual 372, 3, 9990, 2, 1904, 12), (24, .iconst 0, 1, 0, 0, 0, 0), (25, .istore 4, 2, 0, 0, 0, 0), (27, .iconst 0, 1, 0, 0, 0, 0), (28, .istore 5, 2, 0, 0, 0, 0), (30, .iload 5, 2, 0, 0, 0, 0), (32, .aload_n 0, 1, 0, 0, 0, 0), (33, .getfield 34, 3, 12, 17, 1367, 2), (36, .iconst 4, 1, 0, 0, 0, 0), (37, .iaload, 1, 0, 0, 0, 0), (38, .if_icmp .ge 32, 3, 0, 0, 0, 0), (41, .iload 4, 2, 0, 0, 0, 0), (43, .aload_n 0, 1, 0, 0, 0, 0), (44, .getfield 74, 3, 12, 33, 1383, 2), (47, .iload 5, 2, 0, 0, 0, 0), (49, .iaload, 1, 0, 0, 0, 0), (50, .ifCond .le 10, 3, 0, 0, 0, 0), (53, .iconst 1, 1, 0, 0, 0, 0), (54, .iload 5, 2, 0, 0, 0, 0), (56, .ishl, 1, 0, 0, 0, 0), (57, .goto 4, 3, 0, 0, 0, 0), (60, .iconst 0, 1, 0, 0, 0, 0), (61, .ior, 1, 0, 0, 0, 0), (62, .istore 4, 2, 0, 0, 0, 0), (64, .iinc 5 1, 3, 0, 0, 0, 0), (67, .goto (-37), 3, 0, 0, 0, 0), (70, .iload 4, 2, 0, 0, 0, 0), (72, .ireturn, 1, 0, 0, 0, 0)]
set_option maxRecDepth 100000 in
noncomputable def xt_163 : List xv_E := [(0, .aload_n 0, 1, 0, 0, 0, 0), (1, .iconst 0, 1, 0, 0, 0, 0), (2, .putfield 89, 3, 12, 0, 1350, 0), (5, .aload_n 0, 1, 0, 0, 0, 0), (6, .iload_n 3, 1, 0, 0, 0, 0), (7, .i2l, 1, 0, 0, 0, 0), (8, .invokevirtual 279, 3, 122, 1, 1637, 12), (11, .ifCond .eq 21, 3, 0, 0, 0, 0), (14, .aload_n 0, 1, 0, 0, 0, 0), (15, .iload_n 3, 1, 0, 0, 0, 0), (16, .invokevirtual 248, 3, 9990, 1, 1673, 12), (19, .iload_n 2, 1, 0, 0, 0, 0), (20, .if_icmp .ne 12, 3, 0, 0, 0, 0), (23, .aload_n 0, 1, 0, 0, 0, 0), (24, .iload_n 1, 1, 0, 0, 0, 0), (25, .iload_n 2, 1, 0, 0, 0, 0), (26, .invokevirtual 369, 3, 160, 2, 1900, 12), (29, .goto 5, 3, 0, 0, 0, 0), (32, .bipush (-2), 2, 0, 0, 0, 0), (34, .istore 4, 2, 0, 0, 0, 0), (36, .iload 4, 2, 0, 0, 0, 0), (38, .ifCond .eq 6, 3, 0, 0, 0, 0), (41, .iload 4, 2, 0, 0, 0, 0), (43, .ireturn, 1, 0, 0, 0, 0), (44, .aload_n 0, 1, 0, 0, 0, 0), (45, .iload_n 1, 1, 0, 0, 0, 0), (46, .iload_n 2, 1, 0, 0, 0, 0), (47, .invokevirtual 372, 3, 9990, 2, 1904, 12), (50, .iconst 0, 1, 0, 0, 0, 0), (51, .istore 5, 2, 0, 0, 0, 0), (53, .iconst 0, 1, 0, 0, 0, 0), (54, .istore 6, 2, 0, 0, 0, 0), (56, .iload 6, 2, 0, 0, 0, 0), (58, .bipush 9, 2, 0, 0, 0, 0), (60, .if_icmp .ge 37, 3, 0, 0, 0, 0), (63, .iload 5, 2, 0, 0, 0, 0), (65, .aload_n 0, 1, 0, 0, 0, 0), (66, .getfield 77, 3, 12, 34, 1384, 2), (69, .bipush 9, 2, 0, 0, 0, 0), (71, .iload_n 3, 1, 0, 0, 0, 0), (72, .imul, 1, 0, 0, 0, 0), (73, .iload 6, 2, 0, 0, 0, 0), (75, .iadd, 1, 0, 0, 0, 0), (76, .iaload, 1, 0, 0, 0, 0), (77, .ifCond .le 10, 3, 0, 0, 0, 0), (80, .iconst 1, 1, 0, 0, 0, 0), (81, .iload 6, 2, 0, 0, 0, 0), (83, .ishl, 1, 0, 0, 0, 0), (84, .goto 4, 3, 0, 0, 0, 0), (87, .iconst 0, 1, 0, 0, 0, 0), (88, .ior, 1, 0, 0, 0, 0), (89, .istore 5, 2, 0, 0, 0, 0), (91, .iinc 6 1, 3, 0, 0, 0, 0), (94, .goto (-38), 3, 0, 0, 0, 0), (97, .iload 5, 2, 0, 0, 0, 0), (99, .ireturn, 1, 0, 0, 0, 0)]
set_option maxRecDepth 100000 in
noncomputable def xt_164 : List xv_E := [(0, .aload_n 0, 1, 0, 0, 0, 0), (1, .iconst 0, 1, 0, 0, 0, 0), (2, .putfield 89, 3, 12, 0, 1350, 0), (5, .aload_n 0, 1, 0, 0, 0, 0), (6, .iload_n 1, 1, 0, 0, 0, 0), (7, .iload_n 2, 1, 0, 0, 0, 0), (8, .invokevirtual 369, 3, 160, 2, 1900, 12), (11, .istore_n 3, 1, 0, 0, 0, 0), (12, .iload_n 3, 1, 0, 0, 0, 0), (13, .ifCond .eq 5, 3, 0, 0, 0, 0), (16, .iload_n 3, 1, 0, 0, 0, 0), (17, .ireturn, 1, 0, 0, 0, 0), (18, .aload_n 0, 1, 0, 0, 0, 0), (19, .iload_n 1, 1, 0, 0, 0, 0), (20, .iload_n 2, 1, 0, 0, 0, 0), (21, .invokevirtual 381, 3, 9990, 2, 1924, 12), (24, .aload_n 0, 1, 0, 0, 0, 0), (25, .getfield 375, 3, 12, 37, 1387, 0), (28, .ireturn, 1, 0, 0, 0, 0)]
set_option maxRecDepth 100000 in
noncomputable def xt_165 : List xv_E := [(0, .aload_n 0, 1, 0, 0, 0, 0), (1, .iconst 0, 1, 0, 0, 0, 0), (2, .putfield 89, 3, 12, 0, 1350, 0), (5, .aload_n 0, 1, 0, 0, 0, 0), (6, .iload_n 1, 1, 0, 0, 0, 0), (7, .iload_n 2, 1, 0, 0, 0, 0), (8, .invokevirtual 369, 3, 160, 2, 1900, 12), (11, .istore_n 3, 1, 0, 0, 0, 0), (12, .iload_n 3, 1, 0, 0, 0, 0), (13, .ifCond .eq 5, 3, 0, 0, 0, 0), (16, .iload_n 3, 1, 0, 0, 0, 0), (17, .ireturn, 1, 0, 0, 0, 0), (18, .aload_n 0, 1, 0, 0, 0, 0), (19, .iload_n 1, 1, 0, 0, 0, 0), (20, .iload_n 2, 1, 0, 0, 0, 0), (21, .invokevirtual 381, 3, 9990, 2, 1924, 12), (24, .aload_n 0, 1, 0, 0, 0, 0), (25, .getfield 378, 3, 12, 38, 1388, 0), (28, .ireturn, 1, 0, 0, 0, 0)]
set_option maxRecDepth 100000 in
noncomputable def xt_166 : List xv_E := [(0, .iload_n 1, 1, 0, 0, 0, 0), (1, .invokestatic 98, 3, 102, 1, 1482, 12), (4, .ifCond .eq 12, 3, 0, 0, 0, 0), (7, .aload_n 0, 1, 0, 0, 0, 0), (8, .iload_n 2, 1, 0, 0, 0, 0), (9, .i2l, 1, 0, 0, 0, 0), (10, .invokevirtual 279, 3, 122, 1, 1637, 12), (13, .ifCond .ne 6, 3, 0, 0, 0, 0), (16, .bipush (-2), 2, 0, 0, 0, 0), (18, .ireturn, 1, 0, 0, 0, 0), (19, .aload_n 0, 1, 0, 0, 0, 0), (20, .getfield 7, 3, 12, 1, 1351, 2), (23, .iload_n 1, 1, 0, 0, 0, 0), (24, .iaload, 1, 0, 0, 0, 0), (25, .iconst (-1), 1, 0, 0, 0, 0), (26, .if_icmp .ne 6, 3, 0, 0, 0, 0), (29, .bipush (-6), 2, 0, 0, 0, 0), (31, .ireturn, 1, 0, 0, 0, 0), (32, .aload_n 0, 1, 0, 0, 0, 0), (33, .getfield 13, 3, 12, 2, 1352, 2), (36, .iload_n 1, 1, 0, 0, 0, 0), (37, .iaload, 1, 0, 0, 0, 0), (38, .aload_n 0, 1, 0, 0, 0, 0), (39, .getfield 34, 3, 12, 17, 1367, 2), (42, .iconst 3, 1, 0, 0, 0, 0), (43, .iaload, 1, 0, 0, 0, 0), (44, .if_icmp .eq 6, 3, 0, 0, 0, 0), (47, .bipush (-2), 2, 0, 0, 0, 0), (49, .ireturn, 1, 0, 0, 0, 0), (50, .iconst 0, 1, 0, 0, 0, 0), (51, .istore_n 3, 1, 0, 0, 0, 0), (52, .iload_n 3, 1, 0, 0, 0, 0), (53, .aload_n 0, 1, 0, 0, 0, 0), (54, .getfield 13, 3, 12, 2, 1352, 2), (57, .iload_n 1, 1, 0, 0, 0, 0), (58, .iaload, 1, 0, 0, 0, 0), (59, .if_icmp .ge 33, 3, 0, 0, 0, 0), (62, .aload_n 0, 1, 0, 0, 0, 0), (63, .getfield 16, 3, 12, 3, 1353, 2), (66, .bipush 60, 2, 0, 0, 0, 0), (68, .iload_n 1, 1, 0, 0, 0, 0), (69, .imul, 1, 0, 0, 0, 0), (70, .iload_n 3, 1, 0, 0, 0, 0), (71, .iadd, 1, 0, 0, 0, 0), (72, .laload, 1, 0, 0, 0, 0), (73, .lconst 0, 1, 0, 0, 0, 0), (74, .ldc2_w 384, 3, 0, 0, 1940, 9), (77, .invokestatic 94, 3, 101, 3, 1486, 12), (80, .ifCond .ne 6, 3, 0, 0, 0, 0), (83, .bipush (-2), 2, 0, 0, 0, 0), (85, .ireturn, 1, 0, 0, 0, 0), (86, .iinc 3 1, 3, 0, 0, 0, 0), (89, .goto (-37), 3, 0, 0, 0, 0), (92, .aload_n 0, 1, 0, 0, 0, 0), (93, .iload_n 1, 1, 0, 0, 0, 0), (94, .invokevirtual 386, 3, 9990, 1, 1941, 12), (97, .lconst 0, 1, 0, 0, 0, 0), (98, .lcmp, 1, 0, 0, 0, 0), (99, .ifCond .ne 8, 3, 0, 0, 0, 0), (102, .bipush (-2), 2, 0, 0, 0, 0), (104, .goto 4, 3, 0, 0, 0, 0), (107, .iconst 0, 1, 0, 0, 0, 0), (108, .ireturn, 1, 0, 0, 0, 0)]
set_option maxRecDepth 100000 in
noncomputable def xt_167 : List xv_E := [(0, .aload_n 0, 1, 0, 0, 0, 0), (1, .iconst 0, 1, 0, 0, 0, 0), (2, .putfield 89, 3, 12, 0, 1350, 0), (5, .iload_n 3, 1, 0, 0, 0, 0), (6, .i2l, 1, 0, 0, 0, 0), (7, .lconst 0, 1, 0, 0, 0, 0), (8, .lconst 1, 1, 0, 0, 0, 0), (9, .invokestatic 94, 3, 101, 3, 1486, 12), (12, .ifCond .eq 12, 3, 0, 0, 0, 0), (15, .aload_n 0, 1, 0, 0, 0, 0), (16, .iload_n 1, 1, 0, 0, 0, 0), (17, .iload_n 2, 1, 0, 0, 0, 0), (18, .invokevirtual 397, 3, 166, 2, 1936, 12), (21, .goto 5, 3, 0, 0, 0, 0), (24, .bipush (-2), 2, 0, 0, 0, 0), (26, .istore 4, 2, 0, 0, 0, 0), (28, .iload 4, 2, 0, 0, 0, 0), (30, .ifCond .eq 9, 3, 0, 0, 0, 0), (33, .iload 4, 2, 0, 0, 0, 0), (35, .i2l, 1, 0, 0, 0, 0), (36, .goto 18, 3, 0, 0, 0, 0), (39, .aload_n 0, 1, 0, 0, 0, 0), (40, .iload_n 1, 1, 0, 0, 0, 0), (41, .iload_n 2, 1, 0, 0, 0, 0), (42, .iconst 1, 1, 0, 0, 0, 0), (43, .invokevirtual 400, 3, 9990, 3, 1945, 12), (46, .aload_n 0, 1, 0, 0, 0, 0), (47, .getfield 394, 3, 12, 39, 1389, 1), (50, .iload_n 3, 1, 0, 0, 0, 0), (51, .invokestatic 404, 3, 9990, 3, 1949, 12), (54, .lreturn, 1, 0, 0, 0, 0)]
set_option maxRecDepth 100000 in
noncomputable def xt_168 : List xv_E := [(0, .aload_n 0, 1, 0, 0, 0, 0), (1, .iconst 0, 1, 0, 0, 0, 0), (2, .putfield 89, 3, 12, 0, 1350, 0), (5, .aload_n 0, 1, 0, 0, 0, 0), (6, .iload_n 1, 1, 0, 0, 0, 0), (7, .i2l, 1, 0, 0, 0, 0), (8, .invokevirtual 279, 3, 122, 1, 1637, 12), (11, .ifCond .ne 6, 3, 0, 0, 0, 0), (14, .bipush (-2), 2, 0, 0, 0, 0), (16, .ireturn, 1, 0, 0, 0, 0), (17, .iconst (-1), 1, 0, 0, 0, 0), (18, .istore_n 2, 1, 0, 0, 0, 0), (19, .lconst 0, 1, 0, 0, 0, 0), (20, .lstore_n 3, 1, 0, 0, 0, 0), (21, .lconst 1, 1, 0, 0, 0, 0), (22, .lstore 5, 2, 0, 0, 0, 0), (24, .iconst 0, 1, 0, 0, 0, 0), (25, .istore 7, 2, 0, 0, 0, 0), (27, .iload 7, 2, 0, 0, 0, 0), (29, .iconst 4, 1, 0, 0, 0, 0), (30, .if_icmp .ge 67, 3, 0, 0, 0, 0), (33, .aload_n 0, 1, 0, 0, 0, 0), (34, .iload 7, 2, 0, 0, 0, 0), (36, .iload_n 1, 1, 0, 0, 0, 0), (37, .invokevirtual 397, 3, 166, 2, 1936, 12), (40, .ifCond .eq 6, 3, 0, 0, 0, 0), (43, .goto 48, 3, 0, 0, 0, 0), (46, .aload_n 0, 1, 0, 0, 0, 0), (47, .iload 7, 2, 0, 0, 0, 0), (49, .iload_n 1, 1, 0, 0, 0, 0), (50, .iconst 1, 1, 0, 0, 0, 0), (51, .invokevirtual 400, 3, 9990, 3, 1945, 12), (54, .lstore 8, 2, 0, 0, 0, 0), (56, .iload_n 2, 1, 0, 0, 0, 0), (57, .iconst (-1), 1, 0, 0, 0, 0), (58, .if_icmp .eq 21, 3, 0, 0, 0, 0), (61, .lload 8, 2, 0, 0, 0, 0), (63, .lload 5, 2, 0, 0, 0, 0), (65, .lmul, 1, 0, 0, 0, 0), (66, .lload_n 3, 1, 0, 0, 0, 0), (67, .aload_n 0, 1, 0, 0, 0, 0), (68, .getfield 394, 3, 12, 39, 1389, 1), (71, .lmul, 1, 0, 0, 0, 0), (72, .lcmp, 1, 0, 0, 0, 0), (73, .ifCond .lt 6, 3, 0, 0, 0, 0), (76, .goto 15, 3, 0, 0, 0, 0), (79, .iload 7, 2, 0, 0, 0, 0), (81, .istore_n 2, 1, 0, 0, 0, 0), (82, .lload 8, 2, 0, 0, 0, 0), (84, .lstore_n 3, 1, 0, 0, 0, 0), (85, .aload_n 0, 1, 0, 0, 0, 0), (86, .getfield 394, 3, 12, 39, 1389, 1), (89, .lstore 5, 2, 0, 0, 0, 0), (91, .iinc 7 1, 3, 0, 0, 0, 0), (94, .goto (-67), 3, 0, 0, 0, 0), (97, .iload_n 2, 1, 0, 0, 0, 0), (98, .ireturn, 1, 0, 0, 0, 0)]
set_option maxRecDepth 100000 in
noncomputable def xt_169 : List xv_E := [(0, .aload_n 0, 1, 0, 0, 0, 0), (1, .iconst 0, 1, 0, 0, 0, 0), (2, .putfield 89, 3, 12, 0, 1350, 0), (5, .iload_n 3, 1, 0, 0, 0, 0), (6, .i2l, 1, 0, 0, 0, 0), (7, .lconst 1, 1, 0, 0, 0, 0), (8, .ldc2_w 408, 3, 0, 0, 1963, 5), (11, .invokestatic 94, 3, 101, 3, 1486, 12), (14, .ifCond .eq 23, 3, 0, 0, 0, 0), (17, .iload 4, 2, 0, 0, 0, 0), (19, .i2l, 1, 0, 0, 0, 0), (20, .lconst 0, 1, 0, 0, 0, 0), (21, .lconst 1, 1, 0, 0, 0, 0), (22, .invokestatic 94, 3, 101, 3, 1486, 12), (25, .ifCond .eq 12, 3, 0, 0, 0, 0), (28, .aload_n 0, 1, 0, 0, 0, 0), (29, .iload_n 1, 1, 0, 0, 0, 0), (30, .iload_n 2, 1, 0, 0, 0, 0), (31, .invokevirtual 397, 3, 166, 2, 1936, 12), (34, .goto 5, 3, 0, 0, 0, 0), (37, .bipush (-2), 2, 0, 0, 0, 0), (39, .istore 5, 2, 0, 0, 0, 0), (41, .iload 5, 2, 0, 0, 0, 0), (43, .ifCond .eq 9, 3, 0, 0, 0, 0), (46, .iload 5, 2, 0, 0, 0, 0), (48, .i2l, 1, 0, 0, 0, 0), (49, .goto 19, 3, 0, 0, 0, 0), (52, .aload_n 0, 1, 0, 0, 0, 0), (53, .iload_n 1, 1, 0, 0, 0, 0), (54, .iload_n 2, 1, 0, 0, 0, 0), (55, .iload_n 3, 1, 0, 0, 0, 0), (56, .invokevirtual 400, 3, 9990, 3, 1945, 12), (59, .aload_n 0, 1, 0, 0, 0, 0), (60, .getfield 394, 3, 12, 39, 1389, 1), (63, .iload 4, 2, 0, 0, 0, 0), (65, .invokestatic 404, 3, 9990, 3, 1949, 12), (68, .lreturn, 1, 0, 0, 0, 0)]
set_option maxRecDepth 100000 in
noncomputable def xt_170 : List xv_E := [(0, .aload_n 0, 1, 0, 0, 0, 0), (1, .iconst 0, 1, 0, 0, 0, 0), (2, .putfield 89, 3, 12, 0, 1350, 0), (5, .iload_n 3, 1, 0, 0, 0, 0), (6, .i2l, 1, 0, 0, 0, 0), (7, .lconst 1, 1, 0, 0, 0, 0), (8, .ldc2_w 408, 3, 0, 0, 1963, 5), (11, .invokestatic 94, 3, 101, 3, 1486, 12), (14, .ifCond .eq 12, 3, 0, 0, 0, 0), (17, .aload_n 0, 1, 0, 0, 0, 0), (18, .iload_n 1, 1, 0, 0, 0, 0), (19, .iload_n 2, 1, 0, 0, 0, 0), (20, .invokevirtual 397, 3, 166, 2, 1936, 12), (23, .goto 5, 3, 0, 0, 0, 0), (26, .bipush (-2), 2, 0, 0, 0, 0), (28, .istore 4, 2, 0, 0, 0, 0), (30, .iload 4, 2, 0, 0, 0, 0), (32, .ifCond .eq 6, 3, 0, 0, 0, 0), (35, .iload 4, 2, 0, 0, 0, 0), (37, .ireturn, 1, 0, 0, 0, 0), (38, .iload_n 3, 1, 0, 0, 0, 0), (39, .iconst 1, 1, 0, 0, 0, 0), (40, .if_icmp .ne 8, 3, 0, 0, 0, 0), (43, .ldc 140, 2, 0, 0, 1544, 1000000), (45, .goto 18, 3, 0, 0, 0, 0), (48, .aload_n 0, 1, 0, 0, 0, 0), (49, .iload_n 1, 1, 0, 0, 0, 0), (50, .iload_n 2, 1, 0, 0, 0, 0), (51, .iload_n 3, 1, 0, 0, 0, 0), (52, .iconst 1, 1, 0, 0, 0, 0), (53, .isub, 1, 0, 0, 0, 0), (54, .invokevirtual 400, 3, 9990, 3, 1945, 12), (57, .aload_n 0, 1, 0, 0, 0, 0), (58, .getfield 394, 3, 12, 39, 1389, 1), (61, .ldiv, 1, 0, 0, 0, 0), (62, .l2i, 1, 0, 0, 0, 0), (63, .ireturn, 1, 0, 0, 0, 0)]
set_option maxRecDepth 100000 in
noncomputable def xt_171 : List xv_E := [(0, .aload_n 0, 1, 0, 0, 0, 0), (1, .iconst 0, 1, 0, 0, 0, 0), (2, .putfield 89, 3, 12, 0, 1350, 0), (5, .aload_n 0, 1, 0, 0, 0, 0), (6, .iload_n 1, 1, 0, 0, 0, 0), (7, .i2l, 1, 0, 0, 0, 0), (8, .invokevirtual 279, 3, 122, 1, 1637, 12), (11, .ifCond .ne 6, 3, 0, 0, 0, 0), (14, .bipush (-2), 2, 0, 0, 0, 0), (16, .ireturn, 1, 0, 0, 0, 0), (17, .aload_n 0, 1, 0, 0, 0, 0), (18, .invokevirtual 410, 3, 9990, 0, 1972, 12), (21, .aload_n 0, 1, 0, 0, 0, 0), (22, .getfield 86, 3, 12, 41, 1391, 2), (25, .iload_n 1, 1, 0, 0, 0, 0), (26, .iaload, 1, 0, 0, 0, 0), (27, .bipush (-3), 2, 0, 0, 0, 0), (29, .if_icmp .ne 10, 3, 0, 0, 0, 0), (32, .aload_n 0, 1, 0, 0, 0, 0), (33, .invokevirtual 413, 3, 9990, 0, 1976, 12), (36, .ifCond .eq 6, 3, 0, 0, 0, 0), (39, .bipush (-5), 2, 0, 0, 0, 0), (41, .ireturn, 1, 0, 0, 0, 0), (42, .aload_n 0, 1, 0, 0, 0, 0), (43, .iload_n 1, 1, 0, 0, 0, 0), (44, .iconst (-1), 1, 0, 0, 0, 0), (45, .invokevirtual 416, 3, 9990, 2, 1980, 12), (48, .aload_n 0, 1, 0, 0, 0, 0), (49, .getfield 83, 3, 12, 40, 1390, 2), (52, .aload_n 0, 1, 0, 0, 0, 0), (53, .iload_n 1, 1, 0, 0, 0, 0), (54, .invokevirtual 248, 3, 9990, 1, 1673, 12), (57, .iaload, 1, 0, 0, 0, 0), (58, .ireturn, 1, 0, 0, 0, 0)]
set_option maxRecDepth 100000 in
noncomputable def xt_172 : List xv_E := [(0, .aload_n 0, 1, 0, 0, 0, 0), (1, .iconst 0, 1, 0, 0, 0, 0), (2, .putfield 89, 3, 12, 0, 1350, 0), (5, .aload_n 0, 1, 0, 0, 0, 0), (6, .iload_n 1, 1, 0, 0, 0, 0), (7, .i2l, 1, 0, 0, 0, 0), (8, .invokevirtual 279, 3, 122, 1, 1637, 12), (11, .ifCond .eq 17, 3, 0, 0, 0, 0), (14, .aload_n 0, 1, 0, 0, 0, 0), (15, .iload_n 2, 1, 0, 0, 0, 0), (16, .i2l, 1, 0, 0, 0, 0), (17, .invokevirtual 279, 3, 122, 1, 1637, 12), (20, .ifCond .eq 8, 3, 0, 0, 0, 0), (23, .iload_n 1, 1, 0, 0, 0, 0), (24, .iload_n 2, 1, 0, 0, 0, 0), (25, .if_icmp .ne 6, 3, 0, 0, 0, 0), (28, .bipush (-2), 2, 0, 0, 0, 0), (30, .ireturn, 1, 0, 0, 0, 0), (31, .aload_n 0, 1, 0, 0, 0, 0), (32, .invokevirtual 410, 3, 9990, 0, 1972, 12), (35, .aload_n 0, 1, 0, 0, 0, 0), (36, .getfield 86, 3, 12, 41, 1391, 2), (39, .iload_n 1, 1, 0, 0, 0, 0), (40, .iaload, 1, 0, 0, 0, 0), (41, .bipush (-3), 2, 0, 0, 0, 0), (43, .if_icmp .eq 21, 3, 0, 0, 0, 0), (46, .aload_n 0, 1, 0, 0, 0, 0), (47, .getfield 86, 3, 12, 41, 1391, 2), (50, .iload_n 2, 1, 0, 0, 0, 0), (51, .iaload, 1, 0, 0, 0, 0), (52, .bipush (-3), 2, 0, 0, 0, 0), (54, .if_icmp .eq 10, 3, 0, 0, 0, 0), (57, .aload_n 0, 1, 0, 0, 0, 0), (58, .invokevirtual 413, 3, 9990, 0, 1976, 12), (61, .ifCond .eq 6, 3, 0, 0, 0, 0), (64, .bipush (-5), 2, 0, 0, 0, 0), (66, .ireturn, 1, 0, 0, 0, 0), (67, .aload_n 0, 1, 0, 0, 0, 0), (68, .iload_n 1, 1, 0, 0, 0, 0), (69, .iload_n 2, 1, 0, 0, 0, 0), (70, .invokevirtual 416, 3, 9990, 2, 1980, 12), (73, .iconst 0, 1, 0, 0, 0, 0), (74, .ireturn, 1, 0, 0, 0, 0)]
set_option maxRecDepth 100000 in
noncomputable def xt_173 : List xv_E := [(0, .aload_n 0, 1, 0, 0, 0, 0), (1, .iconst 0, 1, 0, 0, 0, 0), (2, .putfield 89, 3, 12, 0, 1350, 0), (5, .aload_n 0, 1, 0, 0, 0, 0), (6, .iload_n 1, 1, 0, 0, 0, 0), (7, .invokevirtual 282, 3, 123, 1, 1657, 12), (10, .ifCond .ne 6, 3, 0, 0, 0, 0), (13, .bipush (-2), 2, 0, 0, 0, 0), (15, .ireturn, 1, 0, 0, 0, 0), (16, .aload_n 0, 1, 0, 0, 0, 0), (17, .invokevirtual 410, 3, 9990, 0, 1972, 12), (20, .aload_n 0, 1, 0, 0, 0, 0), (21, .getfield 83, 3, 12, 40, 1390, 2), (24, .iload_n 1, 1, 0, 0, 0, 0), (25, .iaload, 1, 0, 0, 0, 0), (26, .ireturn, 1, 0, 0, 0, 0)]
set_option maxRecDepth 100000 in
noncomputable def xt_174 : List xv_E := [(0, .aload_n 0, 1, 0, 0, 0, 0), (1, .iconst 0, 1, 0, 0, 0, 0), (2, .putfield 89, 3, 12, 0, 1350, 0), (5, .aload_n 0, 1, 0, 0, 0, 0), (6, .iload_n 1, 1, 0, 0, 0, 0), (7, .i2l, 1, 0, 0, 0, 0), (8, .invokevirtual 279, 3, 122, 1, 1637, 12), (11, .ifCond .ne 6, 3, 0, 0, 0, 0), (14, .bipush (-2), 2, 0, 0, 0, 0), (16, .ireturn, 1, 0, 0, 0, 0), (17, .aload_n 0, 1, 0, 0, 0, 0), (18, .invokevirtual 410, 3, 9990, 0, 1972, 12), (21, .aload_n 0, 1, 0, 0, 0, 0), (22, .getfield 86, 3, 12, 41, 1391, 2), (25, .iload_n 1, 1, 0, 0, 0, 0), (26, .iaload, 1, 0, 0, 0, 0), (27, .ireturn, 1, 0, 0, 0, 0)]
set_option maxRecDepth 100000 in
noncomputable def xt_175 : List xv_E := [(0, .aload_n 0, 1, 0, 0, 0, 0), (1, .iconst 0, 1, 0, 0, 0, 0), (2, .putfield 89, 3, 12, 0, 1350, 0), (5, .aload_n 0, 1, 0, 0, 0, 0), (6, .invokevirtual 293, 3, 120, 0, 1725, 12), (9, .ifCond .ne 6, 3, 0, 0, 0, 0), (12, .bipush (-2), 2, 0, 0, 0, 0), (14, .ireturn, 1, 0, 0, 0, 0), (15, .aload_n 0, 1, 0, 0, 0, 0), (16, .invokevirtual 410, 3, 9990, 0, 1972, 12), (19, .iconst 0, 1, 0, 0, 0, 0), (20, .istore_n 1, 1, 0, 0, 0, 0), (21, .iconst 0, 1, 0, 0, 0, 0), (22, .istore_n 2, 1, 0, 0, 0, 0), (23, .iload_n 2, 1, 0, 0, 0, 0), (24, .aload_n 0, 1, 0, 0, 0, 0), (25, .getfield 34, 3, 12, 17, 1367, 2), (28, .iconst 4, 1, 0, 0, 0, 0), (29, .iaload, 1, 0, 0, 0, 0), (30, .if_icmp .ge 30, 3, 0, 0, 0, 0), (33, .iload_n 1, 1, 0, 0, 0, 0), (34, .aload_n 0, 1, 0, 0, 0, 0), (35, .getfield 86, 3, 12, 41, 1391, 2), (38, .iload_n 2, 1, 0, 0, 0, 0), (39, .iaload, 1, 0, 0, 0, 0), (40, .bipush (-3), 2, 0, 0, 0, 0), (42, .if_icmp .ne 7, 3, 0, 0, 0, 0), (45, .iconst 0, 1, 0, 0, 0, 0), (46, .goto 6, 3, 0, 0, 0, 0), (49, .iconst 1, 1, 0, 0, 0, 0), (50, .iload_n 2, 1, 0, 0, 0, 0), (51, .ishl, 1, 0, 0, 0, 0), (52, .ior, 1, 0, 0, 0, 0), (53, .istore_n 1, 1, 0, 0, 0, 0), (54, .iinc 2 1, 3, 0, 0, 0, 0), (57, .goto (-34), 3, 0, 0, 0, 0), (60, .iload_n 1, 1, 0, 0, 0, 0), (61, .ireturn, 1, 0, 0, 0, 0)]
set_option maxRecDepth 100000 in
noncomputable def xt_176 : List xv_E := [(0, .aload_n 0, 1, 0, 0, 0, 0), (1, .iconst 0, 1, 0, 0, 0, 0), (2, .putfield 89, 3, 12, 0, 1350, 0), (5, .aload_n 0, 1, 0, 0, 0, 0), (6, .invokevirtual 293, 3, 120, 0, 1725, 12), (9, .ifCond .ne 6, 3, 0, 0, 0, 0), (12, .bipush (-2), 2, 0, 0, 0, 0), (14, .ireturn, 1, 0, 0, 0, 0), (15, .aload_n 0, 1, 0, 0, 0, 0), (16, .invokevirtual 410, 3, 9990, 0, 1972, 12), (19, .iconst 0, 1, 0, 0, 0, 0), (20, .istore_n 1, 1, 0, 0, 0, 0), (21, .iconst 0, 1, 0, 0, 0, 0), (22, .istore_n 2, 1, 0, 0, 0, 0), (23, .iload_n 2, 1, 0, 0, 0, 0), (24, .aload_n 0, 1, 0, 0, 0, 0), (25, .getfield 34, 3, 12, 17, 1367, 2), (28, .iconst 4, 1, 0, 0, 0, 0), (29, .iaload, 1, 0, 0, 0, 0), (30, .if_icmp .ge 38, 3, 0, 0, 0, 0), (33, .iload_n 1, 1, 0, 0, 0, 0), (34, .aload_n 0, 1, 0, 0, 0, 0), (35, .getfield 86, 3, 12, 41, 1391, 2), (38, .iload_n 2, 1, 0, 0, 0, 0), (39, .iaload, 1, 0, 0, 0, 0), (40, .bipush (-3), 2, 0, 0, 0, 0), (42, .if_icmp .ne 7, 3, 0, 0, 0, 0), (45, .iconst 0, 1, 0, 0, 0, 0), (46, .goto 14, 3, 0, 0, 0, 0), (49, .aload_n 0, 1, 0, 0, 0, 0), (50, .iload_n 2, 1, 0, 0, 0, 0), (51, .aload_n 0, 1, 0, 0, 0, 0), (52, .getfield 86, 3, 12, 41, 1391, 2), (55, .iload_n 2, 1, 0, 0, 0, 0), (56, .iaload, 1, 0, 0, 0, 0), (57, .invokevirtual 273, 3, 9990, 2, 1649, 12), (60, .iadd, 1, 0, 0, 0, 0), (61, .istore_n 1, 1, 0, 0, 0, 0), (62, .iinc 2 1, 3, 0, 0, 0, 0), (65, .goto (-42), 3, 0, 0, 0, 0), (68, .iload_n 1, 1, 0, 0, 0, 0), (69, .ireturn, 1, 0, 0, 0, 0)]
set_option maxRecDepth 100000 in
noncomputable def xt_177 : List xv_E := [(0, .aload_n 0, 1, 0, 0, 0, 0), (1, .iconst 0, 1, 0, 0, 0, 0), (2, .putfield 89, 3, 12, 0, 1350, 0), (5, .aload_n 0, 1, 0, 0, 0, 0), (6, .invokevirtual 293, 3, 120, 0, 1725, 12), (9, .ifCond .ne 6, 3, 0, 0, 0, 0), (12, .bipush (-2), 2, 0, 0, 0, 0), (14, .ireturn, 1, 0, 0, 0, 0), (15, .aload_n 0, 1, 0, 0, 0, 0), (16, .getfield 34, 3, 12, 17, 1367, 2), (19, .iconst 5, 1, 0, 0, 0, 0), (20, .iaload, 1, 0, 0, 0, 0), (21, .ifCond .ne 6, 3, 0, 0, 0, 0), (24, .bipush (-5), 2, 0, 0, 0, 0), (26, .ireturn, 1, 0, 0, 0, 0), (27, .aload_n 0, 1, 0, 0, 0, 0), (28, .getfield 34, 3, 12, 17, 1367, 2), (31, .iconst 5, 1, 0, 0, 0, 0), (32, .dup2, 1, 0, 0, 0, 0), (33, .iaload, 1, 0, 0, 0, 0), (34, .iconst 1, 1, 0, 0, 0, 0), (35, .isub, 1, 0, 0, 0, 0), (36, .iastore, 1, 0, 0, 0, 0), (37, .aload_n 0, 1, 0, 0, 0, 0), (38, .getfield 34, 3, 12, 17, 1367, 2), (41, .iconst 5, 1, 0, 0, 0, 0), (42, .iaload, 1, 0, 0, 0, 0), (43, .ireturn, 1, 0, 0, 0, 0)]
set_option maxRecDepth 100000 in
noncomputable def xt_178 : List xv_E := [(0, .aload_n 0, 1, 0, 0, 0, 0), (1, .iconst 0, 1, 0, 0, 0, 0), (2, .putfield 89, 3, 12, 0, 1350, 0), (5, .aload_n 0, 1, 0, 0, 0, 0), (6, .invokevirtual 293, 3, 120, 0, 1725, 12), (9, .ifCond .ne 6, 3, 0, 0, 0, 0), (12, .bipush (-2), 2, 0, 0, 0, 0), (14, .ireturn, 1, 0, 0, 0, 0), (15, .aload_n 0, 1, 0, 0, 0, 0), (16, .getfield 34, 3, 12, 17, 1367, 2), (19, .iconst 5, 1, 0, 0, 0, 0), (20, .iaload, 1, 0, 0, 0, 0), (21, .istore_n 1, 1, 0, 0, 0, 0), (22, .aload_n 0, 1, 0, 0, 0, 0), (23, .getfield 34, 3, 12, 17, 1367, 2), (26, .iconst 5, 1, 0, 0, 0, 0), (27, .iconst 0, 1, 0, 0, 0, 0), (28, .iastore, 1, 0, 0, 0, 0), (29, .iload_n 1, 1, 0, 0, 0, 0), (30, .ireturn, 1, 0, 0, 0, 0)]
set_option maxRecDepth 100000 in
noncomputable def xt_179 : List xv_E := [(0, .aload_n 0, 1, 0, 0, 0, 0), (1, .invokevirtual 293, 3, 120, 0, 1725, 12), (4, .ifCond .eq 19, 3, 0, 0, 0, 0), (7, .iload_n 1, 1, 0, 0, 0, 0), (8, .i2l, 1, 0, 0, 0, 0), (9, .lconst 0, 1, 0, 0, 0, 0), (10, .ldc2_w 429, 3, 0, 0, 2020, 2000000000), (13, .invokestatic 94, 3, 101, 3, 1486, 12), (16, .ifCond .eq 7, 3, 0, 0, 0, 0), (19, .iconst 1, 1, 0, 0, 0, 0), (20, .goto 4, 3, 0, 0, 0, 0), (23, .iconst 0, 1, 0, 0, 0, 0), (24, .ireturn, 1, 1, 0, 0, 0)]
set_option maxRecDepth 100000 in
noncomputable def xt_180 : List xv_E := [(0, .aload_n 0, 1, 0, 0, 0, 0), (1, .iconst 0, 1, 0, 0, 0, 0), (2, .putfield 89, 3, 12, 0, 1350, 0), (5, .aload_n 0, 1, 0, 0, 0, 0), (6, .iload_n 1, 1, 0, 0, 0, 0), (7, .invokevirtual 431, 3, 179, 1, 2016, 12), (10, .ifCond .eq 13, 3, 0, 0, 0, 0), (13, .iload_n 2, 1, 0, 0, 0, 0), (14, .i2l, 1, 0, 0, 0, 0), (15, .lconst 0, 1, 0, 0, 0, 0), (16, .lconst 1, 1, 0, 0, 0, 0), (17, .invokestatic 94, 3, 101, 3, 1486, 12), (20, .ifCond .ne 6, 3, 0, 0, 0, 0), (23, .bipush (-2), 2, 0, 0, 0, 0), (25, .ireturn, 1, 0, 0, 0, 0), (26, .aload_n 0, 1, 0, 0, 0, 0), (27, .iload_n 1, 1, 0, 0, 0, 0), (28, .i2l, 1, 0, 0, 0, 0), (29, .invokevirtual 434, 3, 9990, 1, 2021, 12), (32, .iload_n 2, 1, 0, 0, 0, 0), (33, .ifCond .ne 8, 3, 0, 0, 0, 0), (36, .aload_n 0, 1, 0, 0, 0, 0), (37, .getfield 254, 3, 12, 24, 1374, 0), (40, .ireturn, 1, 0, 0, 0, 0), (41, .iconst 0, 1, 0, 0, 0, 0), (42, .istore_n 3, 1, 0, 0, 0, 0), (43, .iconst 0, 1, 0, 0, 0, 0), (44, .istore 4, 2, 0, 0, 0, 0), (46, .iload 4, 2, 0, 0, 0, 0), (48, .aload_n 0, 1, 0, 0, 0, 0), (49, .getfield 34, 3, 12, 17, 1367, 2), (52, .iconst 4, 1, 0, 0, 0, 0), (53, .iaload, 1, 0, 0, 0, 0), (54, .if_icmp .ge 34, 3, 0, 0, 0, 0), (57, .iload_n 3, 1, 0, 0, 0, 0), (58, .aload_n 0, 1, 0, 0, 0, 0), (59, .getfield 254, 3, 12, 24, 1374, 0), (62, .iload 4, 2, 0, 0, 0, 0), (64, .invokestatic 257, 3, 9990, 2, 1693, 12), (67, .ifCond .eq 12, 3, 0, 0, 0, 0), (70, .aload_n 0, 1, 0, 0, 0, 0), (71, .iload 4, 2, 0, 0, 0, 0), (73, .invokevirtual 290, 3, 9990, 1, 1717, 12), (76, .goto 4, 3, 0, 0, 0, 0), (79, .iconst 0, 1, 0, 0, 0, 0), (80, .iadd, 1, 0, 0, 0, 0), (81, .istore_n 3, 1, 0, 0, 0, 0), (82, .iinc 4 1, 3, 0, 0, 0, 0), (85, .goto (-39), 3, 0, 0, 0, 0), (88, .iload_n 3, 1, 0, 0, 0, 0), (89, .ireturn, 1, 0, 0, 0, 0)]
set_option maxRecDepth 100000 in
noncomputable def xt_181 : List xv_E := [(0, .aload_n 0, 1, 0, 0, 0, 0), (1, .iconst 0, 1, 0, 0, 0, 0), (2, .putfield 89, 3, 12, 0, 1350, 0), (5, .aload_n 0, 1, 0, 0, 0, 0), (6, .iload_n 1, 1, 0, 0, 0, 0), (7, .invokevirtual 431, 3, 179, 1, 2016, 12), (10, .ifCond .eq 12, 3, 0, 0, 0, 0), (13, .aload_n 0, 1, 0, 0, 0, 0), (14, .iload_n 2, 1, 0, 0, 0, 0), (15, .i2l, 1, 0, 0, 0, 0), (16, .invokevirtual 279, 3, 122, 1, 1637, 12), (19, .ifCond .ne 6, 3, 0, 0, 0, 0), (22, .bipush (-2), 2, 0, 0, 0, 0), (24, .ireturn, 1, 0, 0, 0, 0), (25, .aload_n 0, 1, 0, 0, 0, 0), (26, .iload_n 1, 1, 0, 0, 0, 0), (27, .i2l, 1, 0, 0, 0, 0), (28, .invokevirtual 434, 3, 9990, 1, 2021, 12), (31, .aload_n 0, 1, 0, 0, 0, 0), (32, .getfield 254, 3, 12, 24, 1374, 0), (35, .iload_n 2, 1, 0, 0, 0, 0), (36, .invokestatic 257, 3, 9990, 2, 1693, 12), (39, .ifCond .eq 11, 3, 0, 0, 0, 0), (42, .aload_n 0, 1, 0, 0, 0, 0), (43, .iload_n 2, 1, 0, 0, 0, 0), (44, .invokevirtual 270, 3, 9990, 1, 1685, 12), (47, .goto 4, 3, 0, 0, 0, 0), (50, .iconst (-1), 1, 0, 0, 0, 0), (51, .ireturn, 1, 0, 0, 0, 0)]
set_option maxRecDepth 100000 in
noncomputable def xt_182 : List xv_E := [(0, .aload_n 0, 1, 0, 0, 0, 0), (1, .iconst 0, 1, 0, 0, 0, 0), (2, .putfield 89, 3, 12, 0, 1350, 0), (5, .aload_n 0, 1, 0, 0, 0, 0), (6, .iload_n 1, 1, 0, 0, 0, 0), (7, .invokevirtual 431, 3, 179, 1, 2016, 12), (10, .ifCond .eq 24, 3, 0, 0, 0, 0), (13, .iload_n 2, 1, 0, 0, 0, 0), (14, .i2l, 1, 0, 0, 0, 0), (15, .lconst 1, 1, 0, 0, 0, 0), (16, .ldc2_w 288, 3, 0, 0, 1708, 20), (19, .invokestatic 94, 3, 101, 3, 1486, 12), (22, .ifCond .eq 12, 3, 0, 0, 0, 0), (25, .aload_n 0, 1, 0, 0, 0, 0), (26, .iload_n 3, 1, 0, 0, 0, 0), (27, .i2l, 1, 0, 0, 0, 0), (28, .invokevirtual 279, 3, 122, 1, 1637, 12), (31, .ifCond .ne 6, 3, 0, 0, 0, 0), (34, .bipush (-2), 2, 0, 0, 0, 0), (36, .ireturn, 1, 0, 0, 0, 0), (37, .iconst 0, 1, 0, 0, 0, 0), (38, .istore 4, 2, 0, 0, 0, 0), (40, .iconst 0, 1, 0, 0, 0, 0), (41, .istore 5, 2, 0, 0, 0, 0), (43, .iload 5, 2, 0, 0, 0, 0), (45, .iload_n 2, 1, 0, 0, 0, 0), (46, .if_icmp .ge 58, 3, 0, 0, 0, 0), (49, .aload_n 0, 1, 0, 0, 0, 0), (50, .iload_n 1, 1, 0, 0, 0, 0), (51, .i2l, 1, 0, 0, 0, 0), (52, .iload 5, 2, 0, 0, 0, 0), (54, .i2l, 1, 0, 0, 0, 0), (55, .ladd, 1, 0, 0, 0, 0), (56, .invokevirtual 434, 3, 9990, 1, 2021, 12), (59, .iload 4, 2, 0, 0, 0, 0), (61, .aload_n 0, 1, 0, 0, 0, 0), (62, .getfield 254, 3, 12, 24, 1374, 0), (65, .iload_n 3, 1, 0, 0, 0, 0), (66, .invokestatic 257, 3, 9990, 2, 1693, 12), (69, .ifCond .eq 21, 3, 0, 0, 0, 0), (72, .aload_n 0, 1, 0, 0, 0, 0), (73, .iload_n 3, 1, 0, 0, 0, 0), (74, .invokevirtual 290, 3, 9990, 1, 1717, 12), (77, .aload_n 0, 1, 0, 0, 0, 0), (78, .iload_n 3, 1, 0, 0, 0, 0), (79, .aload_n 0, 1, 0, 0, 0, 0), (80, .iload_n 3, 1, 0, 0, 0, 0), (81, .invokevirtual 267, 3, 9990, 1, 1696, 12), (84, .invokevirtual 273, 3, 9990, 2, 1649, 12), (87, .if_icmp .gt 7, 3, 0, 0, 0, 0), (90, .iconst 1, 1, 0, 0, 0, 0), (91, .goto 4, 3, 0, 0, 0, 0), (94, .iconst 0, 1, 0, 0, 0, 0), (95, .iadd, 1, 0, 0, 0, 0), (96, .istore 4, 2, 0, 0, 0, 0), (98, .iinc 5 1, 3, 0, 0, 0, 0), (101, .goto (-58), 3, 0, 0, 0, 0), (104, .iload 4, 2, 0, 0, 0, 0), (106, .ireturn, 1, 0, 0, 0, 0)]
set_option maxRecDepth 100000 in
noncomputable def xt_183 : List xv_E := [(0, .aload_n 0, 1, 0, 0, 0, 0), (1, .iconst 0, 1, 0, 0, 0, 0), (2, .putfield 89, 3, 12, 0, 1350, 0), (5, .aload_n 0, 1, 0, 0, 0, 0), (6, .iload_n 1, 1, 0, 0, 0, 0), (7, .i2l, 1, 0, 0, 0, 0), (8, .invokevirtual 276, 3, 121, 1, 1629, 12), (11, .ifCond .eq 15, 3, 0, 0, 0, 0), (14, .iload_n 2, 1, 0, 0, 0, 0), (15, .i2l, 1, 0, 0, 0, 0), (16, .lconst 0, 1, 0, 0, 0, 0), (17, .ldc2_w 437, 3, 0, 0, 2042, 99), (20, .invokestatic 94, 3, 101, 3, 1486, 12), (23, .ifCond .ne 6, 3, 0, 0, 0, 0), (26, .bipush (-2), 2, 0, 0, 0, 0), (28, .ireturn, 1, 0, 0, 0, 0), (29, .aload_n 0, 1, 0, 0, 0, 0), (30, .getfield 34, 3, 12, 17, 1367, 2), (33, .iconst 5, 1, 0, 0, 0, 0), (34, .iaload, 1, 0, 0, 0, 0), (35, .ifCond .le 6, 3, 0, 0, 0, 0), (38, .bipush (-5), 2, 0, 0, 0, 0), (40, .ireturn, 1, 0, 0, 0, 0), (41, .aload_n 0, 1, 0, 0, 0, 0), (42, .getfield 37, 3, 12, 18, 1368, 2), (45, .iload_n 1, 1, 0, 0, 0, 0), (46, .iaload, 1, 0, 0, 0, 0), (47, .istore_n 3, 1, 0, 0, 0, 0), (48, .aload_n 0, 1, 0, 0, 0, 0), (49, .getfield 37, 3, 12, 18, 1368, 2), (52, .iload_n 1, 1, 0, 0, 0, 0), (53, .iload_n 2, 1, 0, 0, 0, 0), (54, .iastore, 1, 0, 0, 0, 0), (55, .iload_n 3, 1, 0, 0, 0, 0), (56, .ireturn, 1, 0, 0, 0, 0)]
set_option maxRecDepth 100000 in
noncomputable def xt_184 : List xv_E := [(0, .aload_n 0, 1, 0, 0, 0, 0), (1, .iconst 0, 1, 0, 0, 0, 0), (2, .putfield 89, 3, 12, 0, 1350, 0), (5, .aload_n 0, 1, 0, 0, 0, 0), (6, .iload_n 1, 1, 0, 0, 0, 0), (7, .i2l, 1, 0, 0, 0, 0), (8, .invokevirtual 279, 3, 122, 1, 1637, 12), (11, .ifCond .eq 11, 3, 0, 0, 0, 0), (14, .aload_n 0, 1, 0, 0, 0, 0), (15, .iload_n 2, 1, 0, 0, 0, 0), (16, .invokevirtual 329, 3, 9990, 1, 1812, 12), (19, .ifCond .ne 6, 3, 0, 0, 0, 0), (22, .bipush (-2), 2, 0, 0, 0, 0), (24, .ireturn, 1, 0, 0, 0, 0), (25, .aload_n 0, 1, 0, 0, 0, 0), (26, .getfield 34, 3, 12, 17, 1367, 2), (29, .iconst 5, 1, 0, 0, 0, 0), (30, .iaload, 1, 0, 0, 0, 0), (31, .ifCond .le 6, 3, 0, 0, 0, 0), (34, .bipush (-5), 2, 0, 0, 0, 0), (36, .ireturn, 1, 0, 0, 0, 0), (37, .aload_n 0, 1, 0, 0, 0, 0), (38, .getfield 40, 3, 12, 19, 1369, 2), (41, .bipush 12, 2, 0, 0, 0, 0), (43, .iload_n 1, 1, 0, 0, 0, 0), (44, .imul, 1, 0, 0, 0, 0), (45, .iconst 1, 1, 0, 0, 0, 0), (46, .iadd, 1, 0, 0, 0, 0), (47, .iaload, 1, 0, 0, 0, 0), (48, .istore_n 3, 1, 0, 0, 0, 0), (49, .aload_n 0, 1, 0, 0, 0, 0), (50, .getfield 40, 3, 12, 19, 1369, 2), (53, .bipush 12, 2, 0, 0, 0, 0), (55, .iload_n 1, 1, 0, 0, 0, 0), (56, .imul, 1, 0, 0, 0, 0), (57, .iconst 1, 1, 0, 0, 0, 0), (58, .iadd, 1, 0, 0, 0, 0), (59, .iload_n 2, 1, 0, 0, 0, 0), (60, .iastore, 1, 0, 0, 0, 0), (61, .iload_n 3, 1, 0, 0, 0, 0), (62, .ireturn, 1, 0, 0, 0, 0)]
set_option maxRecDepth 100000 in
noncomputable def xt_185 : List xv_E := [(0, .aload_n 0, 1, 0, 0, 0, 0), (1, .iconst 0, 1, 0, 0, 0, 0), (2, .putfield 89, 3, 12, 0, 1350, 0), (5, .iload_n 1, 1, 0, 0, 0, 0), (6, .i2l, 1, 0, 0, 0, 0), (7, .lconst 0, 1, 0, 0, 0, 0), (8, .ldc2_w 408, 3, 0, 0, 1963, 5), (11, .invokestatic 94, 3, 101, 3, 1486, 12), (14, .ifCond .eq 10, 3, 0, 0, 0, 0), (17, .aload_n 0, 1, 0, 0, 0, 0), (18, .getfield 34, 3, 12, 17, 1367, 2), (21, .iload_n 1, 1, 0, 0, 0, 0), (22, .iaload, 1, 0, 0, 0, 0), (23, .ireturn, 1, 0, 0, 0, 0), (24, .iconst 0, 1, 0, 0, 0, 0), (25, .istore_n 2, 1, 0, 0, 0, 0), (26, .iload_n 1, 1, 0, 0, 0, 0), (27, .tableswitch 70 6 8 #[25, 32, 37], 25, 0, 0, 0, 0), (52, .aload_n 0, 1, 0, 0, 0, 0), (53, .getfield 31, 3, 12, 16, 1366, 2), (56, .iconst 0, 1, 0, 0, 0, 0), (57, .iaload, 1, 0, 0, 0, 0), (58, .ireturn, 1, 0, 0, 0, 0), (59, .aload_n 0, 1, 0, 0, 0, 0), (60, .getfield 106, 3, 12, 6, 1356, 0), (63, .ireturn, 1, 0, 0, 0, 0), (64, .iconst 0, 1, 0, 0, 0, 0), (65, .istore_n 3, 1, 0, 0, 0, 0), (66, .iload_n 3, 1, 0, 0, 0, 0), (67, .iconst 4, 1, 0, 0, 0, 0), (68, .if_icmp .ge 27, 3, 0, 0, 0, 0), (71, .iload_n 2, 1, 0, 0, 0, 0), (72, .aload_n 0, 1, 0, 0, 0, 0), (73, .getfield 7, 3, 12, 1, 1351, 2), (76, .iload_n 3, 1, 0, 0, 0, 0), (77, .iaload, 1, 0, 0, 0, 0), (78, .iconst (-1), 1, 0, 0, 0, 0), (79, .if_icmp .ne 7, 3, 0, 0, 0, 0), (82, .iconst 0, 1, 0, 0, 0, 0), (83, .goto 4, 3, 0, 0, 0, 0), (86, .iconst 1, 1, 0, 0, 0, 0), (87, .iadd, 1, 0, 0, 0, 0), (88, .istore_n 2, 1, 0, 0, 0, 0), (89, .iinc 3 1, 3, 0, 0, 0, 0), (92, .goto (-26), 3, 0, 0, 0, 0), (95, .iload_n 2, 1, 0, 0, 0, 0), (96, .ireturn, 1, 0, 0, 0, 0), (97, .iconst (-1), 1, 0, 0, 0, 0), (98, .ireturn, 1, 0, 0, 0, 0)]
set_option maxRecDepth 100000 in
noncomputable def xt_186 : List xv_E := [(0, .aload_n 0, 1, 0, 0, 0, 0), (1, .iconst 0, 1, 0, 0, 0, 0), (2, .putfield 89, 3, 12, 0, 1350, 0), (5, .iload_n 1, 1, 0, 0, 0, 0), (6, .i2l, 1, 0, 0, 0, 0), (7, .lconst 0, 1, 0, 0, 0, 0), (8, .ldc2_w 439, 3, 0, 0, 2055, 2), (11, .invokestatic 94, 3, 101, 3, 1486, 12), (14, .ifCond .ne 6, 3, 0, 0, 0, 0), (17, .bipush (-2), 2, 0, 0, 0, 0), (19, .ireturn, 1, 0, 0, 0, 0), (20, .aload_n 0, 1, 0, 0, 0, 0), (21, .iconst 0, 1, 0, 0, 0, 0), (22, .iconst 1, 1, 0, 0, 0, 0), (23, .iload_n 1, 1, 0, 0, 0, 0), (24, .iadd, 1, 0, 0, 0, 0), (25, .invokevirtual 241, 3, 119, 2, 1618, 12), (28, .aload_n 0, 1, 0, 0, 0, 0), (29, .getfield 49, 3, 12, 22, 1372, 2), (32, .iload_n 1, 1, 0, 0, 0, 0), (33, .iconst 1, 1, 0, 0, 0, 0), (34, .bastore, 1, 0, 0, 0, 0), (35, .iconst 0, 1, 0, 0, 0, 0), (36, .ireturn, 1, 0, 0, 0, 0)]
set_option maxRecDepth 100000 in
noncomputable def xt_187 : List xv_E := [(0, .aload_n 0, 1, 0, 0, 0, 0), (1, .iconst 0, 1, 0, 0, 0, 0), (2, .putfield 89, 3, 12, 0, 1350, 0), (5, .iload_n 1, 1, 0, 0, 0, 0), (6, .i2l, 1, 0, 0, 0, 0), (7, .lconst 0, 1, 0, 0, 0, 0), (8, .ldc2_w 439, 3, 0, 0, 2055, 2), (11, .invokestatic 94, 3, 101, 3, 1486, 12), (14, .ifCond .ne 6, 3, 0, 0, 0, 0), (17, .bipush (-2), 2, 0, 0, 0, 0), (19, .ireturn, 1, 0, 0, 0, 0), (20, .aload_n 0, 1, 0, 0, 0, 0), (21, .getfield 49, 3, 12, 22, 1372, 2), (24, .iload_n 1, 1, 0, 0, 0, 0), (25, .baload, 1, 0, 0, 0, 0), (26, .ifCond .ne 6, 3, 0, 0, 0, 0), (29, .bipush (-6), 2, 0, 0, 0, 0), (31, .ireturn, 1, 0, 0, 0, 0), (32, .aload_n 0, 1, 0, 0, 0, 0), (33, .iconst 1, 1, 0, 0, 0, 0), (34, .iload_n 1, 1, 0, 0, 0, 0), (35, .iadd, 1, 0, 0, 0, 0), (36, .iconst 0, 1, 0, 0, 0, 0), (37, .invokevirtual 241, 3, 119, 2, 1618, 12), (40, .iconst 0, 1, 0, 0, 0, 0), (41, .ireturn, 1, 0, 0, 0, 0)]
set_option maxRecDepth 100000 in
noncomputable def xt_188 : List xv_E := [(0, .iconst 0, 1, 0, 0, 0, 0), (1, .istore_n 3, 1, 0, 0, 0, 0), (2, .aload_n 0, 1, 0, 0, 0, 0), (3, .arraylength, 1, 0, 0, 0, 0), (4, .istore 4, 2, 0, 0, 0, 0), (6, .iload_n 3, 1, 0, 0, 0, 0), (7, .iload 4, 2, 0, 0, 0, 0), (9, .if_icmp .ge 13, 3, 0, 0, 0, 0), (12, .aload_n 0, 1, 0, 0, 0, 0), (13, .iload_n 3, 1, 0, 0, 0, 0), (14, .lload_n 1, 1, 0, 0, 0, 0), (15, .lastore, 1, 0, 0, 0, 0), (16, .iinc 3 1, 3, 0, 0, 0, 0), (19, .goto (-13), 3, 0, 0, 0, 0), (22, .return_, 1, 0, 0, 0, 0)]
set_option maxRecDepth 100000 in
noncomputable def xt_189 : List xv_E := [(0, .iconst 0, 1, 0, 0, 0, 0), (1, .istore_n 2, 1, 0, 0, 0, 0), (2, .aload_n 0, 1, 0, 0, 0, 0), (3, .arraylength, 1, 0, 0, 0, 0), (4, .istore_n 3, 1, 0, 0, 0, 0), (5, .iload_n 2, 1, 0, 0, 0, 0), (6, .iload_n 3, 1, 0, 0, 0, 0), (7, .if_icmp .ge 13, 3, 0, 0, 0, 0), (10, .aload_n 0, 1, 0, 0, 0, 0), (11, .iload_n 2, 1, 0, 0, 0, 0), (12, .iload_n 1, 1, 0, 0, 0, 0), (13, .iastore, 1, 0, 0, 0, 0), (14, .iinc 2 1, 3, 0, 0, 0, 0), (17, .goto (-12), 3, 0, 0, 0, 0), (20, .return_, 1, 0, 0, 0, 0)]
set_option maxRecDepth 100000 in
noncomputable def xt_190 : List xv_E := [(0, .new 7, 3, 11, 0, 121, 0), (3, .dup, 1, 0, 0, 0, 0), (4, .invokespecial 9, 3, 28, 0, 123, 11), (7, .astore_n 1, 1, 0, 0, 0, 0), (8, .new 10, 3, 12, 0, 1344, 0), (11, .dup, 1, 0, 0, 0, 0), (12, .invokespecial 12, 3, 100, 0, 1346, 12), (15, .astore_n 2, 1, 0, 0, 0, 0), (16, .iconst 0, 1, 0, 0, 0, 0), (17, .istore_n 3, 1, 0, 0, 0, 0), (18, .iload_n 3, 1, 0, 0, 0, 0), (19, .aload_n 0, 1, 0, 0, 0, 0), (20, .arraylength, 1, 0, 0, 0, 0), (21, .bipush 6, 2, 0, 0, 0, 0), (23, .isub, 1, 0, 0, 0, 0), (24, .if_icmp .gt 2131, 3, 0, 0, 0, 0), (27, .aload_n 0, 1, 0, 0, 0, 0), (28, .iload_n 3, 1, 0, 0, 0, 0), (29, .iaload, 1, 0, 0, 0, 0), (30, .bipush 127, 2, 0, 0, 0, 0), (32, .iand, 1, 0, 0, 0, 0), (33, .tableswitch 2116 0 66 #[283, 346, 369, 382, 405, 428, 461, 494, 527, 550, 583, 606, 629, 662, 685, 708, 721, 734, 747, 770, 793, 816, 839, 862, 885, 918, 941, 964, 987, 1010, 1043, 1066, 1079, 1092, 1115, 1128, 1151, 1164, 1177, 1200, 1233, 1266, 1309, 1342, 1375, 1419, 1442, 1496, 1539, 1562, 1595, 1618, 1641, 1654, 1667, 1680, 1693, 1726, 1759, 1802, 1835, 1868, 1891, 1914, 1937, 1980, 2053], 283, 0, 0, 0, 0), (316, .aload_n 1, 1, 0, 0, 0, 0), (317, .aload_n 0, 1, 0, 0, 0, 0), (318, .iload_n 3, 1, 0, 0, 0, 0), (319, .iconst 1, 1, 0, 0, 0, 0), (320, .iadd, 1, 0, 0, 0, 0), (321, .iaload, 1, 0, 0, 0, 0), (322, .aload_n 0, 1, 0, 0, 0, 0), (323, .iload_n 3, 1, 0, 0, 0, 0), (324, .iconst 2, 1, 0, 0, 0, 0), (325, .iadd, 1, 0, 0, 0, 0), (326, .iaload, 1, 0, 0, 0, 0), (327, .aload_n 0, 1, 0, 0, 0, 0), (328, .iload_n 3, 1, 0, 0, 0, 0), (329, .iconst 3, 1, 0, 0, 0, 0), (330, .iadd, 1, 0, 0, 0, 0), (331, .iaload, 1, 0, 0, 0, 0), (332, .aload_n 0, 1, 0, 0, 0, 0), (333, .iload_n 3, 1, 0, 0, 0, 0), (334, .iconst 4, 1, 0, 0, 0, 0), (335, .iadd, 1, 0, 0, 0, 0), (336, .iaload, 1, 0, 0, 0, 0), (337, .aload_n 0, 1, 0, 0, 0, 0), (338, .iload_n 3, 1, 0, 0, 0, 0), (339, .iconst 5, 1, 0, 0, 0, 0), (340, .iadd, 1, 0, 0, 0, 0), (341, .iaload, 1, 0, 0, 0, 0), (342, .invokevirtual 13, 3, 29, 5, 509, 11), (345, .aload_n 2, 1, 0, 0, 0, 0), (346, .aload_n 0, 1, 0, 0, 0, 0), (347, .iload_n 3, 1, 0, 0, 0, 0), (348, .iconst 1, 1, 0, 0, 0, 0), (349, .iadd, 1, 0, 0, 0, 0), (350, .iaload, 1, 0, 0, 0, 0), (351, .aload_n 0, 1, 0, 0, 0, 0), (352, .iload_n 3, 1, 0, 0, 0, 0), (353, .iconst 2, 1, 0, 0, 0, 0), (354, .iadd, 1, 0, 0, 0, 0), (355, .iaload, 1, 0, 0, 0, 0), (356, .aload_n 0, 1, 0, 0, 0, 0), (357, .iload_n 3, 1, 0, 0, 0, 0), (358, .iconst 3, 1, 0, 0, 0, 0), (359, .iadd, 1, 0, 0, 0, 0), (360, .iaload, 1, 0, 0, 0, 0), (361, .aload_n 0, 1, 0, 0, 0, 0), (362, .iload_n 3, 1, 0, 0, 0, 0), (363, .iconst 4, 1, 0, 0, 0, 0), (364, .iadd, 1, 0, 0, 0, 0), (365, .iaload, 1, 0, 0, 0, 0), (366, .aload_n 0, 1, 0, 0, 0, 0), (367, .iload_n 3, 1, 0, 0, 0, 0), (368, .iconst 5, 1, 0, 0, 0, 0), (369, .iadd, 1, 0, 0, 0, 0), (370, .iaload, 1, 0, 0, 0, 0), (371, .invokevirtual 17, 3, 106, 5, 1500, 12), (374, .if_icmp .eq 1775, 3, 0, 0, 0, 0), (377, .iconst 0, 1, 0, 0, 0, 0), (378, .ireturn, 1, 1, 0, 0, 0), (379, .aload_n 1, 1, 0, 0, 0, 0), (380, .aload_n 0, 1, 0, 0, 0, 0), (381, .iload_n 3, 1, 0, 0, 0, 0), (382, .iconst 1, 1, 0, 0, 0, 0), (383, .iadd, 1, 0, 0, 0, 0), (384, .iaload, 1, 0, 0, 0, 0), (385, .invokevirtual 18, 3, 30, 1, 521, 11), (388, .aload_n 2, 1, 0, 0, 0, 0), (389, .aload_n 0, 1, 0, 0, 0, 0), (390, .iload_n 3, 1, 0, 0, 0, 0), (391, .iconst 1, 1, 0, 0, 0, 0), (392, .iadd, 1, 0, 0, 0, 0), (393, .iaload, 1, 0, 0, 0, 0), (394, .invokevirtual 22, 3, 108, 1, 1508, 12), (397, .if_icmp .eq 1752, 3, 0, 0, 0, 0), (400, .iconst 0, 1, 0, 0, 0, 0), (401, .ireturn, 1, 1, 0, 0, 0), (402, .aload_n 1, 1, 0, 0, 0, 0), (403, .invokevirtual 23, 3, 31, 0, 525, 11), (406, .aload_n 2, 1, 0, 0, 0, 0), (407, .invokevirtual 27, 3, 117, 0, 1516, 12), (410, .if_icmp .eq 1739, 3, 0, 0, 0, 0), (413, .iconst 0, 1, 0, 0, 0, 0), (414, .ireturn, 1, 1, 0, 0, 0), (415, .aload_n 1, 1, 0, 0, 0, 0), (416, .aload_n 0, 1, 0, 0, 0, 0), (417, .iload_n 3, 1, 0, 0, 0, 0), (418, .iconst 1, 1, 0, 0, 0, 0), (419, .iadd, 1, 0, 0, 0, 0), (420, .iaload, 1, 0, 0, 0, 0), (421, .invokevirtual 28, 3, 32, 1, 689, 11), (424, .aload_n 2, 1, 0, 0, 0, 0), (425, .aload_n 0, 1, 0, 0, 0, 0), (426, .iload_n 3, 1, 0, 0, 0, 0), (427, .iconst 1, 1, 0, 0, 0, 0), (428, .iadd, 1, 0, 0, 0, 0), (429, .iaload, 1, 0, 0, 0, 0), (430, .invokevirtual 31, 3, 114, 1, 1512, 12), (433, .if_icmp .eq 1716, 3, 0, 0, 0, 0), (436, .iconst 0, 1, 0, 0, 0, 0), (437, .ireturn, 1, 1, 0, 0, 0), (438, .aload_n 1, 1, 0, 0, 0, 0), (439, .aload_n 0, 1, 0, 0, 0, 0), (440, .iload_n 3, 1, 0, 0, 0, 0), (441, .iconst 1, 1, 0, 0, 0, 0), (442, .iadd, 1, 0, 0, 0, 0), (443, .iaload, 1, 0, 0, 0, 0), (444, .invokevirtual 32, 3, 33, 1, 693, 11), (447, .aload_n 2, 1, 0, 0, 0, 0), (448, .aload_n 0, 1, 0, 0, 0, 0), (449, .iload_n 3, 1, 0, 0, 0, 0), (450, .iconst 1, 1, 0, 0, 0, 0), (451, .iadd, 1, 0, 0, 0, 0), (452, .iaload, 1, 0, 0, 0, 0), (453, .invokevirtual 35, 3, 124, 1, 1625, 12), (456, .if_icmp .eq 1693, 3, 0, 0, 0, 0), (459, .iconst 0, 1, 0, 0, 0, 0), (460, .ireturn, 1, 1, 0, 0, 0), (461, .aload_n 1, 1, 0, 0, 0, 0), (462, .aload_n 0, 1, 0, 0, 0, 0), (463, .iload_n 3, 1, 0, 0, 0, 0), (464, .iconst 1, 1, 0, 0, 0, 0), (465, .iadd, 1, 0, 0, 0, 0), (466, .iaload, 1, 0, 0, 0, 0), (467, .aload_n 0, 1, 0, 0, 0, 0), (468, .iload_n 3, 1, 0, 0, 0, 0), (469, .iconst 2, 1, 0, 0, 0, 0), (470, .iadd, 1, 0, 0, 0, 0), (471, .iaload, 1, 0, 0, 0, 0), (472, .invokevirtual 36, 3, 34, 2, 698, 11), (475, .aload_n 2, 1, 0, 0, 0, 0), (476, .aload_n 0, 1, 0, 0, 0, 0), (477, .iload_n 3, 1, 0, 0, 0, 0), (478, .iconst 1, 1, 0, 0, 0, 0), (479, .iadd, 1, 0, 0, 0, 0), (480, .iaload, 1, 0, 0, 0, 0), (481, .aload_n 0, 1, 0, 0, 0, 0), (482, .iload_n 3, 1, 0, 0, 0, 0), (483, .iconst 2, 1, 0, 0, 0, 0), (484, .iadd, 1, 0, 0, 0, 0), (485, .iaload, 1, 0, 0, 0, 0), (486, .invokevirtual 40, 3, 125, 2, 1633, 12), (489, .if_icmp .eq 1660, 3, 0, 0, 0, 0), (492, .iconst 0, 1, 0, 0, 0, 0), (493, .ireturn, 1, 1, 0, 0, 0), (494, .aload_n 1, 1, 0, 0, 0, 0), (495, .aload_n 0, 1, 0, 0, 0, 0), (496, .iload_n 3, 1, 0, 0, 0, 0), (497, .iconst 1, 1, 0, 0, 0, 0), (498, .iadd, 1, 0, 0, 0, 0), (499, .iaload, 1, 0, 0, 0, 0), (500, .aload_n 0, 1, 0, 0, 0, 0), (501, .iload_n 3, 1, 0, 0, 0, 0), (502, .iconst 2, 1, 0, 0, 0, 0), (503, .iadd, 1, 0, 0, 0, 0), (504, .iaload, 1, 0, 0, 0, 0), (505, .invokevirtual 41, 3, 35, 2, 703, 11), (508, .aload_n 2, 1, 0, 0, 0, 0), (509, .aload_n 0, 1, 0, 0, 0, 0), (510, .iload_n 3, 1, 0, 0, 0, 0), (511, .iconst 1, 1, 0, 0, 0, 0), (512, .iadd, 1, 0, 0, 0, 0), (513, .iaload, 1, 0, 0, 0, 0), (514, .aload_n 0, 1, 0, 0, 0, 0), (515, .iload_n 3, 1, 0, 0, 0, 0), (516, .iconst 2, 1, 0, 0, 0, 0), (517, .iadd, 1, 0, 0, 0, 0), (518, .iaload, 1, 0, 0, 0, 0), (519, .invokevirtual 44, 3, 126, 2, 1641, 12), (522, .if_icmp .eq 1627, 3, 0, 0, 0, 0), (525, .iconst 0, 1, 0, 0, 0, 0), (526, .ireturn, 1, 1, 0, 0, 0), (527, .aload_n 1, 1, 0, 0, 0, 0), (528, .aload_n 0, 1, 0, 0, 0, 0), (529, .iload_n 3, 1, 0, 0, 0, 0), (530, .iconst 1, 1, 0, 0, 0, 0), (531, .iadd, 1, 0, 0, 0, 0), (532, .iaload, 1, 0, 0, 0, 0), (533, .aload_n 0, 1, 0, 0, 0, 0), (534, .iload_n 3, 1, 0, 0, 0, 0), (535, .iconst 2, 1, 0, 0, 0, 0), (536, .iadd, 1, 0, 0, 0, 0), (537, .iaload, 1, 0, 0, 0, 0), (538, .invokevirtual 45, 3, 36, 2, 711, 11), (541, .aload_n 2, 1, 0, 0, 0, 0), (542, .aload_n 0, 1, 0, 0, 0, 0), (543, .iload_n 3, 1, 0, 0, 0, 0), (544, .iconst 1, 1, 0, 0, 0, 0), (545, .iadd, 1, 0, 0, 0, 0), (546, .iaload, 1, 0, 0, 0, 0), (547, .aload_n 0, 1, 0, 0, 0, 0), (548, .iload_n 3, 1, 0, 0, 0, 0), (549, .iconst 2, 1, 0, 0, 0, 0), (550, .iadd, 1, 0, 0, 0, 0), (551, .iaload, 1, 0, 0, 0, 0), (552, .invokevirtual 48, 3, 127, 2, 1645, 12), (555, .if_icmp .eq 1594, 3, 0, 0, 0, 0), (558, .iconst 0, 1, 0, 0, 0, 0), (559, .ireturn, 1, 1, 0, 0, 0), (560, .aload_n 1, 1, 0, 0, 0, 0), (561, .aload_n 0, 1, 0, 0, 0, 0), (562, .iload_n 3, 1, 0, 0, 0, 0), (563, .iconst 1, 1, 0, 0, 0, 0), (564, .iadd, 1, 0, 0, 0, 0), (565, .iaload, 1, 0, 0, 0, 0), (566, .invokevirtual 49, 3, 37, 1, 723, 11), (569, .aload_n 2, 1, 0, 0, 0, 0), (570, .aload_n 0, 1, 0, 0, 0, 0), (571, .iload_n 3, 1, 0, 0, 0, 0), (572, .iconst 1, 1, 0, 0, 0, 0), (573, .iadd, 1, 0, 0, 0, 0), (574, .iaload, 1, 0, 0, 0, 0), (575, .invokevirtual 52, 3, 128, 1, 1653, 12), (578, .if_icmp .eq 1571, 3, 0, 0, 0, 0), (581, .iconst 0, 1, 0, 0, 0, 0), (582, .ireturn, 1, 1, 0, 0, 0), (583, .aload_n 1, 1, 0, 0, 0, 0), (584, .aload_n 0, 1, 0, 0, 0, 0), (585, .iload_n 3, 1, 0, 0, 0, 0), (586, .iconst 1, 1, 0, 0, 0, 0), (587, .iadd, 1, 0, 0, 0, 0), (588, .iaload, 1, 0, 0, 0, 0), (589, .aload_n 0, 1, 0, 0, 0, 0), (590, .iload_n 3, 1, 0, 0, 0, 0), (591, .iconst 2, 1, 0, 0, 0, 0), (592, .iadd, 1, 0, 0, 0, 0), (593, .iaload, 1, 0, 0, 0, 0), (594, .invokevirtual 53, 3, 38, 2, 731, 11), (597, .aload_n 2, 1, 0, 0, 0, 0), (598, .aload_n 0, 1, 0, 0, 0, 0), (599, .iload_n 3, 1, 0, 0, 0, 0), (600, .iconst 1, 1, 0, 0, 0, 0), (601, .iadd, 1, 0, 0, 0, 0), (602, .iaload, 1, 0, 0, 0, 0), (603, .aload_n 0, 1, 0, 0, 0, 0), (604, .iload_n 3, 1, 0, 0, 0, 0), (605, .iconst 2, 1, 0, 0, 0, 0), (606, .iadd, 1, 0, 0, 0, 0), (607, .iaload, 1, 0, 0, 0, 0), (608, .invokevirtual 56, 3, 129, 2, 1661, 12), (611, .if_icmp .eq 1538, 3, 0, 0, 0, 0), (614, .iconst 0, 1, 0, 0, 0, 0), (615, .ireturn, 1, 1, 0, 0, 0), (616, .aload_n 1, 1, 0, 0, 0, 0), (617, .aload_n 0, 1, 0, 0, 0, 0), (618, .iload_n 3, 1, 0, 0, 0, 0), (619, .iconst 1, 1, 0, 0, 0, 0), (620, .iadd, 1, 0, 0, 0, 0), (621, .iaload, 1, 0, 0, 0, 0), (622, .invokevirtual 57, 3, 39, 1, 747, 11), (625, .aload_n 2, 1, 0, 0, 0, 0), (626, .aload_n 0, 1, 0, 0, 0, 0), (627, .iload_n 3, 1, 0, 0, 0, 0), (628, .iconst 1, 1, 0, 0, 0, 0), (629, .iadd, 1, 0, 0, 0, 0), (630, .iaload, 1, 0, 0, 0, 0), (631, .invokevirtual 60, 3, 130, 1, 1681, 12), (634, .if_icmp .eq 1515, 3, 0, 0, 0, 0), (637, .iconst 0, 1, 0, 0, 0, 0), (638, .ireturn, 1, 1, 0, 0, 0), (639, .aload_n 1, 1, 0, 0, 0, 0), (640, .aload_n 0, 1, 0, 0, 0, 0), (641, .iload_n 3, 1, 0, 0, 0, 0), (642, .iconst 1, 1, 0, 0, 0, 0), (643, .iadd, 1, 0, 0, 0, 0), (644, .iaload, 1, 0, 0, 0, 0), (645, .invokevirtual 61, 3, 40, 1, 759, 11), (648, .aload_n 2, 1, 0, 0, 0, 0), (649, .aload_n 0, 1, 0, 0, 0, 0), (650, .iload_n 3, 1, 0, 0, 0, 0), (651, .iconst 1, 1, 0, 0, 0, 0), (652, .iadd, 1, 0, 0, 0, 0), (653, .iaload, 1, 0, 0, 0, 0), (654, .invokevirtual 64, 3, 131, 1, 1700, 12), (657, .if_icmp .eq 1492, 3, 0, 0, 0, 0), (660, .iconst 0, 1, 0, 0, 0, 0), (661, .ireturn, 1, 1, 0, 0, 0), (662, .aload_n 1, 1, 0, 0, 0, 0), (663, .aload_n 0, 1, 0, 0, 0, 0), (664, .iload_n 3, 1, 0, 0, 0, 0), (665, .iconst 1, 1, 0, 0, 0, 0), (666, .iadd, 1, 0, 0, 0, 0), (667, .iaload, 1, 0, 0, 0, 0), (668, .aload_n 0, 1, 0, 0, 0, 0), (669, .iload_n 3, 1, 0, 0, 0, 0), (670, .iconst 2, 1, 0, 0, 0, 0), (671, .iadd, 1, 0, 0, 0, 0), (672, .iaload, 1, 0, 0, 0, 0), (673, .invokevirtual 65, 3, 41, 2, 767, 11), (676, .aload_n 2, 1, 0, 0, 0, 0), (677, .aload_n 0, 1, 0, 0, 0, 0), (678, .iload_n 3, 1, 0, 0, 0, 0), (679, .iconst 1, 1, 0, 0, 0, 0), (680, .iadd, 1, 0, 0, 0, 0), (681, .iaload, 1, 0, 0, 0, 0), (682, .aload_n 0, 1, 0, 0, 0, 0), (683, .iload_n 3, 1, 0, 0, 0, 0), (684, .iconst 2, 1, 0, 0, 0, 0), (685, .iadd, 1, 0, 0, 0, 0), (686, .iaload, 1, 0, 0, 0, 0), (687, .invokevirtual 68, 3, 132, 2, 1704, 12), (690, .if_icmp .eq 1459, 3, 0, 0, 0, 0), (693, .iconst 0, 1, 0, 0, 0, 0), (694, .ireturn, 1, 1, 0, 0, 0), (695, .aload_n 1, 1, 0, 0, 0, 0), (696, .aload_n 0, 1, 0, 0, 0, 0), (697, .iload_n 3, 1, 0, 0, 0, 0), (698, .iconst 1, 1, 0, 0, 0, 0), (699, .iadd, 1, 0, 0, 0, 0), (700, .iaload, 1, 0, 0, 0, 0), (701, .invokevirtual 69, 3, 42, 1, 772, 11), (704, .aload_n 2, 1, 0, 0, 0, 0), (705, .aload_n 0, 1, 0, 0, 0, 0), (706, .iload_n 3, 1, 0, 0, 0, 0), (707, .iconst 1, 1, 0, 0, 0, 0), (708, .iadd, 1, 0, 0, 0, 0), (709, .iaload, 1, 0, 0, 0, 0), (710, .invokevirtual 72, 3, 133, 1, 1709, 12), (713, .if_icmp .eq 1436, 3, 0, 0, 0, 0), (716, .iconst 0, 1, 0, 0, 0, 0), (717, .ireturn, 1, 1, 0, 0, 0), (718, .aload_n 1, 1, 0, 0, 0, 0), (719, .aload_n 0, 1, 0, 0, 0, 0), (720, .iload_n 3, 1, 0, 0, 0, 0), (721, .iconst 1, 1, 0, 0, 0, 0), (722, .iadd, 1, 0, 0, 0, 0), (723, .iaload, 1, 0, 0, 0, 0), (724, .invokevirtual 73, 3, 43, 1, 780, 11), (727, .aload_n 2, 1, 0, 0, 0, 0), (728, .aload_n 0, 1, 0, 0, 0, 0), (729, .iload_n 3, 1, 0, 0, 0, 0), (730, .iconst 1, 1, 0, 0, 0, 0), (731, .iadd, 1, 0, 0, 0, 0), (732, .iaload, 1, 0, 0, 0, 0), (733, .invokevirtual 76, 3, 134, 1, 1713, 12), (736, .if_icmp .eq 1413, 3, 0, 0, 0, 0), (739, .iconst 0, 1, 0, 0, 0, 0), (740, .ireturn, 1, 1, 0, 0, 0), (741, .aload_n 1, 1, 0, 0, 0, 0), (742, .invokevirtual 77, 3, 44, 0, 794, 11), (745, .aload_n 2, 1, 0, 0, 0, 0), (746, .invokevirtual 80, 3, 135, 0, 1721, 12), (749, .if_icmp .eq 1400, 3, 0, 0, 0, 0), (752, .iconst 0, 1, 0, 0, 0, 0), (753, .ireturn, 1, 1, 0, 0, 0), (754, .aload_n 1, 1, 0, 0, 0, 0), (755, .invokevirtual 81, 3, 45, 0, 802, 11), (758, .aload_n 2, 1, 0, 0, 0, 0), (759, .invokevirtual 84, 3, 136, 0, 1729, 12), (762, .if_icmp .eq 1387, 3, 0, 0, 0, 0), (765, .iconst 0, 1, 0, 0, 0, 0), (766, .ireturn, 1, 1, 0, 0, 0), (767, .aload_n 1, 1, 0, 0, 0, 0), (768, .invokevirtual 85, 3, 46, 0, 810, 11), (771, .aload_n 2, 1, 0, 0, 0, 0), (772, .invokevirtual 88, 3, 137, 0, 1733, 12), (775, .if_icmp .eq 1374, 3, 0, 0, 0, 0), (778, .iconst 0, 1, 0, 0, 0, 0), (779, .ireturn, 1, 1, 0, 0, 0), (780, .aload_n 1, 1, 0, 0, 0, 0), (781, .aload_n 0, 1, 0, 0, 0, 0), (782, .iload_n 3, 1, 0, 0, 0, 0), (783, .iconst 1, 1, 0, 0, 0, 0), (784, .iadd, 1, 0, 0, 0, 0), (785, .iaload, 1, 0, 0, 0, 0), (786, .invokevirtual 89, 3, 47, 1, 814, 11), (789, .aload_n 2, 1, 0, 0, 0, 0), (790, .aload_n 0, 1, 0, 0, 0, 0), (791, .iload_n 3, 1, 0, 0, 0, 0), (792, .iconst 1, 1, 0, 0, 0, 0), (793, .iadd, 1, 0, 0, 0, 0), (794, .iaload, 1, 0, 0, 0, 0), (795, .invokevirtual 92, 3, 138, 1, 1737, 12), (798, .if_icmp .eq 1351, 3, 0, 0, 0, 0), (801, .iconst 0, 1, 0, 0, 0, 0), (802, .ireturn, 1, 1, 0, 0, 0), (803, .aload_n 1, 1, 0, 0, 0, 0), (804, .aload_n 0, 1, 0, 0, 0, 0), (805, .iload_n 3, 1, 0, 0, 0, 0), (806, .iconst 1, 1, 0, 0, 0, 0), (807, .iadd, 1, 0, 0, 0, 0), (808, .iaload, 1, 0, 0, 0, 0), (809, .invokevirtual 93, 3, 48, 1, 818, 11), (812, .aload_n 2, 1, 0, 0, 0, 0), (813, .aload_n 0, 1, 0, 0, 0, 0), (814, .iload_n 3, 1, 0, 0, 0, 0), (815, .iconst 1, 1, 0, 0, 0, 0), (816, .iadd, 1, 0, 0, 0, 0), (817, .iaload, 1, 0, 0, 0, 0), (818, .invokevirtual 96, 3, 139, 1, 1741, 12), (821, .if_icmp .eq 1328, 3, 0, 0, 0, 0), (824, .iconst 0, 1, 0, 0, 0, 0), (825, .ireturn, 1, 1, 0, 0, 0), (826, .aload_n 1, 1, 0, 0, 0, 0), (827, .aload_n 0, 1, 0, 0, 0, 0), (828, .iload_n 3, 1, 0, 0, 0, 0), (829, .iconst 1, 1, 0, 0, 0, 0), (830, .iadd, 1, 0, 0, 0, 0), (831, .iaload, 1, 0, 0, 0, 0), (832, .invokevirtual 97, 3, 49, 1, 822, 11), (835, .aload_n 2, 1, 0, 0, 0, 0), (836, .aload_n 0, 1, 0, 0, 0, 0), (837, .iload_n 3, 1, 0, 0, 0, 0), (838, .iconst 1, 1, 0, 0, 0, 0), (839, .iadd, 1, 0, 0, 0, 0), (840, .iaload, 1, 0, 0, 0, 0), (841, .invokevirtual 100, 3, 140, 1, 1745, 12), (844, .if_icmp .eq 1305, 3, 0, 0, 0, 0), (847, .iconst 0, 1, 0, 0, 0, 0), (848, .ireturn, 1, 1, 0, 0, 0), (849, .aload_n 1, 1, 0, 0, 0, 0), (850, .aload_n 0, 1, 0, 0, 0, 0), (851, .iload_n 3, 1, 0, 0, 0, 0), (852, .iconst 1, 1, 0, 0, 0, 0), (853, .iadd, 1, 0, 0, 0, 0), (854, .iaload, 1, 0, 0, 0, 0), (855, .invokevirtual 101, 3, 50, 1, 826, 11), (858, .aload_n 2, 1, 0, 0, 0, 0), (859, .aload_n 0, 1, 0, 0, 0, 0), (860, .iload_n 3, 1, 0, 0, 0, 0), (861, .iconst 1, 1, 0, 0, 0, 0), (862, .iadd, 1, 0, 0, 0, 0), (863, .iaload, 1, 0, 0, 0, 0), (864, .invokevirtual 104, 3, 141, 1, 1749, 12), (867, .if_icmp .eq 1282, 3, 0, 0, 0, 0), (870, .iconst 0, 1, 0, 0, 0, 0), (871, .ireturn, 1, 1, 0, 0, 0), (872, .aload_n 1, 1, 0, 0, 0, 0), (873, .aload_n 0, 1, 0, 0, 0, 0), (874, .iload_n 3, 1, 0, 0, 0, 0), (875, .iconst 1, 1, 0, 0, 0, 0), (876, .iadd, 1, 0, 0, 0, 0), (877, .iaload, 1, 0, 0, 0, 0), (878, .invokevirtual 105, 3, 51, 1, 841, 11), (881, .aload_n 2, 1, 0, 0, 0, 0), (882, .aload_n 0, 1, 0, 0, 0, 0), (883, .iload_n 3, 1, 0, 0, 0, 0), (884, .iconst 1, 1, 0, 0, 0, 0), (885, .iadd, 1, 0, 0, 0, 0), (886, .iaload, 1, 0, 0, 0, 0), (887, .invokevirtual 108, 3, 142, 1, 1758, 12), (890, .if_icmp .eq 1259, 3, 0, 0, 0, 0), (893, .iconst 0, 1, 0, 0, 0, 0), (894, .ireturn, 1, 1, 0, 0, 0), (895, .aload_n 1, 1, 0, 0, 0, 0), (896, .aload_n 0, 1, 0, 0, 0, 0), (897, .iload_n 3, 1, 0, 0, 0, 0), (898, .iconst 1, 1, 0, 0, 0, 0), (899, .iadd, 1, 0, 0, 0, 0), (900, .iaload, 1, 0, 0, 0, 0), (901, .invokevirtual 109, 3, 52, 1, 845, 11), (904, .aload_n 2, 1, 0, 0, 0, 0), (905, .aload_n 0, 1, 0, 0, 0, 0), (906, .iload_n 3, 1, 0, 0, 0, 0), (907, .iconst 1, 1, 0, 0, 0, 0), (908, .iadd, 1, 0, 0, 0, 0), (909, .iaload, 1, 0, 0, 0, 0), (910, .invokevirtual 112, 3, 144, 1, 1762, 12), (913, .if_icmp .eq 1236, 3, 0, 0, 0, 0), (916, .iconst 0, 1, 0, 0, 0, 0), (917, .ireturn, 1, 1, 0, 0, 0), (918, .aload_n 1, 1, 0, 0, 0, 0), (919, .aload_n 0, 1, 0, 0, 0, 0), (920, .iload_n 3, 1, 0, 0, 0, 0), (921, .iconst 1, 1, 0, 0, 0, 0), (922, .iadd, 1, 0, 0, 0, 0), (923, .iaload, 1, 0, 0, 0, 0), (924, .aload_n 0, 1, 0, 0, 0, 0), (925, .iload_n 3, 1, 0, 0, 0, 0), (926, .iconst 2, 1, 0, 0, 0, 0), (927, .iadd, 1, 0, 0, 0, 0), (928, .iaload, 1, 0, 0, 0, 0), (929, .invokevirtual 113, 3, 53, 2, 886, 11), (932, .aload_n 2, 1, 0, 0, 0, 0), (933, .aload_n 0, 1, 0, 0, 0, 0), (934, .iload_n 3, 1, 0, 0, 0, 0), (935, .iconst 1, 1, 0, 0, 0, 0), (936, .iadd, 1, 0, 0, 0, 0), (937, .iaload, 1, 0, 0, 0, 0), (938, .aload_n 0, 1, 0, 0, 0, 0), (939, .iload_n 3, 1, 0, 0, 0, 0), (940, .iconst 2, 1, 0, 0, 0, 0), (941, .iadd, 1, 0, 0, 0, 0), (942, .iaload, 1, 0, 0, 0, 0), (943, .invokevirtual 116, 3, 145, 2, 1788, 12), (946, .if_icmp .eq 1203, 3, 0, 0, 0, 0), (949, .iconst 0, 1, 0, 0, 0, 0), (950, .ireturn, 1, 1, 0, 0, 0), (951, .aload_n 1, 1, 0, 0, 0, 0), (952, .aload_n 0, 1, 0, 0, 0, 0), (953, .iload_n 3, 1, 0, 0, 0, 0), (954, .iconst 1, 1, 0, 0, 0, 0), (955, .iadd, 1, 0, 0, 0, 0), (956, .iaload, 1, 0, 0, 0, 0), (957, .invokevirtual 117, 3, 54, 1, 898, 11), (960, .aload_n 2, 1, 0, 0, 0, 0), (961, .aload_n 0, 1, 0, 0, 0, 0), (962, .iload_n 3, 1, 0, 0, 0, 0), (963, .iconst 1, 1, 0, 0, 0, 0), (964, .iadd, 1, 0, 0, 0, 0), (965, .iaload, 1, 0, 0, 0, 0), (966, .invokevirtual 120, 3, 146, 1, 1792, 12), (969, .if_icmp .eq 1180, 3, 0, 0, 0, 0), (972, .iconst 0, 1, 0, 0, 0, 0), (973, .ireturn, 1, 1, 0, 0, 0), (974, .aload_n 1, 1, 0, 0, 0, 0), (975, .aload_n 0, 1, 0, 0, 0, 0), (976, .iload_n 3, 1, 0, 0, 0, 0), (977, .iconst 1, 1, 0, 0, 0, 0), (978, .iadd, 1, 0, 0, 0, 0), (979, .iaload, 1, 0, 0, 0, 0), (980, .invokevirtual 121, 3, 55, 1, 902, 11), (983, .aload_n 2, 1, 0, 0, 0, 0), (984, .aload_n 0, 1, 0, 0, 0, 0), (985, .iload_n 3, 1, 0, 0, 0, 0), (986, .iconst 1, 1, 0, 0, 0, 0), (987, .iadd, 1, 0, 0, 0, 0), (988, .iaload, 1, 0, 0, 0, 0), (989, .invokevirtual 124, 3, 147, 1, 1796, 12), (992, .if_icmp .eq 1157, 3, 0, 0, 0, 0), (995, .iconst 0, 1, 0, 0, 0, 0), (996, .ireturn, 1, 1, 0, 0, 0), (997, .aload_n 1, 1, 0, 0, 0, 0), (998, .aload_n 0, 1, 0, 0, 0, 0), (999, .iload_n 3, 1, 0, 0, 0, 0), (1000, .iconst 1, 1, 0, 0, 0, 0), (1001, .iadd, 1, 0, 0, 0, 0), (1002, .iaload, 1, 0, 0, 0, 0), (1003, .invokevirtual 125, 3, 56, 1, 906, 11), (1006, .aload_n 2, 1, 0, 0, 0, 0), (1007, .aload_n 0, 1, 0, 0, 0, 0), (1008, .iload_n 3, 1, 0, 0, 0, 0), (1009, .iconst 1, 1, 0, 0, 0, 0), (1010, .iadd, 1, 0, 0, 0, 0), (1011, .iaload, 1, 0, 0, 0, 0), (1012, .invokevirtual 128, 3, 148, 1, 1800, 12), (1015, .if_icmp .eq 1134, 3, 0, 0, 0, 0), (1018, .iconst 0, 1, 0, 0, 0, 0), (1019, .ireturn, 1, 1, 0, 0, 0), (1020, .aload_n 1, 1, 0, 0, 0, 0), (1021, .aload_n 0, 1, 0, 0, 0, 0), (1022, .iload_n 3, 1, 0, 0, 0, 0), (1023, .iconst 1, 1, 0, 0, 0, 0), (1024, .iadd, 1, 0, 0, 0, 0), (1025, .iaload, 1, 0, 0, 0, 0), (1026, .invokevirtual 129, 3, 57, 1, 910, 11), (1029, .aload_n 2, 1, 0, 0, 0, 0), (1030, .aload_n 0, 1, 0, 0, 0, 0), (1031, .iload_n 3, 1, 0, 0, 0, 0), (1032, .iconst 1, 1, 0, 0, 0, 0), (1033, .iadd, 1, 0, 0, 0, 0), (1034, .iaload, 1, 0, 0, 0, 0), (1035, .invokevirtual 132, 3, 149, 1, 1804, 12), (1038, .if_icmp .eq 1111, 3, 0, 0, 0, 0), (1041, .iconst 0, 1, 0, 0, 0, 0), (1042, .ireturn, 1, 1, 0, 0, 0), (1043, .aload_n 1, 1, 0, 0, 0, 0), (1044, .aload_n 0, 1, 0, 0, 0, 0), (1045, .iload_n 3, 1, 0, 0, 0, 0), (1046, .iconst 1, 1, 0, 0, 0, 0), (1047, .iadd, 1, 0, 0, 0, 0), (1048, .iaload, 1, 0, 0, 0, 0), (1049, .aload_n 0, 1, 0, 0, 0, 0), (1050, .iload_n 3, 1, 0, 0, 0, 0), (1051, .iconst 2, 1, 0, 0, 0, 0), (1052, .iadd, 1, 0, 0, 0, 0), (1053, .iaload, 1, 0, 0, 0, 0), (1054, .invokevirtual 133, 3, 59, 2, 914, 11), (1057, .aload_n 2, 1, 0, 0, 0, 0), (1058, .aload_n 0, 1, 0, 0, 0, 0), (1059, .iload_n 3, 1, 0, 0, 0, 0), (1060, .iconst 1, 1, 0, 0, 0, 0), (1061, .iadd, 1, 0, 0, 0, 0), (1062, .iaload, 1, 0, 0, 0, 0), (1063, .aload_n 0, 1, 0, 0, 0, 0), (1064, .iload_n 3, 1, 0, 0, 0, 0), (1065, .iconst 2, 1, 0, 0, 0, 0), (1066, .iadd, 1, 0, 0, 0, 0), (1067, .iaload, 1, 0, 0, 0, 0), (1068, .invokevirtual 136, 3, 150, 2, 1808, 12), (1071, .if_icmp .eq 1078, 3, 0, 0, 0, 0), (1074, .iconst 0, 1, 0, 0, 0, 0), (1075, .ireturn, 1, 1, 0, 0, 0), (1076, .aload_n 1, 1, 0, 0, 0, 0), (1077, .aload_n 0, 1, 0, 0, 0, 0), (1078, .iload_n 3, 1, 0, 0, 0, 0), (1079, .iconst 1, 1, 0, 0, 0, 0), (1080, .iadd, 1, 0, 0, 0, 0), (1081, .iaload, 1, 0, 0, 0, 0), (1082, .invokevirtual 137, 3, 60, 1, 926, 11), (1085, .aload_n 2, 1, 0, 0, 0, 0), (1086, .aload_n 0, 1, 0, 0, 0, 0), (1087, .iload_n 3, 1, 0, 0, 0, 0), (1088, .iconst 1, 1, 0, 0, 0, 0), (1089, .iadd, 1, 0, 0, 0, 0), (1090, .iaload, 1, 0, 0, 0, 0), (1091, .invokevirtual 140, 3, 151, 1, 1820, 12), (1094, .if_icmp .eq 1055, 3, 0, 0, 0, 0), (1097, .iconst 0, 1, 0, 0, 0, 0), (1098, .ireturn, 1, 1, 0, 0, 0), (1099, .aload_n 1, 1, 0, 0, 0, 0), (1100, .invokevirtual 141, 3, 61, 0, 935, 11), (1103, .aload_n 2, 1, 0, 0, 0, 0), (1104, .invokevirtual 144, 3, 152, 0, 1828, 12), (1107, .if_icmp .eq 1042, 3, 0, 0, 0, 0), (1110, .iconst 0, 1, 0, 0, 0, 0), (1111, .ireturn, 1, 1, 0, 0, 0), (1112, .aload_n 1, 1, 0, 0, 0, 0), (1113, .invokevirtual 145, 3, 62, 0, 944, 11), (1116, .aload_n 2, 1, 0, 0, 0, 0), (1117, .invokevirtual 148, 3, 153, 0, 1836, 12), (1120, .if_icmp .eq 1029, 3, 0, 0, 0, 0), (1123, .iconst 0, 1, 0, 0, 0, 0), (1124, .ireturn, 1, 1, 0, 0, 0), (1125, .aload_n 1, 1, 0, 0, 0, 0), (1126, .aload_n 0, 1, 0, 0, 0, 0), (1127, .iload_n 3, 1, 0, 0, 0, 0), (1128, .iconst 1, 1, 0, 0, 0, 0), (1129, .iadd, 1, 0, 0, 0, 0), (1130, .iaload, 1, 0, 0, 0, 0), (1131, .invokevirtual 149, 3, 63, 1, 957, 11), (1134, .aload_n 2, 1, 0, 0, 0, 0), (1135, .aload_n 0, 1, 0, 0, 0, 0), (1136, .iload_n 3, 1, 0, 0, 0, 0), (1137, .iconst 1, 1, 0, 0, 0, 0), (1138, .iadd, 1, 0, 0, 0, 0), (1139, .iaload, 1, 0, 0, 0, 0), (1140, .invokevirtual 152, 3, 154, 1, 1844, 12), (1143, .if_icmp .eq 1006, 3, 0, 0, 0, 0), (1146, .iconst 0, 1, 0, 0, 0, 0), (1147, .ireturn, 1, 1, 0, 0, 0), (1148, .aload_n 1, 1, 0, 0, 0, 0), (1149, .invokevirtual 153, 3, 64, 0, 961, 11), (1152, .aload_n 2, 1, 0, 0, 0, 0), (1153, .invokevirtual 156, 3, 155, 0, 1848, 12), (1156, .if_icmp .eq 993, 3, 0, 0, 0, 0), (1159, .iconst 0, 1, 0, 0, 0, 0), (1160, .ireturn, 1, 1, 0, 0, 0), (1161, .aload_n 1, 1, 0, 0, 0, 0), (1162, .aload_n 0, 1, 0, 0, 0, 0), (1163, .iload_n 3, 1, 0, 0, 0, 0), (1164, .iconst 1, 1, 0, 0, 0, 0), (1165, .iadd, 1, 0, 0, 0, 0), (1166, .iaload, 1, 0, 0, 0, 0), (1167, .invokevirtual 157, 3, 65, 1, 978, 11), (1170, .aload_n 2, 1, 0, 0, 0, 0), (1171, .aload_n 0, 1, 0, 0, 0, 0), (1172, .iload_n 3, 1, 0, 0, 0, 0), (1173, .iconst 1, 1, 0, 0, 0, 0), (1174, .iadd, 1, 0, 0, 0, 0), (1175, .iaload, 1, 0, 0, 0, 0), (1176, .invokevirtual 160, 3, 156, 1, 1868, 12), (1179, .if_icmp .eq 970, 3, 0, 0, 0, 0), (1182, .iconst 0, 1, 0, 0, 0, 0), (1183, .ireturn, 1, 1, 0, 0, 0), (1184, .aload_n 1, 1, 0, 0, 0, 0), (1185, .invokevirtual 161, 3, 66, 0, 995, 11), (1188, .aload_n 2, 1, 0, 0, 0, 0), (1189, .invokevirtual 164, 3, 157, 0, 1876, 12), (1192, .if_icmp .eq 957, 3, 0, 0, 0, 0), (1195, .iconst 0, 1, 0, 0, 0, 0), (1196, .ireturn, 1, 1, 0, 0, 0), (1197, .aload_n 1, 1, 0, 0, 0, 0), (1198, .invokevirtual 165, 3, 67, 0, 1003, 11), (1201, .aload_n 2, 1, 0, 0, 0, 0), (1202, .invokevirtual 168, 3, 158, 0, 1880, 12), (1205, .if_icmp .eq 944, 3, 0, 0, 0, 0), (1208, .iconst 0, 1, 0, 0, 0, 0), (1209, .ireturn, 1, 1, 0, 0, 0), (1210, .aload_n 1, 1, 0, 0, 0, 0), (1211, .aload_n 0, 1, 0, 0, 0, 0), (1212, .iload_n 3, 1, 0, 0, 0, 0), (1213, .iconst 1, 1, 0, 0, 0, 0), (1214, .iadd, 1, 0, 0, 0, 0), (1215, .iaload, 1, 0, 0, 0, 0), (1216, .invokevirtual 169, 3, 68, 1, 1025, 11), (1219, .aload_n 2, 1, 0, 0, 0, 0), (1220, .aload_n 0, 1, 0, 0, 0, 0), (1221, .iload_n 3, 1, 0, 0, 0, 0), (1222, .iconst 1, 1, 0, 0, 0, 0), (1223, .iadd, 1, 0, 0, 0, 0), (1224, .iaload, 1, 0, 0, 0, 0), (1225, .invokevirtual 172, 3, 159, 1, 1888, 12), (1228, .if_icmp .eq 921, 3, 0, 0, 0, 0), (1231, .iconst 0, 1, 0, 0, 0, 0), (1232, .ireturn, 1, 1, 0, 0, 0), (1233, .aload_n 1, 1, 0, 0, 0, 0), (1234, .aload_n 0, 1, 0, 0, 0, 0), (1235, .iload_n 3, 1, 0, 0, 0, 0), (1236, .iconst 1, 1, 0, 0, 0, 0), (1237, .iadd, 1, 0, 0, 0, 0), (1238, .iaload, 1, 0, 0, 0, 0), (1239, .aload_n 0, 1, 0, 0, 0, 0), (1240, .iload_n 3, 1, 0, 0, 0, 0), (1241, .iconst 2, 1, 0, 0, 0, 0), (1242, .iadd, 1, 0, 0, 0, 0), (1243, .iaload, 1, 0, 0, 0, 0), (1244, .invokevirtual 173, 3, 69, 2, 1040, 11), (1247, .aload_n 2, 1, 0, 0, 0, 0), (1248, .aload_n 0, 1, 0, 0, 0, 0), (1249, .iload_n 3, 1, 0, 0, 0, 0), (1250, .iconst 1, 1, 0, 0, 0, 0), (1251, .iadd, 1, 0, 0, 0, 0), (1252, .iaload, 1, 0, 0, 0, 0), (1253, .aload_n 0, 1, 0, 0, 0, 0), (1254, .iload_n 3, 1, 0, 0, 0, 0), (1255, .iconst 2, 1, 0, 0, 0, 0), (1256, .iadd, 1, 0, 0, 0, 0), (1257, .iaload, 1, 0, 0, 0, 0), (1258, .invokevirtual 176, 3, 161, 2, 1896, 12), (1261, .if_icmp .eq 888, 3, 0, 0, 0, 0), (1264, .iconst 0, 1, 0, 0, 0, 0), (1265, .ireturn, 1, 1, 0, 0, 0), (1266, .aload_n 1, 1, 0, 0, 0, 0), (1267, .aload_n 0, 1, 0, 0, 0, 0), (1268, .iload_n 3, 1, 0, 0, 0, 0), (1269, .iconst 1, 1, 0, 0, 0, 0), (1270, .iadd, 1, 0, 0, 0, 0), (1271, .iaload, 1, 0, 0, 0, 0), (1272, .aload_n 0, 1, 0, 0, 0, 0), (1273, .iload_n 3, 1, 0, 0, 0, 0), (1274, .iconst 2, 1, 0, 0, 0, 0), (1275, .iadd, 1, 0, 0, 0, 0), (1276, .iaload, 1, 0, 0, 0, 0), (1277, .invokevirtual 177, 3, 70, 2, 1096, 11), (1280, .aload_n 2, 1, 0, 0, 0, 0), (1281, .aload_n 0, 1, 0, 0, 0, 0), (1282, .iload_n 3, 1, 0, 0, 0, 0), (1283, .iconst 1, 1, 0, 0, 0, 0), (1284, .iadd, 1, 0, 0, 0, 0), (1285, .iaload, 1, 0, 0, 0, 0), (1286, .aload_n 0, 1, 0, 0, 0, 0), (1287, .iload_n 3, 1, 0, 0, 0, 0), (1288, .iconst 2, 1, 0, 0, 0, 0), (1289, .iadd, 1, 0, 0, 0, 0), (1290, .iaload, 1, 0, 0, 0, 0), (1291, .invokevirtual 180, 3, 162, 2, 1912, 12), (1294, .if_icmp .eq 855, 3, 0, 0, 0, 0), (1297, .iconst 0, 1, 0, 0, 0, 0), (1298, .ireturn, 1, 1, 0, 0, 0), (1299, .aload_n 1, 1, 0, 0, 0, 0), (1300, .aload_n 0, 1, 0, 0, 0, 0), (1301, .iload_n 3, 1, 0, 0, 0, 0), (1302, .iconst 1, 1, 0, 0, 0, 0), (1303, .iadd, 1, 0, 0, 0, 0), (1304, .iaload, 1, 0, 0, 0, 0), (1305, .aload_n 0, 1, 0, 0, 0, 0), (1306, .iload_n 3, 1, 0, 0, 0, 0), (1307, .iconst 2, 1, 0, 0, 0, 0), (1308, .iadd, 1, 0, 0, 0, 0), (1309, .iaload, 1, 0, 0, 0, 0), (1310, .aload_n 0, 1, 0, 0, 0, 0), (1311, .iload_n 3, 1, 0, 0, 0, 0), (1312, .iconst 3, 1, 0, 0, 0, 0), (1313, .iadd, 1, 0, 0, 0, 0), (1314, .iaload, 1, 0, 0, 0, 0), (1315, .invokevirtual 181, 3, 71, 3, 1100, 11), (1318, .aload_n 2, 1, 0, 0, 0, 0), (1319, .aload_n 0, 1, 0, 0, 0, 0), (1320, .iload_n 3, 1, 0, 0, 0, 0), (1321, .iconst 1, 1, 0, 0, 0, 0), (1322, .iadd, 1, 0, 0, 0, 0), (1323, .iaload, 1, 0, 0, 0, 0), (1324, .aload_n 0, 1, 0, 0, 0, 0), (1325, .iload_n 3, 1, 0, 0, 0, 0), (1326, .iconst 2, 1, 0, 0, 0, 0), (1327, .iadd, 1, 0, 0, 0, 0), (1328, .iaload, 1, 0, 0, 0, 0), (1329, .aload_n 0, 1, 0, 0, 0, 0), (1330, .iload_n 3, 1, 0, 0, 0, 0), (1331, .iconst 3, 1, 0, 0, 0, 0), (1332, .iadd, 1, 0, 0, 0, 0), (1333, .iaload, 1, 0, 0, 0, 0), (1334, .invokevirtual 185, 3, 163, 3, 1916, 12), (1337, .if_icmp .eq 812, 3, 0, 0, 0, 0), (1340, .iconst 0, 1, 0, 0, 0, 0), (1341, .ireturn, 1, 1, 0, 0, 0), (1342, .aload_n 1, 1, 0, 0, 0, 0), (1343, .aload_n 0, 1, 0, 0, 0, 0), (1344, .iload_n 3, 1, 0, 0, 0, 0), (1345, .iconst 1, 1, 0, 0, 0, 0), (1346, .iadd, 1, 0, 0, 0, 0), (1347, .iaload, 1, 0, 0, 0, 0), (1348, .aload_n 0, 1, 0, 0, 0, 0), (1349, .iload_n 3, 1, 0, 0, 0, 0), (1350, .iconst 2, 1, 0, 0, 0, 0), (1351, .iadd, 1, 0, 0, 0, 0), (1352, .iaload, 1, 0, 0, 0, 0), (1353, .invokevirtual 186, 3, 72, 2, 1108, 11), (1356, .aload_n 2, 1, 0, 0, 0, 0), (1357, .aload_n 0, 1, 0, 0, 0, 0), (1358, .iload_n 3, 1, 0, 0, 0, 0), (1359, .iconst 1, 1, 0, 0, 0, 0), (1360, .iadd, 1, 0, 0, 0, 0), (1361, .iaload, 1, 0, 0, 0, 0), (1362, .aload_n 0, 1, 0, 0, 0, 0), (1363, .iload_n 3, 1, 0, 0, 0, 0), (1364, .iconst 2, 1, 0, 0, 0, 0), (1365, .iadd, 1, 0, 0, 0, 0), (1366, .iaload, 1, 0, 0, 0, 0), (1367, .invokevirtual 189, 3, 164, 2, 1920, 12), (1370, .if_icmp .eq 779, 3, 0, 0, 0, 0), (1373, .iconst 0, 1, 0, 0, 0, 0), (1374, .ireturn, 1, 1, 0, 0, 0), (1375, .aload_n 1, 1, 0, 0, 0, 0), (1376, .aload_n 0, 1, 0, 0, 0, 0), (1377, .iload_n 3, 1, 0, 0, 0, 0), (1378, .iconst 1, 1, 0, 0, 0, 0), (1379, .iadd, 1, 0, 0, 0, 0), (1380, .iaload, 1, 0, 0, 0, 0), (1381, .aload_n 0, 1, 0, 0, 0, 0), (1382, .iload_n 3, 1, 0, 0, 0, 0), (1383, .iconst 2, 1, 0, 0, 0, 0), (1384, .iadd, 1, 0, 0, 0, 0), (1385, .iaload, 1, 0, 0, 0, 0), (1386, .invokevirtual 190, 3, 73, 2, 1122, 11), (1389, .aload_n 2, 1, 0, 0, 0, 0), (1390, .aload_n 0, 1, 0, 0, 0, 0), (1391, .iload_n 3, 1, 0, 0, 0, 0), (1392, .iconst 1, 1, 0, 0, 0, 0), (1393, .iadd, 1, 0, 0, 0, 0), (1394, .iaload, 1, 0, 0, 0, 0), (1395, .aload_n 0, 1, 0, 0, 0, 0), (1396, .iload_n 3, 1, 0, 0, 0, 0), (1397, .iconst 2, 1, 0, 0, 0, 0), (1398, .iadd, 1, 0, 0, 0, 0), (1399, .iaload, 1, 0, 0, 0, 0), (1400, .invokevirtual 193, 3, 165, 2, 1928, 12), (1403, .if_icmp .eq 746, 3, 0, 0, 0, 0), (1406, .iconst 0, 1, 0, 0, 0, 0), (1407, .ireturn, 1, 1, 0, 0, 0), (1408, .aload_n 1, 1, 0, 0, 0, 0), (1409, .aload_n 0, 1, 0, 0, 0, 0), (1410, .iload_n 3, 1, 0, 0, 0, 0), (1411, .iconst 1, 1, 0, 0, 0, 0), (1412, .iadd, 1, 0, 0, 0, 0), (1413, .iaload, 1, 0, 0, 0, 0), (1414, .aload_n 0, 1, 0, 0, 0, 0), (1415, .iload_n 3, 1, 0, 0, 0, 0), (1416, .iconst 2, 1, 0, 0, 0, 0), (1417, .iadd, 1, 0, 0, 0, 0), (1418, .iaload, 1, 0, 0, 0, 0), (1419, .aload_n 0, 1, 0, 0, 0, 0), (1420, .iload_n 3, 1, 0, 0, 0, 0), (1421, .iconst 3, 1, 0, 0, 0, 0), (1422, .iadd, 1, 0, 0, 0, 0), (1423, .iaload, 1, 0, 0, 0, 0), (1424, .invokevirtual 194, 3, 75, 3, 1127, 11), (1427, .aload_n 2, 1, 0, 0, 0, 0), (1428, .aload_n 0, 1, 0, 0, 0, 0), (1429, .iload_n 3, 1, 0, 0, 0, 0), (1430, .iconst 1, 1, 0, 0, 0, 0), (1431, .iadd, 1, 0, 0, 0, 0), (1432, .iaload, 1, 0, 0, 0, 0), (1433, .aload_n 0, 1, 0, 0, 0, 0), (1434, .iload_n 3, 1, 0, 0, 0, 0), (1435, .iconst 2, 1, 0, 0, 0, 0), (1436, .iadd, 1, 0, 0, 0, 0), (1437, .iaload, 1, 0, 0, 0, 0), (1438, .aload_n 0, 1, 0, 0, 0, 0), (1439, .iload_n 3, 1, 0, 0, 0, 0), (1440, .iconst 3, 1, 0, 0, 0, 0), (1441, .iadd, 1, 0, 0, 0, 0), (1442, .iaload, 1, 0, 0, 0, 0), (1443, .invokevirtual 198, 3, 167, 3, 1932, 12), (1446, .lcmp, 1, 0, 0, 0, 0), (1447, .ifCond .eq 702, 3, 0, 0, 0, 0), (1450, .iconst 0, 1, 0, 0, 0, 0), (1451, .ireturn, 1, 1, 0, 0, 0), (1452, .aload_n 1, 1, 0, 0, 0, 0), (1453, .aload_n 0, 1, 0, 0, 0, 0), (1454, .iload_n 3, 1, 0, 0, 0, 0), (1455, .iconst 1, 1, 0, 0, 0, 0), (1456, .iadd, 1, 0, 0, 0, 0), (1457, .iaload, 1, 0, 0, 0, 0), (1458, .invokevirtual 199, 3, 76, 1, 1157, 11), (1461, .aload_n 2, 1, 0, 0, 0, 0), (1462, .aload_n 0, 1, 0, 0, 0, 0), (1463, .iload_n 3, 1, 0, 0, 0, 0), (1464, .iconst 1, 1, 0, 0, 0, 0), (1465, .iadd, 1, 0, 0, 0, 0), (1466, .iaload, 1, 0, 0, 0, 0), (1467, .invokevirtual 202, 3, 168, 1, 1955, 12), (1470, .if_icmp .eq 679, 3, 0, 0, 0, 0), (1473, .iconst 0, 1, 0, 0, 0, 0), (1474, .ireturn, 1, 1, 0, 0, 0), (1475, .aload_n 1, 1, 0, 0, 0, 0), (1476, .aload_n 0, 1, 0, 0, 0, 0), (1477, .iload_n 3, 1, 0, 0, 0, 0), (1478, .iconst 1, 1, 0, 0, 0, 0), (1479, .iadd, 1, 0, 0, 0, 0), (1480, .iaload, 1, 0, 0, 0, 0), (1481, .aload_n 0, 1, 0, 0, 0, 0), (1482, .iload_n 3, 1, 0, 0, 0, 0), (1483, .iconst 2, 1, 0, 0, 0, 0), (1484, .iadd, 1, 0, 0, 0, 0), (1485, .iaload, 1, 0, 0, 0, 0), (1486, .aload_n 0, 1, 0, 0, 0, 0), (1487, .iload_n 3, 1, 0, 0, 0, 0), (1488, .iconst 3, 1, 0, 0, 0, 0), (1489, .iadd, 1, 0, 0, 0, 0), (1490, .iaload, 1, 0, 0, 0, 0), (1491, .aload_n 0, 1, 0, 0, 0, 0), (1492, .iload_n 3, 1, 0, 0, 0, 0), (1493, .iconst 4, 1, 0, 0, 0, 0), (1494, .iadd, 1, 0, 0, 0, 0), (1495, .iaload, 1, 0, 0, 0, 0), (1496, .invokevirtual 203, 3, 77, 4, 1166, 11), (1499, .aload_n 2, 1, 0, 0, 0, 0), (1500, .aload_n 0, 1, 0, 0, 0, 0), (1501, .iload_n 3, 1, 0, 0, 0, 0), (1502, .iconst 1, 1, 0, 0, 0, 0), (1503, .iadd, 1, 0, 0, 0, 0), (1504, .iaload, 1, 0, 0, 0, 0), (1505, .aload_n 0, 1, 0, 0, 0, 0), (1506, .iload_n 3, 1, 0, 0, 0, 0), (1507, .iconst 2, 1, 0, 0, 0, 0), (1508, .iadd, 1, 0, 0, 0, 0), (1509, .iaload, 1, 0, 0, 0, 0), (1510, .aload_n 0, 1, 0, 0, 0, 0), (1511, .iload_n 3, 1, 0, 0, 0, 0), (1512, .iconst 3, 1, 0, 0, 0, 0), (1513, .iadd, 1, 0, 0, 0, 0), (1514, .iaload, 1, 0, 0, 0, 0), (1515, .aload_n 0, 1, 0, 0, 0, 0), (1516, .iload_n 3, 1, 0, 0, 0, 0), (1517, .iconst 4, 1, 0, 0, 0, 0), (1518, .iadd, 1, 0, 0, 0, 0), (1519, .iaload, 1, 0, 0, 0, 0), (1520, .invokevirtual 207, 3, 169, 4, 1959, 12), (1523, .lcmp, 1, 0, 0, 0, 0), (1524, .ifCond .eq 625, 3, 0, 0, 0, 0), (1527, .iconst 0, 1, 0, 0, 0, 0), (1528, .ireturn, 1, 1, 0, 0, 0), (1529, .aload_n 1, 1, 0, 0, 0, 0), (1530, .aload_n 0, 1, 0, 0, 0, 0), (1531, .iload_n 3, 1, 0, 0, 0, 0), (1532, .iconst 1, 1, 0, 0, 0, 0), (1533, .iadd, 1, 0, 0, 0, 0), (1534, .iaload, 1, 0, 0, 0, 0), (1535, .aload_n 0, 1, 0, 0, 0, 0), (1536, .iload_n 3, 1, 0, 0, 0, 0), (1537, .iconst 2, 1, 0, 0, 0, 0), (1538, .iadd, 1, 0, 0, 0, 0), (1539, .iaload, 1, 0, 0, 0, 0), (1540, .aload_n 0, 1, 0, 0, 0, 0), (1541, .iload_n 3, 1, 0, 0, 0, 0), (1542, .iconst 3, 1, 0, 0, 0, 0), (1543, .iadd, 1, 0, 0, 0, 0), (1544, .iaload, 1, 0, 0, 0, 0), (1545, .invokevirtual 208, 3, 78, 3, 1167, 11), (1548, .aload_n 2, 1, 0, 0, 0, 0), (1549, .aload_n 0, 1, 0, 0, 0, 0), (1550, .iload_n 3, 1, 0, 0, 0, 0), (1551, .iconst 1, 1, 0, 0, 0, 0), (1552, .iadd, 1, 0, 0, 0, 0), (1553, .iaload, 1, 0, 0, 0, 0), (1554, .aload_n 0, 1, 0, 0, 0, 0), (1555, .iload_n 3, 1, 0, 0, 0, 0), (1556, .iconst 2, 1, 0, 0, 0, 0), (1557, .iadd, 1, 0, 0, 0, 0), (1558, .iaload, 1, 0, 0, 0, 0), (1559, .aload_n 0, 1, 0, 0, 0, 0), (1560, .iload_n 3, 1, 0, 0, 0, 0), (1561, .iconst 3, 1, 0, 0, 0, 0), (1562, .iadd, 1, 0, 0, 0, 0), (1563, .iaload, 1, 0, 0, 0, 0), (1564, .invokevirtual 211, 3, 170, 3, 1964, 12), (1567, .if_icmp .eq 582, 3, 0, 0, 0, 0), (1570, .iconst 0, 1, 0, 0, 0, 0), (1571, .ireturn, 1, 1, 0, 0, 0), (1572, .aload_n 1, 1, 0, 0, 0, 0), (1573, .aload_n 0, 1, 0, 0, 0, 0), (1574, .iload_n 3, 1, 0, 0, 0, 0), (1575, .iconst 1, 1, 0, 0, 0, 0), (1576, .iadd, 1, 0, 0, 0, 0), (1577, .iaload, 1, 0, 0, 0, 0), (1578, .invokevirtual 212, 3, 80, 1, 1176, 11), (1581, .aload_n 2, 1, 0, 0, 0, 0), (1582, .aload_n 0, 1, 0, 0, 0, 0), (1583, .iload_n 3, 1, 0, 0, 0, 0), (1584, .iconst 1, 1, 0, 0, 0, 0), (1585, .iadd, 1, 0, 0, 0, 0), (1586, .iaload, 1, 0, 0, 0, 0), (1587, .invokevirtual 215, 3, 171, 1, 1968, 12), (1590, .if_icmp .eq 559, 3, 0, 0, 0, 0), (1593, .iconst 0, 1, 0, 0, 0, 0), (1594, .ireturn, 1, 1, 0, 0, 0), (1595, .aload_n 1, 1, 0, 0, 0, 0), (1596, .aload_n 0, 1, 0, 0, 0, 0), (1597, .iload_n 3, 1, 0, 0, 0, 0), (1598, .iconst 1, 1, 0, 0, 0, 0), (1599, .iadd, 1, 0, 0, 0, 0), (1600, .iaload, 1, 0, 0, 0, 0), (1601, .aload_n 0, 1, 0, 0, 0, 0), (1602, .iload_n 3, 1, 0, 0, 0, 0), (1603, .iconst 2, 1, 0, 0, 0, 0), (1604, .iadd, 1, 0, 0, 0, 0), (1605, .iaload, 1, 0, 0, 0, 0), (1606, .invokevirtual 216, 3, 81, 2, 1196, 11), (1609, .aload_n 2, 1, 0, 0, 0, 0), (1610, .aload_n 0, 1, 0, 0, 0, 0), (1611, .iload_n 3, 1, 0, 0, 0, 0), (1612, .iconst 1, 1, 0, 0, 0, 0), (1613, .iadd, 1, 0, 0, 0, 0), (1614, .iaload, 1, 0, 0, 0, 0), (1615, .aload_n 0, 1, 0, 0, 0, 0), (1616, .iload_n 3, 1, 0, 0, 0, 0), (1617, .iconst 2, 1, 0, 0, 0, 0), (1618, .iadd, 1, 0, 0, 0, 0), (1619, .iaload, 1, 0, 0, 0, 0), (1620, .invokevirtual 219, 3, 172, 2, 1984, 12), (1623, .if_icmp .eq 526, 3, 0, 0, 0, 0), (1626, .iconst 0, 1, 0, 0, 0, 0), (1627, .ireturn, 1, 1, 0, 0, 0), (1628, .aload_n 1, 1, 0, 0, 0, 0), (1629, .aload_n 0, 1, 0, 0, 0, 0), (1630, .iload_n 3, 1, 0, 0, 0, 0), (1631, .iconst 1, 1, 0, 0, 0, 0), (1632, .iadd, 1, 0, 0, 0, 0), (1633, .iaload, 1, 0, 0, 0, 0), (1634, .invokevirtual 220, 3, 82, 1, 1208, 11), (1637, .aload_n 2, 1, 0, 0, 0, 0), (1638, .aload_n 0, 1, 0, 0, 0, 0), (1639, .iload_n 3, 1, 0, 0, 0, 0), (1640, .iconst 1, 1, 0, 0, 0, 0), (1641, .iadd, 1, 0, 0, 0, 0), (1642, .iaload, 1, 0, 0, 0, 0), (1643, .invokevirtual 223, 3, 173, 1, 1988, 12), (1646, .if_icmp .eq 503, 3, 0, 0, 0, 0), (1649, .iconst 0, 1, 0, 0, 0, 0), (1650, .ireturn, 1, 1, 0, 0, 0), (1651, .aload_n 1, 1, 0, 0, 0, 0), (1652, .aload_n 0, 1, 0, 0, 0, 0), (1653, .iload_n 3, 1, 0, 0, 0, 0), (1654, .iconst 1, 1, 0, 0, 0, 0), (1655, .iadd, 1, 0, 0, 0, 0), (1656, .iaload, 1, 0, 0, 0, 0), (1657, .invokevirtual 224, 3, 83, 1, 1212, 11), (1660, .aload_n 2, 1, 0, 0, 0, 0), (1661, .aload_n 0, 1, 0, 0, 0, 0), (1662, .iload_n 3, 1, 0, 0, 0, 0), (1663, .iconst 1, 1, 0, 0, 0, 0), (1664, .iadd, 1, 0, 0, 0, 0), (1665, .iaload, 1, 0, 0, 0, 0), (1666, .invokevirtual 227, 3, 174, 1, 1992, 12), (1669, .if_icmp .eq 480, 3, 0, 0, 0, 0), (1672, .iconst 0, 1, 0, 0, 0, 0), (1673, .ireturn, 1, 1, 0, 0, 0), (1674, .aload_n 1, 1, 0, 0, 0, 0), (1675, .invokevirtual 228, 3, 84, 0, 1216, 11), (1678, .aload_n 2, 1, 0, 0, 0, 0), (1679, .invokevirtual 231, 3, 175, 0, 1996, 12), (1682, .if_icmp .eq 467, 3, 0, 0, 0, 0), (1685, .iconst 0, 1, 0, 0, 0, 0), (1686, .ireturn, 1, 1, 0, 0, 0), (1687, .aload_n 1, 1, 0, 0, 0, 0), (1688, .invokevirtual 232, 3, 85, 0, 1220, 11), (1691, .aload_n 2, 1, 0, 0, 0, 0), (1692, .invokevirtual 235, 3, 176, 0, 2000, 12), (1695, .if_icmp .eq 454, 3, 0, 0, 0, 0), (1698, .iconst 0, 1, 0, 0, 0, 0), (1699, .ireturn, 1, 1, 0, 0, 0), (1700, .aload_n 1, 1, 0, 0, 0, 0), (1701, .invokevirtual 236, 3, 86, 0, 1224, 11), (1704, .aload_n 2, 1, 0, 0, 0, 0), (1705, .invokevirtual 239, 3, 177, 0, 2004, 12), (1708, .if_icmp .eq 441, 3, 0, 0, 0, 0), (1711, .iconst 0, 1, 0, 0, 0, 0), (1712, .ireturn, 1, 1, 0, 0, 0), (1713, .aload_n 1, 1, 0, 0, 0, 0), (1714, .invokevirtual 240, 3, 87, 0, 1232, 11), (1717, .aload_n 2, 1, 0, 0, 0, 0), (1718, .invokevirtual 243, 3, 178, 0, 2008, 12), (1721, .if_icmp .eq 428, 3, 0, 0, 0, 0), (1724, .iconst 0, 1, 0, 0, 0, 0), (1725, .ireturn, 1, 1, 0, 0, 0), (1726, .aload_n 1, 1, 0, 0, 0, 0), (1727, .aload_n 0, 1, 0, 0, 0, 0), (1728, .iload_n 3, 1, 0, 0, 0, 0), (1729, .iconst 1, 1, 0, 0, 0, 0), (1730, .iadd, 1, 0, 0, 0, 0), (1731, .iaload, 1, 0, 0, 0, 0), (1732, .aload_n 0, 1, 0, 0, 0, 0), (1733, .iload_n 3, 1, 0, 0, 0, 0), (1734, .iconst 2, 1, 0, 0, 0, 0), (1735, .iadd, 1, 0, 0, 0, 0), (1736, .iaload, 1, 0, 0, 0, 0), (1737, .invokevirtual 244, 3, 88, 2, 1236, 11), (1740, .aload_n 2, 1, 0, 0, 0, 0), (1741, .aload_n 0, 1, 0, 0, 0, 0), (1742, .iload_n 3, 1, 0, 0, 0, 0), (1743, .iconst 1, 1, 0, 0, 0, 0), (1744, .iadd, 1, 0, 0, 0, 0), (1745, .iaload, 1, 0, 0, 0, 0), (1746, .aload_n 0, 1, 0, 0, 0, 0), (1747, .iload_n 3, 1, 0, 0, 0, 0), (1748, .iconst 2, 1, 0, 0, 0, 0), (1749, .iadd, 1, 0, 0, 0, 0), (1750, .iaload, 1, 0, 0, 0, 0), (1751, .invokevirtual 247, 3, 180, 2, 2012, 12), (1754, .if_icmp .eq 395, 3, 0, 0, 0, 0), (1757, .iconst 0, 1, 0, 0, 0, 0), (1758, .ireturn, 1, 1, 0, 0, 0), (1759, .aload_n 1, 1, 0, 0, 0, 0), (1760, .aload_n 0, 1, 0, 0, 0, 0), (1761, .iload_n 3, 1, 0, 0, 0, 0), (1762, .iconst 1, 1, 0, 0, 0, 0), (1763, .iadd, 1, 0, 0, 0, 0), (1764, .iaload, 1, 0, 0, 0, 0), (1765, .aload_n 0, 1, 0, 0, 0, 0), (1766, .iload_n 3, 1, 0, 0, 0, 0), (1767, .iconst 2, 1, 0, 0, 0, 0), (1768, .iadd, 1, 0, 0, 0, 0), (1769, .iaload, 1, 0, 0, 0, 0), (1770, .invokevirtual 248, 3, 89, 2, 1253, 11), (1773, .aload_n 2, 1, 0, 0, 0, 0), (1774, .aload_n 0, 1, 0, 0, 0, 0), (1775, .iload_n 3, 1, 0, 0, 0, 0), (1776, .iconst 1, 1, 0, 0, 0, 0), (1777, .iadd, 1, 0, 0, 0, 0), (1778, .iaload, 1, 0, 0, 0, 0), (1779, .aload_n 0, 1, 0, 0, 0, 0), (1780, .iload_n 3, 1, 0, 0, 0, 0), (1781, .iconst 2, 1, 0, 0, 0, 0), (1782, .iadd, 1, 0, 0, 0, 0), (1783, .iaload, 1, 0, 0, 0, 0), (1784, .invokevirtual 251, 3, 181, 2, 2030, 12), (1787, .if_icmp .eq 362, 3, 0, 0, 0, 0), (1790, .iconst 0, 1, 0, 0, 0, 0), (1791, .ireturn, 1, 1, 0, 0, 0), (1792, .aload_n 1, 1, 0, 0, 0, 0), (1793, .aload_n 0, 1, 0, 0, 0, 0), (1794, .iload_n 3, 1, 0, 0, 0, 0), (1795, .iconst 1, 1, 0, 0, 0, 0), (1796, .iadd, 1, 0, 0, 0, 0), (1797, .iaload, 1, 0, 0, 0, 0), (1798, .aload_n 0, 1, 0, 0, 0, 0), (1799, .iload_n 3, 1, 0, 0, 0, 0), (1800, .iconst 2, 1, 0, 0, 0, 0), (1801, .iadd, 1, 0, 0, 0, 0), (1802, .iaload, 1, 0, 0, 0, 0), (1803, .aload_n 0, 1, 0, 0, 0, 0), (1804, .iload_n 3, 1, 0, 0, 0, 0), (1805, .iconst 3, 1, 0, 0, 0, 0), (1806, .iadd, 1, 0, 0, 0, 0), (1807, .iaload, 1, 0, 0, 0, 0), (1808, .invokevirtual 252, 3, 90, 3, 1262, 11), (1811, .aload_n 2, 1, 0, 0, 0, 0), (1812, .aload_n 0, 1, 0, 0, 0, 0), (1813, .iload_n 3, 1, 0, 0, 0, 0), (1814, .iconst 1, 1, 0, 0, 0, 0), (1815, .iadd, 1, 0, 0, 0, 0), (1816, .iaload, 1, 0, 0, 0, 0), (1817, .aload_n 0, 1, 0, 0, 0, 0), (1818, .iload_n 3, 1, 0, 0, 0, 0), (1819, .iconst 2, 1, 0, 0, 0, 0), (1820, .iadd, 1, 0, 0, 0, 0), (1821, .iaload, 1, 0, 0, 0, 0), (1822, .aload_n 0, 1, 0, 0, 0, 0), (1823, .iload_n 3, 1, 0, 0, 0, 0), (1824, .iconst 3, 1, 0, 0, 0, 0), (1825, .iadd, 1, 0, 0, 0, 0), (1826, .iaload, 1, 0, 0, 0, 0), (1827, .invokevirtual 255, 3, 182, 3, 2034, 12), (1830, .if_icmp .eq 319, 3, 0, 0, 0, 0), (1833, .iconst 0, 1, 0, 0, 0, 0), (1834, .ireturn, 1, 1, 0, 0, 0), (1835, .aload_n 1, 1, 0, 0, 0, 0), (1836, .aload_n 0, 1, 0, 0, 0, 0), (1837, .iload_n 3, 1, 0, 0, 0, 0), (1838, .iconst 1, 1, 0, 0, 0, 0), (1839, .iadd, 1, 0, 0, 0, 0), (1840, .iaload, 1, 0, 0, 0, 0), (1841, .aload_n 0, 1, 0, 0, 0, 0), (1842, .iload_n 3, 1, 0, 0, 0, 0), (1843, .iconst 2, 1, 0, 0, 0, 0), (1844, .iadd, 1, 0, 0, 0, 0), (1845, .iaload, 1, 0, 0, 0, 0), (1846, .invokevirtual 256, 3, 92, 2, 1266, 11), (1849, .aload_n 2, 1, 0, 0, 0, 0), (1850, .aload_n 0, 1, 0, 0, 0, 0), (1851, .iload_n 3, 1, 0, 0, 0, 0), (1852, .iconst 1, 1, 0, 0, 0, 0), (1853, .iadd, 1, 0, 0, 0, 0), (1854, .iaload, 1, 0, 0, 0, 0), (1855, .aload_n 0, 1, 0, 0, 0, 0), (1856, .iload_n 3, 1, 0, 0, 0, 0), (1857, .iconst 2, 1, 0, 0, 0, 0), (1858, .iadd, 1, 0, 0, 0, 0), (1859, .iaload, 1, 0, 0, 0, 0), (1860, .invokevirtual 259, 3, 183, 2, 2038, 12), (1863, .if_icmp .eq 286, 3, 0, 0, 0, 0), (1866, .iconst 0, 1, 0, 0, 0, 0), (1867, .ireturn, 1, 1, 0, 0, 0), (1868, .aload_n 1, 1, 0, 0, 0, 0), (1869, .aload_n 0, 1, 0, 0, 0, 0), (1870, .iload_n 3, 1, 0, 0, 0, 0), (1871, .iconst 1, 1, 0, 0, 0, 0), (1872, .iadd, 1, 0, 0, 0, 0), (1873, .iaload, 1, 0, 0, 0, 0), (1874, .aload_n 0, 1, 0, 0, 0, 0), (1875, .iload_n 3, 1, 0, 0, 0, 0), (1876, .iconst 2, 1, 0, 0, 0, 0), (1877, .iadd, 1, 0, 0, 0, 0), (1878, .iaload, 1, 0, 0, 0, 0), (1879, .invokevirtual 260, 3, 93, 2, 1270, 11), (1882, .aload_n 2, 1, 0, 0, 0, 0), (1883, .aload_n 0, 1, 0, 0, 0, 0), (1884, .iload_n 3, 1, 0, 0, 0, 0), (1885, .iconst 1, 1, 0, 0, 0, 0), (1886, .iadd, 1, 0, 0, 0, 0), (1887, .iaload, 1, 0, 0, 0, 0), (1888, .aload_n 0, 1, 0, 0, 0, 0), (1889, .iload_n 3, 1, 0, 0, 0, 0), (1890, .iconst 2, 1, 0, 0, 0, 0), (1891, .iadd, 1, 0, 0, 0, 0), (1892, .iaload, 1, 0, 0, 0, 0), (1893, .invokevirtual 263, 3, 184, 2, 2043, 12), (1896, .if_icmp .eq 253, 3, 0, 0, 0, 0), (1899, .iconst 0, 1, 0, 0, 0, 0), (1900, .ireturn, 1, 1, 0, 0, 0), (1901, .aload_n 1, 1, 0, 0, 0, 0), (1902, .aload_n 0, 1, 0, 0, 0, 0), (1903, .iload_n 3, 1, 0, 0, 0, 0), (1904, .iconst 1, 1, 0, 0, 0, 0), (1905, .iadd, 1, 0, 0, 0, 0), (1906, .iaload, 1, 0, 0, 0, 0), (1907, .invokevirtual 264, 3, 94, 1, 1274, 11), (1910, .aload_n 2, 1, 0, 0, 0, 0), (1911, .aload_n 0, 1, 0, 0, 0, 0), (1912, .iload_n 3, 1, 0, 0, 0, 0), (1913, .iconst 1, 1, 0, 0, 0, 0), (1914, .iadd, 1, 0, 0, 0, 0), (1915, .iaload, 1, 0, 0, 0, 0), (1916, .invokevirtual 267, 3, 185, 1, 2047, 12), (1919, .if_icmp .eq 230, 3, 0, 0, 0, 0), (1922, .iconst 0, 1, 0, 0, 0, 0), (1923, .ireturn, 1, 1, 0, 0, 0), (1924, .aload_n 1, 1, 0, 0, 0, 0), (1925, .aload_n 0, 1, 0, 0, 0, 0), (1926, .iload_n 3, 1, 0, 0, 0, 0), (1927, .iconst 1, 1, 0, 0, 0, 0), (1928, .iadd, 1, 0, 0, 0, 0), (1929, .iaload, 1, 0, 0, 0, 0), (1930, .invokevirtual 268, 3, 95, 1, 1283, 11), (1933, .aload_n 2, 1, 0, 0, 0, 0), (1934, .aload_n 0, 1, 0, 0, 0, 0), (1935, .iload_n 3, 1, 0, 0, 0, 0), (1936, .iconst 1, 1, 0, 0, 0, 0), (1937, .iadd, 1, 0, 0, 0, 0), (1938, .iaload, 1, 0, 0, 0, 0), (1939, .invokevirtual 271, 3, 186, 1, 2051, 12), (1942, .if_icmp .eq 207, 3, 0, 0, 0, 0), (1945, .iconst 0, 1, 0, 0, 0, 0), (1946, .ireturn, 1, 1, 0, 0, 0), (1947, .aload_n 1, 1, 0, 0, 0, 0), (1948, .aload_n 0, 1, 0, 0, 0, 0), (1949, .iload_n 3, 1, 0, 0, 0, 0), (1950, .iconst 1, 1, 0, 0, 0, 0), (1951, .iadd, 1, 0, 0, 0, 0), (1952, .iaload, 1, 0, 0, 0, 0), (1953, .invokevirtual 272, 3, 96, 1, 1309, 11), (1956, .aload_n 2, 1, 0, 0, 0, 0), (1957, .aload_n 0, 1, 0, 0, 0, 0), (1958, .iload_n 3, 1, 0, 0, 0, 0), (1959, .iconst 1, 1, 0, 0, 0, 0), (1960, .iadd, 1, 0, 0, 0, 0), (1961, .iaload, 1, 0, 0, 0, 0), (1962, .invokevirtual 275, 3, 187, 1, 2056, 12), (1965, .if_icmp .eq 184, 3, 0, 0, 0, 0), (1968, .iconst 0, 1, 0, 0, 0, 0), (1969, .ireturn, 1, 1, 0, 0, 0), (1970, .aload_n 1, 1, 0, 0, 0, 0), (1971, .aload_n 0, 1, 0, 0, 0, 0), (1972, .iload_n 3, 1, 0, 0, 0, 0), (1973, .iconst 1, 1, 0, 0, 0, 0), (1974, .iadd, 1, 0, 0, 0, 0), (1975, .iaload, 1, 0, 0, 0, 0), (1976, .aload_n 0, 1, 0, 0, 0, 0), (1977, .iload_n 3, 1, 0, 0, 0, 0), (1978, .iconst 2, 1, 0, 0, 0, 0), (1979, .iadd, 1, 0, 0, 0, 0), (1980, .iaload, 1, 0, 0, 0, 0), (1981, .aload_n 0, 1, 0, 0, 0, 0), (1982, .iload_n 3, 1, 0, 0, 0, 0), (1983, .iconst 3, 1, 0, 0, 0, 0), (1984, .iadd, 1, 0, 0, 0, 0), (1985, .iaload, 1, 0, 0, 0, 0), (1986, .invokevirtual 276, 3, 97, 3, 1313, 11), (1989, .aload_n 2, 1, 0, 0, 0, 0), (1990, .aload_n 0, 1, 0, 0, 0, 0), (1991, .iload_n 3, 1, 0, 0, 0, 0), (1992, .iconst 1, 1, 0, 0, 0, 0), (1993, .iadd, 1, 0, 0, 0, 0), (1994, .iaload, 1, 0, 0, 0, 0), (1995, .aload_n 0, 1, 0, 0, 0, 0), (1996, .iload_n 3, 1, 0, 0, 0, 0), (1997, .iconst 2, 1, 0, 0, 0, 0), (1998, .iadd, 1, 0, 0, 0, 0), (1999, .iaload, 1, 0, 0, 0, 0), (2000, .aload_n 0, 1, 0, 0, 0, 0), (2001, .iload_n 3, 1, 0, 0, 0, 0), (2002, .iconst 3, 1, 0, 0, 0, 0), (2003, .iadd, 1, 0, 0, 0, 0), (2004, .iaload, 1, 0, 0, 0, 0), (2005, .invokevirtual 279, 3, 103, 3, 1478, 12), (2008, .if_icmp .eq 141, 3, 0, 0, 0, 0), (2011, .iconst 0, 1, 0, 0, 0, 0), (2012, .ireturn, 1, 1, 0, 0, 0), (2013, .aload_n 1, 1, 0, 0, 0, 0), (2014, .aload_n 0, 1, 0, 0, 0, 0), (2015, .iload_n 3, 1, 0, 0, 0, 0), (2016, .iconst 1, 1, 0, 0, 0, 0), (2017, .iadd, 1, 0, 0, 0, 0), (2018, .iaload, 1, 0, 0, 0, 0), (2019, .aload_n 0, 1, 0, 0, 0, 0), (2020, .iload_n 3, 1, 0, 0, 0, 0), (2021, .iconst 2, 1, 0, 0, 0, 0), (2022, .iadd, 1, 0, 0, 0, 0), (2023, .iaload, 1, 0, 0, 0, 0), (2024, .aload_n 0, 1, 0, 0, 0, 0), (2025, .iload_n 3, 1, 0, 0, 0, 0), (2026, .iconst 3, 1, 0, 0, 0, 0), (2027, .iadd, 1, 0, 0, 0, 0), (2028, .iaload, 1, 0, 0, 0, 0), (2029, .i2l, 1, 0, 0, 0, 0), (2030, .bipush 32, 2, 0, 0, 0, 0), (2032, .lshl, 1, 0, 0, 0, 0), (2033, .aload_n 0, 1, 0, 0, 0, 0), (2034, .iload_n 3, 1, 0, 0, 0, 0), (2035, .iconst 4, 1, 0, 0, 0, 0), (2036, .iadd, 1, 0, 0, 0, 0), (2037, .iaload, 1, 0, 0, 0, 0), (2038, .i2l, 1, 0, 0, 0, 0), (2039, .ldc2_w 280, 3, 0, 0, 2060, 4294967295), (2042, .land, 1, 0, 0, 0, 0), (2043, .lor, 1, 0, 0, 0, 0), (2044, .invokevirtual 282, 3, 98, 3, 1324, 11), (2047, .aload_n 2, 1, 0, 0, 0, 0), (2048, .aload_n 0, 1, 0, 0, 0, 0), (2049, .iload_n 3, 1, 0, 0, 0, 0), (2050, .iconst 1, 1, 0, 0, 0, 0), (2051, .iadd, 1, 0, 0, 0, 0), (2052, .iaload, 1, 0, 0, 0, 0), (2053, .aload_n 0, 1, 0, 0, 0, 0), (2054, .iload_n 3, 1, 0, 0, 0, 0), (2055, .iconst 2, 1, 0, 0, 0, 0), (2056, .iadd, 1, 0, 0, 0, 0), (2057, .iaload, 1, 0, 0, 0, 0), (2058, .aload_n 0, 1, 0, 0, 0, 0), (2059, .iload_n 3, 1, 0, 0, 0, 0), (2060, .iconst 3, 1, 0, 0, 0, 0), (2061, .iadd, 1, 0, 0, 0, 0), (2062, .iaload, 1, 0, 0, 0, 0), (2063, .i2l, 1, 0, 0, 0, 0), (2064, .bipush 32, 2, 0, 0, 0, 0), (2066, .lshl, 1, 0, 0, 0, 0), (2067, .aload_n 0, 1, 0, 0, 0, 0), (2068, .iload_n 3, 1, 0, 0, 0, 0), (2069, .iconst 4, 1, 0, 0, 0, 0), (2070, .iadd, 1, 0, 0, 0, 0), (2071, .iaload, 1, 0, 0, 0, 0), (2072, .i2l, 1, 0, 0, 0, 0), (2073, .ldc2_w 280, 3, 0, 0, 2060, 4294967295), (2076, .land, 1, 0, 0, 0, 0), (2077, .lor, 1, 0, 0, 0, 0), (2078, .invokevirtual 286, 3, 104, 3, 1489, 12), (2081, .if_icmp .eq 68, 3, 0, 0, 0, 0), (2084, .iconst 0, 1, 0, 0, 0, 0), (2085, .ireturn, 1, 1, 0, 0, 0), (2086, .aload_n 1, 1, 0, 0, 0, 0), (2087, .aload_n 0, 1, 0, 0, 0, 0), (2088, .iload_n 3, 1, 0, 0, 0, 0), (2089, .iconst 1, 1, 0, 0, 0, 0), (2090, .iadd, 1, 0, 0, 0, 0), (2091, .iaload, 1, 0, 0, 0, 0), (2092, .aload_n 0, 1, 0, 0, 0, 0), (2093, .iload_n 3, 1, 0, 0, 0, 0), (2094, .iconst 2, 1, 0, 0, 0, 0), (2095, .iadd, 1, 0, 0, 0, 0), (2096, .iaload, 1, 0, 0, 0, 0), (2097, .aload_n 0, 1, 0, 0, 0, 0), (2098, .iload_n 3, 1, 0, 0, 0, 0), (2099, .iconst 3, 1, 0, 0, 0, 0), (2100, .iadd, 1, 0, 0, 0, 0), (2101, .iaload, 1, 0, 0, 0, 0), (2102, .aload_n 0, 1, 0, 0, 0, 0), (2103, .iload_n 3, 1, 0, 0, 0, 0), (2104, .iconst 4, 1, 0, 0, 0, 0), (2105, .iadd, 1, 0, 0, 0, 0), (2106, .iaload, 1, 0, 0, 0, 0), (2107, .aload_n 0, 1, 0, 0, 0, 0), (2108, .iload_n 3, 1, 0, 0, 0, 0), (2109, .iconst 5, 1, 0, 0, 0, 0), (2110, .iadd, 1, 0, 0, 0, 0), (2111, .iaload, 1, 0, 0, 0, 0), (2112, .invokevirtual 287, 3, 99, 5, 1335, 11), (2115, .aload_n 2, 1, 0, 0, 0, 0), (2116, .aload_n 0, 1, 0, 0, 0, 0), (2117, .iload_n 3, 1, 0, 0, 0, 0), (2118, .iconst 1, 1, 0, 0, 0, 0), (2119, .iadd, 1, 0, 0, 0, 0), (2120, .iaload, 1, 0, 0, 0, 0), (2121, .aload_n 0, 1, 0, 0, 0, 0), (2122, .iload_n 3, 1, 0, 0, 0, 0), (2123, .iconst 2, 1, 0, 0, 0, 0), (2124, .iadd, 1, 0, 0, 0, 0), (2125, .iaload, 1, 0, 0, 0, 0), (2126, .aload_n 0, 1, 0, 0, 0, 0), (2127, .iload_n 3, 1, 0, 0, 0, 0), (2128, .iconst 3, 1, 0, 0, 0, 0), (2129, .iadd, 1, 0, 0, 0, 0), (2130, .iaload, 1, 0, 0, 0, 0), (2131, .aload_n 0, 1, 0, 0, 0, 0), (2132, .iload_n 3, 1, 0, 0, 0, 0), (2133, .iconst 4, 1, 0, 0, 0, 0), (2134, .iadd, 1, 0, 0, 0, 0), (2135, .iaload, 1, 0, 0, 0, 0), (2136, .aload_n 0, 1, 0, 0, 0, 0), (2137, .iload_n 3, 1, 0, 0, 0, 0), (2138, .iconst 5, 1, 0, 0, 0, 0), (2139, .iadd, 1, 0, 0, 0, 0), (2140, .iaload, 1, 0, 0, 0, 0), (2141, .invokevirtual 290, 3, 105, 5, 1496, 12), (2144, .if_icmp .eq 5, 3, 0, 0, 0, 0), (2147, .iconst 0, 1, 0, 0, 0, 0), (2148, .ireturn, 1, 1, 0, 0, 0), (2149, .iinc 3 6, 3, 0, 0, 0, 0), (2152, .goto (-2134), 3, 0, 0, 0, 0), (2155, .iconst 1, 1, 0, 0, 0, 0), (2156, .ireturn, 1, 1, 0, 0, 0)]
noncomputable def xt_M : xv_M := [[(xt_0, 1), (xt_1, 2), (xt_2, 2), (xt_3, 2), (xt_4, 1), (xt_5, 2), (xt_6, 3), (xt_7, 1), (xt_8, 2), (xt_9, 2), (xt_10, 2), (xt_11, 2), (xt_12, 1), (xt_13, 1), (xt_14, 2), (xt_15, 1), (xt_16, 1), (xt_17, 3), (xt_18, 2), (xt_19, 2)], [(xt_20, 3), (xt_21, 1), (xt_22, 2), (xt_23, 2), (xt_24, 3), (xt_25, 4), (xt_26, 2), (xt_27, 1), (xt_28, 1), (xt_29, 6), (xt_30, 2), (xt_31, 1), (xt_32, 2), (xt_33, 2), (xt_34, 3), (xt_35, 3), (xt_36, 3), (xt_37, 2), (xt_38, 3), (xt_39, 2)], [(xt_40, 2), (xt_41, 3), (xt_42, 2), (xt_43, 2), (xt_44, 3), (xt_45, 3), (xt_46, 5), (xt_47, 4), (xt_48, 2), (xt_49, 8), (xt_50, 2), (xt_51, 2), (xt_52, 2), (xt_53, 3), (xt_54, 2), (xt_55, 2), (xt_56, 2), (xt_57, 2), (xt_58, 2), (xt_59, 3)], [(xt_60, 2), (xt_61, 1), (xt_62, 1), (xt_63, 2), (xt_64, 1), (xt_65, 2), (xt_66, 4), (xt_67, 1), (xt_68, 2), (xt_69, 4), (xt_70, 4), (xt_71, 5), (xt_72, 4), (xt_73, 5), (xt_74, 3), (xt_75, 4), (xt_76, 4), (xt_77, 6), (xt_78, 5), (xt_79, 4)], [(xt_80, 2), (xt_81, 3), (xt_82, 2), (xt_83, 2), (xt_84, 1), (xt_85, 3), (xt_86, 1), (xt_87, 2), (xt_88, 4), (xt_89, 3), (xt_90, 7), (xt_91, 1), (xt_92, 4), (xt_93, 4), (xt_94, 2), (xt_95, 3), (xt_96, 3), (xt_97, 4), (xt_98, 5), (xt_99, 6)], [(xt_100, 2), (xt_101, 6), (xt_102, 1), (xt_103, 5), (xt_104, 5), (xt_105, 7), (xt_106, 6), (xt_107, 3), (xt_108, 2), (xt_109, 4), (xt_110, 2), (xt_111, 1), (xt_112, 1), (xt_113, 1), (xt_114, 2), (xt_115, 3), (xt_116, 2), (xt_117, 1), (xt_118, 5), (xt_119, 3)], [(xt_120, 1), (xt_121, 3), (xt_122, 3), (xt_123, 2), (xt_124, 2), (xt_125, 3), (xt_126, 3), (xt_127, 3), (xt_128, 2), (xt_129, 6), (xt_130, 2), (xt_131, 2), (xt_132, 5), (xt_133, 4), (xt_134, 4), (xt_135, 3), (xt_136, 3), (xt_137, 5), (xt_138, 4), (xt_139, 4)], [(xt_140, 6), (xt_141, 2), (xt_142, 2), (xt_143, 3), (xt_144, 2), (xt_145, 8), (xt_146, 2), (xt_147, 2), (xt_148, 2), (xt_149, 2), (xt_150, 3), (xt_151, 2), (xt_152, 3), (xt_153, 1), (xt_154, 2), (xt_155, 1), (xt_156, 6), (xt_157, 4), (xt_158, 1), (xt_159, 4)], [(xt_160, 5), (xt_161, 4), (xt_162, 6), (xt_163, 7), (xt_164, 4), (xt_165, 4), (xt_166, 4), (xt_167, 5), (xt_168, 10), (xt_169, 6), (xt_170, 5), (xt_171, 2), (xt_172, 3), (xt_173, 2), (xt_174, 2), (xt_175, 3), (xt_176, 3), (xt_177, 1), (xt_178, 2), (xt_179, 2)], [(xt_180, 5), (xt_181, 3), (xt_182, 6), (xt_183, 4), (xt_184, 4), (xt_185, 4), (xt_186, 2), (xt_187, 2), (xt_188, 5), (xt_189, 4)]]
end
section
/-! lists, intervals -/
theorem xv_nth_eq {α : Type} (l : List α) : ∀ n : Nat, xv_nth l n = l[n]? := by
  induction l with
  | nil => intro n; simp [xv_nth]
  | cons a l ih =>
    intro n
    cases n with
    | zero => rfl
    | succ k => exact (ih k).trans (by simp)
theorem xv_put_eq {α : Type} (v : α) (l : List α) : ∀ n : Nat, xv_put v l n = l.set n v := by
  induction l with
  | nil => intro n; rfl
  | cons a l ih =>
    intro n
    cases n with
    | zero => rfl
    | succ k => exact congrArg (List.cons a) (ih k)
theorem xv_get_eq {α : Type} (R : Nat) (ll : List (List α)) (i : Nat) : xv_get R ll i = (ll[i / R]?).bind (fun l => l[i % R]?) := by
  unfold xv_get
  rw [xv_nth_eq]
  cases ll[i / R]? with
  | none => rfl
  | some l => exact xv_nth_eq l _
theorem xv_get_upd {α : Type} {R : Nat} {ll : List (List α)} {i j : Nat} {v c : α} (h : xv_get R (xv_upd R ll i v) j = some c) : (j = i ∧ c = v) ∨ (j ≠ i ∧ xv_get R ll j = some c) := by
  rw [xv_get_eq] at h ⊢
  unfold xv_upd at h
  rw [xv_nth_eq] at h
  cases hl : ll[i / R]? with
  | none =>
    rw [hl] at h
    refine Or.inr ⟨fun e => ?_, h⟩
    subst e
    dsimp only at h
    rw [hl] at h
    cases h
  | some l =>
    rw [hl] at h
    dsimp only at h
    rw [xv_put_eq, xv_put_eq] at h
    by_cases hd : i / R = j / R
    · by_cases hm : i % R = j % R
      · have e : j = i := by rw [← Nat.div_add_mod i R, ← Nat.div_add_mod j R, hd, hm]
        subst e
        refine Or.inl ⟨rfl, ?_⟩
        have hlt : j / R < ll.length := (List.getElem?_eq_some_iff.mp hl).1
        rw [List.getElem?_set_self hlt] at h
        simp only [Option.bind_some] at h
        obtain ⟨h1, h2⟩ := List.getElem?_eq_some_iff.mp h
        simpa using h2.symm
      · refine Or.inr ⟨fun e => hm (by rw [e]), ?_⟩
        have hlt : i / R < ll.length := (List.getElem?_eq_some_iff.mp hl).1
        rw [← hd, List.getElem?_set_self hlt] at h
        simp only [Option.bind_some] at h
        rw [List.getElem?_set_ne hm] at h
        rw [← hd, hl]
        exact h
    · refine Or.inr ⟨fun e => hd (by rw [e]), ?_⟩
      rw [List.getElem?_set_ne hd] at h
      exact h
theorem xv_le_iff {a b : Int} : xv_le a b = true ↔ a ≤ b := by
  unfold xv_le
  constructor
  · intro h
    cases hs : b - a with
    | ofNat n => have : (0 : Int) ≤ Int.ofNat n := Int.natCast_nonneg n; omega
    | negSucc n => rw [hs] at h; cases h
  · intro h
    cases hs : b - a with
    | ofNat n => rfl
    | negSucc n => have : Int.negSucc n < 0 := Int.negSucc_lt_zero n; omega
theorem xv_le_f {a b : Int} (h : xv_le a b = false) : b < a := by
  rcases Int.lt_or_le b a with q | q
  · exact q
  · rw [xv_le_iff.mpr q] at h; cases h
theorem xv_bt {b : Bool} {α : Type} {x : Option α} {r : α} (h : (bif b then x else none) = some r) : b = true ∧ x = some r := by
  cases b with
  | true => exact ⟨rfl, h⟩
  | false => cases h
theorem xv_and_t {a b : Bool} (h : (a && b) = true) : a = true ∧ b = true := by simpa using h
theorem xv_beq {a b : Nat} (h : Nat.beq a b = true) : a = b := Nat.eq_of_beq_eq_true h
theorem xv_ble {a b : Nat} (h : Nat.ble a b = true) : a ≤ b := Nat.le_of_ble_eq_true h
theorem xv_i32 (x : Int32) : -2147483648 ≤ x.toInt ∧ x.toInt ≤ 2147483647 := by
  have h1 := Int32.le_toInt x
  have h2 := Int32.toInt_lt x
  omega
theorem xv_i64 (x : Int64) : -9223372036854775808 ≤ x.toInt ∧ x.toInt ≤ 9223372036854775807 := by
  have h1 := Int64.le_toInt x
  have h2 := Int64.toInt_lt x
  omega
theorem xv_int_ok {x : Int32} {lo hi z : Int} (h1 : lo ≤ z) (h2 : z ≤ hi) (hz : x.toInt = z.bmod (2 ^ 32)) : (xv_int lo hi).1 = 0 ∧ (xv_int lo hi).2.1 ≤ x.toInt ∧ x.toInt ≤ (xv_int lo hi).2.2 := by
  unfold xv_int
  cases hb : (xv_le (-2147483648) lo && xv_le hi 2147483647) with
  | true =>
    obtain ⟨q1, q2⟩ := xv_and_t hb
    have q1 := xv_le_iff.mp q1
    have q2 := xv_le_iff.mp q2
    have e : z.bmod (2 ^ 32) = z := Int.bmod_eq_of_le (by omega) (by omega)
    rw [e] at hz
    exact ⟨rfl, by show lo ≤ _; omega, by show _ ≤ hi; omega⟩
  | false => exact ⟨rfl, (xv_i32 x).1, (xv_i32 x).2⟩
theorem xv_lng_ok {x : Int64} {lo hi z : Int} (h1 : lo ≤ z) (h2 : z ≤ hi) (hz : x.toInt = z.bmod (2 ^ 64)) : (xv_lng lo hi).1 = 1 ∧ (xv_lng lo hi).2.1 ≤ x.toInt ∧ x.toInt ≤ (xv_lng lo hi).2.2 := by
  unfold xv_lng
  cases hb : (xv_le (-9223372036854775808) lo && xv_le hi 9223372036854775807) with
  | true =>
    obtain ⟨q1, q2⟩ := xv_and_t hb
    have q1 := xv_le_iff.mp q1
    have q2 := xv_le_iff.mp q2
    have e : z.bmod (2 ^ 64) = z := Int.bmod_eq_of_le (by omega) (by omega)
    rw [e] at hz
    exact ⟨rfl, by show lo ≤ _; omega, by show _ ≤ hi; omega⟩
  | false => exact ⟨rfl, (xv_i64 x).1, (xv_i64 x).2⟩
/-! what a value is -/
def xv_hv (sb : Nat) (as : List Nat) (v : xv_V) (x : Value) : Prop :=
  (v.1 = 0 → ∃ i : Int32, x = .int i ∧ v.2.1 ≤ i.toInt ∧ i.toInt ≤ v.2.2) ∧ (v.1 = 1 → ∃ i : Int64, x = .long i ∧ v.2.1 ≤ i.toInt ∧ i.toInt ≤ v.2.2) ∧ (v.1 = 2 → ∃ a, as[v.2.1.toNat]? = some a ∧ x = .ref a) ∧ (v.1 = 3 → x = .null) ∧ (v.1 = 5 → x = .ref sb)
theorem xv_hv.i {sb : Nat} {as : List Nat} {v : xv_V} {x : Int32} (h : v.1 = 0 ∧ v.2.1 ≤ x.toInt ∧ x.toInt ≤ v.2.2) : xv_hv sb as v (.int x) :=
  ⟨fun _ => ⟨x, rfl, h.2⟩, fun q => (by omega), fun q => (by omega), fun q => (by omega), fun q => (by omega)⟩
theorem xv_hv.l {sb : Nat} {as : List Nat} {v : xv_V} {x : Int64} (h : v.1 = 1 ∧ v.2.1 ≤ x.toInt ∧ x.toInt ≤ v.2.2) : xv_hv sb as v (.long x) :=
  ⟨fun q => (by omega), fun _ => ⟨x, rfl, h.2⟩, fun q => (by omega), fun q => (by omega), fun q => (by omega)⟩
theorem xv_hv.r {sb : Nat} {as : List Nat} {n a : Nat} (h : as[n]? = some a) : xv_hv sb as (2, Int.ofNat n, 0) (.ref a) :=
  ⟨fun q => (by cases q), fun q => (by cases q), fun _ => ⟨a, h, rfl⟩, fun q => (by cases q), fun q => (by cases q)⟩
theorem xv_hv.more {sb : Nat} {as as' : List Nat} {v : xv_V} {x : Value} (hp : ∀ (n a : Nat), as[n]? = some a → as'[n]? = some a) (h : xv_hv sb as v x) : xv_hv sb as' v x :=
  ⟨h.1, h.2.1, fun q => (h.2.2.1 q).elim fun a ha => ⟨a, hp _ _ ha.1, ha.2⟩, h.2.2.2⟩
def xv_known (v : xv_V) : Prop := v.1 = 0 ∨ v.1 = 1 ∨ v.1 = 2 ∨ v.1 = 3 ∨ v.1 = 5
theorem xv_cat1 {sb : Nat} {as : List Nat} {v : xv_V} {x : Value} (h : xv_hv sb as v x) (hk : xv_known v) (h1 : v.1 ≠ 1) : x.category = 1 := by
  rcases hk with q | q | q | q | q
  · obtain ⟨i, rfl, -⟩ := h.1 q; rfl
  · exact absurd q h1
  · obtain ⟨a, -, rfl⟩ := h.2.2.1 q; rfl
  · rw [h.2.2.2.1 q]; rfl
  · rw [h.2.2.2.2 q]; rfl
theorem xv_hv.join {sb : Nat} {as : List Nat} {u v : xv_V} {x : Value} (huv : u.1 = v.1) (hv1 : v.1 ≤ 1) (h : xv_hv sb as u x ∨ xv_hv sb as v x) : xv_hv sb as (xv_join u v) x := by
  have e1 : (xv_join u v).2.1 ≤ u.2.1 ∧ (xv_join u v).2.1 ≤ v.2.1 := by
    unfold xv_join
    cases hb : xv_le u.2.1 v.2.1 with
    | true => have := xv_le_iff.mp hb; exact ⟨Int.le_refl _, this⟩
    | false => have := xv_le_f hb; exact ⟨Int.le_of_lt this, Int.le_refl _⟩
  have e2 : u.2.2 ≤ (xv_join u v).2.2 ∧ v.2.2 ≤ (xv_join u v).2.2 := by
    unfold xv_join
    cases hb : xv_le u.2.2 v.2.2 with
    | true => have := xv_le_iff.mp hb; exact ⟨this, Int.le_refl _⟩
    | false => have := xv_le_f hb; exact ⟨Int.le_refl _, Int.le_of_lt this⟩
  have e0 : (xv_join u v).1 = u.1 := rfl
  have e0' : (xv_join u v).1 = v.1 := huv
  rcases h with h | h
  · rcases Nat.le_one_iff_eq_zero_or_eq_one.mp hv1 with q | q
    · obtain ⟨i, rfl, h1, h2⟩ := h.1 (huv.trans q)
      exact xv_hv.i ⟨e0'.trans q, by omega, by omega⟩
    · obtain ⟨i, rfl, h1, h2⟩ := h.2.1 (huv.trans q)
      exact xv_hv.l ⟨e0'.trans q, by omega, by omega⟩
  · rcases Nat.le_one_iff_eq_zero_or_eq_one.mp hv1 with q | q
    · obtain ⟨i, rfl, h1, h2⟩ := h.1 q
      exact xv_hv.i ⟨e0'.trans q, by omega, by omega⟩
    · obtain ⟨i, rfl, h1, h2⟩ := h.2.1 q
      exact xv_hv.l ⟨e0'.trans q, by omega, by omega⟩
/-! what the locals are -/
def xv_lm (sb : Nat) (as : List Nat) (L : List xv_V) (ls : Array Slot) (nL : Nat) : Prop := L.length = nL ∧ ∃ lv : List (Nat × Value), lv_has ls nL lv ∧ ∀ (i : Nat) (v : xv_V), L[i]? = some v → xv_known v → ∃ x, (i, x) ∈ lv ∧ xv_hv sb as v x
theorem xv_lm.more {sb : Nat} {as as' : List Nat} {L : List xv_V} {ls : Array Slot} {nL : Nat} (hp : ∀ (n a : Nat), as[n]? = some a → as'[n]? = some a) (h : xv_lm sb as L ls nL) : xv_lm sb as' L ls nL := by
  obtain ⟨h1, lv, h2, h3⟩ := h
  exact ⟨h1, lv, h2, fun i v hi hk => (h3 i v hi hk).elim fun x hx => ⟨x, hx.1, hx.2.more hp⟩⟩
theorem xv_lm.at {sb : Nat} {as : List Nat} {L : List xv_V} {ls : Array Slot} {nL : Nat} (h : xv_lm sb as L ls nL) {i : Nat} {v : xv_V} (hi : L[i]? = some v) (hk : xv_known v) : ∃ x, ls[i]? = some (.val x) ∧ xv_hv sb as v x := by
  obtain ⟨h1, lv, h2, h3⟩ := h
  obtain ⟨x, hm, hv⟩ := h3 i v hi hk
  exact ⟨x, h2.2.2 (i, x) hm, hv⟩
theorem xv_cl1_get {L : List xv_V} {i j : Nat} {w : xv_V} (hj : j ≠ i) (h : (xv_cl1 L i)[j]? = some w) (hk : xv_known w) : L[j]? = some w ∧ (j + 1 = i → w.1 ≠ 1) := by
  unfold xv_cl1 at h
  cases i with
  | zero => exact ⟨h, fun q => by omega⟩
  | succ i =>
    dsimp only at h
    rw [xv_nth_eq] at h
    cases hl : L[i]? with
    | none =>
      rw [hl] at h
      refine ⟨h, fun q => ?_⟩
      have e : j = i := by omega
      subst e
      rw [hl] at h; cases h
    | some v =>
      rw [hl] at h
      dsimp only at h
      cases hb : Nat.beq v.1 1 with
      | true =>
        rw [hb] at h
        simp only [cond_true] at h
        rw [xv_put_eq] at h
        by_cases e : i = j
        · subst e
          have hlt : i < L.length := (List.getElem?_eq_some_iff.mp hl).1
          rw [List.getElem?_set_self hlt] at h
          cases h
          rcases hk with q | q | q | q | q <;> cases q
        · rw [List.getElem?_set_ne e] at h
          exact ⟨h, fun q => by omega⟩
      | false =>
        rw [hb] at h
        simp only [cond_false] at h
        refine ⟨h, fun q q1 => ?_⟩
        have e : j = i := by omega
        subst e
        rw [hl] at h; cases h
        rw [q1] at hb; cases hb
theorem xv_cl1_len (L : List xv_V) (i : Nat) : (xv_cl1 L i).length = L.length := by
  unfold xv_cl1
  cases i with
  | zero => rfl
  | succ i =>
    dsimp only
    cases xv_nth L i with
    | none => rfl
    | some v =>
      dsimp only
      cases Nat.beq v.1 1 with
      | true => simp [xv_put_eq]
      | false => rfl
theorem xv_lm.st1 {sb : Nat} {as : List Nat} {L : List xv_V} {nL : Nat} {i : Nat} {v : xv_V} {x : Value} (hi : i < nL) (hx : xv_hv sb as v x) {lv : List (Nat × Value)} (h0 : L.length = nL) (h3 : ∀ (i : Nat) (v : xv_V), L[i]? = some v → xv_known v → ∃ x, (i, x) ∈ lv ∧ xv_hv sb as v x)
    {ls' : Array Slot} (h : lv_has ls' nL ((i, x) :: lv.filter (fun q => !(q.1 == i) && !(q.1 + 1 == i && q.2.category == 2)))) : xv_lm sb as (xv_st1 L i v) ls' nL := by
  refine ⟨by unfold xv_st1; rw [xv_put_eq, List.length_set, xv_cl1_len]; exact h0, _, h, fun j w hj hk => ?_⟩
  unfold xv_st1 at hj
  rw [xv_put_eq] at hj
  by_cases e : i = j
  · subst e
    rw [List.getElem?_set_self (by rw [xv_cl1_len, h0]; exact hi)] at hj
    cases hj
    exact ⟨x, List.mem_cons_self, hx⟩
  · rw [List.getElem?_set_ne e] at hj
    obtain ⟨h4, h5⟩ := xv_cl1_get (fun q => e q.symm) hj hk
    obtain ⟨y, hy, hv⟩ := h3 j w h4 hk
    refine ⟨y, List.mem_cons_of_mem _ (List.mem_filter.mpr ⟨hy, ?_⟩), hv⟩
    have e1 : (j == i) = false := by simp; omega
    simp only [e1, Bool.not_false, Bool.true_and, Bool.not_eq_true', Bool.and_eq_false_iff, beq_eq_false_iff_ne]
    by_cases q : j + 1 = i
    · right
      rw [xv_cat1 hv hk (h5 q)]; decide
    · left; exact q
end
section
/-! what the cells are, and where a walk stands -/
def xv_tys (t : Nat → ClassId) : List (ClassId × FieldType) := [(t 1, .int), (t 2, .byte), (t 3, .boolean), (t 4, .long), (t 5, .array .int), (t 6, .array .long), (t 7, .object "PassedPenance$Image")]
def xv_hc (t : Nat → ClassId) (sb : Nat) (as : List Nat) (k : xv_C) (x : va_E) : Prop :=
  (k.1 = 0 → ∃ fs, x = .inr (k.2.1, fs) ∧ fs.length = k.2.2.1 ∧ ∀ (b : Nat) (v : xv_V), xv_get 8 k.2.2.2 b = some v → ∃ y, fs[b]? = some y ∧ xv_hv sb as v y) ∧
  ((k.1 = 1 ∨ k.1 = 2 ∨ k.1 = 3) → ∃ f : Nat → Int32, x = .inl (t k.1, k.2.1, .inl f) ∧ ∀ i : Nat, i < k.2.1 → ∀ v : xv_V, xv_get 8 k.2.2.2 (i % k.2.2.1) = some v → xv_hv sb as v (.int (f i))) ∧
  (k.1 = 4 → ∃ f : Nat → Int64, x = .inl (t k.1, k.2.1, .inr (.inl f)) ∧ ∀ i : Nat, i < k.2.1 → ∀ v : xv_V, xv_get 8 k.2.2.2 (i % k.2.2.1) = some v → xv_hv sb as v (.long (f i))) ∧
  ((k.1 = 5 ∨ k.1 = 6 ∨ k.1 = 7) → ∃ f : Nat → Option Nat, x = .inl (t k.1, k.2.1, .inr (.inr (.inr (.inr f)))) ∧ ∀ i : Nat, i < k.2.1 → ∀ v : xv_V, xv_get 8 k.2.2.2 (i % k.2.2.1) = some v → xv_hv sb as v (va_rf (f i))) ∧
  (k.1 ≠ 0 → k.2.1 ≤ 65536)
theorem xv_hc.more {t : Nat → ClassId} {sb : Nat} {as as' : List Nat} {k : xv_C} {x : va_E} (hp : ∀ (n a : Nat), as[n]? = some a → as'[n]? = some a) (h : xv_hc t sb as k x) : xv_hc t sb as' k x := by
  obtain ⟨h0, h1, h4, h5, h6⟩ := h
  refine ⟨fun q => ?_, fun q => ?_, fun q => ?_, fun q => ?_, h6⟩
  · obtain ⟨fs, e, hl, hf⟩ := h0 q
    exact ⟨fs, e, hl, fun b v hb => (hf b v hb).elim fun y hy => ⟨y, hy.1, hy.2.more hp⟩⟩
  · obtain ⟨f, e, hf⟩ := h1 q
    exact ⟨f, e, fun i hi v hb => (hf i hi v hb).more hp⟩
  · obtain ⟨f, e, hf⟩ := h4 q
    exact ⟨f, e, fun i hi v hb => (hf i hi v hb).more hp⟩
  · obtain ⟨f, e, hf⟩ := h5 q
    exact ⟨f, e, fun i hi v hb => (hf i hi v hb).more hp⟩
def xv_H (t : Nat → ClassId) (sb : Nat) (h : xv_A) (n : Nat) (ws : va_W) : Prop := ws.length = n ∧ ∀ (r : Nat) (k : xv_C), xv_get 14 h r = some k → k.1 ≠ 99 → ∃ (a : Nat) (x : va_E), ws[r]? = some (a, x) ∧ xv_hc t sb (ws.map Prod.fst) k x
theorem xv_fst_set {ws : va_W} {q a : Nat} {x y : va_E} (h : ws[q]? = some (a, x)) : (ws.set q (a, y)).map Prod.fst = ws.map Prod.fst := by
  rw [List.map_set]
  apply List.ext_getElem?
  intro i
  by_cases e : q = i
  · subst e
    have hlt : q < ws.length := (List.getElem?_eq_some_iff.mp h).1
    rw [List.getElem?_set_self (by simpa using hlt), List.getElem?_map, h]
    rfl
  · rw [List.getElem?_set_ne e]
/-- a cell is changed -/
theorem xv_H.set {t : Nat → ClassId} {sb : Nat} {h : xv_A} {n : Nat} {ws : va_W} (hH : xv_H t sb h n ws) {q a : Nat} {x y : va_E} {k : xv_C} (hq : ws[q]? = some (a, x)) (hk : xv_hc t sb (ws.map Prod.fst) k y) : xv_H t sb (xv_upd 14 h q k) n (ws.set q (a, y)) := by
  refine ⟨by rw [List.length_set]; exact hH.1, fun r k' hr h9 => ?_⟩
  rw [xv_fst_set hq]
  have hlt : q < ws.length := (List.getElem?_eq_some_iff.mp hq).1
  rcases xv_get_upd hr with ⟨rfl, rfl⟩ | ⟨hne, hr⟩
  · exact ⟨a, y, by rw [List.getElem?_set_self hlt], hk⟩
  · obtain ⟨a', x', e1, e2⟩ := hH.2 r k' hr h9
    exact ⟨a', x', by rw [List.getElem?_set_ne (fun e => hne e.symm)]; exact e1, e2⟩
theorem xv_pre_app {as bs : List Nat} : ∀ (n a : Nat), as[n]? = some a → (as ++ bs)[n]? = some a := fun n a h => by
  rw [List.getElem?_append_left (List.getElem?_eq_some_iff.mp h).1]; exact h
/-- a cell is new -/
theorem xv_H.push {t : Nat → ClassId} {sb : Nat} {h : xv_A} {n : Nat} {ws : va_W} (hH : xv_H t sb h n ws) {a : Nat} {y : va_E} {k : xv_C} (hk : xv_hc t sb ((ws ++ [(a, y)]).map Prod.fst) k y) : xv_H t sb (xv_upd 14 h n k) (n + 1) (ws ++ [(a, y)]) := by
  refine ⟨by rw [List.length_append, hH.1]; rfl, fun r k' hr h9 => ?_⟩
  rcases xv_get_upd hr with ⟨rfl, rfl⟩ | ⟨hne, hr⟩
  · refine ⟨a, y, ?_, hk⟩
    rw [← hH.1, List.getElem?_append_right (Nat.le_refl _), Nat.sub_self]; rfl
  · obtain ⟨a', x', e1, e2⟩ := hH.2 r k' hr h9
    refine ⟨a', x', by rw [List.getElem?_append_left (List.getElem?_eq_some_iff.mp e1).1]; exact e1, e2.more ?_⟩
    rw [List.map_append]
    exact xv_pre_app
def xv_sm (sb : Nat) (as : List Nat) : List xv_V → List Value → Prop
  | [], [] => True
  | v :: r, x :: xs => xv_hv sb as v x ∧ xv_sm sb as r xs
  | _, _ => False
theorem xv_sm.cons {sb : Nat} {as : List Nat} {v : xv_V} {r : List xv_V} {x : Value} {xs : List Value} (h1 : xv_hv sb as v x) (h2 : xv_sm sb as r xs) : xv_sm sb as (v :: r) (x :: xs) := And.intro h1 h2
theorem xv_sm.un {sb : Nat} {as : List Nat} {v : xv_V} {r : List xv_V} {vst : List Value} (h : xv_sm sb as (v :: r) vst) : ∃ x xs, vst = x :: xs ∧ xv_hv sb as v x ∧ xv_sm sb as r xs := by
  cases vst with
  | nil => exact False.elim h
  | cons x xs => exact ⟨x, xs, rfl, h.1, h.2⟩
theorem xv_sm.nil {sb : Nat} {as : List Nat} {vst : List Value} (h : xv_sm sb as [] vst) : vst = [] := by
  cases vst with
  | nil => rfl
  | cons x xs => exact False.elim h
theorem xv_sm.more {sb : Nat} {as as' : List Nat} (hp : ∀ (n a : Nat), as[n]? = some a → as'[n]? = some a) : ∀ {st : List xv_V} {vst : List Value}, xv_sm sb as st vst → xv_sm sb as' st vst
  | [], [], _ => True.intro
  | [], _ :: _, h => False.elim h
  | _ :: _, [], h => False.elim h
  | _ :: _, _ :: _, h => And.intro (h.1.more hp) (xv_sm.more hp h.2)
def xv_Rl (D : va_G) (t : Nat → ClassId) (A : Nat → Prop) (H0 : Heap) (as0 : List Nat) (sb nL : Nat) (L st : List xv_V) (S : xv_S) (ls : Array Slot) (vst : List Value) (H : Heap) (locs : List Loc) (ws : va_W) : Prop :=
  xv_lm sb (ws.map Prod.fst) L ls nL ∧ xv_sm sb (ws.map Prod.fst) st vst ∧ va_P D vwCl ws H ∧ va_D A ws ∧ va_S A H0 H locs ∧ xv_H t sb S.1 S.2.1 ws ∧ ∃ more, ws.map Prod.fst = as0 ++ more
/-- from a place on, with this known, the machine comes to the end r -/
def xv_T (p : Program) (l : Launch) (e : Env) (R : Room) (s : State) (m : MethodId) (args : Array Value) (below : List Frame) (meth : Method) (c : Code) (D : va_G) (t : Nat → ClassId) (A : Nat → Prop) (as0 : List Nat) (sb nL : Nat) (Q : xv_R → State → Prop) (pc : Nat) (L st : List xv_V) (S : xv_S) (r : xv_R) : Prop :=
  S.2.2.1 ≤ r.2.2.2.2.1 ∧ S.2.2.2 ≤ r.2.2.2.2.2 ∧ (r.2.2.2.2.1 ≤ R.cells → r.2.2.2.2.2 ≤ R.slots → ∀ (ls : Array Slot) (vst : List Value) (H : Heap) (locs : List Loc) (ws : va_W), xv_Rl D t A s.heap as0 sb nL L st S ls vst H locs ws → W p l e R s m args below meth c H locs S.2.2.1 S.2.2.2 (Q r) (F0 m pc ls vst))
def xv_G (p : Program) (l : Launch) (e : Env) (R : Room) (s : State) (m : MethodId) (args : Array Value) (below : List Frame) (meth : Method) (c : Code) (D : va_G) (t : Nat → ClassId) (A : Nat → Prop) (as0 : List Nat) (sb nL : Nat) (Q : xv_R → State → Prop) (k : xv_K) : Prop :=
  ∀ (pc : Nat) (L st : List xv_V) (S : xv_S) (r : xv_R), k pc L st S = some r → xv_T p l e R s m args below meth c D t A as0 sb nL Q pc L st S r
/-- an array class over a class of rows is there -/
def xv_AOA (ty : FieldType) (U : State) : Prop := ∃ (cI cO : ClassId) (k : Class), U.vm.findClass (FieldType.array ty).toString = some cI ∧ U.vm.classes[cO]? = some k ∧ k.kind = .array cI (.array ty) ∧ U.vm.findClass ("[" ++ (FieldType.array ty).toString) = some cO
theorem xv_AOA.moved {ty : FieldType} {u U : State} (hvm : u.vm.Alike U.vm) (h : xv_AOA ty u) : xv_AOA ty U := by
  obtain ⟨cI, cO, k, h1, h2, h3, h4⟩ := h
  obtain ⟨k', hk', he⟩ := hvm.2.2 _ _ h2
  exact ⟨cI, cO, k', by rw [hvm.findClass]; exact h1, hk', by rw [he]; exact h3, by rw [hvm.findClass]; exact h4⟩
/-- what the tables say besides, that is carried from call to call -/
def xv_Ex (U : State) : Prop := (∀ q ∈ xv_nest, va_Nw (.methodLinkNest q.1 q.2.1 q.2.2.1 q.2.2.2) U) ∧ va_AO "PassedPenance$Image" U ∧ xv_AOA .int U ∧ xv_AOA .long U
theorem xv_Ex.warm {s U : State} (hW : s.WarmedH U.vm) (h : xv_Ex s) : xv_Ex U := ⟨fun q hq => va_Nw.warmM hW (h.1 q hq), h.2.1.moved hW.alike, h.2.2.1.moved hW.alike, h.2.2.2.moved hW.alike⟩
theorem xv_Ex.same {u U : State} (e : u.vm = U.vm) (h : xv_Ex u) : xv_Ex U := ⟨fun q hq => va_Nw.same rfl e (h.1 q hq), h.2.1.moved (e ▸ Vm.Alike.refl u.vm), h.2.2.1.moved (e ▸ Vm.Alike.refl u.vm), h.2.2.2.moved (e ▸ Vm.Alike.refl u.vm)⟩
/-- what holds all through a method's body -/
def xv_Cx (p : Program) (s : State) (m : MethodId) (args : Array Value) (c : Code) (cc : ByteArray) (own : String) (nL : Nat) (D : va_G) (t : Nat → ClassId) (A : Nat → Prop) (sb : Nat) (scr : List xv_V) : Prop :=
  p.tables.exec = Jvm.exec ∧ c.code = cc ∧ c.maxLocals = nL ∧ s.vm.findClass own = some m.cls ∧ (∀ w ∈ xv_tb, w.before args s = true) ∧ va_K D vwCl (xv_tys t) s ∧ (∀ q : Nat, s.heap.size ≤ q → A q) ∧
  (scr = [] ∨ ∃ xs : Nat → Int32, va_X sb scr.length xs s s.heap ∧ sb < s.heap.size ∧ ¬ A sb ∧ scr.length < 2 ^ 31 ∧ ∀ (j : Nat) (v : xv_V), scr[j]? = some v → v.1 = 0 ∧ v.2.1 ≤ (xs j).toInt ∧ (xs j).toInt ≤ v.2.2) ∧ xv_Ex s
section XV1
variable {p : Program} {l : Launch} {e : Env} {R : Room} {s : State} {m : MethodId} {args : Array Value} {below : List Frame} {meth : Method} {c : Code}
variable {cc : ByteArray} {own : String} {nL : Nat} {D : va_G} {t : Nat → ClassId} {A : Nat → Prop} {as0 : List Nat} {sb : Nat} {scr : List xv_V} {Q : xv_R → State → Prop} {k : xv_K} {pc : Nat} {L st : List xv_V} {S : xv_S} {r : xv_R}
/-- a step that leaves locals and cells as they are -/
theorem xs_pure {pc' : Nat} {st' : List xv_V} (hk : xv_G p l e R s m args below meth c D t A as0 sb nL Q k) (hr : k pc' L st' S = some r)
    (hs : ∀ (ls : Array Slot) (vst : List Value) (H : Heap) (locs : List Loc) (as : List Nat) (x y : Nat) (Z : State → Prop), xv_lm sb as L ls nL → xv_sm sb as st vst → ∃ vst', xv_sm sb as st' vst' ∧ (W p l e R s m args below meth c H locs x y Z (F0 m pc' ls vst') → W p l e R s m args below meth c H locs x y Z (F0 m pc ls vst))) : xv_T p l e R s m args below meth c D t A as0 sb nL Q pc L st S r := by
  obtain ⟨h1, h2, h3⟩ := hk _ _ _ _ _ hr
  refine ⟨h1, h2, fun hc hz ls vst H locs ws hR => ?_⟩
  obtain ⟨hl, hst, hrest⟩ := hR
  obtain ⟨vst', h4, h5⟩ := hs ls vst H locs _ _ _ _ hl hst
  exact h5 (h3 hc hz ls vst' H locs ws ⟨hl, h4, hrest⟩)
theorem xs_push {pc' : Nat} {v : xv_V} (hk : xv_G p l e R s m args below meth c D t A as0 sb nL Q k) (hr : k pc' L (v :: st) S = some r) {x : Value}
    (hx : ∀ as : List Nat, xv_hv sb as v x) (hs : ∀ (ls : Array Slot) (vst : List Value) (H : Heap) (locs : List Loc) (a b : Nat) (Z : State → Prop), W p l e R s m args below meth c H locs a b Z (F0 m pc' ls (x :: vst)) → W p l e R s m args below meth c H locs a b Z (F0 m pc ls vst)) : xv_T p l e R s m args below meth c D t A as0 sb nL Q pc L st S r :=
  xs_pure hk hr fun ls vst H locs as a b Z _ hst => ⟨x :: vst, xv_sm.cons (hx as) hst, hs ls vst H locs a b Z⟩
theorem xs_iconst {i : Int} (C : xv_Cx p s m args c cc own nL D t A sb scr) (hk : xv_G p l e R s m args below meth c D t A as0 sb nL Q k) (hd : decode cc pc = .ok (.iconst i, 1)) (hr : k (pc + 1) L (xv_int i i :: st) S = some r) : xv_T p l e R s m args below meth c D t A as0 sb nL Q pc L st S r :=
  xs_push hk hr (x := .int (Int32.ofInt i)) (fun _ => xv_hv.i (xv_int_ok (Int.le_refl i) (Int.le_refl i) (Int32.toInt_ofInt ..))) fun _ _ _ _ _ _ _ w => lv_iconst C.1 C.2.1 hd rfl w
theorem xs_bipush {i : Int} (C : xv_Cx p s m args c cc own nL D t A sb scr) (hk : xv_G p l e R s m args below meth c D t A as0 sb nL Q k) (hd : decode cc pc = .ok (.bipush i, 2)) (hr : (bif xv_le (-128) i && xv_le i 127 then k (pc + 2) L ((0, i, i) :: st) S else none) = some r) : xv_T p l e R s m args below meth c D t A as0 sb nL Q pc L st S r := by
  obtain ⟨hb, hr⟩ := xv_bt hr
  obtain ⟨b1, b2⟩ := xv_and_t hb
  have b1 := xv_le_iff.mp b1
  have b2 := xv_le_iff.mp b2
  have e : ((Int8.ofInt i).toInt32).toInt = i := by
    rw [Int8.toInt_toInt32, Int8.toInt_ofInt, show Int8.size = 256 from rfl]
    exact Int.bmod_eq_of_le (by omega) (by omega)
  exact xs_push hk hr (x := .int ((Int8.ofInt i).toInt32)) (fun _ => xv_hv.i ⟨rfl, by rw [e]; exact Int.le_refl _, by rw [e]; exact Int.le_refl _⟩) fun _ _ _ _ _ _ _ w => lv_bipush C.1 C.2.1 hd rfl w
theorem xs_sipush {i : Int} (C : xv_Cx p s m args c cc own nL D t A sb scr) (hk : xv_G p l e R s m args below meth c D t A as0 sb nL Q k) (hd : decode cc pc = .ok (.sipush i, 3)) (hr : (bif xv_le (-32768) i && xv_le i 32767 then k (pc + 3) L ((0, i, i) :: st) S else none) = some r) : xv_T p l e R s m args below meth c D t A as0 sb nL Q pc L st S r := by
  obtain ⟨hb, hr⟩ := xv_bt hr
  obtain ⟨b1, b2⟩ := xv_and_t hb
  have b1 := xv_le_iff.mp b1
  have b2 := xv_le_iff.mp b2
  have e : ((Int16.ofInt i).toInt32).toInt = i := by
    rw [Int16.toInt_toInt32, Int16.toInt_ofInt, show Int16.size = 65536 from rfl]
    exact Int.bmod_eq_of_le (by omega) (by omega)
  exact xs_push hk hr (x := .int ((Int16.ofInt i).toInt32)) (fun _ => xv_hv.i ⟨rfl, by rw [e]; exact Int.le_refl _, by rw [e]; exact Int.le_refl _⟩) fun _ _ _ _ _ _ _ w => lv_sipush C.1 C.2.1 hd rfl w
theorem xs_lconst {i : Fin 2} (C : xv_Cx p s m args c cc own nL D t A sb scr) (hk : xv_G p l e R s m args below meth c D t A as0 sb nL Q k) (hd : decode cc pc = .ok (.lconst i, 1)) (hr : k (pc + 1) L ((1, Int.ofNat i.val, Int.ofNat i.val) :: st) S = some r) : xv_T p l e R s m args below meth c D t A as0 sb nL Q pc L st S r := by
  have e : (Int64.ofNat i.val).toInt = Int.ofNat i.val := by
    have := i.isLt
    rw [Int64.toInt_ofNat']
    exact Int.bmod_eq_of_le (by omega) (by simp; omega)
  exact xs_push hk hr (x := .long (Int64.ofNat i.val)) (fun _ => xv_hv.l ⟨rfl, by rw [e]; exact Int.le_refl _, by rw [e]; exact Int.le_refl _⟩) fun _ _ _ _ _ _ _ w => lv_lconst C.1 C.2.1 hd rfl w
theorem xs_ldk {pc' : Nat} {o : Option xv_V} (hr : xv_ldk k pc' L st S o = some r) : ∃ v, o = some v ∧ k pc' L (v :: st) S = some r := by
  unfold xv_ldk at hr
  cases o with
  | none => cases hr
  | some v => exact ⟨v, rfl, hr⟩
theorem xv_ld_eq {kd i : Nat} {v : xv_V} (h : xv_ld kd L i = some v) : L[i]? = some v ∧ v.1 = kd := by
  unfold xv_ld at h
  rw [xv_nth_eq] at h
  cases hl : L[i]? with
  | none => rw [hl] at h; cases h
  | some w =>
    rw [hl] at h
    obtain ⟨b, e⟩ := xv_bt h
    cases e
    exact ⟨rfl, xv_beq b⟩
theorem xs_ldi {i pc' : Nat} (hk : xv_G p l e R s m args below meth c D t A as0 sb nL Q k) (hr : xv_ldk k pc' L st S (xv_ld 0 L i) = some r)
    (hs : ∀ (ls : Array Slot) (vst : List Value) (H : Heap) (locs : List Loc) (a b : Nat) (Z : State → Prop) (x : Int32), ls[i]? = some (.val (.int x)) → W p l e R s m args below meth c H locs a b Z (F0 m pc' ls (.int x :: vst)) → W p l e R s m args below meth c H locs a b Z (F0 m pc ls vst)) : xv_T p l e R s m args below meth c D t A as0 sb nL Q pc L st S r := by
  obtain ⟨v, e, hr⟩ := xs_ldk hr
  obtain ⟨e1, e2⟩ := xv_ld_eq e
  refine xs_pure hk hr fun ls vst H locs as a b Z hl hst => ?_
  obtain ⟨x, hx, hv⟩ := hl.at e1 (Or.inl e2)
  obtain ⟨y, rfl, -⟩ := hv.1 e2
  exact ⟨.int y :: vst, xv_sm.cons hv hst, hs ls vst H locs a b Z y hx⟩
theorem xs_ldl {i pc' : Nat} (hk : xv_G p l e R s m args below meth c D t A as0 sb nL Q k) (hr : xv_ldk k pc' L st S (xv_ld 1 L i) = some r)
    (hs : ∀ (ls : Array Slot) (vst : List Value) (H : Heap) (locs : List Loc) (a b : Nat) (Z : State → Prop) (x : Int64), ls[i]? = some (.val (.long x)) → W p l e R s m args below meth c H locs a b Z (F0 m pc' ls (.long x :: vst)) → W p l e R s m args below meth c H locs a b Z (F0 m pc ls vst)) : xv_T p l e R s m args below meth c D t A as0 sb nL Q pc L st S r := by
  obtain ⟨v, e, hr⟩ := xs_ldk hr
  obtain ⟨e1, e2⟩ := xv_ld_eq e
  refine xs_pure hk hr fun ls vst H locs as a b Z hl hst => ?_
  obtain ⟨x, hx, hv⟩ := hl.at e1 (Or.inr (Or.inl e2))
  obtain ⟨y, rfl, -⟩ := hv.2.1 e2
  exact ⟨.long y :: vst, xv_sm.cons hv hst, hs ls vst H locs a b Z y hx⟩
theorem xs_iload {i : Nat} (C : xv_Cx p s m args c cc own nL D t A sb scr) (hk : xv_G p l e R s m args below meth c D t A as0 sb nL Q k) (hd : decode cc pc = .ok (.iload i, 2)) (hr : xv_ldk k (pc + 2) L st S (xv_ld 0 L i) = some r) : xv_T p l e R s m args below meth c D t A as0 sb nL Q pc L st S r :=
  xs_ldi hk hr fun _ _ _ _ _ _ _ _ hx w => lv_iload C.1 C.2.1 hd hx w
theorem xs_iload_n {i : Fin 4} (C : xv_Cx p s m args c cc own nL D t A sb scr) (hk : xv_G p l e R s m args below meth c D t A as0 sb nL Q k) (hd : decode cc pc = .ok (.iload_n i, 1)) (hr : xv_ldk k (pc + 1) L st S (xv_ld 0 L i.val) = some r) : xv_T p l e R s m args below meth c D t A as0 sb nL Q pc L st S r :=
  xs_ldi hk hr fun _ _ _ _ _ _ _ _ hx w => lv_iload_n C.1 C.2.1 hd rfl hx w
theorem xs_lload {i : Nat} (C : xv_Cx p s m args c cc own nL D t A sb scr) (hk : xv_G p l e R s m args below meth c D t A as0 sb nL Q k) (hd : decode cc pc = .ok (.lload i, 2)) (hr : xv_ldk k (pc + 2) L st S (xv_ld 1 L i) = some r) : xv_T p l e R s m args below meth c D t A as0 sb nL Q pc L st S r :=
  xs_ldl hk hr fun _ _ _ _ _ _ _ _ hx w => lv_lload C.1 C.2.1 hd hx w
theorem xs_lload_n {i : Fin 4} (C : xv_Cx p s m args c cc own nL D t A sb scr) (hk : xv_G p l e R s m args below meth c D t A as0 sb nL Q k) (hd : decode cc pc = .ok (.lload_n i, 1)) (hr : xv_ldk k (pc + 1) L st S (xv_ld 1 L i.val) = some r) : xv_T p l e R s m args below meth c D t A as0 sb nL Q pc L st S r :=
  xs_ldl hk hr fun _ _ _ _ _ _ _ _ hx w => lv_lload_n C.1 C.2.1 hd rfl hx w
theorem xs_aload_n {i : Fin 4} (C : xv_Cx p s m args c cc own nL D t A sb scr) (hk : xv_G p l e R s m args below meth c D t A as0 sb nL Q k) (hd : decode cc pc = .ok (.aload_n i, 1)) (hr : xv_ldk k (pc + 1) L st S (xv_lda L i.val) = some r) : xv_T p l e R s m args below meth c D t A as0 sb nL Q pc L st S r := by
  obtain ⟨v, e, hr⟩ := xs_ldk hr
  unfold xv_lda at e
  rw [xv_nth_eq] at e
  cases hl : L[i.val]? with
  | none => rw [hl] at e; cases e
  | some w =>
    rw [hl] at e
    obtain ⟨b, e⟩ := xv_bt e
    cases e
    simp only [Bool.or_eq_true] at b
    refine xs_pure hk hr fun ls vst H locs as a b' Z hlm hst => ?_
    have hkn : xv_known v := by
      rcases b with b | b | b
      · exact Or.inr (Or.inr (Or.inl (xv_beq b)))
      · exact Or.inr (Or.inr (Or.inr (Or.inl (xv_beq b))))
      · exact Or.inr (Or.inr (Or.inr (Or.inr (xv_beq b))))
    obtain ⟨x, hx, hv⟩ := hlm.at hl hkn
    refine ⟨x :: vst, xv_sm.cons hv hst, fun w => ?_⟩
    rcases b with b | b | b
    · obtain ⟨q, -, rfl⟩ := hv.2.2.1 (xv_beq b)
      exact lv_aload_n C.1 C.2.1 hd rfl hx w
    · have e := hv.2.2.2.1 (xv_beq b)
      subst e
      exact lv_aload_nN C.1 C.2.1 hd rfl hx w
    · have e := hv.2.2.2.2 (xv_beq b)
      subst e
      exact lv_aload_n C.1 C.2.1 hd rfl hx w
/-- a local is written -/
theorem xs_sto {i pc' : Nat} {v : xv_V} {rest : List xv_V} (hk : xv_G p l e R s m args below meth c D t A as0 sb nL Q k) (hr : k pc' (xv_st1 L i v) rest S = some r) (hst : st = v :: rest) (hi : i + 1 ≤ L.length)
    (hs : ∀ (ls : Array Slot) (vst : List Value) (H : Heap) (locs : List Loc) (as : List Nat) (a b : Nat) (Z : State → Prop) (x : Value) (lv : List (Nat × Value)), xv_hv sb as v x → lv_has ls nL lv → i < nL → (∀ ls' : Array Slot, lv_has ls' nL ((i, x) :: lv.filter (fun q => !(q.1 == i) && !(q.1 + 1 == i && q.2.category == 2))) → W p l e R s m args below meth c H locs a b Z (F0 m pc' ls' vst)) → W p l e R s m args below meth c H locs a b Z (F0 m pc ls (x :: vst))) : xv_T p l e R s m args below meth c D t A as0 sb nL Q pc L st S r := by
  obtain ⟨h1, h2, h3⟩ := hk _ _ _ _ _ hr
  refine ⟨h1, h2, fun hc hz ls vst H locs ws hR => ?_⟩
  obtain ⟨hl, hfa, hrest⟩ := hR
  subst hst
  obtain ⟨x, vst, rfl, hx, htl⟩ := hfa.un
  obtain ⟨h0, lv, h4, h5⟩ := hl
  exact hs ls vst H locs _ _ _ _ x lv hx h4 (by omega) fun ls' hls' => h3 hc hz ls' vst H locs ws ⟨xv_lm.st1 (by omega) hx h0 h5 hls', htl, hrest⟩
theorem xs_istore {i pc' : Nat} (hk : xv_G p l e R s m args below meth c D t A as0 sb nL Q k) (hr : xv_sto k 0 pc' i L st S = some r)
    (hs : ∀ (ls : Array Slot) (vst : List Value) (H : Heap) (locs : List Loc) (a b : Nat) (Z : State → Prop) (x : Int32) (lv : List (Nat × Value)), lv_has ls nL lv → i < nL → (∀ ls' : Array Slot, lv_has ls' nL ((i, .int x) :: lv.filter (fun q => !(q.1 == i) && !(q.1 + 1 == i && q.2.category == 2))) → W p l e R s m args below meth c H locs a b Z (F0 m pc' ls' vst)) → W p l e R s m args below meth c H locs a b Z (F0 m pc ls (.int x :: vst))) : xv_T p l e R s m args below meth c D t A as0 sb nL Q pc L st S r := by
  unfold xv_sto at hr
  cases st with
  | nil => cases hr
  | cons v rest =>
    obtain ⟨b, hr⟩ := xv_bt hr
    obtain ⟨b1, b2⟩ := xv_and_t b
    refine xs_sto hk hr rfl (xv_ble b2) fun ls vst H locs as a b Z x lv hx hlv hi w => ?_
    obtain ⟨y, rfl, -⟩ := hx.1 (xv_beq b1)
    exact hs ls vst H locs a b Z y lv hlv hi w
theorem xs_istore_i {i : Nat} (C : xv_Cx p s m args c cc own nL D t A sb scr) (hk : xv_G p l e R s m args below meth c D t A as0 sb nL Q k) (hd : decode cc pc = .ok (.istore i, 2)) (hr : xv_sto k 0 (pc + 2) i L st S = some r) : xv_T p l e R s m args below meth c D t A as0 sb nL Q pc L st S r :=
  xs_istore hk hr fun _ _ _ _ _ _ _ _ _ h hi w => lv_istore C.1 C.2.1 hd h hi rfl w
theorem xs_istore_n {i : Fin 4} (C : xv_Cx p s m args c cc own nL D t A sb scr) (hk : xv_G p l e R s m args below meth c D t A as0 sb nL Q k) (hd : decode cc pc = .ok (.istore_n i, 1)) (hr : xv_sto k 0 (pc + 1) i.val L st S = some r) : xv_T p l e R s m args below meth c D t A as0 sb nL Q pc L st S r :=
  xs_istore hk hr fun _ _ _ _ _ _ _ _ _ h hi w => lv_istore_n C.1 C.2.1 hd rfl h hi rfl w
theorem xs_astore_n {i : Fin 4} (C : xv_Cx p s m args c cc own nL D t A sb scr) (hk : xv_G p l e R s m args below meth c D t A as0 sb nL Q k) (hd : decode cc pc = .ok (.astore_n i, 1)) (hr : xv_stoa k (pc + 1) i.val L st S = some r) : xv_T p l e R s m args below meth c D t A as0 sb nL Q pc L st S r := by
  unfold xv_stoa at hr
  cases st with
  | nil => cases hr
  | cons v rest =>
    obtain ⟨b, hr⟩ := xv_bt hr
    obtain ⟨b1, b2⟩ := xv_and_t b
    refine xs_sto hk hr rfl (xv_ble b2) fun ls vst H locs as a b Z x lv hx hlv hi w => ?_
    simp only [Bool.or_eq_true] at b1
    rcases b1 with b1 | b1
    · obtain ⟨q, -, rfl⟩ := hx.2.2.1 (xv_beq b1)
      exact lv_astore_n C.1 C.2.1 hd rfl hlv hi rfl w
    · have e := hx.2.2.2.1 (xv_beq b1)
      subst e
      exact lv_astore_nN C.1 C.2.1 hd rfl hlv hi rfl w
theorem xs_iinc {i : Nat} {n : Int} (C : xv_Cx p s m args c cc own nL D t A sb scr) (hk : xv_G p l e R s m args below meth c D t A as0 sb nL Q k) (hd : decode cc pc = .ok (.iinc i n, 3)) (hr : (match xv_ld 0 L i with | some x => k (pc + 3) (xv_st1 L i (xv_int (x.2.1 + n) (x.2.2 + n))) st S | none => none) = some r) : xv_T p l e R s m args below meth c D t A as0 sb nL Q pc L st S r := by
  cases hl : xv_ld 0 L i with
  | none => rw [hl] at hr; cases hr
  | some v =>
    rw [hl] at hr
    obtain ⟨e1, e2⟩ := xv_ld_eq hl
    obtain ⟨h1, h2, h3⟩ := hk _ _ _ _ _ hr
    refine ⟨h1, h2, fun hc hz ls vst H locs ws hR => ?_⟩
    obtain ⟨⟨h0, lv, h4, h5⟩, hfa, hrest⟩ := hR
    obtain ⟨x, hm, hv⟩ := h5 i v e1 (Or.inl e2)
    obtain ⟨y, rfl, y1, y2⟩ := hv.1 e2
    obtain ⟨j, hj⟩ := List.mem_iff_getElem?.mp hm
    have hi : i < nL := by rw [← h0]; exact (List.getElem?_eq_some_iff.mp e1).1
    refine lv_iinc C.1 C.2.1 hd h4 hj rfl hi rfl (fun ls' hls' => ?_)
    refine h3 hc hz ls' vst H locs ws ⟨xv_lm.st1 hi ?_ h0 h5 hls', hfa, hrest⟩
    refine xv_hv.i (xv_int_ok (z := y.toInt + n) (by omega) (by omega) ?_)
    rw [Int32.toInt_add, Int32.toInt_ofInt]
    exact Int.add_bmod_bmod
end XV1
end
section
/-! numbers -/
section XV2
variable {p : Program} {l : Launch} {e : Env} {R : Room} {s : State} {m : MethodId} {args : Array Value} {below : List Frame} {meth : Method} {c : Code}
variable {cc : ByteArray} {own : String} {nL : Nat} {D : va_G} {t : Nat → ClassId} {A : Nat → Prop} {as0 : List Nat} {sb : Nat} {scr : List xv_V} {Q : xv_R → State → Prop} {k : xv_K} {pc : Nat} {L st : List xv_V} {S : xv_S} {r : xv_R}
theorem xs_go {pc' : Nat} {o : Option (List xv_V)} (hr : xv_go k pc' L S o = some r) : ∃ st', o = some st' ∧ k pc' L st' S = some r := by
  unfold xv_go at hr
  cases o with
  | none => cases hr
  | some v => exact ⟨v, rfl, hr⟩
theorem xv_two_eq {kd : Nat} {f : xv_V → xv_V → xv_V} {st' : List xv_V} (h : xv_two kd st f = some st') : ∃ (x y : xv_V) (q : List xv_V), st = y :: x :: q ∧ x.1 = kd ∧ y.1 = kd ∧ st' = f x y :: q := by
  unfold xv_two at h
  match st, h with
  | [], h => cases h
  | [_], h => cases h
  | y :: x :: q, h =>
    obtain ⟨b, e⟩ := xv_bt h
    obtain ⟨b1, b2⟩ := xv_and_t b
    cases e
    exact ⟨x, y, q, rfl, xv_beq b1, xv_beq b2, rfl⟩
theorem xs_ii {pc' : Nat} {f : xv_V → xv_V → xv_V} (op : Int32 → Int32 → Int32) (hk : xv_G p l e R s m args below meth c D t A as0 sb nL Q k) (hr : xv_go k pc' L S (xv_two 0 st f) = some r)
    (hop : ∀ (u v : xv_V) (x y : Int32), u.2.1 ≤ x.toInt → x.toInt ≤ u.2.2 → v.2.1 ≤ y.toInt → y.toInt ≤ v.2.2 → (f u v).1 = 0 ∧ (f u v).2.1 ≤ (op x y).toInt ∧ (op x y).toInt ≤ (f u v).2.2)
    (hs : ∀ (ls : Array Slot) (vst : List Value) (H : Heap) (locs : List Loc) (a b : Nat) (Z : State → Prop) (x y : Int32), W p l e R s m args below meth c H locs a b Z (F0 m pc' ls (.int (op x y) :: vst)) → W p l e R s m args below meth c H locs a b Z (F0 m pc ls (.int y :: .int x :: vst))) : xv_T p l e R s m args below meth c D t A as0 sb nL Q pc L st S r := by
  obtain ⟨st', e, hr⟩ := xs_go hr
  obtain ⟨u, v, q, rfl, hu, hv, rfl⟩ := xv_two_eq e
  refine xs_pure hk hr fun ls vst H locs as a b Z _ hst => ?_
  obtain ⟨y0, vst, rfl, hy, ht1_⟩ := hst.un
  obtain ⟨x0, vst, rfl, hx, ht2_⟩ := ht1_.un
  obtain ⟨y, rfl, y1, y2⟩ := hy.1 hv
  obtain ⟨x, rfl, x1, x2⟩ := hx.1 hu
  exact ⟨.int (op x y) :: vst, xv_sm.cons (xv_hv.i (hop u v x y x1 x2 y1 y2)) ht2_, hs ls vst H locs a b Z x y⟩
theorem xs_ll {pc' : Nat} {f : xv_V → xv_V → xv_V} (op : Int64 → Int64 → Int64) (hk : xv_G p l e R s m args below meth c D t A as0 sb nL Q k) (hr : xv_go k pc' L S (xv_two 1 st f) = some r)
    (hop : ∀ (u v : xv_V) (x y : Int64), u.2.1 ≤ x.toInt → x.toInt ≤ u.2.2 → v.2.1 ≤ y.toInt → y.toInt ≤ v.2.2 → (f u v).1 = 1 ∧ (f u v).2.1 ≤ (op x y).toInt ∧ (op x y).toInt ≤ (f u v).2.2)
    (hs : ∀ (ls : Array Slot) (vst : List Value) (H : Heap) (locs : List Loc) (a b : Nat) (Z : State → Prop) (x y : Int64), W p l e R s m args below meth c H locs a b Z (F0 m pc' ls (.long (op x y) :: vst)) → W p l e R s m args below meth c H locs a b Z (F0 m pc ls (.long y :: .long x :: vst))) : xv_T p l e R s m args below meth c D t A as0 sb nL Q pc L st S r := by
  obtain ⟨st', e, hr⟩ := xs_go hr
  obtain ⟨u, v, q, rfl, hu, hv, rfl⟩ := xv_two_eq e
  refine xs_pure hk hr fun ls vst H locs as a b Z _ hst => ?_
  obtain ⟨y0, vst, rfl, hy, ht1_⟩ := hst.un
  obtain ⟨x0, vst, rfl, hx, ht2_⟩ := ht1_.un
  obtain ⟨y, rfl, y1, y2⟩ := hy.2.1 hv
  obtain ⟨x, rfl, x1, x2⟩ := hx.2.1 hu
  exact ⟨.long (op x y) :: vst, xv_sm.cons (xv_hv.l (hop u v x y x1 x2 y1 y2)) ht2_, hs ls vst H locs a b Z x y⟩
theorem xs_iadd (C : xv_Cx p s m args c cc own nL D t A sb scr) (hk : xv_G p l e R s m args below meth c D t A as0 sb nL Q k) (hd : decode cc pc = .ok (.iadd, 1)) (hr : xv_go k (pc + 1) L S (xv_two 0 st xv_add) = some r) : xv_T p l e R s m args below meth c D t A as0 sb nL Q pc L st S r :=
  xs_ii (fun x y => x + y) hk hr (fun u v x y x1 x2 y1 y2 => xv_int_ok (z := x.toInt + y.toInt) (by omega) (by omega) (Int32.toInt_add x y)) fun _ _ _ _ _ _ _ _ _ w => lv_iadd C.1 C.2.1 hd w
theorem xs_isub (C : xv_Cx p s m args c cc own nL D t A sb scr) (hk : xv_G p l e R s m args below meth c D t A as0 sb nL Q k) (hd : decode cc pc = .ok (.isub, 1)) (hr : xv_go k (pc + 1) L S (xv_two 0 st xv_sub) = some r) : xv_T p l e R s m args below meth c D t A as0 sb nL Q pc L st S r :=
  xs_ii (fun x y => x - y) hk hr (fun u v x y x1 x2 y1 y2 => xv_int_ok (z := x.toInt - y.toInt) (by omega) (by omega) (Int32.toInt_sub x y)) fun _ _ _ _ _ _ _ _ _ w => lv_isub C.1 C.2.1 hd w
theorem xs_imul (C : xv_Cx p s m args c cc own nL D t A sb scr) (hk : xv_G p l e R s m args below meth c D t A as0 sb nL Q k) (hd : decode cc pc = .ok (.imul, 1)) (hr : xv_go k (pc + 1) L S (xv_two 0 st xv_mul) = some r) : xv_T p l e R s m args below meth c D t A as0 sb nL Q pc L st S r := by
  refine xs_ii (fun x y => x * y) hk hr (fun u v x y x1 x2 y1 y2 => ?_) fun _ _ _ _ _ _ _ _ _ w => lv_imul C.1 C.2.1 hd w
  unfold xv_mul
  cases hb : (xv_le 0 u.2.1 && xv_le 0 v.2.1) with
  | true =>
    obtain ⟨b1, b2⟩ := xv_and_t hb
    have b1 := xv_le_iff.mp b1
    have b2 := xv_le_iff.mp b2
    exact xv_int_ok (z := x.toInt * y.toInt) (Int.mul_le_mul x1 y1 b2 (by omega)) (Int.mul_le_mul x2 y2 (by omega) (by omega)) (Int32.toInt_mul x y)
  | false => exact ⟨rfl, (xv_i32 _).1, (xv_i32 _).2⟩
theorem xv_and_ok (x y : Int32) (h : 0 ≤ y.toInt) : 0 ≤ (x &&& y).toInt ∧ (x &&& y).toInt ≤ y.toInt := by
  have hy : y.toInt = (y.toBitVec.toNat : Int) := by
    show y.toBitVec.toInt = _
    have h' : 0 ≤ y.toBitVec.toInt := h
    rw [BitVec.toInt_eq_toNat_cond] at h' ⊢
    split
    · rfl
    · rename_i q
      rw [if_neg q] at h'
      have := y.toBitVec.isLt
      omega
  have hlt : y.toBitVec.toNat < 2 ^ 31 := by
    have := Int32.toInt_lt y
    rw [hy] at this
    omega
  have hle : (x.toBitVec &&& y.toBitVec).toNat ≤ y.toBitVec.toNat := by
    rw [BitVec.toNat_and]
    exact Nat.and_le_right
  have hz : (x &&& y).toInt = ((x.toBitVec &&& y.toBitVec).toNat : Int) := by
    show (x &&& y).toBitVec.toInt = _
    rw [Int32.toBitVec_and, BitVec.toInt_eq_toNat_cond, if_pos (by omega)]
  rw [hz, hy]
  omega
theorem xs_iand (C : xv_Cx p s m args c cc own nL D t A sb scr) (hk : xv_G p l e R s m args below meth c D t A as0 sb nL Q k) (hd : decode cc pc = .ok (.iand, 1)) (hr : xv_go k (pc + 1) L S (xv_two 0 st xv_and) = some r) : xv_T p l e R s m args below meth c D t A as0 sb nL Q pc L st S r := by
  refine xs_ii (fun x y => x &&& y) hk hr (fun u v x y x1 x2 y1 y2 => ?_) fun _ _ _ _ _ _ _ _ _ w => lv_iand C.1 C.2.1 hd w
  unfold xv_and
  cases hb : xv_le 0 v.2.1 with
  | true =>
    have b1 := xv_le_iff.mp hb
    have := xv_and_ok x y (by omega)
    exact ⟨rfl, this.1, by show _ ≤ v.2.2; omega⟩
  | false => exact ⟨rfl, (xv_i32 _).1, (xv_i32 _).2⟩
theorem xs_iushr (C : xv_Cx p s m args c cc own nL D t A sb scr) (hk : xv_G p l e R s m args below meth c D t A as0 sb nL Q k) (hd : decode cc pc = .ok (.iushr, 1)) (hr : xv_go k (pc + 1) L S (xv_two 0 st (fun _ _ => xv_ti)) = some r) : xv_T p l e R s m args below meth c D t A as0 sb nL Q pc L st S r :=
  xs_ii (fun x y => (x.toUInt32 >>> (y.toUInt32 &&& Int32.toUInt32 31)).toInt32) hk hr (fun u v x y x1 x2 y1 y2 => ⟨rfl, (xv_i32 _).1, (xv_i32 _).2⟩) fun _ _ _ _ _ _ _ _ _ w => lv_iushr C.1 C.2.1 hd rfl w
theorem xs_ishr (C : xv_Cx p s m args c cc own nL D t A sb scr) (hk : xv_G p l e R s m args below meth c D t A as0 sb nL Q k) (hd : decode cc pc = .ok (.ishr, 1)) (hr : xv_go k (pc + 1) L S (xv_two 0 st (fun _ _ => xv_ti)) = some r) : xv_T p l e R s m args below meth c D t A as0 sb nL Q pc L st S r :=
  xs_ii (fun x y => x >>> (y &&& 31)) hk hr (fun u v x y x1 x2 y1 y2 => ⟨rfl, (xv_i32 _).1, (xv_i32 _).2⟩) fun _ _ _ _ _ _ _ _ _ w => lv_ishr C.1 C.2.1 hd w
theorem xs_lsub (C : xv_Cx p s m args c cc own nL D t A sb scr) (hk : xv_G p l e R s m args below meth c D t A as0 sb nL Q k) (hd : decode cc pc = .ok (.lsub, 1)) (hr : xv_go k (pc + 1) L S (xv_two 1 st xv_lsub) = some r) : xv_T p l e R s m args below meth c D t A as0 sb nL Q pc L st S r :=
  xs_ll (fun x y => x - y) hk hr (fun u v x y x1 x2 y1 y2 => xv_lng_ok (z := x.toInt - y.toInt) (by omega) (by omega) (Int64.toInt_sub x y)) fun _ _ _ _ _ _ _ _ _ w => lv_lsub C.1 C.2.1 hd w
theorem xs_land (C : xv_Cx p s m args c cc own nL D t A sb scr) (hk : xv_G p l e R s m args below meth c D t A as0 sb nL Q k) (hd : decode cc pc = .ok (.land, 1)) (hr : xv_go k (pc + 1) L S (xv_two 1 st (fun _ _ => xv_tl)) = some r) : xv_T p l e R s m args below meth c D t A as0 sb nL Q pc L st S r :=
  xs_ll (fun x y => x &&& y) hk hr (fun u v x y x1 x2 y1 y2 => ⟨rfl, (xv_i64 _).1, (xv_i64 _).2⟩) fun _ _ _ _ _ _ _ _ _ w => lv_land C.1 C.2.1 hd w
theorem xs_lor (C : xv_Cx p s m args c cc own nL D t A sb scr) (hk : xv_G p l e R s m args below meth c D t A as0 sb nL Q k) (hd : decode cc pc = .ok (.lor, 1)) (hr : xv_go k (pc + 1) L S (xv_two 1 st (fun _ _ => xv_tl)) = some r) : xv_T p l e R s m args below meth c D t A as0 sb nL Q pc L st S r :=
  xs_ll (fun x y => x ||| y) hk hr (fun u v x y x1 x2 y1 y2 => ⟨rfl, (xv_i64 _).1, (xv_i64 _).2⟩) fun _ _ _ _ _ _ _ _ _ w => lv_lor C.1 C.2.1 hd w
theorem xs_lshl (C : xv_Cx p s m args c cc own nL D t A sb scr) (hk : xv_G p l e R s m args below meth c D t A as0 sb nL Q k) (hd : decode cc pc = .ok (.lshl, 1)) (hr : (match st with | y :: x :: q => bif Nat.beq y.1 0 && Nat.beq x.1 1 then k (pc + 1) L (xv_tl :: q) S else none | _ => none) = some r) : xv_T p l e R s m args below meth c D t A as0 sb nL Q pc L st S r := by
  match st, hr with
  | [], hr => cases hr
  | [_], hr => cases hr
  | v :: u :: q, hr =>
    obtain ⟨b, hr⟩ := xv_bt hr
    obtain ⟨b1, b2⟩ := xv_and_t b
    refine xs_pure hk hr fun ls vst H locs as a b Z _ hst => ?_
    obtain ⟨y0, vst, rfl, hy, ht1_⟩ := hst.un
    obtain ⟨x0, vst, rfl, hx, ht2_⟩ := ht1_.un
    obtain ⟨y, rfl, y1, y2⟩ := hy.1 (xv_beq b1)
    obtain ⟨x, rfl, x1, x2⟩ := hx.2.1 (xv_beq b2)
    exact ⟨.long (x <<< (y.toInt64 &&& 63)) :: vst, xv_sm.cons (xv_hv.l ⟨rfl, (xv_i64 _).1, (xv_i64 _).2⟩) ht2_, fun w => lv_lshl C.1 C.2.1 hd rfl w⟩
theorem xv_cmpl_ok (u v : xv_V) (x y : Int64) (x1 : u.2.1 ≤ x.toInt) (x2 : x.toInt ≤ u.2.2) (y1 : v.2.1 ≤ y.toInt) (y2 : y.toInt ≤ v.2.2) : (xv_cmpl u v).1 = 0 ∧ (xv_cmpl u v).2.1 ≤ (lg_cmp x y).toInt ∧ (lg_cmp x y).toInt ≤ (xv_cmpl u v).2.2 := by
  have hc : (y.toInt < x.toInt ∧ (lg_cmp x y).toInt = 1) ∨ (x.toInt = y.toInt ∧ (lg_cmp x y).toInt = 0) ∨ (x.toInt < y.toInt ∧ (lg_cmp x y).toInt = -1) := by
    unfold lg_cmp
    by_cases h1 : y < x
    · left; exact ⟨Int64.lt_iff_toInt_lt.mp h1, by simp [h1]⟩
    · by_cases h2 : x = y
      · right; left; subst h2; exact ⟨rfl, by simp⟩
      · right; right
        refine ⟨?_, by simp [h1, h2]⟩
        have h3 : ¬ y.toInt < x.toInt := fun q => h1 (Int64.lt_iff_toInt_lt.mpr q)
        have h4 : x.toInt ≠ y.toInt := fun q => h2 (Int64.toInt_inj.mp q)
        omega
  refine ⟨rfl, ?_, ?_⟩
  · show (bif xv_le (v.2.2 + 1) u.2.1 then (1 : Int) else bif xv_le v.2.2 u.2.1 then 0 else -1) ≤ _
    cases hb : xv_le (v.2.2 + 1) u.2.1 with
    | true => have := xv_le_iff.mp hb; simp only [cond_true]; omega
    | false =>
      simp only [cond_false]
      cases hb2 : xv_le v.2.2 u.2.1 with
      | true => have := xv_le_iff.mp hb2; simp only [cond_true]; omega
      | false => simp only [cond_false]; omega
  · show _ ≤ (bif xv_le (u.2.2 + 1) v.2.1 then (-1 : Int) else bif xv_le u.2.2 v.2.1 then 0 else 1)
    cases hb : xv_le (u.2.2 + 1) v.2.1 with
    | true => have := xv_le_iff.mp hb; simp only [cond_true]; omega
    | false =>
      simp only [cond_false]
      cases hb2 : xv_le u.2.2 v.2.1 with
      | true => have := xv_le_iff.mp hb2; simp only [cond_true]; omega
      | false => simp only [cond_false]; omega
theorem xs_lcmp (C : xv_Cx p s m args c cc own nL D t A sb scr) (hk : xv_G p l e R s m args below meth c D t A as0 sb nL Q k) (hd : decode cc pc = .ok (.lcmp, 1)) (hr : xv_go k (pc + 1) L S (xv_two 1 st xv_cmpl) = some r) : xv_T p l e R s m args below meth c D t A as0 sb nL Q pc L st S r := by
  obtain ⟨st', e, hr⟩ := xs_go hr
  obtain ⟨u, v, q, rfl, hu, hv, rfl⟩ := xv_two_eq e
  refine xs_pure hk hr fun ls vst H locs as a b Z _ hst => ?_
  obtain ⟨y0, vst, rfl, hy, ht1_⟩ := hst.un
  obtain ⟨x0, vst, rfl, hx, ht2_⟩ := ht1_.un
  obtain ⟨y, rfl, y1, y2⟩ := hy.2.1 hv
  obtain ⟨x, rfl, x1, x2⟩ := hx.2.1 hu
  exact ⟨.int (lg_cmp x y) :: vst, xv_sm.cons (xv_hv.i (xv_cmpl_ok u v x y x1 x2 y1 y2)) ht2_, fun w => W.lcmp C.1 C.2.1 hd w⟩
theorem xv_one_eq {kd : Nat} {f : xv_V → xv_V} {st' : List xv_V} (h : xv_one kd st f = some st') : ∃ (x : xv_V) (q : List xv_V), st = x :: q ∧ x.1 = kd ∧ st' = f x :: q := by
  unfold xv_one at h
  match st, h with
  | [], h => cases h
  | x :: q, h =>
    obtain ⟨b, e⟩ := xv_bt h
    cases e
    exact ⟨x, q, rfl, xv_beq b, rfl⟩
theorem xs_i2l (C : xv_Cx p s m args c cc own nL D t A sb scr) (hk : xv_G p l e R s m args below meth c D t A as0 sb nL Q k) (hd : decode cc pc = .ok (.i2l, 1)) (hr : xv_go k (pc + 1) L S (xv_one 0 st (fun x => (1, x.2.1, x.2.2))) = some r) : xv_T p l e R s m args below meth c D t A as0 sb nL Q pc L st S r := by
  obtain ⟨st', e, hr⟩ := xs_go hr
  obtain ⟨u, q, rfl, hu, rfl⟩ := xv_one_eq e
  refine xs_pure hk hr fun ls vst H locs as a b Z _ hst => ?_
  obtain ⟨x0, vst, rfl, hx, ht1_⟩ := hst.un
  obtain ⟨x, rfl, x1, x2⟩ := hx.1 hu
  exact ⟨.long x.toInt64 :: vst, xv_sm.cons (xv_hv.l ⟨rfl, by rw [Int32.toInt_toInt64]; exact x1, by rw [Int32.toInt_toInt64]; exact x2⟩) ht1_, fun w => lv_i2l C.1 C.2.1 hd rfl w⟩
theorem xs_i2b (C : xv_Cx p s m args c cc own nL D t A sb scr) (hk : xv_G p l e R s m args below meth c D t A as0 sb nL Q k) (hd : decode cc pc = .ok (.i2b, 1)) (hr : xv_go k (pc + 1) L S (xv_one 0 st (fun _ => (0, -128, 127))) = some r) : xv_T p l e R s m args below meth c D t A as0 sb nL Q pc L st S r := by
  obtain ⟨st', e, hr⟩ := xs_go hr
  obtain ⟨u, q, rfl, hu, rfl⟩ := xv_one_eq e
  refine xs_pure hk hr fun ls vst H locs as a b Z _ hst => ?_
  obtain ⟨x0, vst, rfl, hx, ht1_⟩ := hst.un
  obtain ⟨x, rfl, x1, x2⟩ := hx.1 hu
  have h1 := Int8.le_toInt x.toInt8
  have h2 := Int8.toInt_lt x.toInt8
  exact ⟨.int x.toInt8.toInt32 :: vst, xv_sm.cons (xv_hv.i ⟨rfl, by rw [Int8.toInt_toInt32]; show -128 ≤ _; omega, by rw [Int8.toInt_toInt32]; show _ ≤ 127; omega⟩) ht1_, fun w => lv_i2b C.1 C.2.1 hd rfl w⟩
theorem xs_dup (C : xv_Cx p s m args c cc own nL D t A sb scr) (hk : xv_G p l e R s m args below meth c D t A as0 sb nL Q k) (hd : decode cc pc = .ok (.dup, 1)) (hr : (match st with | x :: q => bif Nat.beq x.1 0 || (Nat.beq x.1 2 || Nat.beq x.1 5) then k (pc + 1) L (x :: x :: q) S else none | _ => none) = some r) : xv_T p l e R s m args below meth c D t A as0 sb nL Q pc L st S r := by
  match st, hr with
  | [], hr => cases hr
  | u :: q, hr =>
    obtain ⟨b, hr⟩ := xv_bt hr
    simp only [Bool.or_eq_true] at b
    refine xs_pure hk hr fun ls vst H locs as a b' Z _ hst => ?_
    obtain ⟨x, vst, rfl, hx, ht1_⟩ := hst.un
    have hc : x.category = 1 := by
      rcases b with b | b | b
      · obtain ⟨i, rfl, -⟩ := hx.1 (xv_beq b); rfl
      · obtain ⟨i, -, rfl⟩ := hx.2.2.1 (xv_beq b); rfl
      · rw [hx.2.2.2.2 (xv_beq b)]; rfl
    exact ⟨x :: x :: vst, xv_sm.cons hx (xv_sm.cons hx ht1_), fun w => lv_dup C.1 C.2.1 hd hc w⟩
theorem xv_tgt_eq {off : Int} (h : xv_le 0 (Int.ofNat pc + off) = true) : (pc : Int) + off = (xv_tgt pc off : Int) := by
  unfold xv_tgt
  rw [Int.toNat_of_nonneg (xv_le_iff.mp h)]
  rfl
theorem xs_goto {off : Int} (C : xv_Cx p s m args c cc own nL D t A sb scr) (hk : xv_G p l e R s m args below meth c D t A as0 sb nL Q k) (hd : decode cc pc = .ok (.goto off, 3)) (hr : (bif xv_le 0 (Int.ofNat pc + off) then k (xv_tgt pc off) L st S else none) = some r) : xv_T p l e R s m args below meth c D t A as0 sb nL Q pc L st S r := by
  obtain ⟨b, hr⟩ := xv_bt hr
  exact xs_pure hk hr fun ls vst H locs as a b' Z _ hst => ⟨vst, hst, fun w => lv_goto C.1 C.2.1 hd (xv_tgt_eq b) w⟩
def xv_rel (q : ClassFile.Cond) (x y : Int32) : Prop := match q with
  | .eq => x = y
  | .ne => ¬ x = y
  | .lt => x < y
  | .ge => y ≤ x
  | .gt => y < x
  | .le => x ≤ y
theorem xv_lt3_ok {u v : xv_V} {x y : Int32} {b : Bool} (x1 : u.2.1 ≤ x.toInt) (x2 : x.toInt ≤ u.2.2) (y1 : v.2.1 ≤ y.toInt) (y2 : y.toInt ≤ v.2.2) (h : xv_lt3 u v = some b) : b = true ↔ x < y := by
  unfold xv_lt3 at h
  rw [Int32.lt_iff_toInt_lt]
  cases hb : xv_le (u.2.2 + 1) v.2.1 with
  | true => rw [hb] at h; cases h; have := xv_le_iff.mp hb; simp; omega
  | false =>
    rw [hb] at h
    cases hb2 : xv_le v.2.2 u.2.1 with
    | true => rw [hb2] at h; cases h; have := xv_le_iff.mp hb2; simp; omega
    | false => rw [hb2] at h; cases h
theorem xv_eq3_ok {u v : xv_V} {x y : Int32} {b : Bool} (x1 : u.2.1 ≤ x.toInt) (x2 : x.toInt ≤ u.2.2) (y1 : v.2.1 ≤ y.toInt) (y2 : y.toInt ≤ v.2.2) (h : xv_eq3 u v = some b) : b = true ↔ x = y := by
  unfold xv_eq3 at h
  rw [← Int32.toInt_inj]
  cases hb : xv_le (u.2.2 + 1) v.2.1 with
  | true => rw [hb] at h; cases h; have := xv_le_iff.mp hb; simp; omega
  | false =>
    rw [hb] at h
    cases hb2 : xv_le (v.2.2 + 1) u.2.1 with
    | true => rw [hb2] at h; cases h; have := xv_le_iff.mp hb2; simp; omega
    | false =>
      rw [hb2] at h
      cases hb3 : (xv_le u.2.2 v.2.1 && xv_le v.2.2 u.2.1) with
      | true =>
        rw [hb3] at h; cases h
        obtain ⟨q1, q2⟩ := xv_and_t hb3
        have := xv_le_iff.mp q1
        have := xv_le_iff.mp q2
        simp; omega
      | false => rw [hb3] at h; cases h
theorem xv_not_eq {o : Option Bool} {b : Bool} (h : xv_not o = some b) : o = some (!b) := by
  unfold xv_not at h
  cases o with
  | none => cases h
  | some q => cases h; simp
theorem xv_cond_ok {q : ClassFile.Cond} {u v : xv_V} {x y : Int32} {b : Bool} (x1 : u.2.1 ≤ x.toInt) (x2 : x.toInt ≤ u.2.2) (y1 : v.2.1 ≤ y.toInt) (y2 : y.toInt ≤ v.2.2) (h : xv_cond q u v = some b) : b = true ↔ xv_rel q x y := by
  cases q with
  | eq => exact xv_eq3_ok x1 x2 y1 y2 h
  | ne =>
    have := xv_eq3_ok x1 x2 y1 y2 (xv_not_eq h)
    show b = true ↔ ¬ x = y
    rw [← this]; cases b <;> simp
  | lt => exact xv_lt3_ok x1 x2 y1 y2 h
  | ge =>
    have := xv_lt3_ok x1 x2 y1 y2 (xv_not_eq h)
    show b = true ↔ y ≤ x
    rw [← Int32.not_lt, ← this]; cases b <;> simp
  | gt => exact xv_lt3_ok y1 y2 x1 x2 h
  | le =>
    have := xv_lt3_ok y1 y2 x1 x2 (xv_not_eq h)
    show b = true ↔ x ≤ y
    rw [← Int32.not_lt, ← this]; cases b <;> simp
theorem xs_br {o : Option Bool} {off : Int} (hr : xv_br k o pc off L st S = some r) : xv_le 0 (Int.ofNat pc + off) = true ∧ ((o = some true ∧ k (xv_tgt pc off) L st S = some r) ∨ (o = some false ∧ k (pc + 3) L st S = some r)) := by
  unfold xv_br at hr
  obtain ⟨b, hr⟩ := xv_bt hr
  refine ⟨b, ?_⟩
  match o, hr with
  | none, hr => cases hr
  | some true, hr => exact Or.inl ⟨rfl, hr⟩
  | some false, hr => exact Or.inr ⟨rfl, hr⟩
theorem xs_if_icmp {q : ClassFile.Cond} {off : Int} (C : xv_Cx p s m args c cc own nL D t A sb scr) (hk : xv_G p l e R s m args below meth c D t A as0 sb nL Q k) (hd : decode cc pc = .ok (.if_icmp q off, 3)) (hr : (match st with | y :: x :: z => bif Nat.beq x.1 0 && Nat.beq y.1 0 then xv_br k (xv_cond q x y) pc off L z S else none | _ => none) = some r) : xv_T p l e R s m args below meth c D t A as0 sb nL Q pc L st S r := by
  match st, hr with
  | [], hr => cases hr
  | [_], hr => cases hr
  | v :: u :: z, hr =>
    obtain ⟨b, hr⟩ := xv_bt hr
    obtain ⟨b1, b2⟩ := xv_and_t b
    obtain ⟨ht, hr⟩ := xs_br hr
    rcases hr with ⟨ho, hr⟩ | ⟨ho, hr⟩
    · refine xs_pure hk hr fun ls vst H locs as a b Z _ hst => ?_
      obtain ⟨y0, vst, rfl, hy, ht1_⟩ := hst.un
      obtain ⟨x0, vst, rfl, hx, ht2_⟩ := ht1_.un
      obtain ⟨y, rfl, y1, y2⟩ := hy.1 (xv_beq b2)
      obtain ⟨x, rfl, x1, x2⟩ := hx.1 (xv_beq b1)
      refine ⟨vst, ht2_, fun w => ?_⟩
      have key := (xv_cond_ok x1 x2 y1 y2 ho).mp rfl
      cases q with
      | eq => exact lv_icmp_eq C.1 C.2.1 hd (xv_tgt_eq ht) (fun _ => w) (fun n => absurd key n)
      | ne => exact lv_icmp_ne C.1 C.2.1 hd (xv_tgt_eq ht) (fun _ => w) (fun n => absurd n key)
      | lt => exact lv_icmp_lt C.1 C.2.1 hd (xv_tgt_eq ht) (fun _ => w) (fun n => absurd key n)
      | ge => exact lv_icmp_ge C.1 C.2.1 hd (xv_tgt_eq ht) (fun _ => w) (fun n => absurd key n)
      | gt => exact lv_icmp_gt C.1 C.2.1 hd (xv_tgt_eq ht) (fun _ => w) (fun n => absurd key n)
      | le => exact lv_icmp_le C.1 C.2.1 hd (xv_tgt_eq ht) (fun _ => w) (fun n => absurd key n)
    · refine xs_pure hk hr fun ls vst H locs as a b Z _ hst => ?_
      obtain ⟨y0, vst, rfl, hy, ht1_⟩ := hst.un
      obtain ⟨x0, vst, rfl, hx, ht2_⟩ := ht1_.un
      obtain ⟨y, rfl, y1, y2⟩ := hy.1 (xv_beq b2)
      obtain ⟨x, rfl, x1, x2⟩ := hx.1 (xv_beq b1)
      refine ⟨vst, ht2_, fun w => ?_⟩
      have key : ¬ xv_rel q x y := fun z => by have := (xv_cond_ok x1 x2 y1 y2 ho).mpr z; cases this
      cases q with
      | eq => exact lv_icmp_eq C.1 C.2.1 hd (xv_tgt_eq ht) (fun n => absurd n key) (fun _ => w)
      | ne => exact lv_icmp_ne C.1 C.2.1 hd (xv_tgt_eq ht) (fun n => absurd n key) (fun _ => w)
      | lt => exact lv_icmp_lt C.1 C.2.1 hd (xv_tgt_eq ht) (fun n => absurd n key) (fun _ => w)
      | ge => exact lv_icmp_ge C.1 C.2.1 hd (xv_tgt_eq ht) (fun n => absurd n key) (fun _ => w)
      | gt => exact lv_icmp_gt C.1 C.2.1 hd (xv_tgt_eq ht) (fun n => absurd n key) (fun _ => w)
      | le => exact lv_icmp_le C.1 C.2.1 hd (xv_tgt_eq ht) (fun n => absurd n key) (fun _ => w)
theorem xs_ifCond {q : ClassFile.Cond} {off : Int} (C : xv_Cx p s m args c cc own nL D t A sb scr) (hk : xv_G p l e R s m args below meth c D t A as0 sb nL Q k) (hd : decode cc pc = .ok (.ifCond q off, 3)) (hr : (match st with | x :: z => bif Nat.beq x.1 0 then xv_br k (xv_cond q x (0, 0, 0)) pc off L z S else none | _ => none) = some r) : xv_T p l e R s m args below meth c D t A as0 sb nL Q pc L st S r := by
  match st, hr with
  | [], hr => cases hr
  | u :: z, hr =>
    obtain ⟨b1, hr⟩ := xv_bt hr
    obtain ⟨ht, hr⟩ := xs_br hr
    rcases hr with ⟨ho, hr⟩ | ⟨ho, hr⟩
    · refine xs_pure hk hr fun ls vst H locs as a b Z _ hst => ?_
      obtain ⟨x0, vst, rfl, hx, ht1_⟩ := hst.un
      obtain ⟨x, rfl, x1, x2⟩ := hx.1 (xv_beq b1)
      refine ⟨vst, ht1_, fun w => ?_⟩
      have key := (xv_cond_ok (y := 0) x1 x2 (by decide) (by decide) ho).mp rfl
      cases q with
      | eq => exact lv_if_eq C.1 C.2.1 hd (xv_tgt_eq ht) (fun _ => w) (fun n => absurd key n)
      | ne => exact lv_if_ne C.1 C.2.1 hd (xv_tgt_eq ht) (fun _ => w) (fun n => absurd n key)
      | lt => exact lv_if_lt C.1 C.2.1 hd (xv_tgt_eq ht) (fun _ => w) (fun n => absurd key n)
      | ge => exact lv_if_ge C.1 C.2.1 hd (xv_tgt_eq ht) (fun _ => w) (fun n => absurd key n)
      | gt => exact lv_if_gt C.1 C.2.1 hd (xv_tgt_eq ht) (fun _ => w) (fun n => absurd key n)
      | le => exact lv_if_le C.1 C.2.1 hd (xv_tgt_eq ht) (fun _ => w) (fun n => absurd key n)
    · refine xs_pure hk hr fun ls vst H locs as a b Z _ hst => ?_
      obtain ⟨x0, vst, rfl, hx, ht1_⟩ := hst.un
      obtain ⟨x, rfl, x1, x2⟩ := hx.1 (xv_beq b1)
      refine ⟨vst, ht1_, fun w => ?_⟩
      have key : ¬ xv_rel q x 0 := fun z => by have := (xv_cond_ok (y := 0) x1 x2 (by decide) (by decide) ho).mpr z; cases this
      cases q with
      | eq => exact lv_if_eq C.1 C.2.1 hd (xv_tgt_eq ht) (fun n => absurd n key) (fun _ => w)
      | ne => exact lv_if_ne C.1 C.2.1 hd (xv_tgt_eq ht) (fun n => absurd n key) (fun _ => w)
      | lt => exact lv_if_lt C.1 C.2.1 hd (xv_tgt_eq ht) (fun n => absurd n key) (fun _ => w)
      | ge => exact lv_if_ge C.1 C.2.1 hd (xv_tgt_eq ht) (fun n => absurd n key) (fun _ => w)
      | gt => exact lv_if_gt C.1 C.2.1 hd (xv_tgt_eq ht) (fun n => absurd n key) (fun _ => w)
      | le => exact lv_if_le C.1 C.2.1 hd (xv_tgt_eq ht) (fun n => absurd n key) (fun _ => w)
theorem xs_ifnonnull {off : Int} (C : xv_Cx p s m args c cc own nL D t A sb scr) (hk : xv_G p l e R s m args below meth c D t A as0 sb nL Q k) (hd : decode cc pc = .ok (.ifnonnull off, 3)) (hr : (match st with | x :: z => bif Nat.beq x.1 3 then k (pc + 3) L z S else bif Nat.beq x.1 2 && xv_le 0 (Int.ofNat pc + off) then k (xv_tgt pc off) L z S else none | _ => none) = some r) : xv_T p l e R s m args below meth c D t A as0 sb nL Q pc L st S r := by
  match st, hr with
  | [], hr => cases hr
  | u :: z, hr =>
    dsimp only at hr
    cases hb : Nat.beq u.1 3 with
    | true =>
      rw [hb] at hr
      refine xs_pure hk hr fun ls vst H locs as a b Z _ hst => ?_
      obtain ⟨x0, vst, rfl, hx, ht1_⟩ := hst.un
      have e := hx.2.2.2.1 (xv_beq hb)
      subst e
      exact ⟨vst, ht1_, fun w => lv_ifnonnullN C.1 C.2.1 hd w⟩
    | false =>
      rw [hb] at hr
      obtain ⟨b, hr⟩ := xv_bt hr
      obtain ⟨b1, b2⟩ := xv_and_t b
      refine xs_pure hk hr fun ls vst H locs as a b Z _ hst => ?_
      obtain ⟨x0, vst, rfl, hx, ht1_⟩ := hst.un
      obtain ⟨q, -, rfl⟩ := hx.2.2.1 (xv_beq b1)
      exact ⟨vst, ht1_, fun w => lv_ifnonnull C.1 C.2.1 hd (xv_tgt_eq b2) w⟩
theorem xs_tableswitch {d lo hi : Int} {offs : Array Int} {len : Nat} (C : xv_Cx p s m args c cc own nL D t A sb scr) (hk : xv_G p l e R s m args below meth c D t A as0 sb nL Q k) (hd : decode cc pc = .ok (.tableswitch d lo hi offs, len)) (hr : (match st with
    | x :: z => bif Nat.beq x.1 0 then
        (bif xv_le (x.2.2 + 1) lo || xv_le (hi + 1) x.2.1 then (bif xv_le 0 (Int.ofNat pc + d) then k (xv_tgt pc d) L z S else none)
        else bif xv_le lo x.2.1 && (xv_le x.2.2 hi && xv_le x.2.2 x.2.1) then (match xv_nth offs.toList (x.2.1 - lo).toNat with
          | some off => bif xv_le 0 (Int.ofNat pc + off) then k (xv_tgt pc off) L z S else none
          | none => none) else none) else none
    | _ => none) = some r) : xv_T p l e R s m args below meth c D t A as0 sb nL Q pc L st S r := by
  match st, hr with
  | [], hr => cases hr
  | u :: z, hr =>
    obtain ⟨b, hr⟩ := xv_bt hr
    cases hb : (xv_le (u.2.2 + 1) lo || xv_le (hi + 1) u.2.1) with
    | true =>
      rw [hb] at hr
      obtain ⟨b2, hr⟩ := xv_bt hr
      refine xs_pure hk hr fun ls vst H locs as a b' Z _ hst => ?_
      obtain ⟨x0, vst, rfl, hx, ht1_⟩ := hst.un
      obtain ⟨x, rfl, x1, x2⟩ := hx.1 (xv_beq b)
      refine ⟨vst, ht1_, fun w => lv_tableOut C.1 C.2.1 hd ?_ (xv_tgt_eq b2) w⟩
      simp only [Bool.or_eq_true, xv_le_iff] at hb
      omega
    | false =>
      rw [hb] at hr
      obtain ⟨b2, hr⟩ := xv_bt hr
      obtain ⟨b3, b4⟩ := xv_and_t b2
      obtain ⟨b4, b5⟩ := xv_and_t b4
      have b3 := xv_le_iff.mp b3
      have b4 := xv_le_iff.mp b4
      have b5 := xv_le_iff.mp b5
      cases hn : xv_nth offs.toList (u.2.1 - lo).toNat with
      | none => rw [hn] at hr; cases hr
      | some off =>
        rw [hn] at hr
        obtain ⟨b6, hr⟩ := xv_bt hr
        refine xs_pure hk hr fun ls vst H locs as a b' Z _ hst => ?_
        obtain ⟨x0, vst, rfl, hx, ht1_⟩ := hst.un
        obtain ⟨x, rfl, x1, x2⟩ := hx.1 (xv_beq b)
        have e : x.toInt = u.2.1 := by omega
        refine ⟨vst, ht1_, fun w => lv_tableIn C.1 C.2.1 hd (by omega) (by omega) (off := off) ?_ (xv_tgt_eq b6) w⟩
        rw [e, ← Array.getElem?_toList, ← xv_nth_eq]
        exact hn
theorem xs_ldcw {index : Nat} {v : Int} (C : xv_Cx p s m args c cc own nL D t A sb scr) (hk : xv_G p l e R s m args below meth c D t A as0 sb nL Q k) (hd : decode cc pc = .ok (.ldc_w index, 3)) (hw : Jvm.Cond.constant own index (Int32.ofInt v) ∈ xv_tb) (hr : k (pc + 3) L (xv_int v v :: st) S = some r) : xv_T p l e R s m args below meth c D t A as0 sb nL Q pc L st S r :=
  xs_push hk hr (x := .int (Int32.ofInt v)) (fun _ => xv_hv.i (xv_int_ok (Int.le_refl v) (Int.le_refl v) (Int32.toInt_ofInt ..))) fun _ _ _ _ _ _ _ w => lv_ldcw C.1 C.2.1 C.2.2.2.1 (C.2.2.2.2.1 _ hw) hd w
theorem xs_ldc2 {index : Nat} {v : Int} (C : xv_Cx p s m args c cc own nL D t A sb scr) (hk : xv_G p l e R s m args below meth c D t A as0 sb nL Q k) (hd : decode cc pc = .ok (.ldc2_w index, 3)) (hw : Jvm.Cond.constantLong own index (Int64.ofInt v) ∈ xv_tb) (hr : k (pc + 3) L (xv_lng v v :: st) S = some r) : xv_T p l e R s m args below meth c D t A as0 sb nL Q pc L st S r :=
  xs_push hk hr (x := .long (Int64.ofInt v)) (fun _ => xv_hv.l (xv_lng_ok (Int.le_refl v) (Int.le_refl v) (Int64.toInt_ofInt ..))) fun _ _ _ _ _ _ _ w => lv_ldc2 C.1 C.2.1 C.2.2.2.1 (C.2.2.2.2.1 _ hw) hd w
end XV2
end
section
/-! cells -/
theorem xv_cls : ∀ (a : Nat) (q : vw_C), vwCl[a]? = some q → (∀ w ∈ u_ws q.1 q.2.1 q.2.2, w ∈ xv_tb) ∧ (∃ ty0 : Nat → FieldType, ∀ k, k < q.2.2 → parseFieldDescriptor (q.2.1 k).2.2.1 = some (ty0 k)) ∧ (∀ a, a < q.2.2 → ∀ b, b < q.2.2 → a ≠ b → (q.2.1 a).2.1 ≠ (q.2.1 b).2.1) ∧ Cond.instantiable q.1 q.2.2 ∈ xv_tb ∧ Cond.initialized q.1 ∈ xv_tb
  | 0, q, h => by cases (show some (RX0, TX0, 6) = some q from h); exact ⟨xv_in0, ⟨tyX0, tyX0_ok⟩, nmX0, xv_ia0, xv_it0⟩
  | 1, q, h => by cases (show some (RX1, TX1, 6) = some q from h); exact ⟨xv_in1, ⟨tyX1, tyX1_ok⟩, nmX1, xv_ia1, xv_it1⟩
  | 2, q, h => by cases (show some (RX2, TX2, 13) = some q from h); exact ⟨xv_in2, ⟨tyX2, tyX2_ok⟩, nmX2, xv_ia2, xv_it2⟩
  | 3, q, h => by cases (show some (RX3, TX3, 3) = some q from h); exact ⟨xv_in3, ⟨tyX3, tyX3_ok⟩, nmX3, xv_ia3, xv_it3⟩
  | 4, q, h => by cases (show some (RX4, TX4, 2) = some q from h); exact ⟨xv_in4, ⟨tyX4, tyX4_ok⟩, nmX4, xv_ia4, xv_it4⟩
  | 5, q, h => by cases (show some (RX5, TX5, 2) = some q from h); exact ⟨xv_in5, ⟨tyX5, tyX5_ok⟩, nmX5, xv_ia5, xv_it5⟩
  | 6, q, h => by cases (show some (RX6, TX6, 6) = some q from h); exact ⟨xv_in6, ⟨tyX6, tyX6_ok⟩, nmX6, xv_ia6, xv_it6⟩
  | 7, q, h => by cases (show some (RX7, TX7, 9) = some q from h); exact ⟨xv_in7, ⟨tyX7, tyX7_ok⟩, nmX7, xv_ia7, xv_it7⟩
  | 8, q, h => by cases (show some (RX8, TX8, 3) = some q from h); exact ⟨xv_in8, ⟨tyX8, tyX8_ok⟩, nmX8, xv_ia8, xv_it8⟩
  | 9, q, h => by cases (show some (RX9, TX9, 6) = some q from h); exact ⟨xv_in9, ⟨tyX9, tyX9_ok⟩, nmX9, xv_ia9, xv_it9⟩
  | 10, q, h => by cases (show some (RX10, TX10, 7) = some q from h); exact ⟨xv_in10, ⟨tyX10, tyX10_ok⟩, nmX10, xv_ia10, xv_it10⟩
  | 11, q, h => by cases (show some (RX11, TX11, 13) = some q from h); exact ⟨xv_in11, ⟨tyX11, tyX11_ok⟩, nmX11, xv_ia11, xv_it11⟩
  | 12, q, h => by cases (show some (RX12, TX12, 42) = some q from h); exact ⟨xv_in12, ⟨tyX12, tyX12_ok⟩, nmX12, xv_ia12, xv_it12⟩
  | n + 13, q, h => by simp [vwCl] at h
theorem xv_cell_eq {h : xv_A} {o : xv_V} {c : xv_C} (e : xv_cell h o = some c) : o.1 = 2 ∧ xv_get 14 h o.2.1.toNat = some c := by
  unfold xv_cell at e
  obtain ⟨b, e⟩ := xv_bt e
  exact ⟨xv_beq (xv_and_t b).1, e⟩
theorem xv_H.cell {t : Nat → ClassId} {sb : Nat} {h : xv_A} {n : Nat} {ws : va_W} (hH : xv_H t sb h n ws) {o : xv_V} {k : xv_C} {x0 : Value} (e : xv_cell h o = some k) (h9 : k.1 ≠ 99) (hv : xv_hv sb (ws.map Prod.fst) o x0) : ∃ (a : Nat) (x : va_E), x0 = .ref a ∧ ws[o.2.1.toNat]? = some (a, x) ∧ xv_hc t sb (ws.map Prod.fst) k x := by
  obtain ⟨e1, e2⟩ := xv_cell_eq e
  obtain ⟨a, x, h1, h2⟩ := hH.2 _ _ e2 h9
  obtain ⟨a', h3, rfl⟩ := hv.2.2.1 e1
  rw [List.getElem?_map, h1] at h3
  cases h3
  exact ⟨a, x, rfl, h1, h2⟩
theorem xv_isOne_eq {i : xv_V} (h : xv_isOne i = true) : i.2.2 ≤ i.2.1 ∧ 0 ≤ i.2.1 := by
  obtain ⟨a, b⟩ := xv_and_t h
  exact ⟨xv_le_iff.mp a, xv_le_iff.mp b⟩
theorem xv_read_eq {c : xv_C} {i v : xv_V} (h : xv_read c i = some v) : i.2.2 ≤ i.2.1 ∧ 0 ≤ i.2.1 ∧ i.2.1.toNat < c.2.1 ∧ xv_get 8 c.2.2.2 (i.2.1.toNat % c.2.2.1) = some v := by
  unfold xv_read at h
  obtain ⟨b, e⟩ := xv_bt h
  obtain ⟨b1, b2⟩ := xv_and_t b
  obtain ⟨q1, q2⟩ := xv_isOne_eq b1
  exact ⟨q1, q2, xv_ble b2, e⟩
theorem xv_write_ok {sb : Nat} {as : List Nat} {c c' : xv_C} {i v : xv_V} {g g' : Nat → Value} (h : xv_write c i v = some c') (hold : ∀ j : Nat, j < c.2.1 → ∀ u : xv_V, xv_get 8 c.2.2.2 (j % c.2.2.1) = some u → xv_hv sb as u (g j))
    (hnew : xv_hv sb as v (g' i.2.1.toNat)) (hsame : ∀ j : Nat, j ≠ i.2.1.toNat → g' j = g j) : i.2.2 ≤ i.2.1 ∧ 0 ≤ i.2.1 ∧ i.2.1.toNat < c.2.1 ∧ c'.1 = c.1 ∧ c'.2.1 = c.2.1 ∧ ∀ j : Nat, j < c.2.1 → ∀ u : xv_V, xv_get 8 c'.2.2.2 (j % c'.2.2.1) = some u → xv_hv sb as u (g' j) := by
  unfold xv_write at h
  obtain ⟨b, h⟩ := xv_bt h
  obtain ⟨b1, b2⟩ := xv_and_t b
  obtain ⟨q1, q2⟩ := xv_isOne_eq b1
  have q3 := xv_ble b2
  cases hb : Nat.beq c.2.1 c.2.2.1 with
  | true =>
    rw [hb] at h
    have hw := xv_beq hb
    cases h
    refine ⟨q1, q2, q3, rfl, rfl, fun j hj u hu => ?_⟩
    dsimp only at hu
    rw [← hw, Nat.mod_eq_of_lt hj] at hu
    rcases xv_get_upd hu with ⟨rfl, rfl⟩ | ⟨hne, hu⟩
    · exact hnew
    · rw [hsame j hne]
      exact hold j hj u (by rw [← hw, Nat.mod_eq_of_lt hj]; exact hu)
  | false =>
    rw [hb] at h
    simp only [cond_false] at h
    cases hg : xv_get 8 c.2.2.2 (i.2.1.toNat % c.2.2.1) with
    | none => rw [hg] at h; cases h
    | some u0 =>
      rw [hg] at h
      obtain ⟨b3, h⟩ := xv_bt h
      obtain ⟨b3, b4⟩ := xv_and_t b3
      have b3 := xv_beq b3
      have b4 := xv_ble b4
      cases h
      refine ⟨q1, q2, q3, rfl, rfl, fun j hj u hu => ?_⟩
      dsimp only at hu
      rcases xv_get_upd hu with ⟨ej, rfl⟩ | ⟨hne, hu⟩
      · by_cases hj2 : j = i.2.1.toNat
        · subst hj2
          exact xv_hv.join b3 b4 (Or.inr hnew)
        · rw [hsame j hj2]
          exact xv_hv.join b3 b4 (Or.inl (hold j hj u0 (by rw [ej]; exact hg)))
      · rw [hsame j (fun e => hne (by rw [e]))]
        exact hold j hj u hu
theorem xv_get_mem {α : Type} {R : Nat} {ll : List (List α)} {i : Nat} {u : α} (h : xv_get R ll i = some u) : ∃ l ∈ ll, u ∈ l := by
  rw [xv_get_eq] at h
  obtain ⟨l, h1, h2⟩ := Option.bind_eq_some_iff.mp h
  exact ⟨l, List.mem_of_getElem? h1, List.mem_of_getElem? h2⟩
theorem xv_rep_mem {α : Type} {n : Nat} {v u : α} (h : u ∈ xv_rep n v) : u = v := by
  induction n with
  | zero => cases h
  | succ n ih => exact (List.mem_cons.mp h).elim id ih
theorem xv_reps_mem {α : Type} {n : Nat} {v u : α} {l : List α} (h : l ∈ xv_reps n v) (hu : u ∈ l) : u = v := by
  unfold xv_reps at h
  generalize n / 8 = q at h
  induction q with
  | zero =>
    have e : l = xv_rep (n % 8) v := List.mem_singleton.mp h
    rw [e] at hu
    exact xv_rep_mem hu
  | succ q ih =>
    rcases List.mem_cons.mp h with e | h
    · rw [e] at hu; exact xv_rep_mem hu
    · exact ih h
theorem xv_row_ok {k n i : Nat} {z u : xv_V} (h : xv_get 8 (xv_row k n z).2.2.2 i = some u) : u = z := by
  obtain ⟨l, h1, h2⟩ := xv_get_mem h
  unfold xv_row at h1
  cases hb : Nat.ble n 64 with
  | true => rw [hb] at h1; exact xv_reps_mem h1 h2
  | false =>
    rw [hb] at h1
    have e : l = [z] := by simpa using h1
    rw [e] at h2
    simpa using h2
theorem xv_row_k (k n : Nat) (z : xv_V) : (xv_row k n z).1 = k ∧ (xv_row k n z).2.1 = n := by
  unfold xv_row
  cases Nat.ble n 64 with
  | true => exact ⟨rfl, rfl⟩
  | false => exact ⟨rfl, rfl⟩
theorem xv_zi {sb : Nat} {as : List Nat} : xv_hv sb as (0, 0, 0) (.int 0) := xv_hv.i ⟨rfl, by decide, by decide⟩
theorem xv_zl {sb : Nat} {as : List Nat} : xv_hv sb as (1, 0, 0) (.long 0) := xv_hv.l ⟨rfl, by decide, by decide⟩
theorem xv_zn {sb : Nat} {as : List Nat} : xv_hv sb as (3, 0, 0) .null := ⟨fun q => (by cases q), fun q => (by cases q), fun q => (by cases q), fun _ => rfl, fun q => (by cases q)⟩
section XV3
variable {p : Program} {l : Launch} {e : Env} {R : Room} {s : State} {m : MethodId} {args : Array Value} {below : List Frame} {meth : Method} {c : Code}
variable {cc : ByteArray} {own : String} {nL : Nat} {D : va_G} {t : Nat → ClassId} {A : Nat → Prop} {as0 : List Nat} {sb : Nat} {scr : List xv_V} {Q : xv_R → State → Prop} {k : xv_K} {pc : Nat} {L st : List xv_V} {S : xv_S} {r : xv_R}
theorem xv_Rl.new {st' : List xv_V} {S' : xv_S} {ls : Array Slot} {vst vst' : List Value} {H H' : Heap} {locs locs' : List Loc} {ws ws' : va_W} (hR : xv_Rl D t A s.heap as0 sb nL L st S ls vst H locs ws) (hm : ∃ mr, ws'.map Prod.fst = ws.map Prod.fst ++ mr) (hst : xv_sm sb (ws'.map Prod.fst) st' vst')
    (hP : va_P D vwCl ws' H') (hD : va_D A ws') (hS : va_S A s.heap H' locs') (hH : xv_H t sb S'.1 S'.2.1 ws') : xv_Rl D t A s.heap as0 sb nL L st' S' ls vst' H' locs' ws' := by
  obtain ⟨mr, hm⟩ := hm
  refine ⟨hR.1.more ?_, hst, hP, hD, hS, hH, ?_⟩
  · rw [hm]; exact xv_pre_app
  · obtain ⟨m1, h1⟩ := hR.2.2.2.2.2.2
    exact ⟨m1 ++ mr, by rw [hm, h1, List.append_assoc]⟩
theorem xs_getfield {index a b : Nat} {q : vw_C} (C : xv_Cx p s m args c cc own nL D t A sb scr) (hk : xv_G p l e R s m args below meth c D t A as0 sb nL Q k) (hd : decode cc pc = .ok (.getfield index, 3)) (hq : vwCl[a]? = some q) (hbn : b < q.2.2) (hw : Cond.fieldLink own index (q.2.1 b).1 (q.2.1 b).2.1 (q.2.1 b).2.2.1 ∈ xv_tb)
    (hr : (match st with | o :: z => (match xv_cell S.1 o with | some c => bif Nat.beq c.1 0 && Nat.beq c.2.1 a then xv_ldk k (pc + 3) L z S (xv_get 8 c.2.2.2 b) else none | none => none) | _ => none) = some r) : xv_T p l e R s m args below meth c D t A as0 sb nL Q pc L st S r := by
  match st, hr with
  | [], hr => cases hr
  | o :: z, hr =>
    dsimp only at hr
    cases hc : xv_cell S.1 o with
    | none => rw [hc] at hr; cases hr
    | some x =>
      rw [hc] at hr
      obtain ⟨b1, hr⟩ := xv_bt hr
      obtain ⟨b1, b2⟩ := xv_and_t b1
      have b1 := xv_beq b1
      have b2 := xv_beq b2
      obtain ⟨v, hv, hr⟩ := xs_ldk hr
      obtain ⟨h1, h2, h3⟩ := hk _ _ _ _ _ hr
      refine ⟨h1, h2, fun hcc hz ls vst H locs ws hR => ?_⟩
      obtain ⟨x0, vst, rfl, hx, hst⟩ := hR.2.1.un
      have hH := hR.2.2.2.2.2.1
      obtain ⟨ad, en, rfl, hen, hce⟩ := hH.cell hc (by omega) hx
      obtain ⟨fs, rfl, hl, hf⟩ := hce.1 b1
      obtain ⟨y, hy, hvy⟩ := hf b v hv
      rw [b2] at hen
      have hcl := xv_cls a q hq
      exact va_get C.1 C.2.1 C.2.2.2.2.1 hcl.1 C.2.2.2.1 C.2.2.2.2.2.1 hR.2.2.1 _ hen hq b hbn (C.2.2.2.2.1 _ hw) (fun _ h => h) hy hd (h3 hcc hz ls _ H locs ws ⟨hR.1, xv_sm.cons hvy hst, hR.2.2⟩)
def xv_ftk (d : String) (kd : Nat) : Bool := match parseFieldDescriptor d with
  | some .int => Nat.beq kd 0
  | some .long => Nat.beq kd 1
  | some (.object _) => Nat.beq kd 2
  | some (.array _) => Nat.beq kd 2
  | _ => false
theorem xv_ftk_ok {d : String} {v : xv_V} {as : List Nat} {y : Value} (h : xv_ftk d v.1 = true) (hv : xv_hv sb as v y) : ∃ ty, parseFieldDescriptor d = some ty ∧ narrow ty y = y ∧ fits ty y = true := by
  unfold xv_ftk at h
  cases hp : parseFieldDescriptor d with
  | none => rw [hp] at h; cases h
  | some ty =>
    rw [hp] at h
    refine ⟨ty, rfl, ?_⟩
    cases ty with
    | int => obtain ⟨i, rfl, -⟩ := hv.1 (xv_beq h); exact ⟨rfl, rfl⟩
    | long => obtain ⟨i, rfl, -⟩ := hv.2.1 (xv_beq h); exact ⟨rfl, rfl⟩
    | object _ => obtain ⟨i, -, rfl⟩ := hv.2.2.1 (xv_beq h); exact ⟨rfl, rfl⟩
    | array _ => obtain ⟨i, -, rfl⟩ := hv.2.2.1 (xv_beq h); exact ⟨rfl, rfl⟩
    | byte => cases h
    | char => cases h
    | double => cases h
    | float => cases h
    | short => cases h
    | boolean => cases h
theorem xs_putfield {index a b kd : Nat} {q : vw_C} (C : xv_Cx p s m args c cc own nL D t A sb scr) (hk : xv_G p l e R s m args below meth c D t A as0 sb nL Q k) (hd : decode cc pc = .ok (.putfield index, 3)) (hq : vwCl[a]? = some q) (hbn : b < q.2.2) (hw : Cond.fieldLink own index (q.2.1 b).1 (q.2.1 b).2.1 (q.2.1 b).2.2.1 ∈ xv_tb)
    (hkd : xv_ftk (q.2.1 b).2.2.1 kd = true) (hfin : (q.2.1 b).2.2.2 = false ∨ ((q.2.1 b).2.2.2 = true ∧ meth.name = "<init>" ∧ (q.2.1 b).1 = own))
    (hr : (match st with | x :: o :: z => (match xv_cell S.1 o with | some c => bif Nat.beq c.1 0 && (Nat.beq c.2.1 a && (Nat.ble (b + 1) c.2.2.1 && Nat.beq x.1 kd)) then k (pc + 3) L z (xv_upd 14 S.1 o.2.1.toNat (c.1, c.2.1, c.2.2.1, xv_upd 8 c.2.2.2 b x), S.2) else none | none => none) | _ => none) = some r) : xv_T p l e R s m args below meth c D t A as0 sb nL Q pc L st S r := by
  match st, hr with
  | [], hr => cases hr
  | [_], hr => cases hr
  | v :: o :: z, hr =>
    dsimp only at hr
    cases hc : xv_cell S.1 o with
    | none => rw [hc] at hr; cases hr
    | some x =>
      rw [hc] at hr
      obtain ⟨b1, hr⟩ := xv_bt hr
      obtain ⟨b1, b2⟩ := xv_and_t b1
      obtain ⟨b2, b3⟩ := xv_and_t b2
      obtain ⟨b3, b4⟩ := xv_and_t b3
      have b1 := xv_beq b1
      have b2 := xv_beq b2
      have b3 := xv_ble b3
      have b4 := xv_beq b4
      obtain ⟨h1, h2, h3⟩ := hk _ _ _ _ _ hr
      refine ⟨h1, h2, fun hcc hz ls vst H locs ws hR => ?_⟩
      obtain ⟨y, vst, rfl, hy, hst⟩ := hR.2.1.un
      obtain ⟨x0, vst, rfl, hx, hst2⟩ := hst.un
      have hH := hR.2.2.2.2.2.1
      obtain ⟨ad, en, rfl, hen, hce⟩ := hH.cell hc (by omega) hx
      obtain ⟨fs, rfl, hl, hf⟩ := hce.1 b1
      have hcl := xv_cls a q hq
      obtain ⟨ty0, hty0⟩ := hcl.2.1
      rw [← b4] at hkd
      obtain ⟨ty, hpd, hnar, hfit⟩ := xv_ftk_ok hkd hy
      have hen' := hen
      rw [b2] at hen
      have hkk : ∀ (H1 : Heap) (locs1 : List Loc), va_P D vwCl (ws.set o.2.1.toNat (ad, .inr (a, fs.set b y))) H1 → va_D A (ws.set o.2.1.toNat (ad, .inr (a, fs.set b y))) → va_S A s.heap H1 locs1 → W p l e R s m args below meth c H1 locs1 S.2.2.1 S.2.2.2 (Q r) (F0 m (pc + 3) ls vst) := by
        intro H1 locs1 hP1 hD1 hS1
        refine h3 hcc hz ls vst H1 locs1 _ (hR.new ⟨[], ?_⟩ ?_ hP1 hD1 hS1 ?_)
        · rw [xv_fst_set hen, List.append_nil]
        · rw [xv_fst_set hen]; exact hst2
        · refine hH.set hen ⟨fun _ => ⟨fs.set b y, by rw [← b2], by rw [List.length_set]; exact hl, fun b' v' hb' => ?_⟩, fun w => ?_, fun w => ?_, fun w => ?_, fun w => ?_⟩
          · rcases xv_get_upd hb' with ⟨rfl, rfl⟩ | ⟨hne, hb'⟩
            · exact ⟨y, by rw [List.getElem?_set_self (by omega)], hy⟩
            · obtain ⟨y', hy', hv'⟩ := hf b' v' hb'
              exact ⟨y', by rw [List.getElem?_set_ne (fun e => hne e.symm)]; exact hy', hv'⟩
          · dsimp only at w; omega
          · dsimp only at w; omega
          · dsimp only at w; omega
          · dsimp only at w; omega
      rcases hfin with hfin | ⟨hfin, hin2, hdecl⟩
      · exact va_put C.1 C.2.1 C.2.2.2.2.1 hcl.1 ty0 hty0 hcl.2.2.1 C.2.2.2.1 C.2.2.2.2.2.1 hR.2.2.1 hR.2.2.2.1 hR.2.2.2.2.1 _ hen hq b hbn (C.2.2.2.2.1 _ hw) (fun _ h => h) hfin hpd hnar hfit (by omega) hd hkk
      · exact va_putF C.1 C.2.1 C.2.2.2.2.1 hcl.1 ty0 hty0 hcl.2.2.1 C.2.2.2.1 C.2.2.2.2.2.1 hR.2.2.1 hR.2.2.2.1 hR.2.2.2.2.1 _ hen hq b hbn (C.2.2.2.2.1 _ hw) (fun _ h => h) hfin hin2 hdecl hpd hnar hfit (by omega) hd hkk
end XV3
end
section
/-! new objects; rows -/
def xv_zv (v : xv_V) : Value := if v.1 = 0 then .int 0 else if v.1 = 1 then .long 0 else .null
noncomputable def xv_newB (q : vw_C) (n : Nat × List (List xv_V)) : Bool := decide (n.1 = q.2.2) && (decide (n.2.length ≤ 6) && (decide (n.2.flatten.length = n.1) && (n.2.flatten.all (fun v => decide (v = (0, 0, 0) ∨ v = (1, 0, 0) ∨ v = (3, 0, 0))) && ((List.range 48).all (fun b => decide (xv_get 8 n.2 b = n.2.flatten[b]?)) &&
  (List.range q.2.2).all (fun j => match parseFieldDescriptor (q.2.1 j).2.2.1 with
    | some ty => decide (defaultValue ty = (n.2.flatten.map xv_zv).getD j .null)
    | none => false)))))
set_option maxRecDepth 100000 in
theorem xv_new_all : (List.range 13).all (fun a => match vwCl[a]?, xv_news[a]? with
  | some q, some n => xv_newB q n
  | _, _ => false) = true := by decide +kernel
theorem xv_zv_ok {sb : Nat} {as : List Nat} {v : xv_V} (h : v = (0, 0, 0) ∨ v = (1, 0, 0) ∨ v = (3, 0, 0)) : xv_hv sb as v (xv_zv v) := by
  rcases h with rfl | rfl | rfl
  · exact xv_zi
  · exact xv_zl
  · exact xv_zn
theorem xv_new_ok {a : Nat} {q : vw_C} {n : Nat × List (List xv_V)} (hq : vwCl[a]? = some q) (hn : xv_news[a]? = some n) : n.1 = q.2.2 ∧ ∃ (ty : Nat → FieldType) (fs : List Value), (∀ k, k < q.2.2 → parseFieldDescriptor (q.2.1 k).2.2.1 = some (ty k)) ∧ (∀ j, j < q.2.2 → defaultValue (ty j) = vp_V fs j) ∧ fs.length = n.1 ∧
    ∀ (sb : Nat) (as : List Nat) (b : Nat) (v : xv_V), xv_get 8 n.2 b = some v → ∃ y, fs[b]? = some y ∧ xv_hv sb as v y := by
  have ha : a < 13 := (List.getElem?_eq_some_iff.mp hq).1
  have h := List.all_eq_true.mp xv_new_all a (List.mem_range.mpr ha)
  rw [hq, hn] at h
  dsimp only at h
  unfold xv_newB at h
  simp only [Bool.and_eq_true, decide_eq_true_eq] at h
  obtain ⟨h1, h2, h3, h4, h5, h6⟩ := h
  obtain ⟨-, ⟨ty, hty⟩, -⟩ := xv_cls a q hq
  refine ⟨h1, ty, n.2.flatten.map xv_zv, hty, fun j hj => ?_, by rw [List.length_map]; exact h3, fun sb as b v hb => ?_⟩
  · have := List.all_eq_true.mp h6 j (List.mem_range.mpr hj)
    rw [hty j hj] at this
    exact of_decide_eq_true this
  · have hlt : b < 48 := by
      rw [xv_get_eq] at hb
      obtain ⟨l, hl, -⟩ := Option.bind_eq_some_iff.mp hb
      have := (List.getElem?_eq_some_iff.mp hl).1
      omega
    have e := of_decide_eq_true (List.all_eq_true.mp h5 b (List.mem_range.mpr hlt))
    rw [e] at hb
    refine ⟨xv_zv v, by rw [List.getElem?_map, hb]; rfl, xv_zv_ok ?_⟩
    exact of_decide_eq_true (List.all_eq_true.mp h4 v (List.mem_of_getElem? hb))
theorem xv_hc.nobj {t : Nat → ClassId} {sb : Nat} {as : List Nat} {k : xv_C} {fs : List Value} (h0 : k.1 = 0) (hl : fs.length = k.2.2.1) (hf : ∀ (b : Nat) (v : xv_V), xv_get 8 k.2.2.2 b = some v → ∃ y, fs[b]? = some y ∧ xv_hv sb as v y) : xv_hc t sb as k (.inr (k.2.1, fs)) :=
  ⟨fun _ => ⟨fs, rfl, hl, hf⟩, fun q => (by omega), fun q => (by omega), fun q => (by omega), fun q => absurd h0 q⟩
theorem xv_hc.irow {t : Nat → ClassId} {sb : Nat} {as : List Nat} {k : xv_C} {f : Nat → Int32} (h0 : k.1 = 1 ∨ k.1 = 2 ∨ k.1 = 3) (hl : k.2.1 ≤ 65536) (hf : ∀ i : Nat, i < k.2.1 → ∀ v : xv_V, xv_get 8 k.2.2.2 (i % k.2.2.1) = some v → xv_hv sb as v (.int (f i))) : xv_hc t sb as k (.inl (t k.1, k.2.1, .inl f)) :=
  ⟨fun q => (by omega), fun _ => ⟨f, rfl, hf⟩, fun q => (by omega), fun q => (by omega), fun _ => hl⟩
theorem xv_hc.lrow {t : Nat → ClassId} {sb : Nat} {as : List Nat} {k : xv_C} {f : Nat → Int64} (h0 : k.1 = 4) (hl : k.2.1 ≤ 65536) (hf : ∀ i : Nat, i < k.2.1 → ∀ v : xv_V, xv_get 8 k.2.2.2 (i % k.2.2.1) = some v → xv_hv sb as v (.long (f i))) : xv_hc t sb as k (.inl (t k.1, k.2.1, .inr (.inl f))) :=
  ⟨fun q => (by omega), fun q => (by omega), fun _ => ⟨f, rfl, hf⟩, fun q => (by omega), fun _ => hl⟩
theorem xv_hc.arow {t : Nat → ClassId} {sb : Nat} {as : List Nat} {k : xv_C} {f : Nat → Option Nat} (h0 : k.1 = 5 ∨ k.1 = 6 ∨ k.1 = 7) (hl : k.2.1 ≤ 65536) (hf : ∀ i : Nat, i < k.2.1 → ∀ v : xv_V, xv_get 8 k.2.2.2 (i % k.2.2.1) = some v → xv_hv sb as v (va_rf (f i))) : xv_hc t sb as k (.inl (t k.1, k.2.1, .inr (.inr (.inr (.inr f))))) :=
  ⟨fun q => (by omega), fun q => (by omega), fun q => (by omega), fun _ => ⟨f, rfl, hf⟩, fun _ => hl⟩
/-- a number that stands for itself -/
theorem xv_idx {i : xv_V} {x : Int32} (h1 : i.2.2 ≤ i.2.1) (h2 : 0 ≤ i.2.1) (x1 : i.2.1 ≤ x.toInt) (x2 : x.toInt ≤ i.2.2) : x.toInt = i.2.1 ∧ x.toNatClampNeg = i.2.1.toNat ∧ ¬ x < 0 := by
  have e : x.toInt = i.2.1 := by omega
  refine ⟨e, ?_, fun h => ?_⟩
  · show x.toInt.toNat = _
    rw [e]
  · have := Int32.lt_iff_toInt_lt.mp h
    rw [e] at this
    have h0 : (0 : Int32).toInt = 0 := by decide
    omega
section XV4
variable {p : Program} {l : Launch} {e : Env} {R : Room} {s : State} {m : MethodId} {args : Array Value} {below : List Frame} {meth : Method} {c : Code}
variable {cc : ByteArray} {own : String} {nL : Nat} {D : va_G} {t : Nat → ClassId} {A : Nat → Prop} {as0 : List Nat} {sb : Nat} {scr : List xv_V} {Q : xv_R → State → Prop} {k : xv_K} {pc : Nat} {L st : List xv_V} {S : xv_S} {r : xv_R}
theorem xs_new {index a : Nat} {q : vw_C} (C : xv_Cx p s m args c cc own nL D t A sb scr) (hk : xv_G p l e R s m args below meth c D t A as0 sb nL Q k) (hd : decode cc pc = .ok (.new index, 3)) (hq : vwCl[a]? = some q) (hw : Cond.classLink own index q.1 ∈ xv_tb)
    (hr : (match xv_nth xv_news a with | some q => k (pc + 3) L ((2, Int.ofNat S.2.1, 0) :: st) (xv_upd 14 S.1 S.2.1 (0, a, q.1, q.2), S.2.1 + 1, S.2.2.1 + 1, S.2.2.2 + q.1) | none => none) = some r) : xv_T p l e R s m args below meth c D t A as0 sb nL Q pc L st S r := by
  rw [xv_nth_eq] at hr
  cases hn : xv_news[a]? with
  | none => rw [hn] at hr; cases hr
  | some n =>
    rw [hn] at hr
    obtain ⟨h1, h2, h3⟩ := hk _ _ _ _ _ hr
    dsimp only at h1 h2 h3
    obtain ⟨e1, ty, fs, hty, hfs, hlen, hf⟩ := xv_new_ok hq hn
    refine ⟨by omega, by omega, fun hcc hz ls vst H locs ws hR => ?_⟩
    have hcl := xv_cls a q hq
    have hH := hR.2.2.2.2.2.1
    refine va_new (C := q.1) (T := q.2.1) (N := q.2.2) C.1 C.2.1 C.2.2.2.2.1 hcl.1 ty hty C.2.2.2.1 (C.2.2.2.2.1 _ hw) (C.2.2.2.2.1 _ hcl.2.2.2.1) (C.2.2.2.2.1 _ hcl.2.2.2.2) C.2.2.2.2.2.1 hR.2.2.1 hR.2.2.2.1 hR.2.2.2.2.1 C.2.2.2.2.2.2.1 hq hfs (by omega) (by omega) hd (fun ad H1 hP1 hD1 hS1 => ?_)
    rw [e1] at h3
    have hm : (ws ++ [(ad, (Sum.inr (a, fs) : va_E))]).map Prod.fst = ws.map Prod.fst ++ [ad] := by rw [List.map_append]; rfl
    refine h3 hcc hz ls _ H1 locs _ (hR.new ⟨[ad], hm⟩ (xv_sm.cons ?_ (hR.2.1.more ?_)) hP1 hD1 hS1 (hH.push ?_))
    · rw [hm]
      apply xv_hv.r
      rw [← hH.1, List.getElem?_append_right (by simp), List.length_map, Nat.sub_self]; rfl
    · rw [hm]; exact xv_pre_app
    · exact xv_hc.nobj (k := (0, a, q.2.2, n.2)) rfl (by rw [hlen, e1]) (hf sb _)
/-- a new row, of one class of rows -/
theorem xs_newrow {pc' N : Nat} {x : xv_V} {z : List xv_V} {row : xv_C} (hk : xv_G p l e R s m args below meth c D t A as0 sb nL Q k) (hst : st = x :: z) (hx0 : x.1 = 0) (hone : xv_isOne x = true) (hr : k pc' L ((2, Int.ofNat S.2.1, 0) :: z) (xv_upd 14 S.1 S.2.1 row, S.2.1 + 1, S.2.2.1 + 1, S.2.2.2 + x.2.1.toNat) = some r)
    (hs : ∀ (ls : Array Slot) (vst : List Value) (H : Heap) (locs : List Loc) (ws : va_W) (Z : State → Prop) (i : Int32), va_P D vwCl ws H → va_D A ws → va_S A s.heap H locs → i.toNatClampNeg = x.2.1.toNat → ¬ i < 0 → S.2.2.1 + 1 ≤ R.cells → S.2.2.2 + x.2.1.toNat ≤ R.slots →
      (∀ (ad : Nat) (en : va_E) (H1 : Heap), (∀ as : List Nat, xv_hc t sb as row en) → va_P D vwCl (ws ++ [(ad, en)]) H1 → va_D A (ws ++ [(ad, en)]) → va_S A s.heap H1 locs → W p l e R s m args below meth c H1 locs (S.2.2.1 + 1) (S.2.2.2 + x.2.1.toNat) Z (F0 m pc' ls (.ref ad :: vst))) → W p l e R s m args below meth c H locs S.2.2.1 S.2.2.2 Z (F0 m pc ls (.int i :: vst))) : xv_T p l e R s m args below meth c D t A as0 sb nL Q pc L st S r := by
  subst hst
  obtain ⟨h1, h2, h3⟩ := hk _ _ _ _ _ hr
  dsimp only at h1 h2 h3
  obtain ⟨o1, o2⟩ := xv_isOne_eq hone
  refine ⟨by omega, by omega, fun hcc hz ls vst H locs ws hR => ?_⟩
  obtain ⟨y0, vst, rfl, hy, hst⟩ := hR.2.1.un
  obtain ⟨i, rfl, i1, i2⟩ := hy.1 hx0
  have hH := hR.2.2.2.2.2.1
  obtain ⟨e1, e2, e3⟩ := xv_idx o1 o2 i1 i2
  refine hs ls vst H locs ws _ i hR.2.2.1 hR.2.2.2.1 hR.2.2.2.2.1 e2 e3 (by omega) (by omega) (fun ad en H1 hen hP1 hD1 hS1 => ?_)
  have hm : (ws ++ [(ad, en)]).map Prod.fst = ws.map Prod.fst ++ [ad] := by rw [List.map_append]; rfl
  refine h3 hcc hz ls _ H1 locs _ (hR.new ⟨[ad], hm⟩ (xv_sm.cons ?_ (hst.more ?_)) hP1 hD1 hS1 (hH.push (hen _)))
  · rw [hm]
    apply xv_hv.r
    rw [← hH.1, List.getElem?_append_right (by simp), List.length_map, Nat.sub_self]; rfl
  · rw [hm]; exact xv_pre_app
theorem xv_ty_same {tys : List (ClassId × FieldType)} {cA cB : ClassId} {ty : FieldType} {j : Nat} (hty : ∀ C, ty ≠ .object C) (hK : va_K D vwCl tys s) (hj : tys[j]? = some (cB, ty)) (hK2 : va_K D vwCl (tys ++ [(cA, ty)]) s) : cA = cB := by
  have h1 := (hK.2 j _ hj).2
  have h2 := (hK2.2 tys.length (cA, ty) (by rw [List.getElem?_append_right (Nat.le_refl _), Nat.sub_self]; rfl)).2
  cases ty with
  | object C => exact absurd rfl (hty C)
  | _ => exact Option.some.inj (h2.symm.trans h1)
theorem xv_ty_sameO {tys : List (ClassId × FieldType)} {cA cB : ClassId} {E : String} {j : Nat} (hK : va_K D vwCl tys s) (hj : tys[j]? = some (cB, .object E)) (hK2 : va_K D vwCl (tys ++ [(cA, .object E)]) s) : cA = cB := by
  obtain ⟨_, _, -, -, -, h1⟩ := (hK.2 j _ hj).2
  obtain ⟨_, _, -, -, -, h2⟩ := (hK2.2 tys.length (cA, .object E) (by rw [List.getElem?_append_right (Nat.le_refl _), Nat.sub_self]; rfl)).2
  exact Option.some.inj (h2.symm.trans h1)
theorem xs_newarray {ty : ArrayType} (C : xv_Cx p s m args c cc own nL D t A sb scr) (hk : xv_G p l e R s m args below meth c D t A as0 sb nL Q k) 
    (hr : (match st with
    | x :: r => bif Nat.beq x.1 0 && (xv_isOne x && xv_le x.2.1 65536) then
        (match ty with
        | .int => k (pc + 2) L ((2, Int.ofNat S.2.1, 0) :: r) (xv_upd 14 S.1 S.2.1 (xv_row 1 x.2.1.toNat (0, 0, 0)), S.2.1 + 1, S.2.2.1 + 1, S.2.2.2 + x.2.1.toNat)
        | .byte => k (pc + 2) L ((2, Int.ofNat S.2.1, 0) :: r) (xv_upd 14 S.1 S.2.1 (xv_row 2 x.2.1.toNat (0, 0, 0)), S.2.1 + 1, S.2.2.1 + 1, S.2.2.2 + x.2.1.toNat)
        | .boolean => k (pc + 2) L ((2, Int.ofNat S.2.1, 0) :: r) (xv_upd 14 S.1 S.2.1 (xv_row 3 x.2.1.toNat (0, 0, 0)), S.2.1 + 1, S.2.2.1 + 1, S.2.2.2 + x.2.1.toNat)
        | .long => k (pc + 2) L ((2, Int.ofNat S.2.1, 0) :: r) (xv_upd 14 S.1 S.2.1 (xv_row 4 x.2.1.toNat (1, 0, 0)), S.2.1 + 1, S.2.2.1 + 1, S.2.2.2 + x.2.1.toNat)
        | _ => none) else none
    | _ => none) = some r) (hd : decode cc pc = .ok (.newarray ty, 2)) (hw : Cond.arrayClass (newarray.typeOf ty) ∈ xv_tb) : xv_T p l e R s m args below meth c D t A as0 sb nL Q pc L st S r := by
  match st, hr with
  | [], hr => cases hr
  | x :: z, hr =>
    obtain ⟨b1, hr⟩ := xv_bt hr
    obtain ⟨b1, b2⟩ := xv_and_t b1
    obtain ⟨b2, b3⟩ := xv_and_t b2
    have b3 := xv_le_iff.mp b3
    have hn : x.2.1.toNat ≤ 65536 := by omega
    cases ty with
    | int =>
      refine xs_newrow (N := 0) hk rfl (xv_beq b1) b2 hr (fun ls vst H locs ws Z i hP hD hS ei hi hc1 hc2 kk => ?_)
      refine va_newa (a0 := (x.2.1.toNat, .inl (fun _ => 0))) C.1 C.2.1 (C.2.2.2.2.1 _ hw) rfl C.2.2.2.2.2.1 hP hD hS C.2.2.2.2.2.2.1 (fun _ => rfl) hi ei (by show _ * 4 ≤ _; omega) hc1 hc2 hd (fun q cA H1 hK1 hP1 hD1 hS1 => ?_)
      have e := xv_ty_same (j := 0) (by intro C h; cases h) C.2.2.2.2.2.1 rfl hK1
      subst e
      refine kk q _ H1 (fun as => ?_) hP1 hD1 hS1
      have hrk := xv_row_k 1 x.2.1.toNat (0, 0, 0)
      have := xv_hc.irow (t := t) (sb := sb) (as := as) (k := xv_row 1 x.2.1.toNat (0, 0, 0)) (f := fun _ => 0) (Or.inl hrk.1) (by rw [hrk.2]; exact hn) (fun j _ v hv => by rw [xv_row_ok hv]; exact xv_zi)
      rw [hrk.1, hrk.2] at this
      exact this
    | byte =>
      refine xs_newrow (N := 0) hk rfl (xv_beq b1) b2 hr (fun ls vst H locs ws Z i hP hD hS ei hi hc1 hc2 kk => ?_)
      refine va_newa (a0 := (x.2.1.toNat, .inl (fun _ => 0))) C.1 C.2.1 (C.2.2.2.2.1 _ hw) rfl C.2.2.2.2.2.1 hP hD hS C.2.2.2.2.2.2.1 (fun _ => rfl) hi ei (by show _ * 1 ≤ _; omega) hc1 hc2 hd (fun q cA H1 hK1 hP1 hD1 hS1 => ?_)
      have e := xv_ty_same (j := 1) (by intro C h; cases h) C.2.2.2.2.2.1 rfl hK1
      subst e
      refine kk q _ H1 (fun as => ?_) hP1 hD1 hS1
      have hrk := xv_row_k 2 x.2.1.toNat (0, 0, 0)
      have := xv_hc.irow (t := t) (sb := sb) (as := as) (k := xv_row 2 x.2.1.toNat (0, 0, 0)) (f := fun _ => 0) (Or.inr (Or.inl hrk.1)) (by rw [hrk.2]; exact hn) (fun j _ v hv => by rw [xv_row_ok hv]; exact xv_zi)
      rw [hrk.1, hrk.2] at this
      exact this
    | boolean =>
      refine xs_newrow (N := 0) hk rfl (xv_beq b1) b2 hr (fun ls vst H locs ws Z i hP hD hS ei hi hc1 hc2 kk => ?_)
      refine va_newa (a0 := (x.2.1.toNat, .inl (fun _ => 0))) C.1 C.2.1 (C.2.2.2.2.1 _ hw) rfl C.2.2.2.2.2.1 hP hD hS C.2.2.2.2.2.2.1 (fun _ => rfl) hi ei (by show _ * 1 ≤ _; omega) hc1 hc2 hd (fun q cA H1 hK1 hP1 hD1 hS1 => ?_)
      have e := xv_ty_same (j := 2) (by intro C h; cases h) C.2.2.2.2.2.1 rfl hK1
      subst e
      refine kk q _ H1 (fun as => ?_) hP1 hD1 hS1
      have hrk := xv_row_k 3 x.2.1.toNat (0, 0, 0)
      have := xv_hc.irow (t := t) (sb := sb) (as := as) (k := xv_row 3 x.2.1.toNat (0, 0, 0)) (f := fun _ => 0) (Or.inr (Or.inr hrk.1)) (by rw [hrk.2]; exact hn) (fun j _ v hv => by rw [xv_row_ok hv]; exact xv_zi)
      rw [hrk.1, hrk.2] at this
      exact this
    | long =>
      refine xs_newrow (N := 0) hk rfl (xv_beq b1) b2 hr (fun ls vst H locs ws Z i hP hD hS ei hi hc1 hc2 kk => ?_)
      refine va_newa (a0 := (x.2.1.toNat, .inr (.inl (fun _ => 0)))) C.1 C.2.1 (C.2.2.2.2.1 _ hw) rfl C.2.2.2.2.2.1 hP hD hS C.2.2.2.2.2.2.1 (fun _ => rfl) hi ei (by show _ * 8 ≤ _; omega) hc1 hc2 hd (fun q cA H1 hK1 hP1 hD1 hS1 => ?_)
      have e := xv_ty_same (j := 3) (by intro C h; cases h) C.2.2.2.2.2.1 rfl hK1
      subst e
      refine kk q _ H1 (fun as => ?_) hP1 hD1 hS1
      have hrk := xv_row_k 4 x.2.1.toNat (1, 0, 0)
      have := xv_hc.lrow (t := t) (sb := sb) (as := as) (k := xv_row 4 x.2.1.toNat (1, 0, 0)) (f := fun _ => 0) hrk.1 (by rw [hrk.2]; exact hn) (fun j _ v hv => by rw [xv_row_ok hv]; exact xv_zl)
      rw [hrk.1, hrk.2] at this
      exact this
    | char => cases hr
    | float => cases hr
    | double => cases hr
    | short => cases hr
theorem xs_anewarray {index : Nat} (C : xv_Cx p s m args c cc own nL D t A sb scr) (hk : xv_G p l e R s m args below meth c D t A as0 sb nL Q k) (hd : decode cc pc = .ok (.anewarray index, 3)) (hw : Cond.classLink own index "PassedPenance$Image" ∈ xv_tb)
    (hr : (match st with
    | x :: r => bif Nat.beq x.1 0 && (xv_isOne x && xv_le x.2.1 65536) then k (pc + 3) L ((2, Int.ofNat S.2.1, 0) :: r) (xv_upd 14 S.1 S.2.1 (xv_row 7 x.2.1.toNat (3, 0, 0)), S.2.1 + 1, S.2.2.1 + 1, S.2.2.2 + x.2.1.toNat) else none
    | _ => none) = some r) : xv_T p l e R s m args below meth c D t A as0 sb nL Q pc L st S r := by
  match st, hr with
  | [], hr => cases hr
  | x :: z, hr =>
    obtain ⟨b1, hr⟩ := xv_bt hr
    obtain ⟨b1, b2⟩ := xv_and_t b1
    obtain ⟨b2, b3⟩ := xv_and_t b2
    have b3 := xv_le_iff.mp b3
    have hn : x.2.1.toNat ≤ 65536 := by omega
    refine xs_newrow (N := 0) hk rfl (xv_beq b1) b2 hr (fun ls vst H locs ws Z i hP hD hS ei hi hc1 hc2 kk => ?_)
    refine va_newq C.1 C.2.1 C.2.2.2.1 (C.2.2.2.2.1 _ hw) C.2.2.2.2.2.2.2.2.2.1 C.2.2.2.2.2.1 hP hD hS C.2.2.2.2.2.2.1 hi ei (by omega) hc1 hc2 hd (fun q cA H1 hK1 hP1 hD1 hS1 => ?_)
    have e := xv_ty_sameO (j := 6) C.2.2.2.2.2.1 rfl hK1
    subst e
    refine kk q _ H1 (fun as => ?_) hP1 hD1 hS1
    have hrk := xv_row_k 7 x.2.1.toNat (3, 0, 0)
    have := xv_hc.arow (t := t) (sb := sb) (as := as) (k := xv_row 7 x.2.1.toNat (3, 0, 0)) (f := fun _ => none) (Or.inr (Or.inr hrk.1)) (by rw [hrk.2]; exact hn) (fun j _ v hv => by rw [xv_row_ok hv]; exact xv_zn)
    rw [hrk.1, hrk.2] at this
    exact this
end XV4
end
section
/-! rows are read and written -/
theorem xv_hc.row {t : Nat → ClassId} {sb : Nat} {as : List Nat} {k : xv_C} {x : va_E} (h : xv_hc t sb as k x) (h1 : 1 ≤ k.1) (h7 : k.1 ≤ 7) : ∃ (y : vp_A) (ty : FieldType), x = .inl (t k.1, y) ∧ y.1 = k.2.1 ∧ (xv_tys t)[k.1 - 1]? = some (t k.1, ty) := by
  have hk : k.1 = 1 ∨ k.1 = 2 ∨ k.1 = 3 ∨ k.1 = 4 ∨ k.1 = 5 ∨ k.1 = 6 ∨ k.1 = 7 := by omega
  rcases hk with e | e | e | e | e | e | e
  · obtain ⟨f, rfl, -⟩ := h.2.1 (by omega); exact ⟨_, .int, rfl, rfl, by rw [e]; rfl⟩
  · obtain ⟨f, rfl, -⟩ := h.2.1 (by omega); exact ⟨_, .byte, rfl, rfl, by rw [e]; rfl⟩
  · obtain ⟨f, rfl, -⟩ := h.2.1 (by omega); exact ⟨_, .boolean, rfl, rfl, by rw [e]; rfl⟩
  · obtain ⟨f, rfl, -⟩ := h.2.2.1 (by omega); exact ⟨_, .long, rfl, rfl, by rw [e]; rfl⟩
  · obtain ⟨f, rfl, -⟩ := h.2.2.2.1 (by omega); exact ⟨_, .array .int, rfl, rfl, by rw [e]; rfl⟩
  · obtain ⟨f, rfl, -⟩ := h.2.2.2.1 (by omega); exact ⟨_, .array .long, rfl, rfl, by rw [e]; rfl⟩
  · obtain ⟨f, rfl, -⟩ := h.2.2.2.1 (by omega); exact ⟨_, .object "PassedPenance$Image", rfl, rfl, by rw [e]; rfl⟩
theorem xv_ofNat {n : Nat} (h : n ≤ 65536) : (Int32.ofNat n).toInt = Int.ofNat n := by
  have := nI_toInt (n := n) (by omega)
  exact this
section XV5
variable {p : Program} {l : Launch} {e : Env} {R : Room} {s : State} {m : MethodId} {args : Array Value} {below : List Frame} {meth : Method} {c : Code}
variable {cc : ByteArray} {own : String} {nL : Nat} {D : va_G} {t : Nat → ClassId} {A : Nat → Prop} {as0 : List Nat} {sb : Nat} {scr : List xv_V} {Q : xv_R → State → Prop} {k : xv_K} {pc : Nat} {L st : List xv_V} {S : xv_S} {r : xv_R}
theorem xs_alen (C : xv_Cx p s m args c cc own nL D t A sb scr) (hk : xv_G p l e R s m args below meth c D t A as0 sb nL Q k) (hd : decode cc pc = .ok (.arraylength, 1))
    (hr : (match st with
    | o :: r => bif Nat.beq o.1 5 then (bif !scr.isEmpty then k (pc + 1) L ((0, Int.ofNat scr.length, Int.ofNat scr.length) :: r) S else none) else (match xv_cell S.1 o with
      | some c => bif Nat.ble 1 c.1 && Nat.ble c.1 7 then k (pc + 1) L ((0, Int.ofNat c.2.1, Int.ofNat c.2.1) :: r) S else none
      | none => none)
    | _ => none) = some r) : xv_T p l e R s m args below meth c D t A as0 sb nL Q pc L st S r := by
  match st, hr with
  | [], hr => cases hr
  | o :: z, hr =>
    dsimp only at hr
    cases hb : Nat.beq o.1 5 with
    | true =>
      rw [hb] at hr
      simp only [cond_true] at hr
      obtain ⟨hne0, hr⟩ := xv_bt hr
      have hne : scr ≠ [] := fun q => by rw [q] at hne0; cases hne0
      obtain ⟨h1, h2, h3⟩ := hk _ _ _ _ _ hr
      refine ⟨h1, h2, fun hcc hz ls vst H locs ws hR => ?_⟩
      obtain ⟨x0, vst, rfl, hx, hst⟩ := hR.2.1.un
      have e := hx.2.2.2.2 (xv_beq hb)
      subst e
      rcases C.2.2.2.2.2.2.2.1 with e | ⟨xs, hX, hbl, hbA, hlt, hxs⟩
      · exact absurd e hne
      · refine va_slen C.1 C.2.1 hX hbl hbA hR.2.2.2.2.1 hd (h3 hcc hz ls _ H locs ws ⟨hR.1, xv_sm.cons ?_ hst, hR.2.2⟩)
        have e : (Int32.ofNat scr.length).toInt = Int.ofNat scr.length := nI_toInt hlt
        exact xv_hv.i ⟨rfl, by rw [e]; exact Int.le_refl _, by rw [e]; exact Int.le_refl _⟩
    | false =>
      rw [hb] at hr
      simp only [cond_false] at hr
      cases hc : xv_cell S.1 o with
      | none => rw [hc] at hr; cases hr
      | some x =>
        rw [hc] at hr
        obtain ⟨b1, hr⟩ := xv_bt hr
        obtain ⟨b1, b2⟩ := xv_and_t b1
        have b1 := xv_ble b1
        have b2 := xv_ble b2
        obtain ⟨h1, h2, h3⟩ := hk _ _ _ _ _ hr
        refine ⟨h1, h2, fun hcc hz ls vst H locs ws hR => ?_⟩
        obtain ⟨x0, vst, rfl, hx, hst⟩ := hR.2.1.un
        obtain ⟨ad, en, rfl, hen, hce⟩ := hR.2.2.2.2.2.1.cell hc (by omega) hx
        obtain ⟨y, ty, rfl, hy, hty⟩ := hce.row b1 b2
        refine va_alen C.1 C.2.1 C.2.2.2.2.2.1 hR.2.2.1 _ _ hen hty rfl hd (h3 hcc hz ls _ H locs ws ⟨hR.1, xv_sm.cons ?_ hst, hR.2.2⟩)
        have e := xv_ofNat (hce.2.2.2.2 (by omega))
        rw [← hy] at e ⊢
        exact xv_hv.i ⟨rfl, by rw [e]; exact Int.le_refl _, by rw [e]; exact Int.le_refl _⟩
theorem xv_vpin {i : xv_V} {x : Int32} {n : Nat} (h : x.toInt = i.2.1) (h0 : 0 ≤ i.2.1) (hn : i.2.1.toNat < n) : vp_in x n := by
  rw [vp_in_iff]; omega
/-- a place of a row is read -/
theorem xs_ald {kd pc' : Nat} (hk : xv_G p l e R s m args below meth c D t A as0 sb nL Q k) (hr : xv_ald k kd pc' L st S = some r) (hkd : kd ≠ 99)
    (hs : ∀ (ls : Array Slot) (vst : List Value) (H : Heap) (locs : List Loc) (a b : Nat) (Z : State → Prop) (ws : va_W) (q ad : Nat) (en : va_E) (x : Int32) (cl : xv_C) (v : xv_V), va_P D vwCl ws H → ws[q]? = some (ad, en) → xv_hc t sb (ws.map Prod.fst) cl en → cl.1 = kd → vp_in x cl.2.1 → x.toNatClampNeg < cl.2.1 → xv_get 8 cl.2.2.2 (x.toNatClampNeg % cl.2.2.1) = some v →
      ∃ y, xv_hv sb (ws.map Prod.fst) v y ∧ (W p l e R s m args below meth c H locs a b Z (F0 m pc' ls (y :: vst)) → W p l e R s m args below meth c H locs a b Z (F0 m pc ls (.int x :: .ref ad :: vst)))) : xv_T p l e R s m args below meth c D t A as0 sb nL Q pc L st S r := by
  unfold xv_ald at hr
  match st, hr with
  | [], hr => cases hr
  | [_], hr => cases hr
  | i :: o :: z, hr =>
    dsimp only at hr
    cases hc : xv_cell S.1 o with
    | none => rw [hc] at hr; cases hr
    | some cl =>
      rw [hc] at hr
      obtain ⟨b1, hr⟩ := xv_bt hr
      obtain ⟨b1, b2⟩ := xv_and_t b1
      have b1 := xv_beq b1
      have b2 := xv_beq b2
      obtain ⟨v, hv, hr⟩ := xs_ldk hr
      obtain ⟨r1, r2, r3, r4⟩ := xv_read_eq hv
      obtain ⟨h1, h2, h3⟩ := hk _ _ _ _ _ hr
      refine ⟨h1, h2, fun hcc hz ls vst H locs ws hR => ?_⟩
      obtain ⟨i0, vst, rfl, hi, hst⟩ := hR.2.1.un
      obtain ⟨x0, vst, rfl, hx, hst2⟩ := hst.un
      obtain ⟨ad, en, rfl, hen, hce⟩ := hR.2.2.2.2.2.1.cell hc (by omega) hx
      obtain ⟨x, rfl, x1, x2⟩ := hi.1 b1
      obtain ⟨e1, e2, e3⟩ := xv_idx r1 r2 x1 x2
      obtain ⟨y, hy, hw⟩ := hs ls vst H locs S.2.2.1 S.2.2.2 (Q r) ws _ ad en x cl v hR.2.2.1 hen hce b2 (xv_vpin e1 r2 r3) (by rw [e2]; exact r3) (by rw [e2]; exact r4)
      exact hw (h3 hcc hz ls _ H locs ws ⟨hR.1, xv_sm.cons hy hst2, hR.2.2⟩)
theorem xs_iald (C : xv_Cx p s m args c cc own nL D t A sb scr) (hk : xv_G p l e R s m args below meth c D t A as0 sb nL Q k) (hd : decode cc pc = .ok (.iaload, 1)) (hr : xv_ald k 1 (pc + 1) L st S = some r) : xv_T p l e R s m args below meth c D t A as0 sb nL Q pc L st S r :=
  xs_ald hk hr (by decide) fun ls vst H locs a b Z ws q ad en x cl v hP hen hce hkd hin hlt hg => by
    obtain ⟨f, rfl, hf⟩ := hce.2.1 (by omega)
    rw [hkd] at hen
    exact ⟨_, hf _ hlt v hg, fun w => va_iald C.1 C.2.1 C.2.2.2.2.2.1 hP _ 0 hen rfl hin hd w⟩
theorem xs_bald (C : xv_Cx p s m args c cc own nL D t A sb scr) (hk : xv_G p l e R s m args below meth c D t A as0 sb nL Q k) (hd : decode cc pc = .ok (.baload, 1)) (hr : xv_ald k 2 (pc + 1) L st S = some r) : xv_T p l e R s m args below meth c D t A as0 sb nL Q pc L st S r :=
  xs_ald hk hr (by decide) fun ls vst H locs a b Z ws q ad en x cl v hP hen hce hkd hin hlt hg => by
    obtain ⟨f, rfl, hf⟩ := hce.2.1 (by omega)
    rw [hkd] at hen
    exact ⟨_, hf _ hlt v hg, fun w => va_bald C.1 C.2.1 C.2.2.2.2.2.1 hP _ 1 hen rfl hin hd w⟩
theorem xs_zald (C : xv_Cx p s m args c cc own nL D t A sb scr) (hk : xv_G p l e R s m args below meth c D t A as0 sb nL Q k) (hd : decode cc pc = .ok (.baload, 1)) (hr : xv_ald k 3 (pc + 1) L st S = some r) : xv_T p l e R s m args below meth c D t A as0 sb nL Q pc L st S r :=
  xs_ald hk hr (by decide) fun ls vst H locs a b Z ws q ad en x cl v hP hen hce hkd hin hlt hg => by
    obtain ⟨f, rfl, hf⟩ := hce.2.1 (by omega)
    rw [hkd] at hen
    exact ⟨_, hf _ hlt v hg, fun w => va_zald C.1 C.2.1 C.2.2.2.2.2.1 hP _ 2 hen rfl hin hd w⟩
theorem xs_lald (C : xv_Cx p s m args c cc own nL D t A sb scr) (hk : xv_G p l e R s m args below meth c D t A as0 sb nL Q k) (hd : decode cc pc = .ok (.laload, 1)) (hr : xv_ald k 4 (pc + 1) L st S = some r) : xv_T p l e R s m args below meth c D t A as0 sb nL Q pc L st S r :=
  xs_ald hk hr (by decide) fun ls vst H locs a b Z ws q ad en x cl v hP hen hce hkd hin hlt hg => by
    obtain ⟨f, rfl, hf⟩ := hce.2.2.1 (by omega)
    rw [hkd] at hen
    exact ⟨_, hf _ hlt v hg, fun w => va_lald C.1 C.2.1 C.2.2.2.2.2.1 hP _ 3 hen rfl hin hd w⟩
/-- a row of rows -/
theorem xv_aald {H : Heap} {locs : List Loc} {a b : Nat} {Z : State → Prop} {ws : va_W} {q ad n : Nat} {tys : List (ClassId × FieldType)} {t0 : Nat} {cA : ClassId} {ty : FieldType} {f : Nat → Option Nat} {x : Int32} {ls : Array Slot} {rest : List Value} (hty : ty.isReference = true) (hexec : p.tables.exec = Jvm.exec) (hb : c.code = cc) (hK : va_K D vwCl tys s) (hP : va_P D vwCl ws H) (ha : ws[q]? = some (ad, .inl (cA, n, .inr (.inr (.inr (.inr f)))))) (ht : tys[t0]? = some (cA, ty)) (hin : vp_in x n) (hdg : decode cc pc = .ok (.aaload, 1))
    (kk : W p l e R s m args below meth c H locs a b Z (F0 m (pc + 1) ls (va_rf (f x.toNatClampNeg) :: rest))) : W p l e R s m args below meth c H locs a b Z (F0 m pc ls (.int x :: .ref ad :: rest)) := by
  have hlt : x.toNatClampNeg < n := Nat.not_le.mp fun q => hin (Or.inr q)
  exact W.aald (v := va_rf (f x.toNatClampNeg)) (ty := ty) hexec hb (hP q _ ha) ((hK.2 t0 _ ht).1 n (fun j => va_rf (f j))) hty (fun q => by cases q) (by show ¬ (x < 0 ∨ (arrV _ _ _).slots.size ≤ _); rw [arrV_size]; exact hin) (by show (arrV _ _ _).slots[_]? = _; rw [arrV_read _ _ hlt]) rfl rfl hdg kk
theorem xs_aald {kd : Nat} (h5 : kd = 5 ∨ kd = 6 ∨ kd = 7) (C : xv_Cx p s m args c cc own nL D t A sb scr) (hk : xv_G p l e R s m args below meth c D t A as0 sb nL Q k) (hd : decode cc pc = .ok (.aaload, 1)) (hr : xv_ald k kd (pc + 1) L st S = some r) : xv_T p l e R s m args below meth c D t A as0 sb nL Q pc L st S r :=
  xs_ald hk hr (by omega) fun ls vst H locs a b Z ws q ad en x cl v hP hen hce hkd hin hlt hg => by
    obtain ⟨f, rfl, hf⟩ := hce.2.2.2.1 (by omega)
    rw [hkd] at hen
    refine ⟨_, hf _ hlt v hg, fun w => ?_⟩
    rcases h5 with rfl | rfl | rfl
    · exact xv_aald (ty := .array .int) (t0 := 4) rfl C.1 C.2.1 C.2.2.2.2.2.1 hP hen rfl hin hd w
    · exact xv_aald (ty := .array .long) (t0 := 5) rfl C.1 C.2.1 C.2.2.2.2.2.1 hP hen rfl hin hd w
    · exact xv_aald (ty := .object "PassedPenance$Image") (t0 := 6) rfl C.1 C.2.1 C.2.2.2.2.2.1 hP hen rfl hin hd w
/-- a place of the script is read -/
theorem xs_sld {z : List xv_V} {i o : xv_V} (C : xv_Cx p s m args c cc own nL D t A sb scr) (hk : xv_G p l e R s m args below meth c D t A as0 sb nL Q k) (hd : decode cc pc = .ok (.iaload, 1)) (hst : st = i :: o :: z) (ho : o.1 = 5) (hr : (bif Nat.beq i.1 0 && xv_isOne i then xv_ldk k (pc + 1) L z S (xv_nth scr i.2.1.toNat) else none) = some r) : xv_T p l e R s m args below meth c D t A as0 sb nL Q pc L st S r := by
  subst hst
  obtain ⟨b1, hr⟩ := xv_bt hr
  obtain ⟨b1, b2⟩ := xv_and_t b1
  have b1 := xv_beq b1
  obtain ⟨q1, q2⟩ := xv_isOne_eq b2
  obtain ⟨v, hv, hr⟩ := xs_ldk hr
  rw [xv_nth_eq] at hv
  obtain ⟨h1, h2, h3⟩ := hk _ _ _ _ _ hr
  refine ⟨h1, h2, fun hcc hz ls vst H locs ws hR => ?_⟩
  obtain ⟨i0, vst, rfl, hi, hst⟩ := hR.2.1.un
  obtain ⟨x0, vst, rfl, hx, hst2⟩ := hst.un
  have e := hx.2.2.2.2 ho
  subst e
  obtain ⟨x, rfl, x1, x2⟩ := hi.1 b1
  obtain ⟨e1, e2, e3⟩ := xv_idx q1 q2 x1 x2
  have hlt : i.2.1.toNat < scr.length := (List.getElem?_eq_some_iff.mp hv).1
  rcases C.2.2.2.2.2.2.2.1 with e | ⟨xs, hX, hbl, hbA, hlt2, hxs⟩
  · rw [e] at hlt; exact absurd hlt (Nat.not_lt_zero _)
  · refine va_sld C.1 C.2.1 hX hbl hbA hR.2.2.2.2.1 (xv_vpin e1 q2 hlt) hd (h3 hcc hz ls _ H locs ws ⟨hR.1, xv_sm.cons ?_ hst2, hR.2.2⟩)
    rw [e2]
    exact xv_hv.i (hxs _ v hv)
/-- a place of a row is written -/
theorem xs_ast {kd pc' : Nat} {ok : xv_V → Bool} (hk : xv_G p l e R s m args below meth c D t A as0 sb nL Q k) (hr : xv_ast k kd pc' L st S ok = some r) (hkd : kd ≠ 99 ∧ kd ≠ 0)
    (hs : ∀ (ls : Array Slot) (vst : List Value) (H : Heap) (locs : List Loc) (a b : Nat) (Z : State → Prop) (ws : va_W) (q ad : Nat) (en : va_E) (x : Int32) (cl : xv_C) (v : xv_V) (y : Value), va_P D vwCl ws H → va_D A ws → va_S A s.heap H locs → xv_H t sb S.1 S.2.1 ws → ws[q]? = some (ad, en) → xv_hc t sb (ws.map Prod.fst) cl en → cl.1 = kd → vp_in x cl.2.1 → xv_hv sb (ws.map Prod.fst) v y → ok v = true →
      ∃ (en' : va_E) (g g' : Nat → Value), (∀ j : Nat, j < cl.2.1 → ∀ u : xv_V, xv_get 8 cl.2.2.2 (j % cl.2.2.1) = some u → xv_hv sb (ws.map Prod.fst) u (g j)) ∧ xv_hv sb (ws.map Prod.fst) v (g' x.toNatClampNeg) ∧ (∀ j : Nat, j ≠ x.toNatClampNeg → g' j = g j) ∧
        (∀ c' : xv_C, c'.1 = cl.1 → c'.2.1 = cl.2.1 → (∀ j : Nat, j < cl.2.1 → ∀ u : xv_V, xv_get 8 c'.2.2.2 (j % c'.2.2.1) = some u → xv_hv sb (ws.map Prod.fst) u (g' j)) → xv_hc t sb (ws.map Prod.fst) c' en') ∧
        ((∀ (H1 : Heap) (locs1 : List Loc), va_P D vwCl (ws.set q (ad, en')) H1 → va_D A (ws.set q (ad, en')) → va_S A s.heap H1 locs1 → W p l e R s m args below meth c H1 locs1 a b Z (F0 m pc' ls vst)) → W p l e R s m args below meth c H locs a b Z (F0 m pc ls (y :: .int x :: .ref ad :: vst)))) : xv_T p l e R s m args below meth c D t A as0 sb nL Q pc L st S r := by
  unfold xv_ast at hr
  match st, hr with
  | [], hr => cases hr
  | [_], hr => cases hr
  | [_, _], hr => cases hr
  | v :: i :: o :: z, hr =>
    dsimp only at hr
    cases hc : xv_cell S.1 o with
    | none => rw [hc] at hr; cases hr
    | some cl =>
      rw [hc] at hr
      obtain ⟨b1, hr⟩ := xv_bt hr
      obtain ⟨b1, b3⟩ := xv_and_t b1
      obtain ⟨b1, b2⟩ := xv_and_t b1
      have b1 := xv_beq b1
      have b2 := xv_beq b2
      cases hwr : xv_write cl i v with
      | none => rw [hwr] at hr; cases hr
      | some c' =>
        rw [hwr] at hr
        obtain ⟨h1, h2, h3⟩ := hk _ _ _ _ _ hr
        refine ⟨h1, h2, fun hcc hz ls vst H locs ws hR => ?_⟩
        obtain ⟨y, vst, rfl, hy, hst⟩ := hR.2.1.un
        obtain ⟨i0, vst, rfl, hi, hst2⟩ := hst.un
        obtain ⟨x0, vst, rfl, hx, hst3⟩ := hst2.un
        have hH := hR.2.2.2.2.2.1
        obtain ⟨ad, en, rfl, hen, hce⟩ := hH.cell hc (by omega) hx
        obtain ⟨x, rfl, x1, x2⟩ := hi.1 b1
        have hone : i.2.2 ≤ i.2.1 ∧ 0 ≤ i.2.1 ∧ i.2.1.toNat < cl.2.1 := by
          have hw2 := hwr
          unfold xv_write at hw2
          obtain ⟨b, -⟩ := xv_bt hw2
          obtain ⟨b4, b5⟩ := xv_and_t b
          exact ⟨(xv_isOne_eq b4).1, (xv_isOne_eq b4).2, xv_ble b5⟩
        obtain ⟨e1, e2, e3⟩ := xv_idx hone.1 hone.2.1 x1 x2
        obtain ⟨en', g, g', g1, g2, g3, g4, g5⟩ := hs ls vst H locs S.2.2.1 S.2.2.2 (Q r) ws _ ad en x cl v y hR.2.2.1 hR.2.2.2.1 hR.2.2.2.2.1 hH hen hce b2 (xv_vpin e1 hone.2.1 hone.2.2) hy b3
        rw [e2] at g2 g3
        obtain ⟨-, -, -, w1, w2, w3⟩ := xv_write_ok hwr g1 g2 g3
        refine g5 (fun H1 locs1 hP1 hD1 hS1 => ?_)
        refine h3 hcc hz ls vst H1 locs1 _ (hR.new ⟨[], ?_⟩ ?_ hP1 hD1 hS1 ?_)
        · rw [xv_fst_set hen, List.append_nil]
        · rw [xv_fst_set hen]; exact hst3
        · exact hH.set hen (g4 c' w1 w2 w3)
theorem xs_iast (C : xv_Cx p s m args c cc own nL D t A sb scr) (hk : xv_G p l e R s m args below meth c D t A as0 sb nL Q k) (hd : decode cc pc = .ok (.iastore, 1)) (hr : xv_ast k 1 (pc + 1) L st S (fun v => Nat.beq v.1 0) = some r) : xv_T p l e R s m args below meth c D t A as0 sb nL Q pc L st S r :=
  xs_ast hk hr (by decide) fun ls vst H locs a b Z ws q ad en x cl v y hP hD hS hH hen hce hkd hin hy hok => by
    obtain ⟨f, rfl, hf⟩ := hce.2.1 (by omega)
    have h6 := hce.2.2.2.2 (by omega)
    obtain ⟨i, rfl, i1, i2⟩ := hy.1 (xv_beq hok)
    refine ⟨.inl (t 1, cl.2.1, .inl (upd f x.toNatClampNeg i)), fun j => .int (f j), fun j => .int (upd f x.toNatClampNeg i j), hf, ?_, fun j hj => by simp [upd, hj], fun c' w1 w2 w3 => ?_, fun kk => ?_⟩
    · dsimp only; rw [show upd f x.toNatClampNeg i x.toNatClampNeg = i by simp [upd]]; exact hy
    · have := xv_hc.irow (t := t) (k := c') (by omega) (by omega) (fun j hj => w3 j (by omega))
      rw [w1, hkd, w2] at this
      exact this
    · rw [hkd] at hen
      exact va_iast C.1 C.2.1 C.2.2.2.2.2.1 hP hD hS _ 0 hen rfl hin hd kk
theorem xv_nar_b {x : Int32} (h1 : -128 ≤ x.toInt) (h2 : x.toInt ≤ 127) : vp_nar .byte x = x := by
  rw [vp_nar_byte]
  apply Int32.toInt_inj.mp
  rw [Int8.toInt_toInt32, Int32.toInt_toInt8]
  exact Int.bmod_eq_of_le (by omega) (by omega)
theorem xv_nar_z {x : Int32} (h1 : 0 ≤ x.toInt) (h2 : x.toInt ≤ 1) : vp_nar .boolean x = x ∧ narrow .boolean (.int x) = .int x := by
  have h : x = 0 ∨ x = 1 := by
    rcases (show x.toInt = 0 ∨ x.toInt = 1 by omega) with e | e
    · left; apply Int32.toInt_inj.mp; rw [e]; decide
    · right; apply Int32.toInt_inj.mp; rw [e]; decide
  rcases h with rfl | rfl
  · exact ⟨by decide, by decide⟩
  · exact ⟨by decide, by decide⟩
theorem xs_bast (C : xv_Cx p s m args c cc own nL D t A sb scr) (hk : xv_G p l e R s m args below meth c D t A as0 sb nL Q k) (hd : decode cc pc = .ok (.bastore, 1)) (hr : xv_ast k 2 (pc + 1) L st S (fun v => Nat.beq v.1 0 && (xv_le (-128) v.2.1 && xv_le v.2.2 127)) = some r) : xv_T p l e R s m args below meth c D t A as0 sb nL Q pc L st S r :=
  xs_ast hk hr (by decide) fun ls vst H locs a b Z ws q ad en x cl v y hP hD hS hH hen hce hkd hin hy hok => by
    obtain ⟨f, rfl, hf⟩ := hce.2.1 (by omega)
    have h6 := hce.2.2.2.2 (by omega)
    obtain ⟨o1, o2⟩ := xv_and_t hok
    obtain ⟨o2, o3⟩ := xv_and_t o2
    have o2 := xv_le_iff.mp o2
    have o3 := xv_le_iff.mp o3
    obtain ⟨i, rfl, i1, i2⟩ := hy.1 (xv_beq o1)
    refine ⟨.inl (t 2, cl.2.1, .inl (upd f x.toNatClampNeg i)), fun j => .int (f j), fun j => .int (upd f x.toNatClampNeg i j), hf, ?_, fun j hj => by simp [upd, hj], fun c' w1 w2 w3 => ?_, fun kk => ?_⟩
    · dsimp only; rw [show upd f x.toNatClampNeg i x.toNatClampNeg = i by simp [upd]]; exact hy
    · have := xv_hc.irow (t := t) (k := c') (by omega) (by omega) (fun j hj => w3 j (by omega))
      rw [w1, hkd, w2] at this
      exact this
    · rw [hkd] at hen
      refine va_bast C.1 C.2.1 C.2.2.2.2.2.1 hP hD hS _ 1 hen rfl hin hd ?_
      rw [xv_nar_b (by omega) (by omega)]
      exact kk
theorem xs_zast (C : xv_Cx p s m args c cc own nL D t A sb scr) (hk : xv_G p l e R s m args below meth c D t A as0 sb nL Q k) (hd : decode cc pc = .ok (.bastore, 1)) (hr : xv_ast k 3 (pc + 1) L st S (fun v => Nat.beq v.1 0 && (xv_le 0 v.2.1 && xv_le v.2.2 1)) = some r) : xv_T p l e R s m args below meth c D t A as0 sb nL Q pc L st S r :=
  xs_ast hk hr (by decide) fun ls vst H locs a b Z ws q ad en x cl v y hP hD hS hH hen hce hkd hin hy hok => by
    obtain ⟨f, rfl, hf⟩ := hce.2.1 (by omega)
    have h6 := hce.2.2.2.2 (by omega)
    obtain ⟨o1, o2⟩ := xv_and_t hok
    obtain ⟨o2, o3⟩ := xv_and_t o2
    have o2 := xv_le_iff.mp o2
    have o3 := xv_le_iff.mp o3
    obtain ⟨i, rfl, i1, i2⟩ := hy.1 (xv_beq o1)
    refine ⟨.inl (t 3, cl.2.1, .inl (upd f x.toNatClampNeg i)), fun j => .int (f j), fun j => .int (upd f x.toNatClampNeg i j), hf, ?_, fun j hj => by simp [upd, hj], fun c' w1 w2 w3 => ?_, fun kk => ?_⟩
    · dsimp only; rw [show upd f x.toNatClampNeg i x.toNatClampNeg = i by simp [upd]]; exact hy
    · have := xv_hc.irow (t := t) (k := c') (by omega) (by omega) (fun j hj => w3 j (by omega))
      rw [w1, hkd, w2] at this
      exact this
    · rw [hkd] at hen
      refine va_zast C.1 C.2.1 C.2.2.2.2.2.1 hP hD hS _ 2 hen rfl hin hd ?_
      rw [(xv_nar_z (by omega) (by omega)).1]
      exact kk
theorem xs_last (C : xv_Cx p s m args c cc own nL D t A sb scr) (hk : xv_G p l e R s m args below meth c D t A as0 sb nL Q k) (hd : decode cc pc = .ok (.lastore, 1)) (hr : xv_ast k 4 (pc + 1) L st S (fun v => Nat.beq v.1 1) = some r) : xv_T p l e R s m args below meth c D t A as0 sb nL Q pc L st S r :=
  xs_ast hk hr (by decide) fun ls vst H locs a b Z ws q ad en x cl v y hP hD hS hH hen hce hkd hin hy hok => by
    obtain ⟨f, rfl, hf⟩ := hce.2.2.1 (by omega)
    have h6 := hce.2.2.2.2 (by omega)
    obtain ⟨i, rfl, i1, i2⟩ := hy.2.1 (xv_beq hok)
    refine ⟨.inl (t 4, cl.2.1, .inr (.inl (vp_updL f x.toNatClampNeg i))), fun j => .long (f j), fun j => .long (vp_updL f x.toNatClampNeg i j), hf, ?_, fun j hj => by simp [vp_updL, hj], fun c' w1 w2 w3 => ?_, fun kk => ?_⟩
    · dsimp only; rw [show vp_updL f x.toNatClampNeg i x.toNatClampNeg = i by simp [vp_updL]]; exact hy
    · have := xv_hc.lrow (t := t) (k := c') (by omega) (by omega) (fun j hj => w3 j (by omega))
      rw [w1, hkd, w2] at this
      exact this
    · rw [hkd] at hen
      exact va_last C.1 C.2.1 C.2.2.2.2.2.1 hP hD hS _ 3 hen rfl hin hd kk
theorem xs_aast (C : xv_Cx p s m args c cc own nL D t A sb scr) (hk : xv_G p l e R s m args below meth c D t A as0 sb nL Q k) (hd : decode cc pc = .ok (.aastore, 1)) (hr : xv_ast k 7 (pc + 1) L st S (fun v => Nat.beq v.1 2 && (match xv_cell S.1 v with | some c => Nat.beq c.1 0 && Nat.beq c.2.1 4 | none => false)) = some r) : xv_T p l e R s m args below meth c D t A as0 sb nL Q pc L st S r :=
  xs_ast hk hr (by decide) fun ls vst H locs a b Z ws q ad en x cl v y hP hD hS hH hen hce hkd hin hy hok => by
    obtain ⟨f, rfl, hf⟩ := hce.2.2.2.1 (by omega)
    have h6 := hce.2.2.2.2 (by omega)
    obtain ⟨o1, o2⟩ := xv_and_t hok
    cases hc : xv_cell S.1 v with
    | none => rw [hc] at o2; cases o2
    | some cv =>
      rw [hc] at o2
      obtain ⟨o2, o3⟩ := xv_and_t o2
      have o2 := xv_beq o2
      have o3 := xv_beq o3
      obtain ⟨av, ev, rfl, hev, hcv⟩ := hH.cell hc (by omega) hy
      obtain ⟨fs, rfl, -, -⟩ := hcv.1 o2
      rw [o3] at hev
      refine ⟨.inl (t 7, cl.2.1, .inr (.inr (.inr (.inr (va_up f x.toNatClampNeg (some av)))))), fun j => va_rf (f j), fun j => va_rf (va_up f x.toNatClampNeg (some av) j), hf, ?_, fun j hj => by simp [va_up, hj], fun c' w1 w2 w3 => ?_, fun kk => ?_⟩
      · dsimp only; rw [show va_up f x.toNatClampNeg (some av) x.toNatClampNeg = some av by simp [va_up]]; exact hy
      · have := xv_hc.arow (t := t) (k := c') (by omega) (by omega) (fun j hj => w3 j (by omega))
        rw [w1, hkd, w2] at this
        exact this
      · rw [hkd] at hen
        exact va_astq (r := (RX4, TX4, 2)) C.1 C.2.1 C.2.2.2.2.2.1 hP hD hS _ 6 _ 4 hen rfl hev rfl hin hd kk
end XV5
end
section
/-! new T[n][m] in one instruction: the outer row, then row by row, each put into its place as soon as it is made -/
/-- the outer row when i of its rows are made -/
def xm_out (cO : ClassId) (N h0 i : Nat) : Cell := arrV cO N (fun j => va_rf (if j < i then some (h0 + 1 + j) else none))
def xm_in (cI : ClassId) (M : Nat) (dv : Value) : Cell := { cls := cI, slots := Array.replicate M dv, vm := .none }
/-- the state when i rows are made -/
def xm_st (s : State) (cO cI : ClassId) (N M : Nat) (dv : Value) : Nat → State
  | 0 => s.pushCell (xm_out cO N s.heap.size 0)
  | i + 1 => ((xm_st s cO cI N M dv i).pushCell (xm_in cI M dv)).setCell s.heap.size (xm_out cO N s.heap.size (i + 1))
theorem xm_out_next (cO : ClassId) (N h0 i : Nat) : (xm_out cO N h0 i).setSlot i (.ref (h0 + 1 + i)) = xm_out cO N h0 (i + 1) := by
  unfold xm_out
  rw [arrV_store]
  refine congrArg (arrV cO N) (funext fun j => ?_)
  by_cases e : j = i
  · subst e; simp [updV, va_rf]
  · by_cases h : j < i
    · simp [updV, e, h, Nat.lt_succ_of_lt h]
    · simp [updV, e, h, show ¬ j < i + 1 by omega]
theorem xm_size (s : State) (cO cI : ClassId) (N M : Nat) (dv : Value) : ∀ i, (xm_st s cO cI N M dv i).heap.size = s.heap.size + 1 + i
  | 0 => size_pushCell _ _
  | i + 1 => by
    have := xm_size s cO cI N M dv i
    simp only [xm_st]
    rw [size_setCell, size_pushCell, this]
    omega
theorem xm_head (s : State) (cO cI : ClassId) (N M : Nat) (dv : Value) (i : Nat) : (xm_st s cO cI N M dv i).heap[s.heap.size]? = some (xm_out cO N s.heap.size i) := by
  cases i with
  | zero => exact State.heap_pushCell_size _ _
  | succ i =>
    have h := xm_size s cO cI N M dv i
    have hlt : s.heap.size < ((xm_st s cO cI N M dv i).pushCell (xm_in cI M dv)).heap.size := by rw [size_pushCell, h]; omega
    exact heapAt_setCell_self _ hlt
theorem xm_vm (s : State) (cO cI : ClassId) (N M : Nat) (dv : Value) : ∀ i, (xm_st s cO cI N M dv i).vm = s.vm
  | 0 => rfl
  | i + 1 => xm_vm s cO cI N M dv i
theorem xm_used (s : State) (cO cI : ClassId) (N M : Nat) (dv : Value) : ∀ i, (xm_st s cO cI N M dv i).slotsUsed = s.slotsUsed + N + i * M
  | 0 => by
    show s.slotsUsed + (xm_out cO N s.heap.size 0).slots.size = _
    rw [xm_out, arrV_size]; omega
  | i + 1 => by
    have := xm_used s cO cI N M dv i
    show (xm_st s cO cI N M dv i).slotsUsed + (xm_in cI M dv).slots.size = _
    rw [this, Nat.succ_mul]
    simp [xm_in]; omega
theorem xm_top (s : State) (f : JFrame) (cO cI : ClassId) (N M : Nat) (dv : Value) : ∀ i, xm_st (s.setTop f) cO cI N M dv i = (xm_st s cO cI N M dv i).setTop f
  | 0 => rfl
  | i + 1 => by
    have := xm_top s f cO cI N M dv i
    simp only [xm_st, this]
    rfl
theorem xm_old (s : State) (cO cI : ClassId) (N M : Nat) (dv : Value) {a : Nat} (ha : a < s.heap.size) : ∀ i, (xm_st s cO cI N M dv i).heap[a]? = s.heap[a]?
  | 0 => State.heap_pushCell_of_lt _ _ ha
  | i + 1 => by
    have h := xm_size s cO cI N M dv i
    have hlt : a < (xm_st s cO cI N M dv i).heap.size := by omega
    show (((xm_st s cO cI N M dv i).pushCell (xm_in cI M dv)).setCell s.heap.size _).heap[a]? = _
    rw [heapAt_setCell_ne _ (show s.heap.size ≠ a by omega), State.heap_pushCell_of_lt _ _ hlt]
    exact xm_old s cO cI N M dv ha i
theorem xm_row (s : State) (cO cI : ClassId) (N M : Nat) (dv : Value) : ∀ i j, j < i → (xm_st s cO cI N M dv i).heap[s.heap.size + 1 + j]? = some (xm_in cI M dv)
  | 0, _, h => absurd h (Nat.not_lt_zero _)
  | i + 1, j, h => by
    have hz := xm_size s cO cI N M dv i
    show (((xm_st s cO cI N M dv i).pushCell (xm_in cI M dv)).setCell s.heap.size _).heap[s.heap.size + 1 + j]? = _
    rw [heapAt_setCell_ne _ (show s.heap.size ≠ s.heap.size + 1 + j by omega)]
    by_cases hj : j < i
    · rw [State.heap_pushCell_of_lt _ _ (show s.heap.size + 1 + j < (xm_st s cO cI N M dv i).heap.size by omega)]
      exact xm_row s cO cI N M dv i j hj
    · have e : s.heap.size + 1 + j = (xm_st s cO cI N M dv i).heap.size := by omega
      rw [e]
      exact State.heap_pushCell_size _ _
section XM0
variable {E : CtlPost} {e : Env} {d : Bool} {acts : List Action} {s : State}
theorem xm_new {cO comp : ClassId} {k : Class} {ty : FieldType} {len : Nat} {z : Value} (hk : s.vm.classes[cO]? = some k) (hkind : k.kind = .array comp ty) (hl : ¬ len > e.platform.arrayLengthLimit) (hh : ¬ len * componentBytes ty > e.platform.maxHeapBytes) (hf : fits ty z = true) (hz : z.isDefault = true)
    (h1 : s.heap.size < e.platform.maxCells) (h2 : s.slotsUsed + len ≤ e.platform.maxSlots) {Q : Addr → Pre} (hq : Q s.heap.size d acts (s.pushCell { cls := cO, slots := Array.replicate len z, vm := .none })) : wp (Jvm.newArray cO len z) Q E e d acts s := by
  have a1 : ∀ i v, (Array.replicate len z)[i]? = some v → s.fitsSlot cO .none i v = true := fun i v hv => by
    rw [Array.getElem?_replicate] at hv
    by_cases hi : i < len
    · rw [if_pos hi] at hv
      cases hv
      simp [State.fitsSlot, State.slotType?, hk, hkind, hf]
    · rw [if_neg hi] at hv; cases hv
  have a2 : allocActs (Array.replicate len z) s.heap.size acts = acts := by
    have : ((Array.replicate len z).all (·.isDefault)) = true := by
      rw [Array.all_replicate]; split <;> simp [hz]
    unfold allocActs
    rw [if_pos this]
  simp only [Jvm.newArray, Jvm.arrayFits, wp_bind', W.ask, W.ite, hl, if_false, wp_pure', W.theClass, hk, hkind, hh, W.alloc, W.stop, Option.some.injEq, exists_eq_left', Array.size_replicate, a2]
  rw [if_neg (by omega)]
  exact ⟨h1, h2, a1, hq⟩
theorem xm_make1 {cI comp : ClassId} {k : Class} {ty : FieldType} {m : Int32} (hk : s.vm.classes[cI]? = some k) (hkind : k.kind = .array comp ty) (hm : ¬ m < 0) (hl : ¬ m.toNatClampNeg > e.platform.arrayLengthLimit) (hh : ¬ m.toNatClampNeg * componentBytes ty > e.platform.maxHeapBytes) (hf : fits ty (defaultValue ty) = true) (hz : (defaultValue ty).isDefault = true)
    (h1 : s.heap.size < e.platform.maxCells) (h2 : s.slotsUsed + m.toNatClampNeg ≤ e.platform.maxSlots) {Q : Addr → Pre} (hq : Q s.heap.size d acts (s.pushCell (xm_in cI m.toNatClampNeg (defaultValue ty)))) : wp (multianewarray.make cI [m]) Q E e d acts s := by
  rw [multianewarray.make]
  simp only [wp_bind', W.ite, hm, if_false, wp_pure', W.theClass, hk, hkind, Option.some.injEq, exists_eq_left']
  exact xm_new hk hkind hl hh hf hz h1 h2 hq
theorem xm_make2 {cO cI comp : ClassId} {k kI : Class} {ty : FieldType} {n m : Int32} (hk : s.vm.classes[cO]? = some k) (hkind : k.kind = .array cI (.array ty)) (hkI : s.vm.classes[cI]? = some kI) (hkindI : kI.kind = .array comp ty) (hn : ¬ n < 0) (hm : ¬ m < 0)
    (hl1 : ¬ n.toNatClampNeg > e.platform.arrayLengthLimit) (hh1 : ¬ n.toNatClampNeg * componentBytes (.array ty) > e.platform.maxHeapBytes) (hl2 : ¬ m.toNatClampNeg > e.platform.arrayLengthLimit) (hh2 : ¬ m.toNatClampNeg * componentBytes ty > e.platform.maxHeapBytes)
    (hf : fits ty (defaultValue ty) = true) (hz : (defaultValue ty).isDefault = true) (hc : s.heap.size + 1 + n.toNatClampNeg ≤ e.platform.maxCells) (hs : s.slotsUsed + n.toNatClampNeg + n.toNatClampNeg * m.toNatClampNeg ≤ e.platform.maxSlots)
    {Q : Addr → Pre} (hq : ∀ d' acts', Q s.heap.size d' acts' (xm_st s cO cI n.toNatClampNeg m.toNatClampNeg (defaultValue ty) n.toNatClampNeg)) : wp (multianewarray.make cO [n, m]) Q E e d acts s := by
  generalize hN : n.toNatClampNeg = N at *
  generalize hM : m.toNatClampNeg = M at *
  have hfind : ([m].find? (· < 0)) = none := by simp [hm]
  rw [multianewarray.make]
  simp only [wp_bind', W.ite, hn, if_false, wp_pure', W.theClass, hk, hkind, Option.some.injEq, exists_eq_left', hN]
  have hNM : 0 ≤ N * M := Nat.zero_le _
  refine xm_new hk hkind hl1 hh1 rfl rfl (by omega) (by omega) ?_
  have hstart : s.pushCell ({ cls := cO, slots := Array.replicate N .null, vm := .none } : Cell) = xm_st s cO cI N M (defaultValue ty) 0 := by
    show _ = s.pushCell _
    refine congrArg s.pushCell ?_
    rw [arrV_new, xm_out]
    refine congrArg (arrV cO N) (funext fun j => ?_)
    simp [va_rf]
  rw [hstart]
  simp only [hfind]
  rw [ite_self, wp_bind', Std.Legacy.Range.forIn_eq_forIn_range']
  have hsz : ([:N] : Std.Legacy.Range).size = N := by simp [Std.Legacy.Range.size]
  rw [hsz]
  show wp (forIn (List.range' 0 N 1) PUnit.unit _) _ E e d acts _
  refine wp_forIn_inv (fun rest s' => ∃ i, i ≤ N ∧ rest = List.range' i (N - i) ∧ s' = xm_st s cO cI N M (defaultValue ty) i) _ _ ⟨0, Nat.zero_le _, rfl, rfl⟩ ?_ ?_
  · rintro x rest s' d' acts' Q' ⟨i, hi, hl, rfl⟩ hnext
    obtain ⟨w, hw⟩ : ∃ w, N - i = w + 1 := by
      cases hw : N - i with
      | zero => rw [hw] at hl; simp at hl
      | succ w => exact ⟨w, rfl⟩
    rw [hw, List.range'_succ] at hl
    obtain ⟨rfl, hrest⟩ := List.cons.inj hl
    have z1 := xm_size s cO cI N M (defaultValue ty) x
    have z2 := xm_head s cO cI N M (defaultValue ty) x
    have z3 := xm_vm s cO cI N M (defaultValue ty) x
    have z4 := xm_used s cO cI N M (defaultValue ty) x
    have hmul : x * M + M ≤ N * M := by
      have := Nat.mul_le_mul_right M (show x + 1 ≤ N by omega)
      rw [Nat.succ_mul] at this
      exact this
    simp only [wp_bind']
    refine xm_make1 (by rw [z3]; exact hkI) hkindI hm (by rw [hM]; exact hl2) (by rw [hM]; exact hh2) hf hz (by rw [z1]; omega) (by rw [z4, hM]; omega) ?_
    have hlt : s.heap.size < (xm_st s cO cI N M (defaultValue ty) x).heap.size := by rw [z1]; omega
    simp only [wp_bind', W.writeLoc, wp_pure', hM]
    refine ⟨xm_out cO N s.heap.size x, by rw [State.heap_pushCell_of_lt _ _ hlt]; exact z2, (fun q => by cases q), by rw [xm_out, arrV_size]; omega, ?_, hnext _ _ _ ⟨x + 1, by omega, by rw [hrest, show N - (x + 1) = w by omega], ?_⟩⟩
    · show State.fitsSlot _ cO .none x _ = true
      simp [State.fitsSlot, State.slotType?, z3, hk, hkind]
      rfl
    · show _ = ((xm_st s cO cI N M (defaultValue ty) x).pushCell _).setCell s.heap.size _
      rw [← xm_out_next, z1]
  · rintro s' d' acts' ⟨i, hi, hl, rfl⟩
    have hiN : i = N := by
      cases hw : N - i with
      | zero => omega
      | succ w => rw [hw, List.range'_succ] at hl; cases hl
    subst hiN
    simp only [wp_pure']
    exact hq _ _
end XM0
theorem xm_over {args : Array Value} {s : State} {ty : FieldType} (h : (Cond.arrayOver (.array ty)).before args s = true) : xv_AOA ty s := by
  have h : (Cond.arrayOver (.array ty)).holds args s none s [] = true := h
  simp only [Cond.holds, Cond.value, beq_iff_eq] at h
  cases hc : s.vm.findClass (FieldType.array ty).toString with
  | none => simp [hc] at h
  | some cI =>
    simp only [hc, Option.bind_some, Option.bind_eq_some_iff, Option.map_eq_some_iff] at h
    obtain ⟨cO, hi, k, hk, hb⟩ := h
    obtain ⟨hlt, hp, -⟩ := Array.findIdx?_eq_some_iff_getElem.mp hi
    rw [(Array.getElem?_eq_some_iff.mp hk).2] at hp
    cases hkind : k.kind with
    | array comp ty2 =>
      rw [hkind] at hb hp
      simp at hb hp
      exact ⟨cI, cO, k, hc, hk, by rw [hkind, hp, hb.1], hb.2⟩
    | _ => rw [hkind] at hb; simp at hb
section XM1
variable {p : Program} {l : Launch} {e : Env} {R : Room} {s : State} {m : MethodId} {args : Array Value} {below : List Frame} {meth : Method} {c : Code} {T : State} {locs : List Loc} {cells slots : Nat}
theorem xm_stand (X : Stand p l e R s m args below meth c T locs cells slots) (hb : s.heap.size ≤ T.heap.size) (cO cI : ClassId) (N M : Nat) (dv : Value) : ∀ i, Stand p l e R s m args below meth c (xm_st T cO cI N M dv i) (locs ++ (List.range i).map fun j => ⟨T.heap.size, j⟩) (cells + 1 + i) (slots + N + i * M)
  | 0 => by
    have h := X.pushed (xm_out cO N T.heap.size 0)
    rw [show (xm_out cO N T.heap.size 0).slots.size = N by rw [xm_out, arrV_size]] at h
    simpa [xm_st] using h
  | i + 1 => by
    have Xi := xm_stand X hb cO cI N M dv i
    have z1 := xm_size T cO cI N M dv i
    have hcell : ((xm_st T cO cI N M dv i).pushCell (xm_in cI M dv)).heap[T.heap.size]? = some (xm_out cO N T.heap.size i) := by
      rw [State.heap_pushCell_of_lt _ _ (show T.heap.size < (xm_st T cO cI N M dv i).heap.size by rw [z1]; omega)]; exact xm_head T cO cI N M dv i
    have h := (Xi.pushed (xm_in cI M dv)).stored hcell i (.ref (T.heap.size + 1 + i))
    rw [show (xm_in cI M dv).slots.size = M by simp [xm_in], xm_out_next] at h
    rw [show slots + N + (i + 1) * M = slots + N + i * M + M by rw [Nat.succ_mul]; omega, List.range_succ, List.map_append, ← List.append_assoc]
    exact h
theorem xm_go (X : Stand p l e R s m args below meth c T locs cells slots) (hexec : p.tables.exec = Jvm.exec) {own : String} {index : Nat} {ty : FieldType} (hown : s.vm.findClass own = some m.cls) (hcl : (Cond.classLink own index ("[" ++ (FieldType.array ty).toString)).before args s = true) (hov : xv_AOA ty s) (har : (Cond.arrayClass ty).before args s = true)
    {g : JFrame} (hg : g.method = m) (hdg : decode c.code g.pc = .ok (.multianewarray index 2, 4)) {n k : Int32} {rest : List Value} (hstack : g.stack = .int k :: .int n :: rest) (hn : ¬ n < 0) (hk : ¬ k < 0) (hb1 : n.toNatClampNeg * 4 ≤ 536870912) (hb2 : k.toNatClampNeg * componentBytes ty ≤ 536870912) (hb3 : k.toNatClampNeg ≤ 536870912)
    (hf : fits ty (defaultValue ty) = true) (hz : (defaultValue ty).isDefault = true) (hcells : cells + (1 + n.toNatClampNeg) ≤ R.cells) (hslots : slots + (n.toNatClampNeg + n.toNatClampNeg * k.toNatClampNeg) ≤ R.slots) (hsz : s.heap.size ≤ T.heap.size) :
    ∃ (vm₁ : Vm) (cO cI : ClassId), s.vm.findClass ("[" ++ (FieldType.array ty).toString) = some cO ∧ s.vm.findClass (FieldType.array ty).toString = some cI ∧ Stand p l e R s m args below meth c (xm_st (T.setVm vm₁) cO cI n.toNatClampNeg k.toNatClampNeg (defaultValue ty) n.toNatClampNeg) locs (cells + 1 + n.toNatClampNeg) (slots + n.toNatClampNeg + n.toNatClampNeg * k.toNatClampNeg) ∧
      ∀ target, Steps p.tables e below ((xm_st (T.setVm vm₁) cO cI n.toNatClampNeg k.toNatClampNeg (defaultValue ty) n.toNatClampNeg).setTop { g with pc := g.pc + 4, stack := .ref T.heap.size :: rest }) target → Steps p.tables e below (T.setTop g) target := by
  subst hg
  have hpl : e.platform.magicAccessors = ({} : Platform).magicAccessors := by rw [X.admits.platform]
  obtain ⟨cI, cO, kO, fI, hkO, hkindO, fO⟩ := hov
  obtain ⟨cI', kI, comp, fI', hkI, hkindI⟩ := Cond.arrayClass_spec har
  cases Option.some.inj (fI'.symm.trans fI)
  obtain ⟨c0, f0, hlink⟩ := Cond.classLink_spec hown hcl e.platform hpl
  cases Option.some.inj (fO.symm.trans f0)
  obtain ⟨hg1, hwarm, hready⟩ := State.classEntry (e := e) X.warmed hlink
  generalize T.vm.noted g.method.cls index (.cls cO) = vm₁ at hg1 hwarm hready
  obtain ⟨kO1, hkO1, eO⟩ := hwarm.alike.2.2 _ _ hkO
  obtain ⟨kI1, hkI1, eI⟩ := hwarm.alike.2.2 _ _ hkI
  have X1 := X.noted hwarm
  obtain ⟨hr1, hr2⟩ := X.roomAbove hcells hslots
  have XF := xm_stand X1 hsz cO cI n.toNatClampNeg k.toNatClampNeg (defaultValue ty) n.toNatClampNeg
  have XG : Stand p l e R s g.method args below meth c (xm_st (T.setVm vm₁) cO cI n.toNatClampNeg k.toNatClampNeg (defaultValue ty) n.toNatClampNeg) locs (cells + 1 + n.toNatClampNeg) (slots + n.toNatClampNeg + n.toNatClampNeg * k.toNatClampNeg) := by
    refine Stand.forget XF (fun q hq => ?_)
    obtain ⟨j, -, rfl⟩ := List.mem_map.mp hq
    exact hsz
  refine ⟨vm₁, cO, cI, fO, fI, XG, fun target hrest => ?_⟩
  have hl1 : ¬ n.toNatClampNeg > e.platform.arrayLengthLimit := by rw [Launch.admits_arrayLengthLimit X.admits]; omega
  have hh1 : ¬ n.toNatClampNeg * componentBytes (.array ty) > e.platform.maxHeapBytes := by
    rw [Launch.admits_maxHeapBytes X.admits]; show ¬ n.toNatClampNeg * 4 > 536870912; omega
  have hl2 : ¬ k.toNatClampNeg > e.platform.arrayLengthLimit := by rw [Launch.admits_arrayLengthLimit X.admits]; omega
  have hh2 : ¬ k.toNatClampNeg * componentBytes ty > e.platform.maxHeapBytes := by rw [Launch.admits_maxHeapBytes X.admits]; omega
  jvm_step X.here [hexec, hdg]
  simp only [multianewarray.sem, wp_bind', W.resolveClassAt_links (State.method?_setTop g X.here.top) hg1]
  rw [W.popN, if_neg (by decide)]
  refine ⟨g, State.topJava?_setTop' (s := T.setVm vm₁) g X.here.top, [.int n, .int k], rest, rfl, hstack, ?_⟩
  simp only [List.mapM_cons, List.mapM_nil, wp_bind', wp_pure']
  refine xm_make2 (k := kO1) (kI := kI1) (cI := cI) (comp := comp) (ty := ty) hkO1 (by rw [eO]; exact hkindO) hkI1 (by rw [eI]; exact hkindI) hn hk hl1 hh1 hl2 hh2 hf hz (by show T.heap.size + 1 + _ ≤ _; omega) (by show T.slotsUsed + _ + _ ≤ _; omega) (fun d' acts' => ?_)
  have eS : ((T.setTop g).setVm vm₁).setTop { g with stack := rest } = (T.setVm vm₁).setTop { g with stack := rest } := by
    show ((T.setVm vm₁).setTop g).setTop _ = _
    rw [State.setTop_setTop]
  rw [eS, xm_top]
  simp only [wp_bind', W.mark, W.pushRef, State.topJava?_setTop' _ XG.here.top, Option.some.injEq, exists_eq_left', State.setTop_setTop, State.heap_setTop]
  intro acts
  simp [jvm, XG.here.top]
  exact hrest
end XM1
end
section
/-! rows of rows; a copy; Object's constructor -/
def xm_num (n : Nat) : List va_E → va_W
  | [] => []
  | e :: es => (n, e) :: xm_num (n + 1) es
theorem xm_num_get : ∀ (es : List va_E) (n j : Nat), (xm_num n es)[j]? = (es[j]?).map (fun e => (n + j, e))
  | [], _, _ => by simp [xm_num]
  | e :: es, n, 0 => by simp [xm_num]
  | e :: es, n, j + 1 => by
    have h := xm_num_get es (n + 1) j
    show (xm_num (n + 1) es)[j]? = _
    rw [h, List.getElem?_cons_succ, show n + 1 + j = n + (j + 1) by omega]
theorem xm_num_len (es : List va_E) : ∀ n : Nat, (xm_num n es).length = es.length := by
  induction es with
  | nil => intro n; rfl
  | cons e es ih => intro n; simp [xm_num, ih]
theorem xm_D {A : Nat → Prop} : ∀ (es : List va_E) (ws : va_W) (n : Nat), va_D A ws → (∀ (k : Nat) (q : Nat × va_E), ws[k]? = some q → q.1 < n) → (∀ a : Nat, n ≤ a → A a) → va_D A (ws ++ xm_num n es)
  | [], ws, _, hD, _, _ => by rw [xm_num, List.append_nil]; exact hD
  | e :: es, ws, n, hD, hlt, hA => by
    rw [show ws ++ xm_num n (e :: es) = (ws ++ [(n, e)]) ++ xm_num (n + 1) es by simp [xm_num]]
    have hlt1 : ∀ (k : Nat) (q : Nat × va_E), (ws ++ [(n, e)])[k]? = some q → (k < ws.length ∧ ws[k]? = some q) ∨ (k = ws.length ∧ q = (n, e)) := fun k q hk => by
      by_cases h : k < ws.length
      · rw [List.getElem?_append_left h] at hk; exact Or.inl ⟨h, hk⟩
      · rw [List.getElem?_append_right (by omega)] at hk
        have h0 : k - ws.length < 1 := (List.getElem?_eq_some_iff.mp hk).1
        rw [show k - ws.length = 0 by omega] at hk
        cases hk
        exact Or.inr ⟨by omega, rfl⟩
    refine xm_D es _ (n + 1) ⟨fun i j x y hi hj hxy => ?_, fun k q hk => ?_⟩ (fun k q hk => ?_) (fun a ha => hA a (by omega))
    · rcases hlt1 i x hi with ⟨i1, i2⟩ | ⟨i1, rfl⟩ <;> rcases hlt1 j y hj with ⟨j1, j2⟩ | ⟨j1, rfl⟩
      · exact hD.1 i j x y i2 j2 hxy
      · have := hlt _ _ i2; simp at hxy; omega
      · have := hlt _ _ j2; simp at hxy; omega
      · omega
    · rcases hlt1 k q hk with ⟨_, h2⟩ | ⟨_, rfl⟩
      · exact hD.2 k q h2
      · exact hA n (Nat.le_refl n)
    · rcases hlt1 k q hk with ⟨_, h2⟩ | ⟨_, rfl⟩
      · have := hlt _ _ h2; omega
      · exact Nat.lt_succ_self n
theorem xv_fills_get {row k : xv_C} : ∀ (N : Nat) (h : xv_A) (q r : Nat), xv_get 14 (xv_fills h row N q) r = some k → (q ≤ r ∧ r < q + N ∧ k = row) ∨ (¬ (q ≤ r ∧ r < q + N) ∧ xv_get 14 h r = some k)
  | 0, h, q, r, e => Or.inr ⟨by omega, e⟩
  | N + 1, h, q, r, e => by
    have e : xv_get 14 (xv_fills (xv_upd 14 h q row) row N (q + 1)) r = some k := e
    rcases xv_fills_get N _ _ _ e with ⟨h1, h2, h3⟩ | ⟨h1, h2⟩
    · exact Or.inl ⟨by omega, by omega, h3⟩
    · rcases xv_get_upd h2 with ⟨rfl, rfl⟩ | ⟨hne, h2⟩
      · exact Or.inl ⟨Nat.le_refl _, by omega, rfl⟩
      · exact Or.inr ⟨by omega, h2⟩
theorem xv_refs_get : ∀ (n q i : Nat) (v : xv_V), (xv_refs q n)[i]? = some v → i < n ∧ v = (2, Int.ofNat (q + i), 0)
  | 0, _, _, _, h => by cases h
  | n + 1, q, 0, v, h => by
    have h : some ((2, Int.ofNat q, 0) : xv_V) = some v := h
    cases h
    exact ⟨Nat.succ_pos n, rfl⟩
  | n + 1, q, i + 1, v, h => by
    have h : (xv_refs (q + 1) n)[i]? = some v := h
    obtain ⟨h1, h2⟩ := xv_refs_get n (q + 1) i v h
    exact ⟨by omega, by rw [h2, show q + 1 + i = q + (i + 1) by omega]⟩
section XV6
variable {p : Program} {l : Launch} {e : Env} {R : Room} {s : State} {m : MethodId} {args : Array Value} {below : List Frame} {meth : Method} {c : Code}
variable {cc : ByteArray} {own : String} {nL : Nat} {D : va_G} {t : Nat → ClassId} {A : Nat → Prop} {as0 : List Nat} {sb : Nat} {scr : List xv_V} {Q : xv_R → State → Prop} {k : xv_K} {pc : Nat} {L st : List xv_V} {S : xv_S} {r : xv_R}
theorem xs_multi {index a b : Nat} {v : Int} {ty : FieldType} (C : xv_Cx p s m args c cc own nL D t A sb scr) (hk : xv_G p l e R s m args below meth c D t A as0 sb nL Q k) (hd : decode cc pc = .ok (.multianewarray index 2, 4)) (hw : Cond.classLink own index ("[" ++ (FieldType.array ty).toString) ∈ xv_tb) (hw3 : Cond.arrayClass ty ∈ xv_tb)
    (hty : (ty = .int ∧ a = 1 ∧ b = 1 ∧ v = 0) ∨ (ty = .long ∧ a = 2 ∧ b = 4 ∧ v = 1))
    (hr : (match st with
    | y :: x :: r => bif Nat.beq x.1 0 && (Nat.beq y.1 0 && (xv_isOne x && (xv_isOne y && (xv_le x.2.1 8 && xv_le y.2.1 64)))) then
        k (pc + 4) L ((2, Int.ofNat S.2.1, 0) :: r) (xv_fills (xv_upd 14 S.1 S.2.1 (a + 4, x.2.1.toNat, x.2.1.toNat, [xv_refs (S.2.1 + 1) x.2.1.toNat])) (xv_row b y.2.1.toNat (v.toNat, 0, 0)) x.2.1.toNat (S.2.1 + 1), S.2.1 + 1 + x.2.1.toNat, S.2.2.1 + 1 + x.2.1.toNat, S.2.2.2 + x.2.1.toNat + x.2.1.toNat * y.2.1.toNat) else none
    | _ => none) = some r) : xv_T p l e R s m args below meth c D t A as0 sb nL Q pc L st S r := by
  match st, hr with
  | [], hr => cases hr
  | [_], hr => cases hr
  | y :: x :: z, hr =>
    obtain ⟨b1, hr⟩ := xv_bt hr
    obtain ⟨b1, b2⟩ := xv_and_t b1
    obtain ⟨b2, b3⟩ := xv_and_t b2
    obtain ⟨b3, b4⟩ := xv_and_t b3
    obtain ⟨b4, b5⟩ := xv_and_t b4
    obtain ⟨b5, b6⟩ := xv_and_t b5
    have b1 := xv_beq b1
    have b2 := xv_beq b2
    obtain ⟨o1, o2⟩ := xv_isOne_eq b3
    obtain ⟨o3, o4⟩ := xv_isOne_eq b4
    have b5 := xv_le_iff.mp b5
    have b6 := xv_le_iff.mp b6
    generalize hN : x.2.1.toNat = N at hr
    generalize hM : y.2.1.toNat = M at hr
    have hN8 : N ≤ 8 := by omega
    have hM64 : M ≤ 64 := by omega
    obtain ⟨h1, h2, h3⟩ := hk _ _ _ _ _ hr
    dsimp only at h1 h2 h3
    have hNM : 0 ≤ N * M := Nat.zero_le _
    refine ⟨by omega, by omega, fun hcc hz ls vst H locs ws hR => ?_⟩
    obtain ⟨y0, vst, rfl, hy, hst⟩ := hR.2.1.un
    obtain ⟨x0, vst, rfl, hx, hst2⟩ := hst.un
    obtain ⟨yi, rfl, y1, y2⟩ := hy.1 b2
    obtain ⟨xi, rfl, x1, x2⟩ := hx.1 b1
    obtain ⟨ex1, ex2, ex3⟩ := xv_idx o1 o2 x1 x2
    obtain ⟨ey1, ey2, ey3⟩ := xv_idx o3 o4 y1 y2
    rw [hN] at ex2
    rw [hM] at ey2
    have hH := hR.2.2.2.2.2.1
    have hP := hR.2.2.1
    have hD := hR.2.2.2.1
    have hS := hR.2.2.2.2.1
    intro T hT X
    have hcb : componentBytes ty ≤ 8 := by rcases hty with ⟨rfl, -⟩ | ⟨rfl, -⟩ <;> decide
    have hsz : s.heap.size ≤ T.heap.size := by rw [hT]; exact hS.1
    have hAO : xv_AOA ty s := by
      rcases hty with ⟨rfl, -⟩ | ⟨rfl, -⟩
      · exact C.2.2.2.2.2.2.2.2.2.2.1
      · exact C.2.2.2.2.2.2.2.2.2.2.2
    obtain ⟨vm₁, cO, cI, fO, fI, XF, hstep⟩ := xm_go X C.1 C.2.2.2.1 (C.2.2.2.2.1 _ hw) hAO (C.2.2.2.2.1 _ hw3) (g := F0 m pc ls (.int yi :: .int xi :: vst)) rfl (by rw [C.2.1]; exact hd) rfl ex3 ey3 (by rw [ex2]; omega) (by rw [ey2]; exact Nat.le_trans (Nat.mul_le_mul hM64 hcb) (by decide)) (by rw [ey2]; omega)
      (by rcases hty with ⟨rfl, -⟩ | ⟨rfl, -⟩ <;> rfl) (by rcases hty with ⟨rfl, -⟩ | ⟨rfl, -⟩ <;> rfl) (by rw [ex2]; omega) (by rw [ex2, ey2]; omega) hsz
    rw [ex2, ey2] at XF hstep
    generalize hF : xm_st (T.setVm vm₁) cO cI N M (defaultValue ty) N = F at XF hstep
    have hTh : (T.setVm vm₁).heap = H := hT
    have hold : ∀ q : Nat, q < H.size → F.heap[q]? = H[q]? := fun q hq => by
      rw [← hF, xm_old _ _ _ _ _ _ (by rw [hTh]; exact hq), hTh]
    have hrow : ∀ j : Nat, j < N → F.heap[H.size + 1 + j]? = some (xm_in cI M (defaultValue ty)) := fun j hj => by
      have := xm_row (T.setVm vm₁) cO cI N M (defaultValue ty) N j hj
      rw [hF, hTh] at this
      exact this
    have hhd : F.heap[H.size]? = some (xm_out cO N H.size N) := by
      have := xm_head (T.setVm vm₁) cO cI N M (defaultValue ty) N
      rw [hF, hTh] at this
      exact this
    have hFs : F.heap.size = H.size + 1 + N := by
      have := xm_size (T.setVm vm₁) cO cI N M (defaultValue ty) N
      rw [hF, hTh] at this
      exact this
    -- the inner rows' entry, and their classes
    obtain ⟨ez, hez, hcO, hcI, hrowc⟩ : ∃ ez : vp_A, (∀ c9 : ClassId, xm_in c9 M (defaultValue ty) = vp_cell c9 ez) ∧ cO = t (a + 4) ∧ cI = t b ∧ ∀ as : List Nat, xv_hc t sb as (xv_row b M (v.toNat, 0, 0)) (.inl (t b, ez)) := by
      have hK := C.2.2.2.2.2.1
      rcases hty with ⟨rfl, rfl, rfl, rfl⟩ | ⟨rfl, rfl, rfl, rfl⟩
      · refine ⟨(M, .inl (fun _ => 0)), fun c9 => arrV_new _ _ _, ?_, ?_, fun as => ?_⟩
        · exact Option.some.inj (fO.symm.trans (hK.2 4 _ rfl).2)
        · exact Option.some.inj (fI.symm.trans (hK.2 0 _ rfl).2)
        · have hrk := xv_row_k 1 M (Int.toNat 0, 0, 0)
          have := xv_hc.irow (t := t) (sb := sb) (as := as) (k := xv_row 1 M (Int.toNat 0, 0, 0)) (f := fun _ => 0) (Or.inl hrk.1) (by rw [hrk.2]; omega) (fun j _ v hv => by rw [xv_row_ok hv]; exact xv_zi)
          rw [hrk.1, hrk.2] at this
          exact this
      · refine ⟨(M, .inr (.inl (fun _ => 0))), fun c9 => arrV_new _ _ _, ?_, ?_, fun as => ?_⟩
        · exact Option.some.inj (fO.symm.trans (hK.2 5 _ rfl).2)
        · exact Option.some.inj (fI.symm.trans (hK.2 3 _ rfl).2)
        · have hrk := xv_row_k 4 M (Int.toNat 1, 0, 0)
          have := xv_hc.lrow (t := t) (sb := sb) (as := as) (k := xv_row 4 M (Int.toNat 1, 0, 0)) (f := fun _ => 0) hrk.1 (by rw [hrk.2]; omega) (fun j _ v hv => by rw [xv_row_ok hv]; exact xv_zl)
          rw [hrk.1, hrk.2] at this
          exact this
    have ha5 : a + 4 = 5 ∨ a + 4 = 6 := by rcases hty with ⟨-, h, -⟩ | ⟨-, h, -⟩ <;> omega
    let es : List va_E := .inl (cO, N, .inr (.inr (.inr (.inr (fun j => if j < N then some (H.size + 1 + j) else none))))) :: List.replicate N (.inl (cI, ez))
    have hes0 : es[0]? = some (.inl (cO, N, .inr (.inr (.inr (.inr (fun j => if j < N then some (H.size + 1 + j) else none)))))) := rfl
    have hesj : ∀ j : Nat, j < N → es[j + 1]? = some (.inl (cI, ez)) := fun j hj => by
      show (List.replicate N _)[j]? = _
      rw [List.getElem?_replicate, if_pos hj]
    have hesl : es.length = N + 1 := by show (_ :: List.replicate N _).length = _; simp
    have hlt : ∀ (k : Nat) (q : Nat × va_E), ws[k]? = some q → q.1 < H.size := fun k q hq => (hP k q hq).lt
    have hP1 : va_P D vwCl (ws ++ xm_num H.size es) F.heap := by
      refine va_P.app (hP.kept (fun k q hq => hold _ (hlt k q hq))) (fun k q hq => ?_)
      rw [xm_num_get] at hq
      obtain ⟨en, hen, rfl⟩ := Option.map_eq_some_iff.mp hq
      have hk9 : k < N + 1 := by rw [← hesl]; exact (List.getElem?_eq_some_iff.mp hen).1
      cases k with
      | zero =>
        rw [hes0] at hen
        cases hen
        exact hhd
      | succ j =>
        rw [hesj j (by omega)] at hen
        cases hen
        show F.heap[H.size + (j + 1)]? = some (vp_cell cI ez)
        rw [show H.size + (j + 1) = H.size + 1 + j by omega, hrow j (by omega), hez]
    have hD1 : va_D A (ws ++ xm_num H.size es) := xm_D es ws H.size hD hlt (fun q hq => C.2.2.2.2.2.2.1 q (Nat.le_trans hS.1 hq))
    have hS1 : va_S A s.heap F.heap locs := ⟨by rw [hFs]; have := hS.1; omega, fun q h1 h2 => (hold q (Nat.lt_of_lt_of_le h1 hS.1)).trans (hS.2.1 q h1 h2), hS.2.2⟩
    have hm : (ws ++ xm_num H.size es).map Prod.fst = ws.map Prod.fst ++ (xm_num H.size es).map Prod.fst := List.map_append
    have has : ∀ j : Nat, j < N + 1 → ((ws ++ xm_num H.size es).map Prod.fst)[S.2.1 + j]? = some (H.size + j) := fun j hj => by
      rw [hm, ← hH.1, List.getElem?_append_right (by rw [List.length_map]; omega), List.length_map, show ws.length + j - ws.length = j by omega, List.getElem?_map, xm_num_get]
      obtain ⟨en, hen⟩ : ∃ en, es[j]? = some en := ⟨_, List.getElem?_eq_getElem (by omega)⟩
      rw [hen]
      rfl
    have hws : ∀ j : Nat, j < N + 1 → ∀ en, es[j]? = some en → (ws ++ xm_num H.size es)[S.2.1 + j]? = some (H.size + j, en) := fun j hj en hen => by
      rw [← hH.1, List.getElem?_append_right (by omega), show ws.length + j - ws.length = j by omega, xm_num_get, hen]
      rfl
    have hH1 : xv_H t sb (xv_fills (xv_upd 14 S.1 S.2.1 (a + 4, N, N, [xv_refs (S.2.1 + 1) N])) (xv_row b M (v.toNat, 0, 0)) N (S.2.1 + 1)) (S.2.1 + 1 + N) (ws ++ xm_num H.size es) := by
      refine ⟨by rw [List.length_append, xm_num_len, hesl, hH.1]; omega, fun q k9 hq h9 => ?_⟩
      rcases xv_fills_get N _ _ _ hq with ⟨q1, q2, rfl⟩ | ⟨q1, hq⟩
      · obtain ⟨j, rfl⟩ : ∃ j, q = S.2.1 + (j + 1) := ⟨q - S.2.1 - 1, by omega⟩
        exact ⟨_, _, hws (j + 1) (by omega) _ (hesj j (by omega)), by rw [hcI]; exact hrowc _⟩
      · rcases xv_get_upd hq with ⟨rfl, rfl⟩ | ⟨hne, hq⟩
        · refine ⟨_, _, hws 0 (by omega) _ hes0, ?_⟩
          rw [hcO]
          refine xv_hc.arow (k := (a + 4, N, N, [xv_refs (S.2.1 + 1) N])) (by show a + 4 = 5 ∨ a + 4 = 6 ∨ a + 4 = 7; omega) (by show N ≤ 65536; omega) (fun i hi u hu => ?_)
          have hi : i < N := hi
          dsimp only at hu
          rw [Nat.mod_eq_of_lt hi, xv_get_eq, show i / 8 = 0 by omega, show i % 8 = i by omega] at hu
          obtain ⟨-, rfl⟩ := xv_refs_get N _ i u hu
          rw [if_pos hi]
          exact xv_hv.r (by have := has (i + 1) (by omega); rw [show S.2.1 + 1 + i = S.2.1 + (i + 1) by omega, show H.size + 1 + i = H.size + (i + 1) by omega]; exact this)
        · obtain ⟨a', x', e1, e2⟩ := hH.2 q k9 hq h9
          refine ⟨a', x', by rw [List.getElem?_append_left (List.getElem?_eq_some_iff.mp e1).1]; exact e1, e2.more ?_⟩
          rw [hm]; exact xv_pre_app
    have hW := h3 hcc hz ls (.ref H.size :: vst) F.heap locs _ (hR.new ⟨_, hm⟩ (xv_sm.cons (xv_hv.r (has 0 (by omega))) (hst2.more (by rw [hm]; exact xv_pre_app))) hP1 hD1 hS1 hH1)
    obtain ⟨tt, c1, c2⟩ := hW F rfl XF
    refine ⟨tt, hstep tt ?_, c2⟩
    have eT : T.heap.size = H.size := by rw [hT]
    rw [eT]
    exact c1
end XV6
end
section
/-! copies, calls -/
theorem xv_good : xv_tb.all goodWord = true := List.all_eq_true.mpr fun w hw => (List.mem_filter.mp hw).2
theorem xv_goodIn {y : MethodName} {cc : ByteArray} {mL : Nat} {ret : Option FieldType} (h : Cond.code y cc mL ret ∈ xv_tb) : GoodIn xv_tb (Cond.code y cc mL ret :: xv_tb) := fun w hw => by
  have hm : w ∈ xv_tb := (List.mem_cons.mp hw).elim (fun e => e ▸ h) id
  exact ⟨hm, good_of_word (List.all_eq_true.mp xv_good w hm)⟩
theorem xv_cats_ok {sb : Nat} {as : List Nat} : ∀ {st : List xv_V} {vst : List Value}, xv_sm sb as st vst → xv_cats st ≤ 8 → (vst.map fun v => v.category).sum ≤ xv_cats st
  | [], [], _, _ => Nat.le_refl _
  | [], _ :: _, h, _ => False.elim h
  | _ :: _, [], h, _ => False.elim h
  | v :: st, x :: vst, h, h8 => by
    have e : xv_cats (v :: st) = xv_cat v + xv_cats st := rfl
    rw [e] at h8 ⊢
    have ih := xv_cats_ok h.2 (by omega)
    have hc : x.category ≤ xv_cat v := by
      unfold xv_cat at h8 ⊢
      cases hb : Nat.beq v.1 1 with
      | true =>
        simp only [cond_true]
        rcases lv_cat x with q | q <;> rw [q] <;> omega
      | false =>
        rw [hb] at h8
        simp only [cond_false] at h8 ⊢
        cases hb2 : (Nat.ble v.1 3 || Nat.beq v.1 5) with
        | false => rw [hb2] at h8; simp only [cond_false] at h8; omega
        | true =>
          simp only [cond_true]
          have hne : v.1 ≠ 1 := fun q => by rw [q] at hb; cases hb
          have hkn : xv_known v := by
            rcases (Bool.or_eq_true _ _).mp hb2 with q | q
            · have := xv_ble q
              unfold xv_known; omega
            · exact Or.inr (Or.inr (Or.inr (Or.inr (xv_beq q))))
          rw [xv_cat1 h.1 hkn hne]
          exact Nat.le_refl 1
    simp only [List.map_cons, List.sum_cons]
    omega
theorem xv_sm.app {sb : Nat} {as : List Nat} : ∀ {a b : List xv_V} {x y : List Value}, xv_sm sb as a x → xv_sm sb as b y → xv_sm sb as (a ++ b) (x ++ y)
  | [], _, [], _, _, h => h
  | [], _, _ :: _, _, h, _ => False.elim h
  | _ :: _, _, [], _, h, _ => False.elim h
  | _ :: _, _, _ :: _, _, h, h2 => And.intro h.1 (xv_sm.app h.2 h2)
theorem xv_take_ok {sb : Nat} {as : List Nat} : ∀ (k : Nat) (acc st : List xv_V) (vacc vst : List Value) (a b : List xv_V), xv_take k acc st = some (a, b) → xv_sm sb as acc vacc → xv_sm sb as st vst → ∃ P vr, vst = P ++ vr ∧ P.length = k ∧ xv_sm sb as a (P.reverse ++ vacc) ∧ xv_sm sb as b vr
  | 0, acc, st, vacc, vst, a, b, h, h1, h2 => by
    cases h
    exact ⟨[], vst, rfl, rfl, h1, h2⟩
  | k + 1, acc, [], vacc, vst, a, b, h, h1, h2 => by cases h
  | k + 1, acc, v :: st, vacc, vst, a, b, h, h1, h2 => by
    obtain ⟨x, xs, rfl, hx, hxs⟩ := h2.un
    obtain ⟨P, vr, rfl, hP, ha, hb⟩ := xv_take_ok k (v :: acc) st (x :: vacc) xs a b h (xv_sm.cons hx h1) hxs
    exact ⟨x :: P, vr, rfl, by simp [hP], by simpa using ha, hb⟩
theorem xv_copy_ok {sb : Nat} {as : List Nat} {e e' : List (List xv_V)} {sp dp n0 n1 : Nat} {f : Nat → Int32} : ∀ (n : Nat) (g : List (List xv_V)) (h : Nat → Int32), xv_copy e sp dp n g = some e' → (∀ i : Nat, i < n0 → ∀ v : xv_V, xv_get 8 e i = some v → xv_hv sb as v (.int (f i))) → (∀ i : Nat, i < n1 → ∀ v : xv_V, xv_get 8 g i = some v → xv_hv sb as v (.int (h i))) → sp + n ≤ n0 → dp + n ≤ n1 →
    ∀ i : Nat, i < n1 → ∀ v : xv_V, xv_get 8 e' i = some v → xv_hv sb as v (.int (va_cpy f h sp dp n i))
  | 0, g, h, hc, hf, hg, h1, h2 => by
    cases hc
    intro i hi v hv
    rw [show va_cpy f h sp dp 0 i = h i by unfold va_cpy; rw [if_neg (by omega)]]
    exact hg i hi v hv
  | n + 1, g, h, hc, hf, hg, h1, h2 => by
    have hc : (match xv_get 8 e (sp + n) with | some v => xv_copy e sp dp n (xv_upd 8 g (dp + n) v) | none => none) = some e' := hc
    cases hq : xv_get 8 e (sp + n) with
    | none => rw [hq] at hc; cases hc
    | some w =>
      rw [hq] at hc
      have ih := xv_copy_ok n (xv_upd 8 g (dp + n) w) (upd h (dp + n) (f (sp + n))) hc hf (fun i hi v hv => by
        rcases xv_get_upd hv with ⟨rfl, rfl⟩ | ⟨hne, hv⟩
        · rw [show upd h (dp + n) (f (sp + n)) (dp + n) = f (sp + n) by simp [upd]]
          exact hf _ (by omega) _ hq
        · rw [show upd h (dp + n) (f (sp + n)) i = h i by simp [upd, hne]]
          exact hg i hi v hv) (by omega) (by omega)
      intro i hi v hv
      have := ih i hi v hv
      rw [show va_cpy f h sp dp (n + 1) i = va_cpy f (upd h (dp + n) (f (sp + n))) sp dp n i from ?_]
      · exact this
      · unfold va_cpy upd
        by_cases q1 : dp ≤ i ∧ i < dp + n
        · rw [if_pos q1, if_pos (by omega)]
        · rw [if_neg q1]
          by_cases q2 : i = dp + n
          · rw [if_pos (by omega), if_pos q2, show sp + (i - dp) = sp + n by omega]
          · rw [if_neg (by omega), if_neg q2]
section XV7
variable {p : Program} {l : Launch} {e : Env} {R : Room} {s : State} {m : MethodId} {args : Array Value} {below : List Frame} {meth : Method} {c : Code}
variable {cc : ByteArray} {own : String} {nL : Nat} {D : va_G} {t : Nat → ClassId} {A : Nat → Prop} {as0 : List Nat} {sb : Nat} {scr : List xv_V} {Q : xv_R → State → Prop} {k : xv_K} {pc : Nat} {L st : List xv_V} {S : xv_S} {r : xv_R}
theorem xs_copy {index : Nat} (C : xv_Cx p s m args c cc own nL D t A sb scr) (hk : xv_G p l e R s m args below meth c D t A as0 sb nL Q k) (hd : decode cc pc = .ok (.invokestatic index, 3)) (hRm : 1 ≤ R.frames ∧ 26 ≤ R.locals) (hw : Cond.methodLink own index arraycopyName ∈ xv_tb) (hw2 : Cond.native arraycopyName ∈ xv_tb) (hw3 : Cond.static arraycopyName ∈ xv_tb) (hw4 : Cond.initialized "java/lang/System" ∈ xv_tb)
    (hr : (match st with
      | n :: dp :: d :: sp :: o :: r => (match xv_cell S.1 o, xv_cell S.1 d with
        | some c, some g => bif Nat.beq n.1 0 && (Nat.beq dp.1 0 && (Nat.beq sp.1 0 && (xv_isOne n && (xv_isOne dp && (xv_isOne sp && (Nat.beq c.1 1 && (Nat.beq g.1 1 && (Nat.ble (sp.2.1.toNat + n.2.1.toNat) c.2.1 && (Nat.ble (dp.2.1.toNat + n.2.1.toNat) g.2.1 && (Nat.beq c.2.1 c.2.2.1 && (Nat.beq g.2.1 g.2.2.1 && (Nat.ble (xv_cats r) 8 && !(Nat.beq o.2.1.toNat d.2.1.toNat))))))))))))) then
            (match xv_copy c.2.2.2 sp.2.1.toNat dp.2.1.toNat n.2.1.toNat g.2.2.2 with
            | some e => k (pc + 3) L r (xv_upd 14 S.1 d.2.1.toNat (g.1, g.2.1, g.2.2.1, e), S.2)
            | none => none) else none
        | _, _ => none)
      | _ => none) = some r) : xv_T p l e R s m args below meth c D t A as0 sb nL Q pc L st S r := by
  match st, hr with
  | [], hr => cases hr
  | [_], hr => cases hr
  | [_, _], hr => cases hr
  | [_, _, _], hr => cases hr
  | [_, _, _, _], hr => cases hr
  | n :: dp :: d :: sp :: o :: z, hr =>
    dsimp only at hr
    cases hc1 : xv_cell S.1 o with
    | none => rw [hc1] at hr; cases hr
    | some ca =>
      cases hc2 : xv_cell S.1 d with
      | none => rw [hc1, hc2] at hr; cases hr
      | some cb =>
        rw [hc1, hc2] at hr
        obtain ⟨b1, hr⟩ := xv_bt hr
        simp only [Bool.and_eq_true] at b1
        obtain ⟨b1, b2, b3, b4, b5, b6, b7, b8, b9, b10, b11, b12, b13, -⟩ := b1
        have b1 := xv_beq b1
        have b2 := xv_beq b2
        have b3 := xv_beq b3
        have b7 := xv_beq b7
        have b8 := xv_beq b8
        have b9 := xv_ble b9
        have b10 := xv_ble b10
        have b11 := xv_beq b11
        have b12 := xv_beq b12
        have b13 := xv_ble b13
        obtain ⟨n1, n2⟩ := xv_isOne_eq b4
        obtain ⟨d1, d2⟩ := xv_isOne_eq b5
        obtain ⟨s1, s2⟩ := xv_isOne_eq b6
        cases hcp : xv_copy ca.2.2.2 sp.2.1.toNat dp.2.1.toNat n.2.1.toNat cb.2.2.2 with
        | none => rw [hcp] at hr; cases hr
        | some e' =>
          rw [hcp] at hr
          obtain ⟨h1, h2, h3⟩ := hk _ _ _ _ _ hr
          refine ⟨h1, h2, fun hcc hz ls vst H locs ws hR => ?_⟩
          obtain ⟨n0, vst, rfl, hn, hst1⟩ := hR.2.1.un
          obtain ⟨dp0, vst, rfl, hdp, hst2⟩ := hst1.un
          obtain ⟨d0, vst, rfl, hdd, hst3⟩ := hst2.un
          obtain ⟨sp0, vst, rfl, hsp, hst4⟩ := hst3.un
          obtain ⟨o0, vst, rfl, ho, hst5⟩ := hst4.un
          have hH := hR.2.2.2.2.2.1
          obtain ⟨ad1, en1, rfl, hen1, hce1⟩ := hH.cell hc1 (by omega) ho
          obtain ⟨ad2, en2, rfl, hen2, hce2⟩ := hH.cell hc2 (by omega) hdd
          obtain ⟨f, rfl, hf⟩ := hce1.2.1 (by omega)
          obtain ⟨g, rfl, hg⟩ := hce2.2.1 (by omega)
          have h65 := hce2.2.2.2.2 (by omega)
          obtain ⟨ni, rfl, q1, q2⟩ := hn.1 b1
          obtain ⟨di, rfl, q3, q4⟩ := hdp.1 b2
          obtain ⟨si, rfl, q5, q6⟩ := hsp.1 b3
          obtain ⟨en1', en2', en3'⟩ := xv_idx n1 n2 q1 q2
          obtain ⟨ed1, ed2, ed3⟩ := xv_idx d1 d2 q3 q4
          obtain ⟨es1, es2, es3⟩ := xv_idx s1 s2 q5 q6
          have hcat := xv_cats_ok hst5 b13
          rw [b7] at hen1
          rw [b8] at hen2
          refine va_copyi C.1 C.2.1 (by rw [C.2.2.1]; exact hR.1.2.elim fun lv h => h.1.1.symm) C.2.2.2.1 (C.2.2.2.2.1 _ hw) (C.2.2.2.2.1 _ hw2) (C.2.2.2.2.1 _ hw3) (C.2.2.2.2.1 _ hw4) C.2.2.2.2.2.1 hR.2.2.1 hR.2.2.2.1 hR.2.2.2.2.1 _ _ 0 0 hen1 hen2 rfl rfl rfl es3 ed3 en3' (by rw [es2, en2']; exact b9) (by rw [ed2, en2']; exact b10) (fun _ _ => rfl) hRm.1 (by rw [show nativeFrameWords "java/lang/System" "arraycopy" 5 = 7 by decide]; omega) hd (fun H1 locs1 hP1 hD1 hS1 => ?_)
          rw [es2, ed2, en2'] at hP1 hD1
          refine h3 hcc hz ls vst H1 locs1 _ (hR.new ⟨[], ?_⟩ ?_ hP1 hD1 hS1 ?_)
          · rw [xv_fst_set hen2, List.append_nil]
          · rw [xv_fst_set hen2]; exact hst5
          · refine hH.set hen2 ?_
            have key := xv_copy_ok (sb := sb) (as := ws.map Prod.fst) (f := f) (n0 := ca.2.1) (n1 := cb.2.1) n.2.1.toNat cb.2.2.2 g hcp (fun i hi v hv => hf i hi v (by rw [← b11, Nat.mod_eq_of_lt hi]; exact hv)) (fun i hi v hv => hg i hi v (by rw [← b12, Nat.mod_eq_of_lt hi]; exact hv)) b9 b10
            have := xv_hc.irow (t := t) (sb := sb) (as := ws.map Prod.fst) (k := (cb.1, cb.2.1, cb.2.2.1, e')) (f := va_cpy f g sp.2.1.toNat dp.2.1.toNat n.2.1.toNat) (by show cb.1 = 1 ∨ _; omega) h65 (fun i hi v hv => key i hi v (by dsimp only at hv; rw [← b12, Nat.mod_eq_of_lt hi] at hv; exact hv))
            dsimp only at this
            rw [b8] at this ⊢
            exact this
theorem xs_obj {index : Nat} (C : xv_Cx p s m args c cc own nL D t A sb scr) (hk : xv_G p l e R s m args below meth c D t A as0 sb nL Q k) (hd : decode cc pc = .ok (.invokespecial index, 3)) (hRm : 1 ≤ R.frames ∧ 26 ≤ R.locals) (hw : Cond.methodLink own index objectInit ∈ xv_tb) (hw2 : Cond.instanceMethod objectInit ∈ xv_tb) (hw3 : Cond.code objectInit ⟨#[0xb1]⟩ 1 none ∈ xv_tb)
    (hr : (match st with
      | o :: r => bif Nat.beq o.1 2 && Nat.ble (xv_cats r) 8 then k (pc + 3) L r S else none
      | _ => none) = some r) : xv_T p l e R s m args below meth c D t A as0 sb nL Q pc L st S r := by
  match st, hr with
  | [], hr => cases hr
  | o :: z, hr =>
    obtain ⟨b1, hr⟩ := xv_bt hr
    obtain ⟨b1, b2⟩ := xv_and_t b1
    refine xs_pure hk hr fun ls vst H locs as a b Z hl hst => ?_
    obtain ⟨x0, vst, rfl, hx, hst2⟩ := hst.un
    obtain ⟨ad, -, rfl⟩ := hx.2.2.1 (xv_beq b1)
    have hcat := xv_cats_ok hst2 (xv_ble b2)
    have := xv_ble b2
    refine ⟨vst, hst2, fun w => W.objInit C.1 C.2.1 C.2.2.2.1 (C.2.2.2.2.1 _ hw) (C.2.2.2.2.1 _ hw2) (C.2.2.2.2.1 _ hw3) rfl (by rw [C.2.2.1]; exact hl.2.elim fun lv h => h.1.1) rfl hd hRm.1 ?_ w⟩
    show 2 * 0 + _ + 12 ≤ _
    omega
def xv_P (D : va_G) (t : Nat → ClassId) (ws : va_W) (vs : List Value) (sz : Nat) : Array Value → State → Prop := va_Pc vs (fun U => U.heap.size = sz ∧ va_P D vwCl ws U.heap ∧ va_K D vwCl (xv_tys t) U ∧ xv_Ex U)
def xv_Qc (D : va_G) (t : Nat → ClassId) (sb : Nat) (ws : va_W) (sz : Nat) (r : xv_R) : Array Value → State → Outcome → State → Prop := fun _ st oc tt => (∃ (rv : Option Value) (ws' : va_W), oc = .returned rv ∧ va_P D vwCl ws' tt.heap ∧ va_D (va_A ws sz) ws' ∧ xv_H t sb r.2.2.1 r.2.2.2.1 ws' ∧ (∃ more, ws'.map Prod.fst = ws.map Prod.fst ++ more) ∧ xv_sm sb (ws'.map Prod.fst) r.1 rv.toList) ∧ va_F (va_A ws sz) st tt
abbrev xv_I : Type := MethodName × ByteArray × Nat × Option FieldType
/-- what a table of calls promises -/
def xv_CG (l : Launch) (dF : Nat) (I : Nat → Option xv_I) (call : Nat → List xv_V → xv_A → Nat → Option xv_R) : Prop :=
  ∀ (id : Nat) (av : List xv_V) (h : xv_A) (n : Nat) (r : xv_R), call id av h n = some r → ∃ i : xv_I, I id = some i ∧ ∀ (D : va_G) (t : Nat → ClassId) (sb : Nat) (ws : va_W) (vs : List Value) (sz : Nat), xv_H t sb h n ws → xv_sm sb (ws.map Prod.fst) av vs → va_D (fun _ => True) ws →
    Met l i.1 (Cond.code i.1 i.2.1 i.2.2.1 i.2.2.2 :: xv_tb) { frames := dF, cells := r.2.2.2.2.1, slots := r.2.2.2.2.2, locals := 60 * dF } (xv_P D t ws vs sz) (xv_Qc D t sb ws sz r) r.2.2.2.2.1 r.2.2.2.2.2 (va_A ws sz)
theorem xv_blind {ws : va_W} {vs : List Value} {sz : Nat} : FrameBlind (xv_P D t ws vs sz) := fun a U g mk q => by
  obtain ⟨q0, q1, q2, q3, q4⟩ := q
  exact ⟨q0, q1, q2, va_K.moved (u := U) (U := U.calling g mk a) (Vm.Alike.refl U.vm) q3, xv_Ex.same (u := U) (U := U.calling g mk a) rfl q4⟩
/-- behind a call -/
theorem xs_behind {r0 : xv_R} {pc' : Nat} {rest : List xv_V} {vrest : List Value} {ls : Array Slot} {H : Heap} {locs : List Loc} {ws : va_W} {vst : List Value} {aa : Array Value} (C : xv_Cx p s m args c cc own nL D t A sb scr) (hR : xv_Rl D t A s.heap as0 sb nL L st S ls vst H locs ws) (hrest : xv_sm sb (ws.map Prod.fst) rest vrest)
    (hrun : va_Run p l e R s m args below meth c H locs S.2.2.1 S.2.2.2 r0.2.2.2.2.1 r0.2.2.2.2.2 (F0 m pc ls vst) vrest (xv_Qc D t sb ws H.size r0 aa) (va_A ws H.size)) {Z : State → Prop}
    (kk : ∀ (vst' : List Value) (H' : Heap) (locs' : List Loc) (ws' : va_W), xv_Rl D t A s.heap as0 sb nL L (r0.1 ++ rest) (r0.2.2.1, r0.2.2.2.1, S.2.2.1 + r0.2.2.2.2.1, S.2.2.2 + r0.2.2.2.2.2) ls vst' H' locs' ws' → W p l e R s m args below meth c H' locs' (S.2.2.1 + r0.2.2.2.2.1) (S.2.2.2 + r0.2.2.2.2.2) Z (F0 m (pc + 3) ls vst')) : W p l e R s m args below meth c H locs S.2.2.1 S.2.2.2 Z (F0 m pc ls vst) := by
  intro T hT X
  obtain ⟨v, st₀, t1, T', L', h0, X', hL, e1, e2, ⟨⟨rv, ws', hrv, hP', hD', hH', hmore, hsm⟩, hF⟩, hgo⟩ := hrun T hT X
  cases hrv
  have hin : ∀ q : Nat, va_A ws H.size q → A q := fun q hq => by
    rcases hq with ⟨k9, e9, h9⟩ | hq
    · exact hR.2.2.2.1.2 k9 _ h9
    · exact C.2.2.2.2.2.2.1 q (Nat.le_trans hR.2.2.2.2.1.1 hq)
  have hS := hR.2.2.2.2.1
  have hF1 := hF.1
  rw [h0] at hF1
  have hS' : va_S A s.heap T'.heap (locs ++ L') := ⟨by rw [e1]; exact Nat.le_trans hS.1 hF1, fun q h1 h2 => by
    rw [e1, hF.2 q (by rw [h0]; exact Nat.lt_of_lt_of_le h1 hS.1) (fun hq => h2 (hin q hq)), h0]
    exact hS.2.1 q h1 h2, fun q hq => (List.mem_append.mp hq).elim (hS.2.2 q) (fun hq => hin _ (hL q hq))⟩
  obtain ⟨mr, hmr⟩ := hmore
  obtain ⟨tt, a1, b1⟩ := kk (v.toList ++ vrest) T'.heap (locs ++ L') ws' (hR.new ⟨mr, hmr⟩ (xv_sm.app hsm (hrest.more (by rw [hmr]; exact xv_pre_app))) (by rw [e1]; exact hP') (hD'.weaken (fun _ _ _ hq => hin _ hq)) hS' hH') T' rfl X'
  exact ⟨tt, hgo tt a1, b1⟩
/-- what is asked of a method that is called -/
def xv_callee (i : xv_I) (n : Nat) : Prop := Cond.code i.1 i.2.1 i.2.2.1 i.2.2.2 ∈ xv_tb ∧ Cond.initialized i.1.cls ∈ xv_tb ∧ (i.1.cls ≠ "java/lang/invoke/MethodHandle" ∧ i.1.cls ≠ "java/lang/invoke/VarHandle" ∧ (parseMethodDescriptor i.1.desc).map (fun d => d.parameters.length) = some n) ∧ i.2.2.1 ≤ 41
theorem xs_call {call : Nat → List xv_V → xv_A → Nat → Option xv_R} {id pc' : Nat} {av rest : List xv_V} (hr : xv_call k call id pc' av L rest S = some r) : xv_cats rest ≤ 8 ∧ ∃ r0, call id av S.1 S.2.1 = some r0 ∧ k pc' L (r0.1 ++ rest) (r0.2.2.1, r0.2.2.2.1, S.2.2.1 + r0.2.2.2.2.1, S.2.2.2 + r0.2.2.2.2.2) = some r := by
  unfold xv_call at hr
  obtain ⟨b, hr⟩ := xv_bt hr
  refine ⟨xv_ble b, ?_⟩
  cases hc : call id av S.1 S.2.1 with
  | none => rw [hc] at hr; cases hr
  | some r0 => rw [hc] at hr; exact ⟨r0, rfl, hr⟩
theorem xs_invS {index id n dF : Nat} {call : Nat → List xv_V → xv_A → Nat → Option xv_R} {I : Nat → Option xv_I} {i : xv_I} (C : xv_Cx p s m args c cc own nL D t A sb scr) (hk : xv_G p l e R s m args below meth c D t A as0 sb nL Q k) (hCG : xv_CG l dF I call) (hd : decode cc pc = .ok (.invokestatic index, 3)) (hRm : dF + 1 ≤ R.frames ∧ 60 * dF + 60 ≤ R.locals) (hi : I id = some i) (hcal : xv_callee i n) (hw : Cond.methodLink own index i.1 ∈ xv_tb) (hw2 : Cond.static i.1 ∈ xv_tb)
    (hr : (match xv_take n [] st with | some (as, r) => xv_call k call id (pc + 3) as L r S | none => none) = some r) : xv_T p l e R s m args below meth c D t A as0 sb nL Q pc L st S r := by
  cases htk : xv_take n [] st with
  | none => rw [htk] at hr; cases hr
  | some q =>
    obtain ⟨av, rest⟩ := q
    rw [htk] at hr
    obtain ⟨h8, r0, hc0, hr⟩ := xs_call hr
    obtain ⟨i', hi', hM⟩ := hCG _ _ _ _ _ hc0
    cases hi.symm.trans hi'
    obtain ⟨h1, h2, h3⟩ := hk _ _ _ _ _ hr
    dsimp only at h1 h2 h3
    refine ⟨by omega, by omega, fun hcc hz ls vst H locs ws hR => ?_⟩
    obtain ⟨P, vr, rfl, hPl, hav, hrest⟩ := xv_take_ok n [] st [] vst av rest htk True.intro hR.2.1
    rw [List.append_nil] at hav
    have hcat := xv_cats_ok hrest h8
    refine xs_behind C hR hrest (va_runS (As := P.reverse) (n := n) (own := own) (Ts := xv_tb) (nL := nL) (index := index) ⟨C.1, C.2.1, C.2.2.1, C.2.2.2.1, C.2.2.2.2.1⟩ (hM D t sb ws P.reverse H.size hR.2.2.2.2.2.1 hav (hR.2.2.2.1.weaken fun _ _ _ _ => trivial)) ⟨callB_of n C.2.2.2.2.1 (xv_goodIn hcal.1) rfl rfl rfl (C.2.2.2.2.1 _ hcal.2.1) (C.2.2.2.2.1 _ hw) hcal.2.2.1 ⟨hRm.1, by have := hcal.2.2.2; show 8 + (_ + 11) + 60 * dF ≤ _; omega⟩, C.2.2.2.2.1 _ hw2⟩ ⟨xv_blind, fun U hU hW => ⟨rfl, by rw [hU], by rw [hU]; exact hR.2.2.1, va_K.moved hW.alike C.2.2.2.2.2.1, C.2.2.2.2.2.2.2.2.warm hW⟩⟩ rfl (by rw [List.length_reverse]; exact hPl) (hR.1.2.elim fun lv h => h.1.1) (by rw [List.reverse_reverse]) (lv_room (by omega)) hd ⟨by omega, by omega⟩) (pc' := pc + 3) (fun vst' H' locs' ws' hR' => h3 hcc hz ls vst' H' locs' ws' hR')
theorem xs_invV {index id n dF ci : Nat} {call : Nat → List xv_V → xv_A → Nat → Option xv_R} {I : Nat → Option xv_I} {i : xv_I} {q : vw_C} (C : xv_Cx p s m args c cc own nL D t A sb scr) (hk : xv_G p l e R s m args below meth c D t A as0 sb nL Q k) (hCG : xv_CG l dF I call) (hd : decode cc pc = .ok (.invokevirtual index, 3)) (hRm : dF + 1 ≤ R.frames ∧ 60 * dF + 60 ≤ R.locals) (hi : I id = some i) (hcal : xv_callee i n) (hw : Cond.methodLink own index i.1 ∈ xv_tb) (hw2 : Cond.instanceMethod i.1 ∈ xv_tb) (hw3 : Cond.selects i.1.cls i.1 i.1 ∈ xv_tb) (hq : vwCl[ci]? = some q) (hqc : q.1 = i.1.cls)
    (hr : (match xv_take n [] st with | some (as, o :: r) => (match xv_cell S.1 o with | some c => bif Nat.beq c.1 0 && Nat.beq c.2.1 ci then xv_call k call id (pc + 3) (o :: as) L r S else none | none => none) | _ => none) = some r) : xv_T p l e R s m args below meth c D t A as0 sb nL Q pc L st S r := by
  cases htk : xv_take n [] st with
  | none => rw [htk] at hr; cases hr
  | some q9 =>
    obtain ⟨av, rest0⟩ := q9
    rw [htk] at hr
    match rest0, hr with
    | [], hr => cases hr
    | o :: rest, hr =>
      dsimp only at hr
      cases hc : xv_cell S.1 o with
      | none => rw [hc] at hr; cases hr
      | some cl =>
        rw [hc] at hr
        obtain ⟨b1, hr⟩ := xv_bt hr
        obtain ⟨b1, b2⟩ := xv_and_t b1
        have b1 := xv_beq b1
        have b2 := xv_beq b2
        obtain ⟨h8, r0, hc0, hr⟩ := xs_call hr
        obtain ⟨i', hi', hM⟩ := hCG _ _ _ _ _ hc0
        cases hi.symm.trans hi'
        obtain ⟨h1, h2, h3⟩ := hk _ _ _ _ _ hr
        dsimp only at h1 h2 h3
        refine ⟨by omega, by omega, fun hcc hz ls vst H locs ws hR => ?_⟩
        obtain ⟨P, vr, rfl, hPl, hav, hrest0⟩ := xv_take_ok n [] st [] vst av (o :: rest) htk True.intro hR.2.1
        rw [List.append_nil] at hav
        obtain ⟨x0, vr, rfl, hx, hrest⟩ := hrest0.un
        have hcat := xv_cats_ok hrest h8
        obtain ⟨ad, en, rfl, hen, hce⟩ := hR.2.2.2.2.2.1.cell hc (by omega) hx
        obtain ⟨fs, rfl, -, -⟩ := hce.1 b1
        rw [b2] at hen
        have hrecv := va_recv C.2.2.2.2.2.1 hR.2.2.1 hq hen
        rw [hqc] at hrecv
        refine xs_behind C hR hrest (va_runV (C := i.1.cls) (As := P.reverse) (n := n) (own := own) (Ts := xv_tb) (nL := nL) (index := index) ⟨C.1, C.2.1, C.2.2.1, C.2.2.2.1, C.2.2.2.2.1⟩ (hM D t sb ws (.ref ad :: P.reverse) H.size hR.2.2.2.2.2.1 (xv_sm.cons hx hav) (hR.2.2.2.1.weaken fun _ _ _ _ => trivial)) ⟨callB_of n C.2.2.2.2.1 (xv_goodIn hcal.1) rfl rfl rfl (C.2.2.2.2.1 _ hcal.2.1) (C.2.2.2.2.1 _ hw) hcal.2.2.1 ⟨hRm.1, by have := hcal.2.2.2; show 8 + (_ + 11) + 60 * dF ≤ _; omega⟩, C.2.2.2.2.1 _ hw2, C.2.2.2.2.1 _ hw3⟩ ⟨xv_blind, hrecv, fun U hU hW => ⟨rfl, by rw [hU], by rw [hU]; exact hR.2.2.1, va_K.moved hW.alike C.2.2.2.2.2.1, C.2.2.2.2.2.2.2.2.warm hW⟩⟩ rfl (by rw [List.length_reverse]; exact hPl) (hR.1.2.elim fun lv h => h.1.1) (by rw [List.reverse_reverse]) (lv_room (by omega)) hd ⟨by omega, by omega⟩) (pc' := pc + 3) (fun vst' H' locs' ws' hR' => h3 hcc hz ls vst' H' locs' ws' hR')
theorem xs_invI {index id n dF : Nat} {call : Nat → List xv_V → xv_A → Nat → Option xv_R} {I : Nat → Option xv_I} {i : xv_I} {host : String} (C : xv_Cx p s m args c cc own nL D t A sb scr) (hk : xv_G p l e R s m args below meth c D t A as0 sb nL Q k) (hCG : xv_CG l dF I call) (hd : decode cc pc = .ok (.invokespecial index, 3)) (hRm : dF + 1 ≤ R.frames ∧ 60 * dF + 60 ≤ R.locals) (hi : I id = some i) (hcal : xv_callee i n) (hret : i.2.2.2 = none) (hnm : i.1.name = "<init>") (hw : Cond.methodLink own index i.1 ∈ xv_tb ∨ (own, index, i.1, host) ∈ xv_nest) (hw2 : Cond.instanceMethod i.1 ∈ xv_tb)
    (hr : (match xv_take n [] st with | some (as, o :: r) => bif Nat.beq o.1 2 then xv_call k call id (pc + 3) (o :: as) L r S else none | _ => none) = some r) : xv_T p l e R s m args below meth c D t A as0 sb nL Q pc L st S r := by
  cases htk : xv_take n [] st with
  | none => rw [htk] at hr; cases hr
  | some q9 =>
    obtain ⟨av, rest0⟩ := q9
    rw [htk] at hr
    match rest0, hr with
    | [], hr => cases hr
    | o :: rest, hr =>
      obtain ⟨b1, hr⟩ := xv_bt hr
      have b1 := xv_beq b1
      obtain ⟨h8, r0, hc0, hr⟩ := xs_call hr
      obtain ⟨i', hi', hM⟩ := hCG _ _ _ _ _ hc0
      cases hi.symm.trans hi'
      obtain ⟨h1, h2, h3⟩ := hk _ _ _ _ _ hr
      dsimp only at h1 h2 h3
      refine ⟨by omega, by omega, fun hcc hz ls vst H locs ws hR => ?_⟩
      obtain ⟨P, vr, rfl, hPl, hav, hrest0⟩ := xv_take_ok n [] st [] vst av (o :: rest) htk True.intro hR.2.1
      rw [List.append_nil] at hav
      obtain ⟨x0, vr, rfl, hx, hrest⟩ := hrest0.un
      have hcat := xv_cats_ok hrest h8
      obtain ⟨ad, -, rfl⟩ := hx.2.2.1 b1
      have hM0 := hM D t sb ws (.ref ad :: P.reverse) H.size hR.2.2.2.2.2.1 (xv_sm.cons hx hav) (hR.2.2.2.1.weaken fun _ _ _ _ => trivial)
      have hcode := hcal.1
      rw [hret] at hM0 hcode
      have hroom : ({ frames := dF, cells := r0.2.2.2.2.1, slots := r0.2.2.2.2.2, locals := 60 * dF } : Room).frames + 1 ≤ R.frames ∧ 8 + (i.2.2.1 + 11) + ({ frames := dF, cells := r0.2.2.2.2.1, slots := r0.2.2.2.2.2, locals := 60 * dF } : Room).locals ≤ R.locals := ⟨hRm.1, by have := hcal.2.2.2; show 8 + (_ + 11) + 60 * dF ≤ _; omega⟩
      rcases hw with hw | hw
      · exact xs_behind C hR hrest (va_runI (As := P.reverse) (n := n) (own := own) (Ts := xv_tb) (nL := nL) (index := index) ⟨C.1, C.2.1, C.2.2.1, C.2.2.2.1, C.2.2.2.2.1⟩ hM0 ⟨callB_of n C.2.2.2.2.1 (xv_goodIn hcode) rfl rfl rfl (C.2.2.2.2.1 _ hcal.2.1) (C.2.2.2.2.1 _ hw) hcal.2.2.1 hroom, hnm, C.2.2.2.2.1 _ hw2⟩ ⟨xv_blind, fun U hU hW => ⟨rfl, by rw [hU], by rw [hU]; exact hR.2.2.1, va_K.moved hW.alike C.2.2.2.2.2.1, C.2.2.2.2.2.2.2.2.warm hW⟩⟩ rfl (by rw [List.length_reverse]; exact hPl) (hR.1.2.elim fun lv h => h.1.1) (by rw [List.reverse_reverse]) (lv_room (by omega)) hd ⟨by omega, by omega⟩) (pc' := pc + 3) (fun vst' H' locs' ws' hR' => h3 hcc hz ls vst' H' locs' ws' hR')
      · exact xs_behind C hR hrest (va_runIN (As := P.reverse) (n := n) (own := own) (host := host) (Ts := xv_tb) (nL := nL) (index := index) ⟨C.1, C.2.1, C.2.2.1, C.2.2.2.1, C.2.2.2.2.1⟩ hM0 ⟨va_cnB n C.2.2.2.2.1 (xv_goodIn hcode) rfl rfl rfl (C.2.2.2.2.2.2.2.2.1 _ hw) (C.2.2.2.2.1 _ hcal.2.1) hcal.2.2.1 hroom, hnm, C.2.2.2.2.1 _ hw2⟩ ⟨xv_blind, fun U hU hW => ⟨rfl, by rw [hU], by rw [hU]; exact hR.2.2.1, va_K.moved hW.alike C.2.2.2.2.2.1, C.2.2.2.2.2.2.2.2.warm hW⟩⟩ rfl (by rw [List.length_reverse]; exact hPl) (hR.1.2.elim fun lv h => h.1.1) (by rw [List.reverse_reverse]) (lv_room (by omega)) hd ⟨by omega, by omega⟩) (pc' := pc + 3) (fun vst' H' locs' ws' hR' => h3 hcc hz ls vst' H' locs' ws' hR')
end XV7
end
section
/-! a step; a run; a method -/
def xv_len : Instr → Nat
  | .bipush _ => 2
  | .sipush _ => 3
  | .iload _ => 2
  | .lload _ => 2
  | .istore _ => 2
  | .iinc _ _ => 3
  | .goto _ => 3
  | .ifCond _ _ => 3
  | .if_icmp _ _ => 3
  | .ifnonnull _ => 3
  | .tableswitch _ _ _ _ => 0
  | .ldc_w _ => 3
  | .ldc2_w _ => 3
  | .getfield _ => 3
  | .putfield _ => 3
  | .new _ => 3
  | .newarray _ => 2
  | .anewarray _ => 3
  | .multianewarray _ _ => 4
  | .invokevirtual _ => 3
  | .invokestatic _ => 3
  | .invokespecial _ => 3
  | .iconst _ => 1
  | .lconst _ => 1
  | .iload_n _ => 1
  | .lload_n _ => 1
  | .aload_n _ => 1
  | .istore_n _ => 1
  | .astore_n _ => 1
  | .iadd => 1
  | .isub => 1
  | .imul => 1
  | .iand => 1
  | .iushr => 1
  | .ishr => 1
  | .lsub => 1
  | .land => 1
  | .lor => 1
  | .lshl => 1
  | .lcmp => 1
  | .i2l => 1
  | .i2b => 1
  | .dup => 1
  | .arraylength => 1
  | .iaload => 1
  | .baload => 1
  | .laload => 1
  | .aaload => 1
  | .iastore => 1
  | .bastore => 1
  | .lastore => 1
  | .aastore => 1
  | .ireturn => 1
  | .lreturn => 1
  | .return_ => 1
  | _ => 0
/-- what an instruction's three numbers must be -/
def xv_lk (own name : String) (ret : Option FieldType) (I : Nat → Option xv_I) (ins : Instr) (a b : Nat) (v : Int) : Prop := match ins with
  | .getfield idx => ∃ q, vwCl[a]? = some q ∧ b < q.2.2 ∧ Cond.fieldLink own idx (q.2.1 b).1 (q.2.1 b).2.1 (q.2.1 b).2.2.1 ∈ xv_tb
  | .putfield idx => ∃ q, vwCl[a]? = some q ∧ b < q.2.2 ∧ Cond.fieldLink own idx (q.2.1 b).1 (q.2.1 b).2.1 (q.2.1 b).2.2.1 ∈ xv_tb ∧ xv_ftk (q.2.1 b).2.2.1 v.toNat = true ∧ ((q.2.1 b).2.2.2 = false ∨ ((q.2.1 b).2.2.2 = true ∧ name = "<init>" ∧ (q.2.1 b).1 = own))
  | .new idx => ∃ q, vwCl[a]? = some q ∧ Cond.classLink own idx q.1 ∈ xv_tb
  | .newarray ty => Cond.arrayClass (newarray.typeOf ty) ∈ xv_tb
  | .anewarray idx => Cond.classLink own idx "PassedPenance$Image" ∈ xv_tb
  | .multianewarray idx n => n = 2 ∧ ∃ ty, ((ty = .int ∧ a = 1 ∧ b = 1 ∧ v = 0) ∨ (ty = .long ∧ a = 2 ∧ b = 4 ∧ v = 1)) ∧ Cond.classLink own idx ("[" ++ (FieldType.array ty).toString) ∈ xv_tb ∧ Cond.arrayClass ty ∈ xv_tb
  | .ldc_w idx => Cond.constant own idx (Int32.ofInt v) ∈ xv_tb
  | .ldc2_w idx => Cond.constantLong own idx (Int64.ofInt v) ∈ xv_tb
  | .invokestatic idx => (a = 9999 ∧ Cond.methodLink own idx arraycopyName ∈ xv_tb ∧ Cond.native arraycopyName ∈ xv_tb ∧ Cond.static arraycopyName ∈ xv_tb ∧ Cond.initialized "java/lang/System" ∈ xv_tb) ∨ (a ≠ 9999 ∧ ∀ i, I a = some i → xv_callee i b ∧ Cond.methodLink own idx i.1 ∈ xv_tb ∧ Cond.static i.1 ∈ xv_tb)
  | .invokevirtual idx => ∀ i, I a = some i → xv_callee i b ∧ Cond.methodLink own idx i.1 ∈ xv_tb ∧ Cond.instanceMethod i.1 ∈ xv_tb ∧ Cond.selects i.1.cls i.1 i.1 ∈ xv_tb ∧ ∃ q, vwCl[v.toNat]? = some q ∧ q.1 = i.1.cls
  | .invokespecial idx => (a = 9998 ∧ Cond.methodLink own idx objectInit ∈ xv_tb ∧ Cond.instanceMethod objectInit ∈ xv_tb ∧ Cond.code objectInit ⟨#[0xb1]⟩ 1 none ∈ xv_tb) ∨ (a ≠ 9998 ∧ ∀ i, I a = some i → xv_callee i b ∧ i.2.2.2 = none ∧ i.1.name = "<init>" ∧ (Cond.methodLink own idx i.1 ∈ xv_tb ∨ ∃ host, (own, idx, i.1, host) ∈ xv_nest) ∧ Cond.instanceMethod i.1 ∈ xv_tb)
  | .ireturn => (a = 0 ∧ ret = some .int) ∨ (a = 1 ∧ ret = some .boolean)
  | .lreturn => ret = some .long
  | .return_ => ret = none
  | _ => True
section XV8
variable {p : Program} {l : Launch} {e : Env} {R : Room} {s : State} {m : MethodId} {args : Array Value} {below : List Frame} {meth : Method} {c : Code}
variable {cc : ByteArray} {own : String} {nL : Nat} {D : va_G} {t : Nat → ClassId} {A : Nat → Prop} {as0 : List Nat} {sb : Nat} {scr : List xv_V} {Q : xv_R → State → Prop} {k : xv_K} {pc : Nat} {L st : List xv_V} {S : xv_S} {r : xv_R}
theorem xs_bad {β : Prop} (h : (none : Option xv_R) = some r) : β := by cases h
/-- the ends of a method -/
def xv_Ends (p : Program) (l : Launch) (e : Env) (R : Room) (s : State) (m : MethodId) (args : Array Value) (below : List Frame) (meth : Method) (c : Code) (D : va_G) (t : Nat → ClassId) (A : Nat → Prop) (as0 : List Nat) (sb nL : Nat) (Q : xv_R → State → Prop) (cc : ByteArray) (ret : Option FieldType) : Prop :=
  ∀ (pc : Nat) (L st : List xv_V) (S : xv_S), (decode cc pc = .ok (.ireturn, 1) ∧ (∃ x : xv_V, st = [x] ∧ x.1 = 0 ∧ (ret = some .int ∨ (ret = some .boolean ∧ 0 ≤ x.2.1 ∧ x.2.2 ≤ 1)))) ∨ (decode cc pc = .ok (.lreturn, 1) ∧ ret = some .long ∧ ∃ x : xv_V, st = [x] ∧ x.1 = 1) ∨ (decode cc pc = .ok (.return_, 1) ∧ ret = none ∧ st = []) → xv_T p l e R s m args below meth c D t A as0 sb nL Q pc L st S (st, L, S.1, S.2.1, S.2.2.1, S.2.2.2)
theorem xs_step {name : String} {ret : Option FieldType} {I : Nat → Option xv_I} {call : Nat → List xv_V → xv_A → Nat → Option xv_R} {dF len a b : Nat} {v : Int} {ins : Instr} (C : xv_Cx p s m args c cc own nL D t A sb scr) (hk : xv_G p l e R s m args below meth c D t A as0 sb nL Q k) (hCG : xv_CG l dF I call) (hRm : dF + 1 ≤ R.frames ∧ 60 * dF + 60 ≤ R.locals) (hname : name = meth.name) (hE : xv_Ends p l e R s m args below meth c D t A as0 sb nL Q cc ret) (hcr : ∀ id av h n r, call id av h n = some r → ∃ i, I id = some i)
    (hd : decode cc pc = .ok (ins, len)) (hlen : xv_len ins = 0 ∨ xv_len ins = len) (hok : xv_lk own name ret I ins a b v) (hr : xv_step call scr k ins a b v pc L st S = some r) : xv_T p l e R s m args below meth c D t A as0 sb nL Q pc L st S r := by
  have hRm2 : 1 ≤ R.frames ∧ 26 ≤ R.locals := ⟨by omega, by omega⟩
  cases ins
  case tableswitch d lo hi offs => exact xs_tableswitch C hk hd hr
  all_goals first | (have hl := hlen.resolve_left (fun h0 => Nat.succ_ne_zero _ h0); subst hl) | exact xs_bad hr
  case iconst i => exact xs_iconst C hk hd hr
  case bipush i => exact xs_bipush C hk hd hr
  case sipush i => exact xs_sipush C hk hd hr
  case lconst i => exact xs_lconst C hk hd hr
  case iload i => exact xs_iload C hk hd hr
  case iload_n i => exact xs_iload_n C hk hd hr
  case lload i => exact xs_lload C hk hd hr
  case lload_n i => exact xs_lload_n C hk hd hr
  case aload_n i => exact xs_aload_n C hk hd hr
  case istore i => exact xs_istore_i C hk hd hr
  case istore_n i => exact xs_istore_n C hk hd hr
  case astore_n i => exact xs_astore_n C hk hd hr
  case iinc i n => exact xs_iinc C hk hd hr
  case iadd => exact xs_iadd C hk hd hr
  case isub => exact xs_isub C hk hd hr
  case imul => exact xs_imul C hk hd hr
  case iand => exact xs_iand C hk hd hr
  case iushr => exact xs_iushr C hk hd hr
  case ishr => exact xs_ishr C hk hd hr
  case lsub => exact xs_lsub C hk hd hr
  case land => exact xs_land C hk hd hr
  case lor => exact xs_lor C hk hd hr
  case lshl => exact xs_lshl C hk hd hr
  case lcmp => exact xs_lcmp C hk hd hr
  case i2l => exact xs_i2l C hk hd hr
  case i2b => exact xs_i2b C hk hd hr
  case dup => exact xs_dup C hk hd hr
  case goto off => exact xs_goto C hk hd hr
  case ifCond q off => exact xs_ifCond C hk hd hr
  case if_icmp q off => exact xs_if_icmp C hk hd hr
  case ifnonnull off => exact xs_ifnonnull C hk hd hr
  case ldc_w i => exact xs_ldcw C hk hd hok hr
  case ldc2_w i => exact xs_ldc2 C hk hd hok hr
  case getfield i =>
    obtain ⟨q, h1, h2, h3⟩ := hok
    exact xs_getfield C hk hd h1 h2 h3 hr
  case putfield i =>
    obtain ⟨q, h1, h2, h3, h4, h5⟩ := hok
    rw [hname] at h5
    exact xs_putfield C hk hd h1 h2 h3 h4 h5 hr
  case new i =>
    obtain ⟨q, h1, h2⟩ := hok
    exact xs_new C hk hd h1 h2 hr
  case newarray ty => exact xs_newarray C hk hr hd hok
  case anewarray i => exact xs_anewarray C hk hd hok hr
  case multianewarray i n =>
    obtain ⟨rfl, ty, h1, h2, h4⟩ := hok
    exact xs_multi C hk hd h2 h4 h1 hr
  case arraylength => exact xs_alen C hk hd hr
  case iaload =>
    match st, hr with
    | [], hr => exact xs_bad hr
    | [_], hr => exact xs_bad hr
    | i :: o :: z, hr =>
      have hr : (bif Nat.beq o.1 5 then (bif Nat.beq i.1 0 && xv_isOne i then xv_ldk k (pc + 1) L z S (xv_nth scr i.2.1.toNat) else none) else xv_ald k 1 (pc + 1) L (i :: o :: z) S) = some r := hr
      cases hb : Nat.beq o.1 5 with
      | true => rw [hb] at hr; exact xs_sld C hk hd rfl (xv_beq hb) hr
      | false => rw [hb] at hr; exact xs_iald C hk hd hr
  case baload =>
    match st, hr with
    | [], hr => exact xs_bad hr
    | [_], hr => exact xs_bad hr
    | i :: o :: z, hr =>
      have hr : (match xv_cell S.1 o with | some c => bif Nat.beq c.1 2 then xv_ald k 2 (pc + 1) L (i :: o :: z) S else xv_ald k 3 (pc + 1) L (i :: o :: z) S | none => none) = some r := hr
      cases hc : xv_cell S.1 o with
      | none => rw [hc] at hr; exact xs_bad hr
      | some q =>
        rw [hc] at hr
        dsimp only at hr
        cases hb : Nat.beq q.1 2 with
        | true => rw [hb] at hr; exact xs_bald C hk hd hr
        | false => rw [hb] at hr; exact xs_zald C hk hd hr
  case laload => exact xs_lald C hk hd hr
  case aaload =>
    match st, hr with
    | [], hr => exact xs_bad hr
    | [_], hr => exact xs_bad hr
    | i :: o :: z, hr =>
      have hr : (match xv_cell S.1 o with | some c => bif Nat.beq c.1 5 then xv_ald k 5 (pc + 1) L (i :: o :: z) S else bif Nat.beq c.1 6 then xv_ald k 6 (pc + 1) L (i :: o :: z) S else xv_ald k 7 (pc + 1) L (i :: o :: z) S | none => none) = some r := hr
      cases hc : xv_cell S.1 o with
      | none => rw [hc] at hr; exact xs_bad hr
      | some q =>
        rw [hc] at hr
        dsimp only at hr
        cases hb : Nat.beq q.1 5 with
        | true => rw [hb] at hr; exact xs_aald (by omega) C hk hd hr
        | false =>
          rw [hb] at hr
          simp only [cond_false] at hr
          cases hb : Nat.beq q.1 6 with
          | true => rw [hb] at hr; exact xs_aald (by omega) C hk hd hr
          | false => rw [hb] at hr; exact xs_aald (by omega) C hk hd hr
  case iastore => exact xs_iast C hk hd hr
  case bastore =>
    match st, hr with
    | [], hr => exact xs_bad hr
    | [_], hr => exact xs_bad hr
    | [_, _], hr => exact xs_bad hr
    | x :: i :: o :: z, hr =>
      have hr : (match xv_cell S.1 o with
      | some c => bif Nat.beq c.1 2 then xv_ast k 2 (pc + 1) L (x :: i :: o :: z) S (fun v => Nat.beq v.1 0 && (xv_le (-128) v.2.1 && xv_le v.2.2 127)) else xv_ast k 3 (pc + 1) L (x :: i :: o :: z) S (fun v => Nat.beq v.1 0 && (xv_le 0 v.2.1 && xv_le v.2.2 1))
      | none => none) = some r := hr
      cases hc : xv_cell S.1 o with
      | none => rw [hc] at hr; exact xs_bad hr
      | some q =>
        rw [hc] at hr
        dsimp only at hr
        cases hb : Nat.beq q.1 2 with
        | true => rw [hb] at hr; exact xs_bast C hk hd hr
        | false => rw [hb] at hr; exact xs_zast C hk hd hr
  case lastore => exact xs_last C hk hd hr
  case aastore => exact xs_aast C hk hd hr
  case invokevirtual i =>
    have hr : (match xv_take b [] st with | some (as, o :: r) => (match xv_cell S.1 o with | some c => bif Nat.beq c.1 0 && Nat.beq c.2.1 v.toNat then xv_call k call a (pc + 3) (o :: as) L r S else none | none => none) | _ => none) = some r := hr
    have hex : ∃ i, I a = some i := by
      cases htk : xv_take b [] st with
      | none => rw [htk] at hr; exact xs_bad hr
      | some q9 =>
        obtain ⟨av, rest0⟩ := q9
        rw [htk] at hr
        match rest0, hr with
        | [], hr => exact xs_bad hr
        | o :: rest, hr =>
          dsimp only at hr
          cases hc : xv_cell S.1 o with
          | none => rw [hc] at hr; exact xs_bad hr
          | some cl =>
            rw [hc] at hr
            obtain ⟨-, r0, hc0, -⟩ := xs_call (xv_bt hr).2
            exact hcr _ _ _ _ _ hc0
    obtain ⟨ii, hi⟩ := hex
    obtain ⟨h1, h2, h3, h4, q, h5, h6⟩ := hok ii hi
    exact xs_invV C hk hCG hd hRm hi h1 h2 h3 h4 h5 h6 hr
  case invokestatic i =>
    rcases hok with ⟨rfl, h1, h2, h3, h4⟩ | ⟨hne, hok⟩
    · exact xs_copy C hk hd hRm2 h1 h2 h3 h4 hr
    · have hb : Nat.beq a 9999 = false := by
        cases hb : Nat.beq a 9999 with
        | true => exact absurd (xv_beq hb) hne
        | false => rfl
      unfold xv_step at hr
      dsimp only at hr
      rw [hb] at hr
      simp only [cond_false] at hr
      have hr : (match xv_take b [] st with | some (as, r) => xv_call k call a (pc + 3) as L r S | none => none) = some r := hr
      have hex : ∃ i, I a = some i := by
        cases htk : xv_take b [] st with
        | none => rw [htk] at hr; exact xs_bad hr
        | some q9 =>
          obtain ⟨av, rest0⟩ := q9
          rw [htk] at hr
          obtain ⟨-, r0, hc0, -⟩ := xs_call hr
          exact hcr _ _ _ _ _ hc0
      obtain ⟨ii, hi⟩ := hex
      obtain ⟨h1, h2, h3⟩ := hok ii hi
      exact xs_invS C hk hCG hd hRm hi h1 h2 h3 hr
  case invokespecial i =>
    rcases hok with ⟨rfl, h1, h2, h3⟩ | ⟨hne, hok⟩
    · exact xs_obj C hk hd hRm2 h1 h2 h3 hr
    · have hb : Nat.beq a 9998 = false := by
        cases hb : Nat.beq a 9998 with
        | true => exact absurd (xv_beq hb) hne
        | false => rfl
      unfold xv_step at hr
      dsimp only at hr
      rw [hb] at hr
      simp only [cond_false] at hr
      have hr : (match xv_take b [] st with | some (as, o :: r) => bif Nat.beq o.1 2 then xv_call k call a (pc + 3) (o :: as) L r S else none | _ => none) = some r := hr
      have hex : ∃ i, I a = some i := by
        cases htk : xv_take b [] st with
        | none => rw [htk] at hr; exact xs_bad hr
        | some q9 =>
          obtain ⟨av, rest0⟩ := q9
          rw [htk] at hr
          match rest0, hr with
          | [], hr => exact xs_bad hr
          | o :: rest, hr =>
            obtain ⟨-, r0, hc0, -⟩ := xs_call (xv_bt hr).2
            exact hcr _ _ _ _ _ hc0
      obtain ⟨ii, hi⟩ := hex
      obtain ⟨h1, h2, h3, h4, h5⟩ := hok ii hi
      rcases h4 with h4 | ⟨host, h4⟩
      · exact xs_invI (host := "") C hk hCG hd hRm hi h1 h2 h3 (Or.inl h4) h5 hr
      · exact xs_invI C hk hCG hd hRm hi h1 h2 h3 (Or.inr h4) h5 hr
  case ireturn =>
    match st, hr with
    | [], hr => exact xs_bad hr
    | _ :: _ :: _, hr => exact xs_bad hr
    | [x], hr =>
      have hr : (bif Nat.beq x.1 0 && (Nat.beq a 0 || (xv_le 0 x.2.1 && xv_le x.2.2 1)) then xv_ret [x] L S else none) = some r := hr
      obtain ⟨b1, hr⟩ := xv_bt hr
      obtain ⟨b1, b2⟩ := xv_and_t b1
      cases hr
      refine hE pc L [x] S (Or.inl ⟨hd, x, rfl, xv_beq b1, ?_⟩)
      rcases hok with ⟨-, h⟩ | ⟨h0, h⟩
      · exact Or.inl h
      · right
        rw [h0] at b2
        simp only [show Nat.beq 1 0 = false from rfl, Bool.false_or, Bool.and_eq_true, xv_le_iff] at b2
        exact ⟨h, b2⟩
  case lreturn =>
    match st, hr with
    | [], hr => exact xs_bad hr
    | _ :: _ :: _, hr => exact xs_bad hr
    | [x], hr =>
      have hr : (bif Nat.beq x.1 1 then xv_ret [x] L S else none) = some r := hr
      obtain ⟨b1, hr⟩ := xv_bt hr
      cases hr
      exact hE pc L [x] S (Or.inr (Or.inl ⟨hd, hok, x, rfl, xv_beq b1⟩))
  case return_ =>
    match st, hr with
    | _ :: _, hr => exact xs_bad hr
    | [], hr =>
      have hr : xv_ret [] L S = some r := hr
      cases hr
      exact hE pc L [] S (Or.inr (Or.inr ⟨hd, hok, rfl⟩))
/-- a row of a method's table -/
def xv_okE (cc : ByteArray) (own name : String) (ret : Option FieldType) (I : Nat → Option xv_I) (e : xv_E) : Prop := decode cc e.1 = .ok (e.2.1, e.2.2.1) ∧ (xv_len e.2.1 = 0 ∨ xv_len e.2.1 = e.2.2.1) ∧ xv_lk own name ret I e.2.1 e.2.2.2.1 e.2.2.2.2.1 e.2.2.2.2.2.2
theorem xv_find_ok : ∀ (full : List xv_E) (pc : Nat) (e : xv_E) (u : List xv_E), xv_find full pc = some (e, u) → e ∈ full ∧ e.1 = pc ∧ ∀ x ∈ u, x ∈ full
  | [], _, _, _, h => by cases h
  | f :: full, pc, e, u, h => by
    have h : (bif Nat.beq f.1 pc then some (f, full) else xv_find full pc) = some (e, u) := h
    cases hb : Nat.beq f.1 pc with
    | true =>
      rw [hb] at h
      cases h
      exact ⟨List.mem_cons_self, xv_beq hb, fun x hx => List.mem_cons_of_mem _ hx⟩
    | false =>
      rw [hb] at h
      obtain ⟨h1, h2, h3⟩ := xv_find_ok full pc e u h
      exact ⟨List.mem_cons_of_mem _ h1, h2, fun x hx => List.mem_cons_of_mem _ (h3 x hx)⟩
theorem xv_fetch_ok {full rest u : List xv_E} {pc : Nat} {e : xv_E} (hsub : ∀ x ∈ rest, x ∈ full) (h : xv_fetch full rest pc = some (e, u)) : e ∈ full ∧ e.1 = pc ∧ ∀ x ∈ u, x ∈ full := by
  unfold xv_fetch at h
  match rest, h, hsub with
  | [], h, _ => exact xv_find_ok _ _ _ _ h
  | f :: rest, h, hsub =>
    dsimp only at h
    cases hb : Nat.beq f.1 pc with
    | true =>
      rw [hb] at h
      cases h
      exact ⟨hsub _ List.mem_cons_self, xv_beq hb, fun x hx => hsub _ (List.mem_cons_of_mem _ hx)⟩
    | false =>
      rw [hb] at h
      exact xv_find_ok _ _ _ _ h
theorem xs_run {name : String} {ret : Option FieldType} {I : Nat → Option xv_I} {call : Nat → List xv_V → xv_A → Nat → Option xv_R} {dF stop : Nat} {full : List xv_E} (C : xv_Cx p s m args c cc own nL D t A sb scr) (hCG : xv_CG l dF I call) (hcr : ∀ id av h n r, call id av h n = some r → ∃ i, I id = some i) (hRm : dF + 1 ≤ R.frames ∧ 60 * dF + 60 ≤ R.locals) (hname : name = meth.name) (hE : xv_Ends p l e R s m args below meth c D t A as0 sb nL Q cc ret)
    (hst : ∀ pc : Nat, pc + 1 = stop → ∀ (L st : List xv_V) (S : xv_S), xv_T p l e R s m args below meth c D t A as0 sb nL Q pc L st S (st, L, S.1, S.2.1, S.2.2.1, S.2.2.2)) (hfull : ∀ x ∈ full, xv_okE cc own name ret I x) :
    ∀ (F : Nat) (rest : List xv_E), (∀ x ∈ rest, x ∈ full) → xv_G p l e R s m args below meth c D t A as0 sb nL Q (xv_run call scr stop full F rest)
  | 0, _, _ => fun _ _ _ _ _ h => by cases h
  | F + 1, rest, hsub => fun pc L st S r h => by
    have h : (bif Nat.beq (pc + 1) stop then xv_ret st L S else match xv_fetch full rest pc with | some (e, t) => xv_step call scr (xv_run call scr stop full F t) e.2.1 e.2.2.2.1 e.2.2.2.2.1 e.2.2.2.2.2.2 pc L st S | none => none) = some r := h
    cases hb : Nat.beq (pc + 1) stop with
    | true =>
      rw [hb] at h
      cases h
      exact hst pc (xv_beq hb) L st S
    | false =>
      rw [hb] at h
      simp only [cond_false] at h
      cases hf : xv_fetch full rest pc with
      | none => rw [hf] at h; cases h
      | some q =>
        obtain ⟨en, u⟩ := q
        rw [hf] at h
        obtain ⟨h1, h2, h3⟩ := xv_fetch_ok hsub hf
        obtain ⟨d1, d2, d3⟩ := hfull en h1
        rw [h2] at d1
        exact xs_step C (xs_run C hCG hcr hRm hname hE hst hfull F u h3) hCG hRm hname hE hcr d1 d2 d3 h
end XV8
end
section
/-! a method's contract out of a run of it -/
theorem xv_rep_len {α : Type} (n : Nat) (v : α) : (xv_rep n v).length = n := by
  induction n with
  | zero => rfl
  | succ n ih => show (v :: xv_rep n v).length = _; simp [ih]
theorem xv_sm.cats {sb : Nat} {as : List Nat} {v : xv_V} {x : Value} (h : xv_hv sb as v x) (hc : xv_cat v < 100) : xv_known v ∧ x.category = xv_cat v := by
  unfold xv_cat at hc ⊢
  cases hb : Nat.beq v.1 1 with
  | true =>
    obtain ⟨i, rfl, -⟩ := h.2.1 (xv_beq hb)
    exact ⟨Or.inr (Or.inl (xv_beq hb)), rfl⟩
  | false =>
    rw [hb] at hc
    simp only [cond_false] at hc ⊢
    cases hb2 : (Nat.ble v.1 3 || Nat.beq v.1 5) with
    | false => rw [hb2] at hc; simp only [cond_false] at hc; omega
    | true =>
      simp only [cond_true]
      have hne : v.1 ≠ 1 := fun q => by rw [q] at hb; cases hb
      have hkn : xv_known v := by
        rcases (Bool.or_eq_true _ _).mp hb2 with q | q
        · have := xv_ble q
          unfold xv_known; omega
        · exact Or.inr (Or.inr (Or.inr (Or.inr (xv_beq q))))
      exact ⟨hkn, xv_cat1 h hkn hne⟩
theorem xv_locs_ok {sb : Nat} {as : List Nat} : ∀ (av : List xv_V) (vs : List Value) (n i0 : Nat), xv_sm sb as av vs → xv_cats av ≤ n → n < 100 → (lg_sl vs).length ≤ n ∧ (xv_locs av n).length = n ∧ ∀ (i : Nat) (v : xv_V), (xv_locs av n)[i]? = some v → xv_known v → ∃ x, (i0 + i, x) ∈ lv_args i0 vs ∧ xv_hv sb as v x
  | [], [], n, i0, _, _, _ => by
    refine ⟨Nat.zero_le _, xv_rep_len n _, fun i v hi hk => ?_⟩
    have hm : v ∈ xv_rep n xv_un := List.mem_of_getElem? hi
    rw [xv_rep_mem hm] at hk
    rcases hk with q | q | q | q | q <;> cases q
  | [], _ :: _, _, _, h, _, _ => False.elim h
  | _ :: _, [], _, _, h, _, _ => False.elim h
  | v :: av, x :: vs, n, i0, h, hc, hn => by
    have ec : xv_cats (v :: av) = xv_cat v + xv_cats av := rfl
    rw [ec] at hc
    obtain ⟨hkn, hcat⟩ := xv_sm.cats h.1 (by omega)
    have esl : lg_sl (x :: vs) = (if x.category = 2 then [.val x, .second] else [.val x]) ++ lg_sl vs := rfl
    have eargs : lv_args i0 (x :: vs) = (i0, x) :: lv_args (if x.category = 2 then i0 + 2 else i0 + 1) vs := rfl
    have elo : xv_locs (v :: av) n = bif Nat.beq v.1 1 then v :: xv_un :: xv_locs av (n - 2) else v :: xv_locs av (n - 1) := rfl
    rw [esl, eargs, elo]
    cases hb : Nat.beq v.1 1 with
    | true =>
      have e2 : xv_cat v = 2 := by unfold xv_cat; rw [hb]; rfl
      rw [e2] at hcat hc
      simp only [cond_true, hcat, if_true]
      obtain ⟨h1, h2, h3⟩ := xv_locs_ok av vs (n - 2) (i0 + 2) h.2 (by omega) (by omega)
      refine ⟨by simp; omega, by simp; omega, fun i w hi hk => ?_⟩
      match i, hi with
      | 0, hi => cases hi; exact ⟨x, List.mem_cons_self, h.1⟩
      | 1, hi => cases hi; rcases hk with q | q | q | q | q <;> cases q
      | i + 2, hi =>
        obtain ⟨y, hy, hv⟩ := h3 i w hi hk
        exact ⟨y, List.mem_cons_of_mem _ (by rw [show i0 + (i + 2) = i0 + 2 + i by omega]; exact hy), hv⟩
    | false =>
      have hne : v.1 ≠ 1 := fun q => by rw [q] at hb; cases hb
      have e1 : x.category = 1 := xv_cat1 h.1 hkn hne
      have e2 : xv_cat v = 1 := hcat.symm.trans e1
      rw [e2] at hc
      simp only [cond_false, e1]
      rw [if_neg (by decide), if_neg (by decide)]
      obtain ⟨h1, h2, h3⟩ := xv_locs_ok av vs (n - 1) (i0 + 1) h.2 (by omega) (by omega)
      refine ⟨by simp; omega, by simp; omega, fun i w hi hk => ?_⟩
      match i, hi with
      | 0, hi => cases hi; exact ⟨x, List.mem_cons_self, h.1⟩
      | i + 1, hi =>
        obtain ⟨y, hy, hv⟩ := h3 i w hi hk
        exact ⟨y, List.mem_cons_of_mem _ (by rw [show i0 + (i + 1) = i0 + 1 + i by omega]; exact hy), hv⟩
/-- a table of methods is as the class files have it -/
def xv_MOK (M : xv_M) (I : Nat → Option xv_I) : Prop := ∀ (id : Nat) (q : List xv_E × Nat), xv_get 20 M id = some q → ∃ i : xv_I, I id = some i ∧ q.2 = i.2.2.1 ∧ i.2.2.1 ≤ 41 ∧ plainName i.1.cls = true ∧ ∀ x ∈ q.1, xv_okE i.2.1 i.1.cls i.1.name i.2.2.2 I x
set_option maxHeartbeats 4000000 in
theorem xv_meth {M : xv_M} {I : Nat → Option xv_I} (hM : xv_MOK M I) (l : Launch) (F : Nat) : ∀ d : Nat, xv_CG l d I (xv_calls M F d) ∧ ∀ id av h n r, xv_calls M F d id av h n = some r → ∃ i, I id = some i
  | 0 => ⟨fun _ _ _ _ _ h => (by cases h), fun _ _ _ _ _ h => (by cases h)⟩
  | d + 1 => by
    obtain ⟨ih, ihr⟩ := xv_meth hM l F d
    have key : ∀ id av h n r, xv_calls M F (d + 1) id av h n = some r → ∃ q : List xv_E × Nat, xv_get 20 M id = some q ∧ xv_cats av ≤ q.2 ∧ xv_run (xv_calls M F d) [] 0 q.1 F q.1 0 (xv_locs av q.2) [] (h, n, 0, 0) = some r := by
      intro id av h n r hr
      have hr : (match xv_get 20 M id with | some q => bif Nat.ble (xv_cats av) q.2 then xv_run (xv_calls M F d) [] 0 q.1 F q.1 0 (xv_locs av q.2) [] (h, n, 0, 0) else none | none => none) = some r := hr
      cases hq : xv_get 20 M id with
      | none => rw [hq] at hr; cases hr
      | some q =>
        rw [hq] at hr
        obtain ⟨b, hr⟩ := xv_bt hr
        exact ⟨q, rfl, xv_ble b, hr⟩
    refine ⟨fun id av h n r hr => ?_, fun id av h n r hr => ?_⟩
    · obtain ⟨q, hq, hcats, hr⟩ := key id av h n r hr
      obtain ⟨⟨y, cc, mL, ret⟩, hi, e1, hmL, hpn, hok⟩ := hM id q hq
      dsimp only at e1 hmL hpn hok
      refine ⟨(y, cc, mL, ret), hi, fun D t sb ws vs sz hH hsm hD0 => ?_⟩
      dsimp only
      refine Met.ofW (cc := cc) (maxL := mL) (ret := ret) hpn rfl ?_
      intro p e s m args below meth c s₁ B hml hv
      obtain ⟨hargs, hsz, hP, hK, hEx⟩ := hv
      subst hargs
      subst hsz
      have hts := atoms_spec (ws := Cond.code y cc mL ret :: xv_tb) B.pre
      have hown : s.vm.findClass y.cls = some m.cls := findClass_of_methodNamed B.named
      have hlocks := B.notSynchronized
      have hnm : meth.name = y.name := (name_of_methodNamed B.named B.method).1
      have hret := B.returns
      rw [e1] at hr hcats
      have hA : ∀ w : Nat, s.heap.size ≤ w → va_A ws s.heap.size w := fun w hw => Or.inr hw
      have C : xv_Cx p s m vs.toArray c cc y.cls mL D t (va_A ws s.heap.size) sb [] := ⟨B.exec, B.bytes, hml, hown, fun w hw => hts w (List.mem_cons_of_mem _ hw), hK, hA, Or.inl rfl, hEx⟩
      obtain ⟨l1, l2, l3⟩ := xv_locs_ok av vs mL 0 hsm hcats (by omega)
      have hE : xv_Ends p l e (headSpec (Cond.code y cc mL ret :: xv_tb) { frames := d + 1, cells := r.2.2.2.2.1, slots := r.2.2.2.2.2, locals := 60 * (d + 1) }).room s m vs.toArray below meth c D t (va_A ws s.heap.size) (ws.map Prod.fst) sb mL (fun r' => MQ below (xv_Qc D t sb ws s.heap.size r') vs.toArray s r'.2.2.2.2.1 r'.2.2.2.2.2 (va_A ws s.heap.size)) cc ret := by
        intro pc L st S hcase
        refine ⟨Nat.le_refl _, Nat.le_refl _, fun hc9 hz9 ls vst H locs ws' hR => ?_⟩
        have hfree : ∀ w ∈ locs, va_A ws s.heap.size w.base := hR.2.2.2.2.1.2.2
        have hq : ∀ rv : Option Value, xv_sm sb (ws'.map Prod.fst) st rv.toList → ∀ tt : State, tt.heap = H → s.WarmedH tt.vm → xv_Qc D t sb ws s.heap.size (st, L, S.1, S.2.1, S.2.2.1, S.2.2.2) vs.toArray s (.returned rv) tt := fun rv hrv tt htt hW =>
          ⟨⟨rv, ws', rfl, by rw [htt]; exact hR.2.2.1, hR.2.2.2.1, hR.2.2.2.2.2.1, hR.2.2.2.2.2.2, hrv⟩, hR.2.2.2.2.1.F htt⟩
        rcases hcase with ⟨hd, x, rfl, hx0, hcase⟩ | ⟨hd, hrt, x, rfl, hx1⟩ | ⟨hd, hrt, rfl⟩
        · obtain ⟨y0, vst, rfl, hy, hst⟩ := hR.2.1.un
          have e := hst.nil
          subst e
          obtain ⟨i, rfl, i1, i2⟩ := hy.1 hx0
          rcases hcase with hrt | ⟨hrt, j1, j2⟩
          · exact W.iret B.exec B.bytes (by rw [hret, hrt]) (hq (some (.int i)) (xv_sm.cons hy True.intro)) hfree hd
          · exact W.zret B.exec B.bytes (by rw [hret, hrt]) (xv_nar_z (by omega) (by omega)).2 (hq (some (.int i)) (xv_sm.cons hy True.intro)) hfree hd
        · obtain ⟨y0, vst, rfl, hy, hst⟩ := hR.2.1.un
          have e := hst.nil
          subst e
          obtain ⟨i, rfl, i1, i2⟩ := hy.2.1 hx1
          exact W.lret B.exec B.bytes (by rw [hret, hrt]) (hq (some (.long i)) (xv_sm.cons hy True.intro)) hfree hd
        · have e := hR.2.1.nil
          subst e
          exact W.vret B.exec B.bytes (by rw [hret, hrt]) (hq none True.intro) hfree hd
      have hT := xs_run (scr := []) (name := y.name) (ret := ret) (I := I) (full := q.1) (stop := 0) (dF := d) C ih ihr ⟨Nat.le_refl _, by show 60 * d + 60 ≤ 60 * (d + 1); omega⟩ hnm.symm hE (fun _ h => by cases h) hok F q.1 (fun _ h => h) 0 (xv_locs av mL) [] (h, n, 0, 0) r hr
      obtain ⟨t1, t2, t3⟩ := hT
      rw [lg_entry_eq]
      have hl := lv_entry vs (n := mL) l1
      refine t3 (Nat.le_refl _) (Nat.le_refl _) _ [] s.heap [] ws ⟨⟨l2, _, hl, fun i v hi hk => ?_⟩, True.intro, hP, hD0.self, va_S.rf, hH, [], by rw [List.append_nil]⟩
      obtain ⟨x, hx, hv⟩ := l3 i v hi hk
      rw [Nat.zero_add] at hx
      exact ⟨x, hx, hv⟩
    · obtain ⟨q, hq, -, -⟩ := key id av h n r hr
      obtain ⟨i, hi, -⟩ := hM id q hq
      exact ⟨i, hi⟩
end
section
/-! tables are checked by program -/
abbrev xv_J : Type := xv_I × Nat × Nat × Nat × Nat × Nat × Nat
/-- the word w stands at place p of the tables -/
def xv_at (p : Nat) (w : Cond) : Bool := decide (lw_tbl[p]? = some w) && goodWord w
theorem xv_at_ok {p : Nat} {w : Cond} (h : xv_at p w = true) : w ∈ xv_tb := by
  obtain ⟨h1, h2⟩ := xv_and_t h
  exact xv_tbm (List.mem_of_getElem? (of_decide_eq_true h1)) h2
/-- a method that is called: how many numbers, its kind (0 static, 1 virtual, 2 a constructor), the places of its words -/
def xv_ceeB (j : xv_J) : Bool := xv_at j.2.2.2.1 (.code j.1.1 j.1.2.1 j.1.2.2.1 j.1.2.2.2) && (xv_at j.2.2.2.2.1 (.initialized j.1.1.cls) && (decide (j.1.1.cls ≠ "java/lang/invoke/MethodHandle") && (decide (j.1.1.cls ≠ "java/lang/invoke/VarHandle") && (decide ((parseMethodDescriptor j.1.1.desc).map (fun d => d.parameters.length) = some j.2.1) && (Nat.ble j.1.2.2.1 41 && (plainName j.1.1.cls &&
  (match j.2.2.1 with
  | 0 => xv_at j.2.2.2.2.2.1 (.static j.1.1)
  | 1 => xv_at j.2.2.2.2.2.1 (.instanceMethod j.1.1) && xv_at j.2.2.2.2.2.2 (.selects j.1.1.cls j.1.1 j.1.1)
  | _ => xv_at j.2.2.2.2.2.1 (.instanceMethod j.1.1) && (decide (j.1.2.2.2 = none) && decide (j.1.1.name = "<init>")))))))))
def xv_lkB (own name : String) (ret : Option FieldType) (J : Nat → Option xv_J) (ins : Instr) (a b p : Nat) (v : Int) : Bool := match ins with
  | .getfield idx => (match vwCl[a]? with
    | some q => Nat.ble (b + 1) q.2.2 && xv_at p (.fieldLink own idx (q.2.1 b).1 (q.2.1 b).2.1 (q.2.1 b).2.2.1)
    | none => false)
  | .putfield idx => (match vwCl[a]? with
    | some q => Nat.ble (b + 1) q.2.2 && (xv_at p (.fieldLink own idx (q.2.1 b).1 (q.2.1 b).2.1 (q.2.1 b).2.2.1) && (xv_ftk (q.2.1 b).2.2.1 v.toNat && (decide ((q.2.1 b).2.2.2 = false) || (decide ((q.2.1 b).2.2.2 = true) && (decide (name = "<init>") && decide ((q.2.1 b).1 = own))))))
    | none => false)
  | .new idx => (match vwCl[a]? with
    | some q => xv_at p (.classLink own idx q.1)
    | none => false)
  | .newarray ty => xv_at 221 (.arrayClass .int) && (match ty with
    | .int => true
    | .byte => xv_at 688 (.arrayClass .byte)
    | .boolean => xv_at 1477 (.arrayClass .boolean)
    | .long => xv_at 312 (.arrayClass .long)
    | _ => false)
  | .anewarray idx => xv_at p (.classLink own idx "PassedPenance$Image")
  | .multianewarray idx n => decide (n = 2) && ((decide (a = 1) && (decide (b = 1) && (decide (v = 0) && (xv_at p (.classLink own idx ("[" ++ (FieldType.array .int).toString)) && xv_at 221 (.arrayClass .int))))) || (decide (a = 2) && (decide (b = 4) && (decide (v = 1) && (xv_at p (.classLink own idx ("[" ++ (FieldType.array .long).toString)) && xv_at 312 (.arrayClass .long))))))
  | .ldc_w idx => xv_at p (.constant own idx (Int32.ofInt v))
  | .ldc2_w idx => xv_at p (.constantLong own idx (Int64.ofInt v))
  | .invokestatic idx => bif Nat.beq a 9999 then xv_at p (.methodLink own idx arraycopyName) && (xv_at 681 (.native arraycopyName) && (xv_at 680 (.static arraycopyName) && xv_at 118 (.initialized "java/lang/System"))) else (match J a with
    | some j => Nat.beq b j.2.1 && (Nat.beq j.2.2.1 0 && xv_at p (.methodLink own idx j.1.1))
    | none => true)
  | .invokevirtual idx => (match J a with
    | some j => Nat.beq b j.2.1 && (Nat.beq j.2.2.1 1 && (xv_at p (.methodLink own idx j.1.1) && (match vwCl[v.toNat]? with
      | some q => decide (q.1 = j.1.1.cls)
      | none => false)))
    | none => true)
  | .invokespecial idx => bif Nat.beq a 9998 then xv_at p (.methodLink own idx objectInit) && (xv_at 127 (.instanceMethod objectInit) && xv_at 128 (.code objectInit ⟨#[0xb1]⟩ 1 none)) else (match J a with
    | some j => Nat.beq b j.2.1 && (Nat.beq j.2.2.1 2 && (xv_at p (.methodLink own idx j.1.1) || decide ((own, idx, j.1.1, "PassedPenance") ∈ xv_nest)))
    | none => true)
  | .ireturn => (Nat.beq a 0 && decide (ret = some .int)) || (Nat.beq a 1 && decide (ret = some .boolean))
  | .lreturn => decide (ret = some .long)
  | .return_ => decide (ret = none)
  | _ => true
def xv_eB (cc : ByteArray) (own name : String) (ret : Option FieldType) (J : Nat → Option xv_J) (e : xv_E) : Bool := decide (decode cc e.1 = .ok (e.2.1, e.2.2.1)) && (decide (xv_len e.2.1 = 0 ∨ xv_len e.2.1 = e.2.2.1) && xv_lkB own name ret J e.2.1 e.2.2.2.1 e.2.2.2.2.1 e.2.2.2.2.2.1 e.2.2.2.2.2.2)
def xv_JI (J : Nat → Option xv_J) : Nat → Option xv_I := fun id => (J id).map (fun j => j.1)
def xv_JOK (J : Nat → Option xv_J) : Prop := ∀ (id : Nat) (j : xv_J), J id = some j → xv_ceeB j = true
theorem xv_cee_ok {j : xv_J} (h : xv_ceeB j = true) : xv_callee j.1 j.2.1 ∧ j.1.2.2.1 ≤ 41 ∧ plainName j.1.1.cls = true ∧ (j.2.2.1 = 0 → Cond.static j.1.1 ∈ xv_tb) ∧ (j.2.2.1 = 1 → Cond.instanceMethod j.1.1 ∈ xv_tb ∧ Cond.selects j.1.1.cls j.1.1 j.1.1 ∈ xv_tb) ∧ (j.2.2.1 = 2 → Cond.instanceMethod j.1.1 ∈ xv_tb ∧ j.1.2.2.2 = none ∧ j.1.1.name = "<init>") := by
  unfold xv_ceeB at h
  obtain ⟨h1, h⟩ := xv_and_t h
  obtain ⟨h2, h⟩ := xv_and_t h
  obtain ⟨h3, h⟩ := xv_and_t h
  obtain ⟨h4, h⟩ := xv_and_t h
  obtain ⟨h5, h⟩ := xv_and_t h
  obtain ⟨h6, h⟩ := xv_and_t h
  obtain ⟨h7, h⟩ := xv_and_t h
  refine ⟨⟨xv_at_ok h1, xv_at_ok h2, ⟨of_decide_eq_true h3, of_decide_eq_true h4, of_decide_eq_true h5⟩, xv_ble h6⟩, xv_ble h6, h7, fun e => ?_, fun e => ?_, fun e => ?_⟩
  · rw [e] at h; exact xv_at_ok h
  · rw [e] at h
    obtain ⟨a, b⟩ := xv_and_t h
    exact ⟨xv_at_ok a, xv_at_ok b⟩
  · rw [e] at h
    obtain ⟨a, b⟩ := xv_and_t h
    obtain ⟨b, c⟩ := xv_and_t b
    exact ⟨xv_at_ok a, of_decide_eq_true b, of_decide_eq_true c⟩
theorem xv_JI_eq {J : Nat → Option xv_J} {id : Nat} {i : xv_I} (h : xv_JI J id = some i) : ∃ j, J id = some j ∧ j.1 = i := by
  unfold xv_JI at h
  obtain ⟨j, h1, h2⟩ := Option.map_eq_some_iff.mp h
  exact ⟨j, h1, h2⟩
theorem xv_nw {own name : String} {ret : Option FieldType} {J : Nat → Option xv_J} {a b p : Nat} {v : Int} {ty : ArrayType} (h : xv_lkB own name ret J (.newarray ty) a b p v = true) : Cond.arrayClass (newarray.typeOf ty) ∈ xv_tb := by
  unfold xv_lkB at h
  dsimp only at h
  obtain ⟨c1, c2⟩ := xv_and_t h
  cases ty with
  | int => exact xv_at_ok c1
  | byte => exact xv_at_ok c2
  | boolean => exact xv_at_ok c2
  | long => exact xv_at_ok c2
  | char => cases c2
  | float => cases c2
  | double => cases c2
  | short => cases c2
theorem xv_e_ok {cc : ByteArray} {own name : String} {ret : Option FieldType} {J : Nat → Option xv_J} {e : xv_E} (hJ : xv_JOK J) (h : xv_eB cc own name ret J e = true) : xv_okE cc own name ret (xv_JI J) e := by
  unfold xv_eB at h
  obtain ⟨h1, h⟩ := xv_and_t h
  obtain ⟨h2, h⟩ := xv_and_t h
  refine ⟨of_decide_eq_true h1, of_decide_eq_true h2, ?_⟩
  obtain ⟨pc, ins, len, a, b, p, v⟩ := e
  dsimp only at h ⊢
  unfold xv_lkB at h
  unfold xv_lk
  cases ins
  case getfield i =>
    dsimp only at h ⊢
    cases hq : vwCl[a]? with
    | none => rw [hq] at h; cases h
    | some q =>
      rw [hq] at h
      obtain ⟨c1, c2⟩ := xv_and_t h
      exact ⟨q, rfl, xv_ble c1, xv_at_ok c2⟩
  case putfield i =>
    dsimp only at h ⊢
    cases hq : vwCl[a]? with
    | none => rw [hq] at h; cases h
    | some q =>
      rw [hq] at h
      obtain ⟨c1, c2⟩ := xv_and_t h
      obtain ⟨c2, c3⟩ := xv_and_t c2
      obtain ⟨c3, c4⟩ := xv_and_t c3
      refine ⟨q, rfl, xv_ble c1, xv_at_ok c2, c3, ?_⟩
      rcases (Bool.or_eq_true _ _).mp c4 with c4 | c4
      · exact Or.inl (of_decide_eq_true c4)
      · obtain ⟨c4, c5⟩ := xv_and_t c4
        obtain ⟨c5, c6⟩ := xv_and_t c5
        exact Or.inr ⟨of_decide_eq_true c4, of_decide_eq_true c5, of_decide_eq_true c6⟩
  case new i =>
    dsimp only at h ⊢
    cases hq : vwCl[a]? with
    | none => rw [hq] at h; cases h
    | some q => rw [hq] at h; exact ⟨q, rfl, xv_at_ok h⟩
  case newarray => exact xv_nw (own := own) (name := name) (ret := ret) (J := J) (a := a) (b := b) (p := p) (v := v) h
  case anewarray i =>
    exact xv_at_ok h
  case multianewarray i n =>
    obtain ⟨c1, c2⟩ := xv_and_t h
    refine ⟨of_decide_eq_true c1, ?_⟩
    rcases (Bool.or_eq_true _ _).mp c2 with c2 | c2
    · obtain ⟨d1, c2⟩ := xv_and_t c2
      obtain ⟨d2, c2⟩ := xv_and_t c2
      obtain ⟨d3, c2⟩ := xv_and_t c2
      obtain ⟨d4, d5⟩ := xv_and_t c2
      exact ⟨.int, Or.inl ⟨rfl, of_decide_eq_true d1, of_decide_eq_true d2, of_decide_eq_true d3⟩, xv_at_ok d4, xv_at_ok d5⟩
    · obtain ⟨d1, c2⟩ := xv_and_t c2
      obtain ⟨d2, c2⟩ := xv_and_t c2
      obtain ⟨d3, c2⟩ := xv_and_t c2
      obtain ⟨d4, d5⟩ := xv_and_t c2
      exact ⟨.long, Or.inr ⟨rfl, of_decide_eq_true d1, of_decide_eq_true d2, of_decide_eq_true d3⟩, xv_at_ok d4, xv_at_ok d5⟩
  case ldc_w i => exact xv_at_ok h
  case ldc2_w i => exact xv_at_ok h
  case invokestatic i =>
    dsimp only at h ⊢
    cases hb : Nat.beq a 9999 with
    | true =>
      rw [hb] at h
      simp only [cond_true] at h
      obtain ⟨c1, c2⟩ := xv_and_t h
      obtain ⟨c2, c3⟩ := xv_and_t c2
      obtain ⟨c3, c4⟩ := xv_and_t c3
      exact Or.inl ⟨xv_beq hb, xv_at_ok c1, xv_at_ok c2, xv_at_ok c3, xv_at_ok c4⟩
    | false =>
      rw [hb] at h
      simp only [cond_false] at h
      refine Or.inr ⟨fun e => (by rw [e] at hb; cases hb), fun ii hi => ?_⟩
      obtain ⟨j, hj, rfl⟩ := xv_JI_eq hi
      rw [hj] at h
      obtain ⟨c1, c2⟩ := xv_and_t h
      obtain ⟨c2, c3⟩ := xv_and_t c2
      obtain ⟨k1, -, -, k2, -, -⟩ := xv_cee_ok (hJ a j hj)
      rw [xv_beq c1]
      exact ⟨k1, xv_at_ok c3, k2 (xv_beq c2)⟩
  case invokevirtual i =>
    intro ii hi
    obtain ⟨j, hj, rfl⟩ := xv_JI_eq hi
    dsimp only at h
    rw [hj] at h
    obtain ⟨c1, c2⟩ := xv_and_t h
    obtain ⟨c2, c3⟩ := xv_and_t c2
    obtain ⟨c3, c4⟩ := xv_and_t c3
    obtain ⟨k1, -, -, -, k2, -⟩ := xv_cee_ok (hJ a j hj)
    rw [xv_beq c1]
    refine ⟨k1, xv_at_ok c3, (k2 (xv_beq c2)).1, (k2 (xv_beq c2)).2, ?_⟩
    cases hq : vwCl[v.toNat]? with
    | none => rw [hq] at c4; cases c4
    | some q => rw [hq] at c4; exact ⟨q, rfl, of_decide_eq_true c4⟩
  case invokespecial i =>
    dsimp only at h ⊢
    cases hb : Nat.beq a 9998 with
    | true =>
      rw [hb] at h
      simp only [cond_true] at h
      obtain ⟨c1, c2⟩ := xv_and_t h
      obtain ⟨c2, c3⟩ := xv_and_t c2
      exact Or.inl ⟨xv_beq hb, xv_at_ok c1, xv_at_ok c2, xv_at_ok c3⟩
    | false =>
      rw [hb] at h
      simp only [cond_false] at h
      refine Or.inr ⟨fun e => (by rw [e] at hb; cases hb), fun ii hi => ?_⟩
      obtain ⟨j, hj, rfl⟩ := xv_JI_eq hi
      rw [hj] at h
      obtain ⟨c1, c2⟩ := xv_and_t h
      obtain ⟨c2, c3⟩ := xv_and_t c2
      obtain ⟨k1, -, -, -, -, k2⟩ := xv_cee_ok (hJ a j hj)
      have k2 := k2 (xv_beq c2)
      rw [xv_beq c1]
      refine ⟨k1, k2.2.1, k2.2.2, ?_, k2.1⟩
      rcases (Bool.or_eq_true _ _).mp c3 with c3 | c3
      · exact Or.inl (xv_at_ok c3)
      · exact Or.inr ⟨_, of_decide_eq_true c3⟩
  case ireturn =>
    rcases (Bool.or_eq_true _ _).mp h with h | h
    · obtain ⟨c1, c2⟩ := xv_and_t h
      exact Or.inl ⟨xv_beq c1, of_decide_eq_true c2⟩
    · obtain ⟨c1, c2⟩ := xv_and_t h
      exact Or.inr ⟨xv_beq c1, of_decide_eq_true c2⟩
  case lreturn => exact of_decide_eq_true h
  case return_ => exact of_decide_eq_true h
  all_goals exact True.intro
/-- a method's table, checked -/
noncomputable def xv_mB (M : xv_M) (J : Nat → Option xv_J) (id : Nat) : Bool := match xv_get 20 M id, J id with
  | some q, some j => xv_ceeB j && (Nat.beq q.2 j.1.2.2.1 && q.1.all (fun e => xv_eB j.1.2.1 j.1.1.cls j.1.1.name j.1.2.2.2 J e))
  | none, none => true
  | _, _ => false
theorem xv_mB_ok {M : xv_M} {J : Nat → Option xv_J} (h : ∀ id, xv_mB M J id = true) : xv_JOK J ∧ xv_MOK M (xv_JI J) := by
  have hJ : xv_JOK J := fun id j hj => by
    have := h id
    unfold xv_mB at this
    rw [hj] at this
    cases hq : xv_get 20 M id with
    | none => rw [hq] at this; cases this
    | some q => rw [hq] at this; exact (xv_and_t this).1
  refine ⟨hJ, fun id q hq => ?_⟩
  have := h id
  unfold xv_mB at this
  rw [hq] at this
  cases hj : J id with
  | none => rw [hj] at this; cases this
  | some j =>
    rw [hj] at this
    obtain ⟨c1, c2⟩ := xv_and_t this
    obtain ⟨c2, c3⟩ := xv_and_t c2
    obtain ⟨-, k1, k2, -⟩ := xv_cee_ok c1
    exact ⟨j.1, by unfold xv_JI; rw [hj]; rfl, xv_beq c2, k1, k2, fun x hx => xv_e_ok hJ (List.all_eq_true.mp c3 x hx)⟩
end
section
/-! the tables of this class, checked -/
noncomputable def xt_JL : List (List xv_J) := [[((yX0_init, cX0_init, 1, none), 0, 2, 260, 103, 259, 0), ((yX0_begin, cX0_begin, 2, none), 1, 1, 685, 103, 683, 684), ((yX0_takeOver, cX0_takeOver, 2, none), 1, 1, 1308, 103, 1306, 1307), ((yX1_init, cX1_init, 2, none), 1, 2, 317, 106, 316, 0), ((yX2_init, cX2_init, 1, none), 0, 2, 139, 102, 138, 0), ((yX2_forget, cX2_forget, 2, none), 0, 1, 536, 102, 534, 535), ((yX2_takeOver, cX2_takeOver, 3, none), 1, 1, 678, 102, 676, 677), ((yX2_isNone, cX2_isNone, 1, (some .boolean)), 0, 1, 801, 102, 799, 800), ((yX2_hasPenance, cX2_hasPenance, 2, (some .boolean)), 1, 1, 665, 102, 663, 664), ((yX2_hasPerson, cX2_hasPerson, 2, (some .boolean)), 1, 1, 661, 102, 659, 660), ((yX2_hasBox, cX2_hasBox, 2, (some .boolean)), 1, 1, 730, 102, 728, 729), ((yX3_init, cX3_init, 2, none), 1, 2, 439, 110, 438, 0), ((yX4_init, cX4_init, 1, none), 0, 2, 1290, 120, 1289, 0), ((yX5_init, cX5_init, 1, none), 0, 2, 456, 111, 455, 0), ((yX6_init, cX6_init, 2, none), 1, 2, 352, 107, 351, 0), ((yX7_init, cX7_init, 1, none), 0, 2, 133, 101, 132, 0), ((yX7_hasRoom, cX7_hasRoom, 1, (some .boolean)), 0, 1, 516, 101, 514, 515), ((yX7_addNumber, cX7_addNumber, 3, none), 1, 1, 520, 101, 518, 519), ((yX7_readAll, cX7_readAll, 2, none), 0, 1, 532, 101, 530, 531), ((yX7_step, cX7_step, 2, none), 0, 1, 541, 101, 540, 0)],
  [((yX7_kindAt, cX7_kindAt, 3, (some .int)), 1, 1, 545, 101, 544, 1), ((yX8_init, cX8_init, 1, none), 0, 2, 289, 104, 288, 0), ((yX8_isSlot, cX8_isSlot, 2, (some .boolean)), 1, 1, 1051, 104, 1049, 1050), ((yX8_hasRow, cX8_hasRow, 2, (some .boolean)), 1, 1, 1055, 104, 1053, 1054), ((yX8_howMany, cX8_howMany, 3, (some .int)), 0, 1, 1281, 104, 1279, 1280), ((yX8_lay, cX8_lay, 4, none), 3, 1, 1320, 104, 1318, 1319), ((yX9_init, cX9_init, 2, none), 1, 2, 382, 108, 381, 0), ((yX10_init, cX10_init, 1, none), 0, 2, 409, 109, 408, 0), ((yX11_init, cX11_init, 1, none), 0, 2, 125, 100, 124, 0), ((yX11_feed, cX11_feed, 6, (some .int)), 5, 1, 512, 100, 510, 511), ((yX11_end, cX11_end, 2, (some .int)), 1, 1, 524, 100, 522, 523), ((yX11_church, cX11_church, 1, (some .int)), 0, 1, 528, 100, 526, 527), ((yX11_fault, cX11_fault, 2, (some .int)), 1, 1, 692, 100, 690, 691), ((yX11_penance, cX11_penance, 2, (some .int)), 1, 1, 696, 100, 694, 695), ((yX11_person, cX11_person, 3, (some .int)), 2, 1, 701, 100, 699, 700), ((yX11_minds, cX11_minds, 3, (some .int)), 2, 1, 706, 100, 704, 705), ((yX11_cost, cX11_cost, 3, (some .int)), 2, 1, 714, 100, 712, 713), ((yX11_box, cX11_box, 2, (some .int)), 1, 1, 726, 100, 724, 725), ((yX11_queue, cX11_queue, 3, (some .int)), 2, 1, 734, 100, 732, 733), ((yX11_gets, cX11_gets, 2, (some .int)), 1, 1, 750, 100, 748, 749)],
  [((yX11_giver, cX11_giver, 2, (some .int)), 1, 1, 762, 100, 760, 761), ((yX11_back, cX11_back, 3, (some .int)), 2, 1, 770, 100, 768, 769), ((yX11_last, cX11_last, 2, (some .int)), 1, 1, 775, 100, 773, 774), ((yX11_bears, cX11_bears, 2, (some .int)), 1, 1, 783, 100, 781, 782), ((yX11_own, cX11_own, 3, (some .int)), 0, 1, 797, 100, 795, 796), ((yX11_gain, cX11_gain, 3, (some .int)), 0, 1, 805, 100, 803, 804), ((yX11_worst, cX11_worst, 5, (some .int)), 0, 1, 813, 100, 811, 812), ((yX11_passes, cX11_passes, 4, (some .int)), 1, 1, 817, 100, 815, 816), ((yX11_ahead, cX11_ahead, 2, (some .int)), 1, 1, 821, 100, 819, 820), ((yX11_kneel, cX11_kneel, 8, (some .int)), 1, 1, 825, 100, 823, 824), ((yX11_sins, cX11_sins, 2, (some .int)), 1, 1, 829, 100, 827, 828), ((yX11_sinned, cX11_sinned, 2, (some .int)), 1, 1, 844, 100, 842, 843), ((yX11_best, cX11_best, 2, (some .int)), 1, 1, 848, 100, 846, 847), ((yX11_orders, cX11_orders, 3, (some .int)), 2, 1, 889, 100, 887, 888), ((yX11_most, cX11_most, 2, (some .int)), 1, 1, 901, 100, 899, 900), ((yX11_fair, cX11_fair, 2, (some .int)), 1, 1, 905, 100, 903, 904), ((yX11_likes, cX11_likes, 2, (some .int)), 1, 1, 909, 100, 907, 908), ((yX11_ways, cX11_ways, 2, (some .int)), 1, 1, 913, 100, 911, 912), ((yX11_weighs, cX11_weighs, 2, (some .boolean)), 1, 1, 852, 100, 851, 17), ((yX11_comes, cX11_comes, 3, (some .int)), 2, 1, 917, 100, 915, 916)],
  [((yX11_hour, cX11_hour, 2, (some .int)), 1, 1, 929, 100, 927, 928), ((yX11_stir, cX11_stir, 1, (some .int)), 0, 1, 938, 100, 936, 937), ((yX11_settles, cX11_settles, 1, (some .int)), 0, 1, 947, 100, 945, 946), ((yX11_settled, cX11_settled, 2, (some .int)), 1, 1, 960, 100, 958, 959), ((yX11_swaps, cX11_swaps, 1, (some .int)), 0, 1, 964, 100, 962, 963), ((yX11_swap, cX11_swap, 2, (some .int)), 1, 1, 981, 100, 979, 980), ((yX11_trades, cX11_trades, 4, (some .int)), 0, 1, 998, 100, 996, 997), ((yX11_deal, cX11_deal, 1, (some .int)), 0, 1, 1006, 100, 1004, 1005), ((yX11_dealt, cX11_dealt, 2, (some .int)), 1, 1, 1028, 100, 1026, 1027), ((yX11_fits, cX11_fits, 4, (some .int)), 2, 1, 1043, 100, 1041, 1042), ((yX11_firsts, cX11_firsts, 4, (some .int)), 2, 1, 1099, 100, 1097, 1098), ((yX11_may, cX11_may, 5, (some .int)), 3, 1, 1103, 100, 1101, 1102), ((yX11_ask, cX11_ask, 4, (some .int)), 2, 1, 1111, 100, 1109, 1110), ((yX11_leaves, cX11_leaves, 5, (some .int)), 2, 1, 1125, 100, 1123, 1124), ((yX11_compare, cX11_compare, 3, (some .int)), 2, 1, 1047, 100, 1046, 27), ((yX11_mean, cX11_mean, 4, (some .long)), 3, 1, 1130, 100, 1128, 1129), ((yX11_choose, cX11_choose, 4, (some .int)), 1, 1, 1160, 100, 1158, 1159), ((yX11_pass, cX11_pass, 6, (some .long)), 4, 1, 1134, 100, 1132, 1133), ((yX11_takes, cX11_takes, 5, (some .int)), 3, 1, 1170, 100, 1168, 1169), ((yX11_whyNoMean, cX11_whyNoMean, 4, (some .int)), 3, 1, 1139, 100, 1138, 32)],
  [((yX11_confess, cX11_confess, 2, (some .int)), 1, 1, 1179, 100, 1177, 1178), ((yX11_clear, cX11_clear, 3, (some .int)), 2, 1, 1199, 100, 1197, 1198), ((yX11_now, cX11_now, 2, (some .int)), 1, 1, 1211, 100, 1209, 1210), ((yX11_has, cX11_has, 2, (some .int)), 1, 1, 1215, 100, 1213, 1214), ((yX11_done, cX11_done, 1, (some .int)), 0, 1, 1219, 100, 1217, 1218), ((yX11_sum, cX11_sum, 3, (some .int)), 0, 1, 1223, 100, 1221, 1222), ((yX11_undo, cX11_undo, 1, (some .int)), 0, 1, 1227, 100, 1225, 1226), ((yX11_anew, cX11_anew, 2, (some .int)), 0, 1, 1235, 100, 1233, 1234), ((yX11_drawn, cX11_drawn, 4, (some .int)), 2, 1, 1239, 100, 1237, 1238), ((yX11_fate, cX11_fate, 3, (some .int)), 2, 1, 1256, 100, 1254, 1255), ((yX11_luck, cX11_luck, 7, (some .int)), 3, 1, 1265, 100, 1263, 1264), ((yX11_isSeed, cX11_isSeed, 1, (some .boolean)), 1, 0, 1242, 100, 1241, 0), ((yX11_set, cX11_set, 4, (some .int)), 2, 1, 1269, 100, 1267, 1268), ((yX11_move, cX11_move, 4, (some .int)), 2, 1, 1273, 100, 1271, 1272), ((yX11_count, cX11_count, 2, (some .int)), 1, 1, 1277, 100, 1275, 1276), ((yX11_image, cX11_image, 3, (some .int)), 1, 1, 1286, 100, 1284, 1285), ((yX11_again, cX11_again, 3, (some .int)), 1, 1, 1312, 100, 1310, 1311), ((yX11_row, cX11_row, 4, (some .int)), 3, 1, 1316, 100, 1314, 1315), ((yX11_write, cX11_write, 5, (some .int)), 3, 1, 1327, 100, 1325, 1326), ((yX11_paste, cX11_paste, 6, (some .int)), 5, 1, 1338, 100, 1336, 1337)],
  [((yX12_init, cX12_init, 2, none), 0, 2, 1348, 112, 1347, 0), ((yX12_in, cX12_in, 6, (some .boolean)), 3, 0, 1488, 112, 1487, 0), ((yX12_isSlot, cX12_isSlot, 1, (some .boolean)), 1, 0, 1484, 112, 1483, 0), ((yX12_row, cX12_row, 5, (some .int)), 3, 1, 1481, 112, 1479, 1480), ((yX12_write, cX12_write, 5, (some .int)), 3, 1, 1492, 112, 1490, 1491), ((yX12_paste, cX12_paste, 7, (some .int)), 5, 1, 1499, 112, 1497, 1498), ((yX12_feed, cX12_feed, 6, (some .int)), 5, 1, 1503, 112, 1501, 1502), ((yX12_four, cX12_four, 3, none), 1, 1, 1507, 112, 1506, 35), ((yX12_end, cX12_end, 2, (some .int)), 1, 1, 1511, 112, 1509, 1510), ((yX12_isByte, cX12_isByte, 4, (some .boolean)), 3, 1, 1539, 112, 1538, 40), ((yX12_next, cX12_next, 2, none), 0, 1, 1535, 112, 1534, 39), ((yX12_isGood, cX12_isGood, 1, (some .boolean)), 0, 1, 1548, 112, 1547, 41), ((yX12_begins, cX12_begins, 1, none), 0, 1, 1531, 112, 1530, 38), ((yX12_isOver, cX12_isOver, 1, none), 0, 1, 1617, 112, 1616, 55), ((yX12_fault, cX12_fault, 2, (some .int)), 1, 1, 1515, 112, 1513, 1514), ((yX12_tells, cX12_tells, 3, none), 2, 1, 1527, 112, 1526, 37), ((yX12_clears, cX12_clears, 2, none), 0, 1, 1523, 112, 1522, 36), ((yX12_church, cX12_church, 1, (some .int)), 0, 1, 1519, 112, 1517, 1518), ((yX12_copyRow, cX12_copyRow, 5, none), 4, 0, 1624, 112, 1623, 0), ((yX12_copyChurch, cX12_copyChurch, 3, none), 2, 1, 1621, 112, 1620, 56)],
  [((yX12_isChurch, cX12_isChurch, 1, (some .boolean)), 0, 1, 1728, 112, 1727, 69), ((yX12_isPenance, cX12_isPenance, 3, (some .boolean)), 1, 1, 1632, 112, 1631, 57), ((yX12_isPerson, cX12_isPerson, 3, (some .boolean)), 1, 1, 1640, 112, 1639, 58), ((yX12_isBox, cX12_isBox, 2, (some .boolean)), 1, 1, 1660, 112, 1659, 60), ((yX12_penance, cX12_penance, 2, (some .int)), 1, 1, 1628, 112, 1626, 1627), ((yX12_person, cX12_person, 3, (some .int)), 2, 1, 1636, 112, 1634, 1635), ((yX12_minds, cX12_minds, 3, (some .int)), 2, 1, 1644, 112, 1642, 1643), ((yX12_cost, cX12_cost, 3, (some .int)), 2, 1, 1648, 112, 1646, 1647), ((yX12_box, cX12_box, 2, (some .int)), 1, 1, 1656, 112, 1654, 1655), ((yX12_queue, cX12_queue, 6, (some .int)), 2, 1, 1664, 112, 1662, 1663), ((yX12_gets, cX12_gets, 2, (some .int)), 1, 1, 1684, 112, 1682, 1683), ((yX12_giver, cX12_giver, 2, (some .int)), 1, 1, 1703, 112, 1701, 1702), ((yX12_back, cX12_back, 5, (some .int)), 2, 1, 1707, 112, 1705, 1706), ((yX12_last, cX12_last, 4, (some .int)), 1, 1, 1712, 112, 1710, 1711), ((yX12_bears, cX12_bears, 4, (some .int)), 1, 1, 1716, 112, 1714, 1715), ((yX12_own, cX12_own, 3, (some .int)), 0, 1, 1724, 112, 1722, 1723), ((yX12_gain, cX12_gain, 3, (some .int)), 0, 1, 1732, 112, 1730, 1731), ((yX12_worst, cX12_worst, 5, (some .int)), 0, 1, 1736, 112, 1734, 1735), ((yX12_passes, cX12_passes, 4, (some .int)), 1, 1, 1740, 112, 1738, 1739), ((yX12_ahead, cX12_ahead, 4, (some .int)), 1, 1, 1744, 112, 1742, 1743)],
  [((yX12_kneel, cX12_kneel, 6, (some .int)), 1, 1, 1748, 112, 1746, 1747), ((yX12_sins, cX12_sins, 2, (some .int)), 1, 1, 1752, 112, 1750, 1751), ((yX12_sinned, cX12_sinned, 2, (some .int)), 1, 1, 1761, 112, 1759, 1760), ((yX12_bestBy, cX12_bestBy, 3, (some .int)), 2, 1, 1769, 112, 1768, 71), ((yX12_best, cX12_best, 2, (some .int)), 1, 1, 1765, 112, 1763, 1764), ((yX12_orders, cX12_orders, 8, (some .int)), 2, 1, 1791, 112, 1789, 1790), ((yX12_most, cX12_most, 2, (some .int)), 1, 1, 1795, 112, 1793, 1794), ((yX12_fair, cX12_fair, 2, (some .int)), 1, 1, 1799, 112, 1797, 1798), ((yX12_likes, cX12_likes, 2, (some .int)), 1, 1, 1803, 112, 1801, 1802), ((yX12_ways, cX12_ways, 2, (some .int)), 1, 1, 1807, 112, 1805, 1806), ((yX12_comes, cX12_comes, 3, (some .int)), 2, 1, 1811, 112, 1809, 1810), ((yX12_hour, cX12_hour, 2, (some .int)), 1, 1, 1823, 112, 1821, 1822), ((yX12_stir, cX12_stir, 3, (some .int)), 0, 1, 1831, 112, 1829, 1830), ((yX12_settles, cX12_settles, 1, (some .int)), 0, 1, 1839, 112, 1837, 1838), ((yX12_settled, cX12_settled, 2, (some .int)), 1, 1, 1847, 112, 1845, 1846), ((yX12_swaps, cX12_swaps, 1, (some .int)), 0, 1, 1851, 112, 1849, 1850), ((yX12_swap, cX12_swap, 6, (some .int)), 1, 1, 1871, 112, 1869, 1870), ((yX12_trades, cX12_trades, 4, (some .int)), 0, 1, 1879, 112, 1877, 1878), ((yX12_deal, cX12_deal, 1, (some .int)), 0, 1, 1883, 112, 1881, 1882), ((yX12_dealt, cX12_dealt, 4, (some .int)), 1, 1, 1891, 112, 1889, 1890)],
  [((yX12_whyNot, cX12_whyNot, 5, (some .int)), 2, 1, 1903, 112, 1902, 87), ((yX12_fits, cX12_fits, 4, (some .int)), 2, 1, 1899, 112, 1897, 1898), ((yX12_firsts, cX12_firsts, 6, (some .int)), 2, 1, 1915, 112, 1913, 1914), ((yX12_may, cX12_may, 7, (some .int)), 3, 1, 1919, 112, 1917, 1918), ((yX12_ask, cX12_ask, 4, (some .int)), 2, 1, 1923, 112, 1921, 1922), ((yX12_leaves, cX12_leaves, 4, (some .int)), 2, 1, 1931, 112, 1929, 1930), ((yX12_whyNotMean, cX12_whyNotMean, 4, (some .int)), 2, 1, 1939, 112, 1938, 91), ((yX12_mean, cX12_mean, 5, (some .long)), 3, 1, 1935, 112, 1933, 1934), ((yX12_choose, cX12_choose, 10, (some .int)), 1, 1, 1958, 112, 1956, 1957), ((yX12_pass, cX12_pass, 6, (some .long)), 4, 1, 1962, 112, 1960, 1961), ((yX12_takes_, cX12_takes_, 5, (some .int)), 3, 1, 1967, 112, 1965, 1966), ((yX12_confess, cX12_confess, 2, (some .int)), 1, 1, 1971, 112, 1969, 1970), ((yX12_clear, cX12_clear, 3, (some .int)), 2, 1, 1987, 112, 1985, 1986), ((yX12_now, cX12_now, 2, (some .int)), 1, 1, 1991, 112, 1989, 1990), ((yX12_has, cX12_has, 2, (some .int)), 1, 1, 1995, 112, 1993, 1994), ((yX12_done, cX12_done, 3, (some .int)), 0, 1, 1999, 112, 1997, 1998), ((yX12_sum, cX12_sum, 3, (some .int)), 0, 1, 2003, 112, 2001, 2002), ((yX12_undo, cX12_undo, 1, (some .int)), 0, 1, 2007, 112, 2005, 2006), ((yX12_anew, cX12_anew, 2, (some .int)), 0, 1, 2011, 112, 2009, 2010), ((yX12_isSeed, cX12_isSeed, 2, (some .boolean)), 1, 1, 2019, 112, 2018, 97)],
  [((yX12_drawn, cX12_drawn, 5, (some .int)), 2, 1, 2015, 112, 2013, 2014), ((yX12_fate, cX12_fate, 3, (some .int)), 2, 1, 2033, 112, 2031, 2032), ((yX12_luck, cX12_luck, 6, (some .int)), 3, 1, 2037, 112, 2035, 2036), ((yX12_set, cX12_set, 4, (some .int)), 2, 1, 2041, 112, 2039, 2040), ((yX12_move, cX12_move, 4, (some .int)), 2, 1, 2046, 112, 2044, 2045), ((yX12_count, cX12_count, 4, (some .int)), 1, 1, 2050, 112, 2048, 2049), ((yX12_image, cX12_image, 2, (some .int)), 1, 1, 2054, 112, 2052, 2053), ((yX12_again, cX12_again, 2, (some .int)), 1, 1, 2059, 112, 2057, 2058), ((yJ7_fill_d0a16, cJ7_fill_d0a16, 5, none), 2, 0, 1323, 105, 1322, 0), ((yJ7_fill_53178, cJ7_fill_53178, 4, none), 2, 0, 295, 105, 294, 0)]]
noncomputable def xt_J : Nat → Option xv_J := fun id => xv_get 20 xt_JL id
set_option maxRecDepth 100000 in
set_option maxHeartbeats 4000000 in
theorem xt_c0_0 : (List.range 5).all (fun j => xv_mB xt_M xt_J (0 + j)) = true := by decide +kernel
set_option maxRecDepth 100000 in
set_option maxHeartbeats 4000000 in
theorem xt_c0_1 : (List.range 5).all (fun j => xv_mB xt_M xt_J (5 + j)) = true := by decide +kernel
set_option maxRecDepth 100000 in
set_option maxHeartbeats 4000000 in
theorem xt_c0_2 : (List.range 5).all (fun j => xv_mB xt_M xt_J (10 + j)) = true := by decide +kernel
set_option maxRecDepth 100000 in
set_option maxHeartbeats 4000000 in
theorem xt_c0_3 : (List.range 5).all (fun j => xv_mB xt_M xt_J (15 + j)) = true := by decide +kernel
set_option maxRecDepth 100000 in
set_option maxHeartbeats 4000000 in
theorem xt_c1_0 : (List.range 5).all (fun j => xv_mB xt_M xt_J (20 + j)) = true := by decide +kernel
set_option maxRecDepth 100000 in
set_option maxHeartbeats 4000000 in
theorem xt_c1_1 : (List.range 5).all (fun j => xv_mB xt_M xt_J (25 + j)) = true := by decide +kernel
set_option maxRecDepth 100000 in
set_option maxHeartbeats 4000000 in
theorem xt_c1_2 : (List.range 5).all (fun j => xv_mB xt_M xt_J (30 + j)) = true := by decide +kernel
set_option maxRecDepth 100000 in
set_option maxHeartbeats 4000000 in
theorem xt_c1_3 : (List.range 5).all (fun j => xv_mB xt_M xt_J (35 + j)) = true := by decide +kernel
set_option maxRecDepth 100000 in
set_option maxHeartbeats 4000000 in
theorem xt_c2_0 : (List.range 5).all (fun j => xv_mB xt_M xt_J (40 + j)) = true := by decide +kernel
set_option maxRecDepth 100000 in
set_option maxHeartbeats 4000000 in
theorem xt_c2_1 : (List.range 5).all (fun j => xv_mB xt_M xt_J (45 + j)) = true := by decide +kernel
set_option maxRecDepth 100000 in
set_option maxHeartbeats 4000000 in
theorem xt_c2_2 : (List.range 5).all (fun j => xv_mB xt_M xt_J (50 + j)) = true := by decide +kernel
set_option maxRecDepth 100000 in
set_option maxHeartbeats 4000000 in
theorem xt_c2_3 : (List.range 5).all (fun j => xv_mB xt_M xt_J (55 + j)) = true := by decide +kernel
set_option maxRecDepth 100000 in
set_option maxHeartbeats 4000000 in
theorem xt_c3_0 : (List.range 5).all (fun j => xv_mB xt_M xt_J (60 + j)) = true := by decide +kernel
set_option maxRecDepth 100000 in
set_option maxHeartbeats 4000000 in
theorem xt_c3_1 : (List.range 5).all (fun j => xv_mB xt_M xt_J (65 + j)) = true := by decide +kernel
set_option maxRecDepth 100000 in
set_option maxHeartbeats 4000000 in
theorem xt_c3_2 : (List.range 5).all (fun j => xv_mB xt_M xt_J (70 + j)) = true := by decide +kernel
set_option maxRecDepth 100000 in
set_option maxHeartbeats 4000000 in
theorem xt_c3_3 : (List.range 5).all (fun j => xv_mB xt_M xt_J (75 + j)) = true := by decide +kernel
set_option maxRecDepth 100000 in
set_option maxHeartbeats 4000000 in
theorem xt_c4_0 : (List.range 5).all (fun j => xv_mB xt_M xt_J (80 + j)) = true := by decide +kernel
set_option maxRecDepth 100000 in
set_option maxHeartbeats 4000000 in
theorem xt_c4_1 : (List.range 5).all (fun j => xv_mB xt_M xt_J (85 + j)) = true := by decide +kernel
set_option maxRecDepth 100000 in
set_option maxHeartbeats 4000000 in
theorem xt_c4_2 : (List.range 5).all (fun j => xv_mB xt_M xt_J (90 + j)) = true := by decide +kernel
set_option maxRecDepth 100000 in
set_option maxHeartbeats 4000000 in
theorem xt_c4_3 : (List.range 5).all (fun j => xv_mB xt_M xt_J (95 + j)) = true := by decide +kernel
set_option maxRecDepth 100000 in
set_option maxHeartbeats 4000000 in
theorem xt_c5_0 : (List.range 5).all (fun j => xv_mB xt_M xt_J (100 + j)) = true := by decide +kernel
set_option maxRecDepth 100000 in
set_option maxHeartbeats 4000000 in
theorem xt_c5_1 : (List.range 5).all (fun j => xv_mB xt_M xt_J (105 + j)) = true := by decide +kernel
set_option maxRecDepth 100000 in
set_option maxHeartbeats 4000000 in
theorem xt_c5_2 : (List.range 5).all (fun j => xv_mB xt_M xt_J (110 + j)) = true := by decide +kernel
set_option maxRecDepth 100000 in
set_option maxHeartbeats 4000000 in
theorem xt_c5_3 : (List.range 5).all (fun j => xv_mB xt_M xt_J (115 + j)) = true := by decide +kernel
set_option maxRecDepth 100000 in
set_option maxHeartbeats 4000000 in
theorem xt_c6_0 : (List.range 5).all (fun j => xv_mB xt_M xt_J (120 + j)) = true := by decide +kernel
set_option maxRecDepth 100000 in
set_option maxHeartbeats 4000000 in
theorem xt_c6_1 : (List.range 5).all (fun j => xv_mB xt_M xt_J (125 + j)) = true := by decide +kernel
set_option maxRecDepth 100000 in
set_option maxHeartbeats 4000000 in
theorem xt_c6_2 : (List.range 5).all (fun j => xv_mB xt_M xt_J (130 + j)) = true := by decide +kernel
set_option maxRecDepth 100000 in
set_option maxHeartbeats 4000000 in
theorem xt_c6_3 : (List.range 5).all (fun j => xv_mB xt_M xt_J (135 + j)) = true := by decide +kernel
set_option maxRecDepth 100000 in
set_option maxHeartbeats 4000000 in
theorem xt_c7_0 : (List.range 5).all (fun j => xv_mB xt_M xt_J (140 + j)) = true := by decide +kernel
set_option maxRecDepth 100000 in
set_option maxHeartbeats 4000000 in
theorem xt_c7_1 : (List.range 5).all (fun j => xv_mB xt_M xt_J (145 + j)) = true := by decide +kernel
set_option maxRecDepth 100000 in
set_option maxHeartbeats 4000000 in
theorem xt_c7_2 : (List.range 5).all (fun j => xv_mB xt_M xt_J (150 + j)) = true := by decide +kernel
set_option maxRecDepth 100000 in
set_option maxHeartbeats 4000000 in
theorem xt_c7_3 : (List.range 5).all (fun j => xv_mB xt_M xt_J (155 + j)) = true := by decide +kernel
set_option maxRecDepth 100000 in
set_option maxHeartbeats 4000000 in
theorem xt_c8_0 : (List.range 5).all (fun j => xv_mB xt_M xt_J (160 + j)) = true := by decide +kernel
set_option maxRecDepth 100000 in
set_option maxHeartbeats 4000000 in
theorem xt_c8_1 : (List.range 5).all (fun j => xv_mB xt_M xt_J (165 + j)) = true := by decide +kernel
set_option maxRecDepth 100000 in
set_option maxHeartbeats 4000000 in
theorem xt_c8_2 : (List.range 5).all (fun j => xv_mB xt_M xt_J (170 + j)) = true := by decide +kernel
set_option maxRecDepth 100000 in
set_option maxHeartbeats 4000000 in
theorem xt_c8_3 : (List.range 5).all (fun j => xv_mB xt_M xt_J (175 + j)) = true := by decide +kernel
set_option maxRecDepth 100000 in
set_option maxHeartbeats 4000000 in
theorem xt_c9_0 : (List.range 5).all (fun j => xv_mB xt_M xt_J (180 + j)) = true := by decide +kernel
set_option maxRecDepth 100000 in
set_option maxHeartbeats 4000000 in
theorem xt_c9_1 : (List.range 5).all (fun j => xv_mB xt_M xt_J (185 + j)) = true := by decide +kernel
set_option maxRecDepth 100000 in
set_option maxHeartbeats 4000000 in
theorem xt_c9_2 : (List.range 5).all (fun j => xv_mB xt_M xt_J (190 + j)) = true := by decide +kernel
set_option maxRecDepth 100000 in
set_option maxHeartbeats 4000000 in
theorem xt_c9_3 : (List.range 5).all (fun j => xv_mB xt_M xt_J (195 + j)) = true := by decide +kernel
end
section
/-! .. put together -/
theorem xt_all (id : Nat) : xv_mB xt_M xt_J id = true := by
  by_cases h : id < 200
  · have hx : ∀ (b : Nat), (List.range 5).all (fun j => xv_mB xt_M xt_J (b + j)) = true → b ≤ id → id < b + 5 → xv_mB xt_M xt_J id = true := fun b hb h1 h2 => by
      have := List.all_eq_true.mp hb (id - b) (List.mem_range.mpr (by omega))
      rw [show b + (id - b) = id by omega] at this
      exact this
    by_cases h0_0 : id < 5
    · exact hx 0 xt_c0_0 (by omega) (by omega)
    by_cases h0_1 : id < 10
    · exact hx 5 xt_c0_1 (by omega) (by omega)
    by_cases h0_2 : id < 15
    · exact hx 10 xt_c0_2 (by omega) (by omega)
    by_cases h0_3 : id < 20
    · exact hx 15 xt_c0_3 (by omega) (by omega)
    by_cases h1_0 : id < 25
    · exact hx 20 xt_c1_0 (by omega) (by omega)
    by_cases h1_1 : id < 30
    · exact hx 25 xt_c1_1 (by omega) (by omega)
    by_cases h1_2 : id < 35
    · exact hx 30 xt_c1_2 (by omega) (by omega)
    by_cases h1_3 : id < 40
    · exact hx 35 xt_c1_3 (by omega) (by omega)
    by_cases h2_0 : id < 45
    · exact hx 40 xt_c2_0 (by omega) (by omega)
    by_cases h2_1 : id < 50
    · exact hx 45 xt_c2_1 (by omega) (by omega)
    by_cases h2_2 : id < 55
    · exact hx 50 xt_c2_2 (by omega) (by omega)
    by_cases h2_3 : id < 60
    · exact hx 55 xt_c2_3 (by omega) (by omega)
    by_cases h3_0 : id < 65
    · exact hx 60 xt_c3_0 (by omega) (by omega)
    by_cases h3_1 : id < 70
    · exact hx 65 xt_c3_1 (by omega) (by omega)
    by_cases h3_2 : id < 75
    · exact hx 70 xt_c3_2 (by omega) (by omega)
    by_cases h3_3 : id < 80
    · exact hx 75 xt_c3_3 (by omega) (by omega)
    by_cases h4_0 : id < 85
    · exact hx 80 xt_c4_0 (by omega) (by omega)
    by_cases h4_1 : id < 90
    · exact hx 85 xt_c4_1 (by omega) (by omega)
    by_cases h4_2 : id < 95
    · exact hx 90 xt_c4_2 (by omega) (by omega)
    by_cases h4_3 : id < 100
    · exact hx 95 xt_c4_3 (by omega) (by omega)
    by_cases h5_0 : id < 105
    · exact hx 100 xt_c5_0 (by omega) (by omega)
    by_cases h5_1 : id < 110
    · exact hx 105 xt_c5_1 (by omega) (by omega)
    by_cases h5_2 : id < 115
    · exact hx 110 xt_c5_2 (by omega) (by omega)
    by_cases h5_3 : id < 120
    · exact hx 115 xt_c5_3 (by omega) (by omega)
    by_cases h6_0 : id < 125
    · exact hx 120 xt_c6_0 (by omega) (by omega)
    by_cases h6_1 : id < 130
    · exact hx 125 xt_c6_1 (by omega) (by omega)
    by_cases h6_2 : id < 135
    · exact hx 130 xt_c6_2 (by omega) (by omega)
    by_cases h6_3 : id < 140
    · exact hx 135 xt_c6_3 (by omega) (by omega)
    by_cases h7_0 : id < 145
    · exact hx 140 xt_c7_0 (by omega) (by omega)
    by_cases h7_1 : id < 150
    · exact hx 145 xt_c7_1 (by omega) (by omega)
    by_cases h7_2 : id < 155
    · exact hx 150 xt_c7_2 (by omega) (by omega)
    by_cases h7_3 : id < 160
    · exact hx 155 xt_c7_3 (by omega) (by omega)
    by_cases h8_0 : id < 165
    · exact hx 160 xt_c8_0 (by omega) (by omega)
    by_cases h8_1 : id < 170
    · exact hx 165 xt_c8_1 (by omega) (by omega)
    by_cases h8_2 : id < 175
    · exact hx 170 xt_c8_2 (by omega) (by omega)
    by_cases h8_3 : id < 180
    · exact hx 175 xt_c8_3 (by omega) (by omega)
    by_cases h9_0 : id < 185
    · exact hx 180 xt_c9_0 (by omega) (by omega)
    by_cases h9_1 : id < 190
    · exact hx 185 xt_c9_1 (by omega) (by omega)
    by_cases h9_2 : id < 195
    · exact hx 190 xt_c9_2 (by omega) (by omega)
    by_cases h9_3 : id < 200
    · exact hx 195 xt_c9_3 (by omega) (by omega)
    omega
  · have e1 : xv_get 20 xt_M id = none := by
      rw [xv_get_eq, List.getElem?_eq_none (by show 10 ≤ id / 20; omega)]; rfl
    have e2 : xt_J id = none := by
      show xv_get 20 xt_JL id = none
      rw [xv_get_eq, List.getElem?_eq_none (by show 10 ≤ id / 20; omega)]; rfl
    unfold xv_mB
    rw [e1, e2]
theorem xt_ok : xv_JOK xt_J ∧ xv_MOK xt_M (xv_JI xt_J) := xv_mB_ok xt_all
end
section
/-! the law's table, checked -/
set_option maxRecDepth 100000 in
set_option maxHeartbeats 4000000 in
theorem xt_l0 : ((xt_190.drop 0).take 60).all (fun e => xv_eB code RL "law" (some .boolean) xt_J e) = true := by decide +kernel
set_option maxRecDepth 100000 in
set_option maxHeartbeats 4000000 in
theorem xt_l60 : ((xt_190.drop 60).take 60).all (fun e => xv_eB code RL "law" (some .boolean) xt_J e) = true := by decide +kernel
set_option maxRecDepth 100000 in
set_option maxHeartbeats 4000000 in
theorem xt_l120 : ((xt_190.drop 120).take 60).all (fun e => xv_eB code RL "law" (some .boolean) xt_J e) = true := by decide +kernel
set_option maxRecDepth 100000 in
set_option maxHeartbeats 4000000 in
theorem xt_l180 : ((xt_190.drop 180).take 60).all (fun e => xv_eB code RL "law" (some .boolean) xt_J e) = true := by decide +kernel
set_option maxRecDepth 100000 in
set_option maxHeartbeats 4000000 in
theorem xt_l240 : ((xt_190.drop 240).take 60).all (fun e => xv_eB code RL "law" (some .boolean) xt_J e) = true := by decide +kernel
set_option maxRecDepth 100000 in
set_option maxHeartbeats 4000000 in
theorem xt_l300 : ((xt_190.drop 300).take 60).all (fun e => xv_eB code RL "law" (some .boolean) xt_J e) = true := by decide +kernel
set_option maxRecDepth 100000 in
set_option maxHeartbeats 4000000 in
theorem xt_l360 : ((xt_190.drop 360).take 60).all (fun e => xv_eB code RL "law" (some .boolean) xt_J e) = true := by decide +kernel
set_option maxRecDepth 100000 in
set_option maxHeartbeats 4000000 in
theorem xt_l420 : ((xt_190.drop 420).take 60).all (fun e => xv_eB code RL "law" (some .boolean) xt_J e) = true := by decide +kernel
set_option maxRecDepth 100000 in
set_option maxHeartbeats 4000000 in
theorem xt_l480 : ((xt_190.drop 480).take 60).all (fun e => xv_eB code RL "law" (some .boolean) xt_J e) = true := by decide +kernel
set_option maxRecDepth 100000 in
set_option maxHeartbeats 4000000 in
theorem xt_l540 : ((xt_190.drop 540).take 60).all (fun e => xv_eB code RL "law" (some .boolean) xt_J e) = true := by decide +kernel
set_option maxRecDepth 100000 in
set_option maxHeartbeats 4000000 in
theorem xt_l600 : ((xt_190.drop 600).take 60).all (fun e => xv_eB code RL "law" (some .boolean) xt_J e) = true := by decide +kernel
set_option maxRecDepth 100000 in
set_option maxHeartbeats 4000000 in
theorem xt_l660 : ((xt_190.drop 660).take 60).all (fun e => xv_eB code RL "law" (some .boolean) xt_J e) = true := by decide +kernel
set_option maxRecDepth 100000 in
set_option maxHeartbeats 4000000 in
theorem xt_l720 : ((xt_190.drop 720).take 60).all (fun e => xv_eB code RL "law" (some .boolean) xt_J e) = true := by decide +kernel
set_option maxRecDepth 100000 in
set_option maxHeartbeats 4000000 in
theorem xt_l780 : ((xt_190.drop 780).take 60).all (fun e => xv_eB code RL "law" (some .boolean) xt_J e) = true := by decide +kernel
set_option maxRecDepth 100000 in
set_option maxHeartbeats 4000000 in
theorem xt_l840 : ((xt_190.drop 840).take 60).all (fun e => xv_eB code RL "law" (some .boolean) xt_J e) = true := by decide +kernel
set_option maxRecDepth 100000 in
set_option maxHeartbeats 4000000 in
theorem xt_l900 : ((xt_190.drop 900).take 60).all (fun e => xv_eB code RL "law" (some .boolean) xt_J e) = true := by decide +kernel
set_option maxRecDepth 100000 in
set_option maxHeartbeats 4000000 in
theorem xt_l960 : ((xt_190.drop 960).take 60).all (fun e => xv_eB code RL "law" (some .boolean) xt_J e) = true := by decide +kernel
set_option maxRecDepth 100000 in
set_option maxHeartbeats 4000000 in
theorem xt_l1020 : ((xt_190.drop 1020).take 60).all (fun e => xv_eB code RL "law" (some .boolean) xt_J e) = true := by decide +kernel
set_option maxRecDepth 100000 in
set_option maxHeartbeats 4000000 in
theorem xt_l1080 : ((xt_190.drop 1080).take 60).all (fun e => xv_eB code RL "law" (some .boolean) xt_J e) = true := by decide +kernel
set_option maxRecDepth 100000 in
set_option maxHeartbeats 4000000 in
theorem xt_l1140 : ((xt_190.drop 1140).take 60).all (fun e => xv_eB code RL "law" (some .boolean) xt_J e) = true := by decide +kernel
set_option maxRecDepth 100000 in
set_option maxHeartbeats 4000000 in
theorem xt_l1200 : ((xt_190.drop 1200).take 60).all (fun e => xv_eB code RL "law" (some .boolean) xt_J e) = true := by decide +kernel
set_option maxRecDepth 100000 in
set_option maxHeartbeats 4000000 in
theorem xt_l1260 : ((xt_190.drop 1260).take 60).all (fun e => xv_eB code RL "law" (some .boolean) xt_J e) = true := by decide +kernel
set_option maxRecDepth 100000 in
set_option maxHeartbeats 4000000 in
theorem xt_l1320 : ((xt_190.drop 1320).take 60).all (fun e => xv_eB code RL "law" (some .boolean) xt_J e) = true := by decide +kernel
set_option maxRecDepth 100000 in
set_option maxHeartbeats 4000000 in
theorem xt_l1380 : ((xt_190.drop 1380).take 60).all (fun e => xv_eB code RL "law" (some .boolean) xt_J e) = true := by decide +kernel
set_option maxRecDepth 100000 in
set_option maxHeartbeats 4000000 in
theorem xt_l1440 : ((xt_190.drop 1440).take 60).all (fun e => xv_eB code RL "law" (some .boolean) xt_J e) = true := by decide +kernel
end
section
/-! .. put together -/
theorem xv_drop {l : List xv_E} {f : xv_E → Bool} (a n : Nat) (h : ((l.drop a).take n).all f = true) (h2 : ∀ x ∈ l.drop (a + n), f x = true) : ∀ x ∈ l.drop a, f x = true := fun x hx => by
  rw [← List.take_append_drop n (l.drop a), List.drop_drop] at hx
  rcases List.mem_append.mp hx with hx | hx
  · exact List.all_eq_true.mp h x hx
  · exact h2 x (by first | exact hx | (rw [Nat.add_comm]; exact hx))
theorem xt_law : ∀ x ∈ xt_190, xv_okE code RL "law" (some .boolean) (xv_JI xt_J) x := by
  have h1500 : ∀ x ∈ xt_190.drop 1500, xv_eB code RL "law" (some .boolean) xt_J x = true := fun x hx => by
    rw [List.drop_eq_nil_of_le (by decide +kernel)] at hx
    cases hx
  have h1440 := xv_drop 1440 60 xt_l1440 h1500
  have h1380 := xv_drop 1380 60 xt_l1380 h1440
  have h1320 := xv_drop 1320 60 xt_l1320 h1380
  have h1260 := xv_drop 1260 60 xt_l1260 h1320
  have h1200 := xv_drop 1200 60 xt_l1200 h1260
  have h1140 := xv_drop 1140 60 xt_l1140 h1200
  have h1080 := xv_drop 1080 60 xt_l1080 h1140
  have h1020 := xv_drop 1020 60 xt_l1020 h1080
  have h960 := xv_drop 960 60 xt_l960 h1020
  have h900 := xv_drop 900 60 xt_l900 h960
  have h840 := xv_drop 840 60 xt_l840 h900
  have h780 := xv_drop 780 60 xt_l780 h840
  have h720 := xv_drop 720 60 xt_l720 h780
  have h660 := xv_drop 660 60 xt_l660 h720
  have h600 := xv_drop 600 60 xt_l600 h660
  have h540 := xv_drop 540 60 xt_l540 h600
  have h480 := xv_drop 480 60 xt_l480 h540
  have h420 := xv_drop 420 60 xt_l420 h480
  have h360 := xv_drop 360 60 xt_l360 h420
  have h300 := xv_drop 300 60 xt_l300 h360
  have h240 := xv_drop 240 60 xt_l240 h300
  have h180 := xv_drop 180 60 xt_l180 h240
  have h120 := xv_drop 120 60 xt_l120 h180
  have h60 := xv_drop 60 60 xt_l60 h120
  have h0 := xv_drop 0 60 xt_l0 h60
  exact fun x hx => xv_e_ok xt_ok.1 (h0 x hx)
end
section
/-! the law's runs: first up to its loop, then, from the switch on, call by call: the script's numbers in boxes -/
noncomputable def xq_1 : Option xv_R := xv_run (xv_calls xt_M 100000 6) [] 19 xt_190 100000 xt_190 0 [(5, 0, 0), xv_un, xv_un, xv_un] [] (xv_h0, 0, 0, 0)
noncomputable def xq_go (r : xv_R) (lo hi : Int) (box : List xv_V) : Bool := match xv_run (xv_calls xt_M 100000 6) box 0 xt_190 100000 xt_190 33 r.2.1 [(0, lo, hi)] (r.2.2.1, r.2.2.2.1, r.2.2.2.2.1, r.2.2.2.2.2) with
  | some q => Nat.ble q.2.2.2.2.1 600000 && (Nat.ble q.2.2.2.2.2 7302250 && (match q.1 with
    | [x] => Nat.beq x.1 0 && (xv_le 1 x.2.1 && xv_le x.2.2 1)
    | _ => false))
  | none => false
/-- a box is cut in two, again and again: (0, _) a box to be looked at, (j, c) place j is cut behind c -/
noncomputable def xq_tree (g : List xv_V → Bool) : Nat → List (Nat × Int) → List xv_V → Option (List (Nat × Int)) := Nat.rec (motive := fun _ => List (Nat × Int) → List xv_V → Option (List (Nat × Int))) (fun _ _ => none) (fun _ ih prog box => match prog with
  | [] => none
  | (j, c) :: rest => bif Nat.beq j 0 then (bif g box then some rest else none) else (match xv_nth box j with
    | some v => (match ih rest (xv_put (0, v.2.1, c) box j) with
      | some rest' => ih rest' (xv_put (0, c + 1, v.2.2) box j)
      | none => none)
    | none => none))
def xq_in (box : List xv_V) (xs : Nat → Int32) : Prop := ∀ (j : Nat) (v : xv_V), box[j]? = some v → v.1 = 0 ∧ v.2.1 ≤ (xs j).toInt ∧ (xs j).toInt ≤ v.2.2
theorem xq_in_put {box : List xv_V} {xs : Nat → Int32} {j : Nat} {v : xv_V} (h : xq_in box xs) (hv : v.1 = 0 ∧ v.2.1 ≤ (xs j).toInt ∧ (xs j).toInt ≤ v.2.2) : xq_in (xv_put v box j) xs := fun i w hi => by
  rw [xv_put_eq] at hi
  by_cases e : j = i
  · subst e
    by_cases hl : j < box.length
    · rw [List.getElem?_set_self hl] at hi
      cases hi
      exact hv
    · rw [List.set_eq_of_length_le (by omega)] at hi
      exact h j w hi
  · rw [List.getElem?_set_ne e] at hi
    exact h i w hi
theorem xq_tree_ok {g : List xv_V → Bool} : ∀ (F : Nat) (prog : List (Nat × Int)) (box : List xv_V) (rest : List (Nat × Int)) (xs : Nat → Int32), xq_tree g F prog box = some rest → xq_in box xs → ∃ box', box'.length = box.length ∧ g box' = true ∧ xq_in box' xs
  | 0, _, _, _, _, h, _ => by cases h
  | F + 1, [], _, _, _, h, _ => by cases h
  | F + 1, (j, c) :: prog, box, rest, xs, h, hx => by
    have h : (bif Nat.beq j 0 then (bif g box then some prog else none) else (match xv_nth box j with
    | some v => (match xq_tree g F prog (xv_put (0, v.2.1, c) box j) with
      | some rest' => xq_tree g F rest' (xv_put (0, c + 1, v.2.2) box j)
      | none => none)
    | none => none)) = some rest := h
    cases hb : Nat.beq j 0 with
    | true =>
      rw [hb] at h
      exact ⟨box, rfl, (xv_bt h).1, hx⟩
    | false =>
      rw [hb] at h
      simp only [cond_false] at h
      cases hn : xv_nth box j with
      | none => rw [hn] at h; cases h
      | some v =>
        rw [hn] at h
        rw [xv_nth_eq] at hn
        obtain ⟨v0, v1, v2⟩ := hx j v hn
        dsimp only at h
        cases hl : xq_tree g F prog (xv_put (0, v.2.1, c) box j) with
        | none => rw [hl] at h; cases h
        | some rest' =>
          rw [hl] at h
          by_cases hc : (xs j).toInt ≤ c
          · obtain ⟨b', e1, e2, e3⟩ := xq_tree_ok F prog _ rest' xs hl (xq_in_put hx ⟨rfl, v1, hc⟩)
            exact ⟨b', by rw [e1, xv_put_eq, List.length_set], e2, e3⟩
          · obtain ⟨b', e1, e2, e3⟩ := xq_tree_ok F rest' _ rest xs h (xq_in_put hx ⟨rfl, by show c + 1 ≤ _; omega, v2⟩)
            exact ⟨b', by rw [e1, xv_put_eq, List.length_set], e2, e3⟩
noncomputable def xq_all : List xv_V := [xv_ti, xv_ti, xv_ti, xv_ti, xv_ti, xv_ti]
/-- a call of the law, over one box -/
noncomputable def xq_C (lo hi : Int) (prog : List (Nat × Int)) (box : List xv_V) : Bool := match xq_1 with
  | some r => (match xq_tree (xq_go r lo hi) 100000 prog box with
    | some _ => true
    | none => false)
  | none => false
theorem xq_C_ok {lo hi : Int} {prog : List (Nat × Int)} {box : List xv_V} {r : xv_R} {xs : Nat → Int32} (hr : xq_1 = some r) (h : xq_C lo hi prog box = true) (hx : xq_in box xs) : ∃ box', box'.length = box.length ∧ xq_go r lo hi box' = true ∧ xq_in box' xs := by
  unfold xq_C at h
  rw [hr] at h
  dsimp only at h
  cases ht : xq_tree (xq_go r lo hi) 100000 prog box with
  | none => rw [ht] at h; cases h
  | some rest => exact xq_tree_ok _ _ _ _ _ ht hx
set_option maxRecDepth 100000 in
theorem xq_1ok : (match xq_1 with
  | some r => decide (r.1 = []) && (decide (r.2.1 = [(5, 0, 0), (2, 0, 0), (2, 102, 0), (0, 0, 0)]) && (Nat.ble r.2.2.2.2.1 600000 && Nat.ble r.2.2.2.2.2 7302250))
  | none => false) = true := by decide +kernel
set_option maxRecDepth 100000 in
set_option maxHeartbeats 4000000 in
theorem xq_o0 : xq_C 0 0 [(0, 0)] xq_all = true := by decide +kernel
set_option maxRecDepth 100000 in
set_option maxHeartbeats 4000000 in
theorem xq_o1 : xq_C 1 1 [(1, (-1)), (0, 0), (1, 0), (0, 0), (0, 0)] xq_all = true := by decide +kernel
set_option maxRecDepth 100000 in
set_option maxHeartbeats 4000000 in
theorem xq_o2 : xq_C 2 2 [(0, 0)] xq_all = true := by decide +kernel
set_option maxRecDepth 100000 in
set_option maxHeartbeats 4000000 in
theorem xq_o3 : xq_C 3 3 [(1, (-1)), (0, 0), (1, 0), (0, 0), (1, 1), (0, 0), (0, 0)] xq_all = true := by decide +kernel
set_option maxRecDepth 100000 in
set_option maxHeartbeats 4000000 in
theorem xq_o4 : xq_C 4 4 [(1, (-1)), (0, 0), (0, 0)] xq_all = true := by decide +kernel
set_option maxRecDepth 100000 in
set_option maxHeartbeats 4000000 in
theorem xq_o5 : xq_C 5 5 [(1, (-1)), (0, 0), (0, 0)] xq_all = true := by decide +kernel
set_option maxRecDepth 100000 in
set_option maxHeartbeats 4000000 in
theorem xq_o6 : xq_C 6 6 [(1, (-1)), (0, 0), (0, 0)] xq_all = true := by decide +kernel
set_option maxRecDepth 100000 in
set_option maxHeartbeats 4000000 in
theorem xq_o7 : xq_C 7 7 [(1, (-1)), (0, 0), (0, 0)] xq_all = true := by decide +kernel
set_option maxRecDepth 100000 in
set_option maxHeartbeats 4000000 in
theorem xq_o8 : xq_C 8 8 [(1, (-1)), (0, 0), (0, 0)] xq_all = true := by decide +kernel
set_option maxRecDepth 100000 in
set_option maxHeartbeats 4000000 in
theorem xq_o9 : xq_C 9 9 [(1, (-1)), (0, 0), (0, 0)] xq_all = true := by decide +kernel
set_option maxRecDepth 100000 in
set_option maxHeartbeats 4000000 in
theorem xq_o10 : xq_C 10 10 [(1, (-1)), (0, 0), (0, 0)] xq_all = true := by decide +kernel
set_option maxRecDepth 100000 in
set_option maxHeartbeats 4000000 in
theorem xq_o11 : xq_C 11 11 [(1, (-1)), (0, 0), (0, 0)] xq_all = true := by decide +kernel
set_option maxRecDepth 100000 in
set_option maxHeartbeats 4000000 in
theorem xq_o12 : xq_C 12 12 [(1, (-1)), (0, 0), (0, 0)] xq_all = true := by decide +kernel
set_option maxRecDepth 100000 in
set_option maxHeartbeats 4000000 in
theorem xq_o13 : xq_C 13 13 [(1, (-1)), (0, 0), (0, 0)] xq_all = true := by decide +kernel
set_option maxRecDepth 100000 in
set_option maxHeartbeats 4000000 in
theorem xq_o14 : xq_C 14 14 [(1, (-1)), (0, 0), (0, 0)] xq_all = true := by decide +kernel
set_option maxRecDepth 100000 in
set_option maxHeartbeats 4000000 in
theorem xq_o15 : xq_C 15 15 [(0, 0)] xq_all = true := by decide +kernel
set_option maxRecDepth 100000 in
set_option maxHeartbeats 4000000 in
theorem xq_o16 : xq_C 16 16 [(0, 0)] xq_all = true := by decide +kernel
set_option maxRecDepth 100000 in
set_option maxHeartbeats 4000000 in
theorem xq_o17 : xq_C 17 17 [(0, 0)] xq_all = true := by decide +kernel
set_option maxRecDepth 100000 in
set_option maxHeartbeats 4000000 in
theorem xq_o18 : xq_C 18 18 [(0, 0)] xq_all = true := by decide +kernel
set_option maxRecDepth 100000 in
set_option maxHeartbeats 4000000 in
theorem xq_o19 : xq_C 19 19 [(1, (-1)), (0, 0), (0, 0)] xq_all = true := by decide +kernel
set_option maxRecDepth 100000 in
set_option maxHeartbeats 4000000 in
theorem xq_o20 : xq_C 20 20 [(1, (-1)), (0, 0), (0, 0)] xq_all = true := by decide +kernel
set_option maxRecDepth 100000 in
set_option maxHeartbeats 4000000 in
theorem xq_o21 : xq_C 21 21 [(1, (-1)), (0, 0), (0, 0)] xq_all = true := by decide +kernel
set_option maxRecDepth 100000 in
set_option maxHeartbeats 4000000 in
theorem xq_o22 : xq_C 22 22 [(1, (-1)), (0, 0), (0, 0)] xq_all = true := by decide +kernel
set_option maxRecDepth 100000 in
set_option maxHeartbeats 4000000 in
theorem xq_o23 : xq_C 23 23 [(1, (-1)), (0, 0), (0, 0)] xq_all = true := by decide +kernel
set_option maxRecDepth 100000 in
set_option maxHeartbeats 4000000 in
theorem xq_o24 : xq_C 24 24 [(1, (-1)), (0, 0), (0, 0)] xq_all = true := by decide +kernel
set_option maxRecDepth 100000 in
set_option maxHeartbeats 4000000 in
theorem xq_o25 : xq_C 25 25 [(1, (-1)), (0, 0), (0, 0)] xq_all = true := by decide +kernel
set_option maxRecDepth 100000 in
set_option maxHeartbeats 4000000 in
theorem xq_o26 : xq_C 26 26 [(1, (-1)), (0, 0), (0, 0)] xq_all = true := by decide +kernel
set_option maxRecDepth 100000 in
set_option maxHeartbeats 4000000 in
theorem xq_o27 : xq_C 27 27 [(1, (-1)), (0, 0), (0, 0)] xq_all = true := by decide +kernel
set_option maxRecDepth 100000 in
set_option maxHeartbeats 4000000 in
theorem xq_o28 : xq_C 28 28 [(1, (-1)), (0, 0), (0, 0)] xq_all = true := by decide +kernel
set_option maxRecDepth 100000 in
set_option maxHeartbeats 4000000 in
theorem xq_o29 : xq_C 29 29 [(1, (-1)), (0, 0), (0, 0)] xq_all = true := by decide +kernel
set_option maxRecDepth 100000 in
set_option maxHeartbeats 4000000 in
theorem xq_o30 : xq_C 30 30 [(1, (-1)), (0, 0), (0, 0)] xq_all = true := by decide +kernel
set_option maxRecDepth 100000 in
set_option maxHeartbeats 4000000 in
theorem xq_o31 : xq_C 31 31 [(0, 0)] xq_all = true := by decide +kernel
set_option maxRecDepth 100000 in
set_option maxHeartbeats 4000000 in
theorem xq_o32 : xq_C 32 32 [(0, 0)] xq_all = true := by decide +kernel
set_option maxRecDepth 100000 in
set_option maxHeartbeats 4000000 in
theorem xq_o33 : xq_C 33 33 [(1, (-1)), (0, 0), (0, 0)] xq_all = true := by decide +kernel
set_option maxRecDepth 100000 in
set_option maxHeartbeats 4000000 in
theorem xq_o34 : xq_C 34 34 [(0, 0)] xq_all = true := by decide +kernel
set_option maxRecDepth 100000 in
set_option maxHeartbeats 4000000 in
theorem xq_o35 : xq_C 35 35 [(0, 0)] xq_all = true := by decide +kernel
set_option maxRecDepth 100000 in
set_option maxHeartbeats 4000000 in
theorem xq_o36 : xq_C 36 36 [(0, 0)] xq_all = true := by decide +kernel
set_option maxRecDepth 100000 in
set_option maxHeartbeats 4000000 in
theorem xq_o37 : xq_C 37 37 [(0, 0)] xq_all = true := by decide +kernel
set_option maxRecDepth 100000 in
set_option maxHeartbeats 4000000 in
theorem xq_o38 : xq_C 38 38 [(1, (-1)), (0, 0), (0, 0)] xq_all = true := by decide +kernel
set_option maxRecDepth 100000 in
set_option maxHeartbeats 4000000 in
theorem xq_o39 : xq_C 39 39 [(1, (-1)), (2, (-1)), (0, 0), (0, 0), (1, 0), (2, (-1)), (0, 0), (0, 0), (1, 1), (2, (-1)), (0, 0), (0, 0), (1, 2), (2, (-1)), (0, 0), (0, 0), (1, 3), (2, (-1)), (0, 0), (0, 0), (2, (-1)), (0, 0), (0, 0)] xq_all = true := by decide +kernel
set_option maxRecDepth 100000 in
set_option maxHeartbeats 4000000 in
theorem xq_o40 : xq_C 40 40 [(1, (-1)), (2, (-1)), (0, 0), (0, 0), (1, 0), (2, (-1)), (0, 0), (0, 0), (1, 1), (2, (-1)), (0, 0), (0, 0), (1, 2), (2, (-1)), (0, 0), (0, 0), (1, 3), (2, (-1)), (0, 0), (0, 0), (2, (-1)), (0, 0), (0, 0)] xq_all = true := by decide +kernel
set_option maxRecDepth 100000 in
set_option maxHeartbeats 4000000 in
theorem xq_o41 : xq_C 41 41 [(3, (-1)), (0, 0), (0, 0)] xq_all = true := by decide +kernel
set_option maxRecDepth 100000 in
set_option maxHeartbeats 4000000 in
theorem xq_o42 : xq_C 42 42 [(1, (-1)), (2, (-1)), (0, 0), (0, 0), (1, 0), (2, (-1)), (0, 0), (0, 0), (1, 1), (2, (-1)), (0, 0), (0, 0), (1, 2), (2, (-1)), (0, 0), (0, 0), (1, 3), (2, (-1)), (0, 0), (0, 0), (2, (-1)), (0, 0), (0, 0)] xq_all = true := by decide +kernel
set_option maxRecDepth 100000 in
set_option maxHeartbeats 4000000 in
theorem xq_o43 : xq_C 43 43 [(1, (-1)), (2, (-1)), (0, 0), (0, 0), (1, 0), (2, (-1)), (0, 0), (0, 0), (1, 1), (2, (-1)), (0, 0), (0, 0), (1, 2), (2, (-1)), (0, 0), (0, 0), (1, 3), (2, (-1)), (0, 0), (0, 0), (2, (-1)), (0, 0), (0, 0)] xq_all = true := by decide +kernel
set_option maxRecDepth 100000 in
set_option maxHeartbeats 4000000 in
theorem xq_o44 : xq_C 44 44 [(1, (-1)), (2, (-1)), (3, (-1)), (0, 0), (3, 1), (0, 0), (0, 0), (3, (-1)), (0, 0), (3, 1), (0, 0), (0, 0), (1, 0), (2, (-1)), (3, (-1)), (0, 0), (3, 1), (0, 0), (0, 0), (3, (-1)), (0, 0), (3, 1), (0, 0), (0, 0), (1, 1), (2, (-1)), (3, (-1)), (0, 0), (3, 1), (0, 0), (0, 0), (3, (-1)), (0, 0), (3, 1), (0, 0), (0, 0), (1, 2), (2, (-1)), (3, (-1)), (0, 0), (3, 1), (0, 0), (0, 0), (3, (-1)), (0, 0), (3, 1), (0, 0), (0, 0), (1, 3), (2, (-1)), (3, (-1)), (0, 0), (3, 1), (0, 0), (0, 0), (3, (-1)), (0, 0), (3, 1), (0, 0), (0, 0), (2, (-1)), (3, (-1)), (0, 0), (3, 1), (0, 0), (0, 0), (3, (-1)), (0, 0), (3, 1), (0, 0), (0, 0)] xq_all = true := by decide +kernel
set_option maxRecDepth 100000 in
set_option maxHeartbeats 4000000 in
theorem xq_o45 : xq_C 45 45 [(1, (-1)), (0, 0), (0, 0)] xq_all = true := by decide +kernel
set_option maxRecDepth 100000 in
set_option maxHeartbeats 4000000 in
theorem xq_o46 : xq_C 46 46 [(1, (-1)), (2, (-1)), (3, 0), (4, (-1)), (0, 0), (4, 1), (0, 0), (0, 0), (3, 5), (4, (-1)), (0, 0), (4, 1), (0, 0), (0, 0), (4, (-1)), (0, 0), (4, 1), (0, 0), (0, 0), (3, 0), (4, (-1)), (0, 0), (4, 1), (0, 0), (0, 0), (3, 5), (4, (-1)), (0, 0), (4, 1), (0, 0), (0, 0), (4, (-1)), (0, 0), (4, 1), (0, 0), (0, 0), (1, 0), (2, (-1)), (3, 0), (4, (-1)), (0, 0), (4, 1), (0, 0), (0, 0), (3, 5), (4, (-1)), (0, 0), (4, 1), (0, 0), (0, 0), (4, (-1)), (0, 0), (4, 1), (0, 0), (0, 0), (3, 0), (4, (-1)), (0, 0), (4, 1), (0, 0), (0, 0), (3, 5), (4, (-1)), (0, 0), (4, 1), (0, 0), (0, 0), (4, (-1)), (0, 0), (4, 1), (0, 0), (0, 0), (1, 1), (2, (-1)), (3, 0), (4, (-1)), (0, 0), (4, 1), (0, 0), (0, 0), (3, 5), (4, (-1)), (0, 0), (4, 1), (0, 0), (0, 0), (4, (-1)), (0, 0), (4, 1), (0, 0), (0, 0), (3, 0), (4, (-1)), (0, 0), (4, 1), (0, 0), (0, 0), (3, 5), (4, (-1)), (0, 0), (4, 1), (0, 0), (0, 0), (4, (-1)), (0, 0), (4, 1), (0, 0), (0, 0), (1, 2), (2, (-1)), (3, 0), (4, (-1)), (0, 0), (4, 1), (0, 0), (0, 0), (3, 5), (4, (-1)), (0, 0), (4, 1), (0, 0), (0, 0), (4, (-1)), (0, 0), (4, 1), (0, 0), (0, 0), (3, 0), (4, (-1)), (0, 0), (4, 1), (0, 0), (0, 0), (3, 5), (4, (-1)), (0, 0), (4, 1), (0, 0), (0, 0), (4, (-1)), (0, 0), (4, 1), (0, 0), (0, 0), (1, 3), (2, (-1)), (3, 0), (4, (-1)), (0, 0), (4, 1), (0, 0), (0, 0), (3, 5), (4, (-1)), (0, 0), (4, 1), (0, 0), (0, 0), (4, (-1)), (0, 0), (4, 1), (0, 0), (0, 0), (3, 0), (4, (-1)), (0, 0), (4, 1), (0, 0), (0, 0), (3, 5), (4, (-1)), (0, 0), (4, 1), (0, 0), (0, 0), (4, (-1)), (0, 0), (4, 1), (0, 0), (0, 0), (2, (-1)), (3, 0), (4, (-1)), (0, 0), (4, 1), (0, 0), (0, 0), (3, 5), (4, (-1)), (0, 0), (4, 1), (0, 0), (0, 0), (4, (-1)), (0, 0), (4, 1), (0, 0), (0, 0), (3, 0), (4, (-1)), (0, 0), (4, 1), (0, 0), (0, 0), (3, 5), (4, (-1)), (0, 0), (4, 1), (0, 0), (0, 0), (4, (-1)), (0, 0), (4, 1), (0, 0), (0, 0)] xq_all = true := by decide +kernel
set_option maxRecDepth 100000 in
set_option maxHeartbeats 4000000 in
theorem xq_o47 : xq_C 47 47 [(1, (-1)), (2, (-1)), (3, 0), (0, 0), (3, 5), (0, 0), (0, 0), (3, 0), (0, 0), (3, 5), (0, 0), (0, 0), (1, 0), (2, (-1)), (3, 0), (0, 0), (3, 5), (0, 0), (0, 0), (3, 0), (0, 0), (3, 5), (0, 0), (0, 0), (1, 1), (2, (-1)), (3, 0), (0, 0), (3, 5), (0, 0), (0, 0), (3, 0), (0, 0), (3, 5), (0, 0), (0, 0), (1, 2), (2, (-1)), (3, 0), (0, 0), (3, 5), (0, 0), (0, 0), (3, 0), (0, 0), (3, 5), (0, 0), (0, 0), (1, 3), (2, (-1)), (3, 0), (0, 0), (3, 5), (0, 0), (0, 0), (3, 0), (0, 0), (3, 5), (0, 0), (0, 0), (2, (-1)), (3, 0), (0, 0), (3, 5), (0, 0), (0, 0), (3, 0), (0, 0), (3, 5), (0, 0), (0, 0)] xq_all = true := by decide +kernel
set_option maxRecDepth 100000 in
set_option maxHeartbeats 4000000 in
theorem xq_o48 : xq_C 48 48 [(1, (-1)), (0, 0), (0, 0)] xq_all = true := by decide +kernel
set_option maxRecDepth 100000 in
set_option maxHeartbeats 4000000 in
theorem xq_o49 : xq_C 49 49 [(1, (-1)), (2, (-1)), (0, 0), (0, 0), (2, (-1)), (0, 0), (0, 0)] xq_all = true := by decide +kernel
set_option maxRecDepth 100000 in
set_option maxHeartbeats 4000000 in
theorem xq_o50 : xq_C 50 50 [(1, (-1)), (0, 0), (0, 0)] xq_all = true := by decide +kernel
set_option maxRecDepth 100000 in
set_option maxHeartbeats 4000000 in
theorem xq_o51 : xq_C 51 51 [(1, (-1)), (0, 0), (0, 0)] xq_all = true := by decide +kernel
set_option maxRecDepth 100000 in
set_option maxHeartbeats 4000000 in
theorem xq_o52 : xq_C 52 52 [(0, 0)] xq_all = true := by decide +kernel
set_option maxRecDepth 100000 in
set_option maxHeartbeats 4000000 in
theorem xq_o53 : xq_C 53 53 [(0, 0)] xq_all = true := by decide +kernel
set_option maxRecDepth 100000 in
set_option maxHeartbeats 4000000 in
theorem xq_o54 : xq_C 54 54 [(0, 0)] xq_all = true := by decide +kernel
set_option maxRecDepth 100000 in
set_option maxHeartbeats 4000000 in
theorem xq_o55 : xq_C 55 55 [(0, 0)] xq_all = true := by decide +kernel
set_option maxRecDepth 100000 in
set_option maxHeartbeats 4000000 in
theorem xq_o56 : xq_C 56 56 [(1, (-1)), (2, (-1)), (0, 0), (2, 1), (0, 0), (0, 0), (1, 2000000000), (2, (-1)), (0, 0), (2, 1), (0, 0), (0, 0), (2, (-1)), (0, 0), (2, 1), (0, 0), (0, 0)] xq_all = true := by decide +kernel
set_option maxRecDepth 100000 in
set_option maxHeartbeats 4000000 in
theorem xq_o57 : xq_C 57 57 [(1, (-1)), (2, (-1)), (0, 0), (0, 0), (1, 2000000000), (2, (-1)), (0, 0), (0, 0), (2, (-1)), (0, 0), (0, 0)] xq_all = true := by decide +kernel
set_option maxRecDepth 100000 in
set_option maxHeartbeats 4000000 in
theorem xq_o58 : xq_C 58 58 [(1, (-1)), (2, 0), (3, (-1)), (0, 0), (0, 0), (2, 20), (3, (-1)), (0, 0), (0, 0), (3, (-1)), (0, 0), (0, 0), (1, 2000000000), (2, 0), (3, (-1)), (0, 0), (0, 0), (2, 20), (3, (-1)), (0, 0), (0, 0), (3, (-1)), (0, 0), (0, 0), (2, 0), (3, (-1)), (0, 0), (0, 0), (2, 20), (3, (-1)), (0, 0), (0, 0), (3, (-1)), (0, 0), (0, 0)] xq_all = true := by decide +kernel
set_option maxRecDepth 100000 in
set_option maxHeartbeats 4000000 in
theorem xq_o59 : xq_C 59 59 [(1, (-1)), (2, (-1)), (0, 0), (2, 99), (0, 0), (0, 0), (2, (-1)), (0, 0), (2, 99), (0, 0), (0, 0)] xq_all = true := by decide +kernel
set_option maxRecDepth 100000 in
set_option maxHeartbeats 4000000 in
theorem xq_o60 : xq_C 60 60 [(1, (-1)), (2, (-1)), (0, 0), (0, 0), (2, (-1)), (0, 0), (0, 0)] xq_all = true := by decide +kernel
set_option maxRecDepth 100000 in
set_option maxHeartbeats 4000000 in
theorem xq_o61 : xq_C 61 61 [(1, (-1)), (0, 0), (1, 0), (0, 0), (1, 1), (0, 0), (1, 2), (0, 0), (1, 3), (0, 0), (1, 4), (0, 0), (1, 5), (0, 0), (1, 6), (0, 0), (1, 7), (0, 0), (1, 8), (0, 0), (0, 0)] xq_all = true := by decide +kernel
set_option maxRecDepth 100000 in
set_option maxHeartbeats 4000000 in
theorem xq_o62 : xq_C 62 62 [(1, (-1)), (0, 0), (1, 0), (0, 0), (1, 1), (0, 0), (1, 2), (0, 0), (0, 0)] xq_all = true := by decide +kernel
set_option maxRecDepth 100000 in
set_option maxHeartbeats 4000000 in
theorem xq_o63 : xq_C 63 63 [(1, (-1)), (0, 0), (1, 0), (0, 0), (1, 1), (0, 0), (1, 2), (0, 0), (0, 0)] xq_all = true := by decide +kernel
set_option maxRecDepth 100000 in
set_option maxHeartbeats 4000000 in
theorem xq_o65 : xq_C 65 65 [(1, (-1)), (0, 0), (1, 0), (0, 0), (1, 1), (0, 0), (1, 2), (0, 0), (1, 3), (0, 0), (0, 0)] xq_all = true := by decide +kernel
set_option maxRecDepth 100000 in
set_option maxHeartbeats 4000000 in
theorem xq_o66 : xq_C 66 66 [(1, (-1)), (3, (-1)), (0, 0), (3, 0), (0, 0), (3, 1), (0, 0), (3, 2), (0, 0), (3, 3), (0, 0), (0, 0), (1, 0), (3, (-1)), (0, 0), (3, 0), (0, 0), (3, 1), (0, 0), (3, 2), (0, 0), (3, 3), (0, 0), (0, 0), (1, 1), (3, (-1)), (0, 0), (3, 0), (0, 0), (3, 1), (0, 0), (3, 2), (0, 0), (3, 3), (0, 0), (0, 0), (1, 2), (3, (-1)), (0, 0), (3, 0), (0, 0), (3, 1), (0, 0), (3, 2), (0, 0), (3, 3), (0, 0), (0, 0), (1, 3), (3, (-1)), (0, 0), (3, 0), (0, 0), (3, 1), (0, 0), (3, 2), (0, 0), (3, 3), (0, 0), (0, 0), (3, (-1)), (0, 0), (3, 0), (0, 0), (3, 1), (0, 0), (3, 2), (0, 0), (3, 3), (0, 0), (0, 0)] xq_all = true := by decide +kernel
set_option maxRecDepth 100000 in
set_option maxHeartbeats 4000000 in
theorem xq_o67 : xq_C 67 127 [(0, 0)] xq_all = true := by decide +kernel
set_option maxRecDepth 100000 in
set_option maxHeartbeats 4000000 in
theorem xq_r0 : xq_C 64 64 [(0, 0)] [xv_ti, (0, (-2147483648), (-1)), (0, (-2147483648), 2147483647), (0, (-2147483648), 2147483647), xv_ti, xv_ti] = true := by decide +kernel
set_option maxRecDepth 100000 in
set_option maxHeartbeats 4000000 in
theorem xq_r1 : xq_C 64 64 [(0, 0)] [xv_ti, (0, 0, 0), (0, (-2147483648), (-1)), (0, (-2147483648), 2147483647), xv_ti, xv_ti] = true := by decide +kernel
set_option maxRecDepth 100000 in
set_option maxHeartbeats 4000000 in
theorem xq_r2 : xq_C 64 64 [(0, 0)] [xv_ti, (0, 0, 0), (0, 0, 3), (0, (-2147483648), (-1)), xv_ti, xv_ti] = true := by decide +kernel
set_option maxRecDepth 100000 in
set_option maxHeartbeats 4000000 in
theorem xq_r3 : xq_C 64 64 [(3, 0), (0, 0), (3, 1), (0, 0), (3, 2), (0, 0), (3, 3), (0, 0), (3, 4), (0, 0), (3, 5), (0, 0), (3, 6), (0, 0), (0, 0)] [xv_ti, (0, 0, 0), (0, 0, 3), (0, 0, 7), xv_ti, xv_ti] = true := by decide +kernel
set_option maxRecDepth 100000 in
set_option maxHeartbeats 4000000 in
theorem xq_r4 : xq_C 64 64 [(3, 8), (0, 0), (3, 9), (0, 0), (3, 10), (0, 0), (3, 11), (0, 0), (3, 12), (0, 0), (3, 13), (0, 0), (3, 14), (0, 0), (0, 0)] [xv_ti, (0, 0, 0), (0, 0, 3), (0, 8, 15), xv_ti, xv_ti] = true := by decide +kernel
set_option maxRecDepth 100000 in
set_option maxHeartbeats 4000000 in
theorem xq_r5 : xq_C 64 64 [(3, 16), (0, 0), (3, 17), (0, 0), (3, 18), (0, 0), (3, 19), (0, 0), (3, 20), (0, 0), (3, 21), (0, 0), (3, 22), (0, 0), (0, 0)] [xv_ti, (0, 0, 0), (0, 0, 3), (0, 16, 23), xv_ti, xv_ti] = true := by decide +kernel
set_option maxRecDepth 100000 in
set_option maxHeartbeats 4000000 in
theorem xq_r6 : xq_C 64 64 [(3, 24), (0, 0), (3, 25), (0, 0), (3, 26), (0, 0), (3, 27), (0, 0), (3, 28), (0, 0), (3, 29), (0, 0), (3, 30), (0, 0), (0, 0)] [xv_ti, (0, 0, 0), (0, 0, 3), (0, 24, 31), xv_ti, xv_ti] = true := by decide +kernel
set_option maxRecDepth 100000 in
set_option maxHeartbeats 4000000 in
theorem xq_r7 : xq_C 64 64 [(3, 32), (0, 0), (3, 33), (0, 0), (3, 34), (0, 0), (3, 35), (0, 0), (3, 36), (0, 0), (3, 37), (0, 0), (3, 38), (0, 0), (0, 0)] [xv_ti, (0, 0, 0), (0, 0, 3), (0, 32, 39), xv_ti, xv_ti] = true := by decide +kernel
set_option maxRecDepth 100000 in
set_option maxHeartbeats 4000000 in
theorem xq_r8 : xq_C 64 64 [(3, 40), (0, 0), (3, 41), (0, 0), (3, 42), (0, 0), (3, 43), (0, 0), (3, 44), (0, 0), (3, 45), (0, 0), (3, 46), (0, 0), (0, 0)] [xv_ti, (0, 0, 0), (0, 0, 3), (0, 40, 47), xv_ti, xv_ti] = true := by decide +kernel
set_option maxRecDepth 100000 in
set_option maxHeartbeats 4000000 in
theorem xq_r9 : xq_C 64 64 [(3, 48), (0, 0), (3, 49), (0, 0), (3, 50), (0, 0), (3, 51), (0, 0), (3, 52), (0, 0), (3, 53), (0, 0), (3, 54), (0, 0), (0, 0)] [xv_ti, (0, 0, 0), (0, 0, 3), (0, 48, 55), xv_ti, xv_ti] = true := by decide +kernel
set_option maxRecDepth 100000 in
set_option maxHeartbeats 4000000 in
theorem xq_r10 : xq_C 64 64 [(3, 56), (0, 0), (3, 57), (0, 0), (3, 58), (0, 0), (3, 59), (0, 0), (0, 0)] [xv_ti, (0, 0, 0), (0, 0, 3), (0, 56, 60), xv_ti, xv_ti] = true := by decide +kernel
set_option maxRecDepth 100000 in
set_option maxHeartbeats 4000000 in
theorem xq_r11 : xq_C 64 64 [(0, 0)] [xv_ti, (0, 0, 0), (0, 0, 3), (0, 61, 2147483647), xv_ti, xv_ti] = true := by decide +kernel
set_option maxRecDepth 100000 in
set_option maxHeartbeats 4000000 in
theorem xq_r12 : xq_C 64 64 [(0, 0)] [xv_ti, (0, 0, 0), (0, 4, 2147483647), (0, (-2147483648), 2147483647), xv_ti, xv_ti] = true := by decide +kernel
set_option maxRecDepth 100000 in
set_option maxHeartbeats 4000000 in
theorem xq_r13 : xq_C 64 64 [(0, 0)] [xv_ti, (0, 1, 1), (0, (-2147483648), (-1)), (0, (-2147483648), 2147483647), xv_ti, xv_ti] = true := by decide +kernel
set_option maxRecDepth 100000 in
set_option maxHeartbeats 4000000 in
theorem xq_r14 : xq_C 64 64 [(0, 0)] [xv_ti, (0, 1, 1), (0, 0, 3), (0, (-2147483648), (-1)), xv_ti, xv_ti] = true := by decide +kernel
set_option maxRecDepth 100000 in
set_option maxHeartbeats 4000000 in
theorem xq_r15 : xq_C 64 64 [(3, 0), (0, 0), (3, 1), (0, 0), (3, 2), (0, 0), (3, 3), (0, 0), (3, 4), (0, 0), (3, 5), (0, 0), (3, 6), (0, 0), (0, 0)] [xv_ti, (0, 1, 1), (0, 0, 3), (0, 0, 7), xv_ti, xv_ti] = true := by decide +kernel
set_option maxRecDepth 100000 in
set_option maxHeartbeats 4000000 in
theorem xq_r16 : xq_C 64 64 [(3, 8), (0, 0), (3, 9), (0, 0), (3, 10), (0, 0), (3, 11), (0, 0), (3, 12), (0, 0), (3, 13), (0, 0), (3, 14), (0, 0), (0, 0)] [xv_ti, (0, 1, 1), (0, 0, 3), (0, 8, 15), xv_ti, xv_ti] = true := by decide +kernel
set_option maxRecDepth 100000 in
set_option maxHeartbeats 4000000 in
theorem xq_r17 : xq_C 64 64 [(3, 16), (0, 0), (3, 17), (0, 0), (3, 18), (0, 0), (3, 19), (0, 0), (3, 20), (0, 0), (3, 21), (0, 0), (3, 22), (0, 0), (0, 0)] [xv_ti, (0, 1, 1), (0, 0, 3), (0, 16, 23), xv_ti, xv_ti] = true := by decide +kernel
set_option maxRecDepth 100000 in
set_option maxHeartbeats 4000000 in
theorem xq_r18 : xq_C 64 64 [(3, 24), (0, 0), (3, 25), (0, 0), (3, 26), (0, 0), (3, 27), (0, 0), (3, 28), (0, 0), (3, 29), (0, 0), (3, 30), (0, 0), (0, 0)] [xv_ti, (0, 1, 1), (0, 0, 3), (0, 24, 31), xv_ti, xv_ti] = true := by decide +kernel
set_option maxRecDepth 100000 in
set_option maxHeartbeats 4000000 in
theorem xq_r19 : xq_C 64 64 [(3, 32), (0, 0), (3, 33), (0, 0), (3, 34), (0, 0), (3, 35), (0, 0), (3, 36), (0, 0), (3, 37), (0, 0), (3, 38), (0, 0), (0, 0)] [xv_ti, (0, 1, 1), (0, 0, 3), (0, 32, 39), xv_ti, xv_ti] = true := by decide +kernel
set_option maxRecDepth 100000 in
set_option maxHeartbeats 4000000 in
theorem xq_r20 : xq_C 64 64 [(3, 40), (0, 0), (3, 41), (0, 0), (3, 42), (0, 0), (3, 43), (0, 0), (3, 44), (0, 0), (3, 45), (0, 0), (3, 46), (0, 0), (0, 0)] [xv_ti, (0, 1, 1), (0, 0, 3), (0, 40, 47), xv_ti, xv_ti] = true := by decide +kernel
set_option maxRecDepth 100000 in
set_option maxHeartbeats 4000000 in
theorem xq_r21 : xq_C 64 64 [(3, 48), (0, 0), (3, 49), (0, 0), (3, 50), (0, 0), (3, 51), (0, 0), (3, 52), (0, 0), (3, 53), (0, 0), (3, 54), (0, 0), (0, 0)] [xv_ti, (0, 1, 1), (0, 0, 3), (0, 48, 55), xv_ti, xv_ti] = true := by decide +kernel
set_option maxRecDepth 100000 in
set_option maxHeartbeats 4000000 in
theorem xq_r22 : xq_C 64 64 [(3, 56), (0, 0), (3, 57), (0, 0), (3, 58), (0, 0), (3, 59), (0, 0), (0, 0)] [xv_ti, (0, 1, 1), (0, 0, 3), (0, 56, 60), xv_ti, xv_ti] = true := by decide +kernel
set_option maxRecDepth 100000 in
set_option maxHeartbeats 4000000 in
theorem xq_r23 : xq_C 64 64 [(0, 0)] [xv_ti, (0, 1, 1), (0, 0, 3), (0, 61, 2147483647), xv_ti, xv_ti] = true := by decide +kernel
set_option maxRecDepth 100000 in
set_option maxHeartbeats 4000000 in
theorem xq_r24 : xq_C 64 64 [(0, 0)] [xv_ti, (0, 1, 1), (0, 4, 2147483647), (0, (-2147483648), 2147483647), xv_ti, xv_ti] = true := by decide +kernel
set_option maxRecDepth 100000 in
set_option maxHeartbeats 4000000 in
theorem xq_r25 : xq_C 64 64 [(0, 0)] [xv_ti, (0, 2, 2), (0, (-2147483648), (-1)), (0, (-2147483648), 2147483647), xv_ti, xv_ti] = true := by decide +kernel
set_option maxRecDepth 100000 in
set_option maxHeartbeats 4000000 in
theorem xq_r26 : xq_C 64 64 [(0, 0)] [xv_ti, (0, 2, 2), (0, 0, 3), (0, (-2147483648), (-1)), xv_ti, xv_ti] = true := by decide +kernel
set_option maxRecDepth 100000 in
set_option maxHeartbeats 4000000 in
theorem xq_r27 : xq_C 64 64 [(3, 0), (0, 0), (3, 1), (0, 0), (3, 2), (0, 0), (3, 3), (0, 0), (3, 4), (0, 0), (3, 5), (0, 0), (3, 6), (0, 0), (0, 0)] [xv_ti, (0, 2, 2), (0, 0, 3), (0, 0, 7), xv_ti, xv_ti] = true := by decide +kernel
set_option maxRecDepth 100000 in
set_option maxHeartbeats 4000000 in
theorem xq_r28 : xq_C 64 64 [(3, 8), (0, 0), (3, 9), (0, 0), (3, 10), (0, 0), (3, 11), (0, 0), (3, 12), (0, 0), (3, 13), (0, 0), (3, 14), (0, 0), (0, 0)] [xv_ti, (0, 2, 2), (0, 0, 3), (0, 8, 15), xv_ti, xv_ti] = true := by decide +kernel
set_option maxRecDepth 100000 in
set_option maxHeartbeats 4000000 in
theorem xq_r29 : xq_C 64 64 [(3, 16), (0, 0), (3, 17), (0, 0), (3, 18), (0, 0), (3, 19), (0, 0), (3, 20), (0, 0), (3, 21), (0, 0), (3, 22), (0, 0), (0, 0)] [xv_ti, (0, 2, 2), (0, 0, 3), (0, 16, 23), xv_ti, xv_ti] = true := by decide +kernel
set_option maxRecDepth 100000 in
set_option maxHeartbeats 4000000 in
theorem xq_r30 : xq_C 64 64 [(3, 24), (0, 0), (3, 25), (0, 0), (3, 26), (0, 0), (3, 27), (0, 0), (3, 28), (0, 0), (3, 29), (0, 0), (3, 30), (0, 0), (0, 0)] [xv_ti, (0, 2, 2), (0, 0, 3), (0, 24, 31), xv_ti, xv_ti] = true := by decide +kernel
set_option maxRecDepth 100000 in
set_option maxHeartbeats 4000000 in
theorem xq_r31 : xq_C 64 64 [(3, 32), (0, 0), (3, 33), (0, 0), (3, 34), (0, 0), (3, 35), (0, 0), (3, 36), (0, 0), (3, 37), (0, 0), (3, 38), (0, 0), (0, 0)] [xv_ti, (0, 2, 2), (0, 0, 3), (0, 32, 39), xv_ti, xv_ti] = true := by decide +kernel
set_option maxRecDepth 100000 in
set_option maxHeartbeats 4000000 in
theorem xq_r32 : xq_C 64 64 [(3, 40), (0, 0), (3, 41), (0, 0), (3, 42), (0, 0), (3, 43), (0, 0), (3, 44), (0, 0), (3, 45), (0, 0), (3, 46), (0, 0), (0, 0)] [xv_ti, (0, 2, 2), (0, 0, 3), (0, 40, 47), xv_ti, xv_ti] = true := by decide +kernel
set_option maxRecDepth 100000 in
set_option maxHeartbeats 4000000 in
theorem xq_r33 : xq_C 64 64 [(3, 48), (0, 0), (3, 49), (0, 0), (3, 50), (0, 0), (3, 51), (0, 0), (3, 52), (0, 0), (3, 53), (0, 0), (3, 54), (0, 0), (0, 0)] [xv_ti, (0, 2, 2), (0, 0, 3), (0, 48, 55), xv_ti, xv_ti] = true := by decide +kernel
set_option maxRecDepth 100000 in
set_option maxHeartbeats 4000000 in
theorem xq_r34 : xq_C 64 64 [(3, 56), (0, 0), (3, 57), (0, 0), (3, 58), (0, 0), (3, 59), (0, 0), (0, 0)] [xv_ti, (0, 2, 2), (0, 0, 3), (0, 56, 60), xv_ti, xv_ti] = true := by decide +kernel
set_option maxRecDepth 100000 in
set_option maxHeartbeats 4000000 in
theorem xq_r35 : xq_C 64 64 [(0, 0)] [xv_ti, (0, 2, 2), (0, 0, 3), (0, 61, 2147483647), xv_ti, xv_ti] = true := by decide +kernel
set_option maxRecDepth 100000 in
set_option maxHeartbeats 4000000 in
theorem xq_r36 : xq_C 64 64 [(0, 0)] [xv_ti, (0, 2, 2), (0, 4, 2147483647), (0, (-2147483648), 2147483647), xv_ti, xv_ti] = true := by decide +kernel
set_option maxRecDepth 100000 in
set_option maxHeartbeats 4000000 in
theorem xq_r37 : xq_C 64 64 [(0, 0)] [xv_ti, (0, 3, 3), (0, (-2147483648), (-1)), (0, (-2147483648), 2147483647), xv_ti, xv_ti] = true := by decide +kernel
set_option maxRecDepth 100000 in
set_option maxHeartbeats 4000000 in
theorem xq_r38 : xq_C 64 64 [(0, 0)] [xv_ti, (0, 3, 3), (0, 0, 3), (0, (-2147483648), (-1)), xv_ti, xv_ti] = true := by decide +kernel
set_option maxRecDepth 100000 in
set_option maxHeartbeats 4000000 in
theorem xq_r39 : xq_C 64 64 [(3, 0), (0, 0), (3, 1), (0, 0), (3, 2), (0, 0), (3, 3), (0, 0), (3, 4), (0, 0), (3, 5), (0, 0), (3, 6), (0, 0), (0, 0)] [xv_ti, (0, 3, 3), (0, 0, 3), (0, 0, 7), xv_ti, xv_ti] = true := by decide +kernel
set_option maxRecDepth 100000 in
set_option maxHeartbeats 4000000 in
theorem xq_r40 : xq_C 64 64 [(3, 8), (0, 0), (3, 9), (0, 0), (3, 10), (0, 0), (3, 11), (0, 0), (3, 12), (0, 0), (3, 13), (0, 0), (3, 14), (0, 0), (0, 0)] [xv_ti, (0, 3, 3), (0, 0, 3), (0, 8, 15), xv_ti, xv_ti] = true := by decide +kernel
set_option maxRecDepth 100000 in
set_option maxHeartbeats 4000000 in
theorem xq_r41 : xq_C 64 64 [(3, 16), (0, 0), (3, 17), (0, 0), (3, 18), (0, 0), (3, 19), (0, 0), (3, 20), (0, 0), (3, 21), (0, 0), (3, 22), (0, 0), (0, 0)] [xv_ti, (0, 3, 3), (0, 0, 3), (0, 16, 23), xv_ti, xv_ti] = true := by decide +kernel
set_option maxRecDepth 100000 in
set_option maxHeartbeats 4000000 in
theorem xq_r42 : xq_C 64 64 [(3, 24), (0, 0), (3, 25), (0, 0), (3, 26), (0, 0), (3, 27), (0, 0), (3, 28), (0, 0), (3, 29), (0, 0), (3, 30), (0, 0), (0, 0)] [xv_ti, (0, 3, 3), (0, 0, 3), (0, 24, 31), xv_ti, xv_ti] = true := by decide +kernel
set_option maxRecDepth 100000 in
set_option maxHeartbeats 4000000 in
theorem xq_r43 : xq_C 64 64 [(3, 32), (0, 0), (3, 33), (0, 0), (3, 34), (0, 0), (3, 35), (0, 0), (3, 36), (0, 0), (3, 37), (0, 0), (3, 38), (0, 0), (0, 0)] [xv_ti, (0, 3, 3), (0, 0, 3), (0, 32, 39), xv_ti, xv_ti] = true := by decide +kernel
set_option maxRecDepth 100000 in
set_option maxHeartbeats 4000000 in
theorem xq_r44 : xq_C 64 64 [(3, 40), (0, 0), (3, 41), (0, 0), (3, 42), (0, 0), (3, 43), (0, 0), (3, 44), (0, 0), (3, 45), (0, 0), (3, 46), (0, 0), (0, 0)] [xv_ti, (0, 3, 3), (0, 0, 3), (0, 40, 47), xv_ti, xv_ti] = true := by decide +kernel
set_option maxRecDepth 100000 in
set_option maxHeartbeats 4000000 in
theorem xq_r45 : xq_C 64 64 [(3, 48), (0, 0), (3, 49), (0, 0), (3, 50), (0, 0), (3, 51), (0, 0), (3, 52), (0, 0), (3, 53), (0, 0), (3, 54), (0, 0), (0, 0)] [xv_ti, (0, 3, 3), (0, 0, 3), (0, 48, 55), xv_ti, xv_ti] = true := by decide +kernel
set_option maxRecDepth 100000 in
set_option maxHeartbeats 4000000 in
theorem xq_r46 : xq_C 64 64 [(3, 56), (0, 0), (3, 57), (0, 0), (3, 58), (0, 0), (3, 59), (0, 0), (0, 0)] [xv_ti, (0, 3, 3), (0, 0, 3), (0, 56, 60), xv_ti, xv_ti] = true := by decide +kernel
set_option maxRecDepth 100000 in
set_option maxHeartbeats 4000000 in
theorem xq_r47 : xq_C 64 64 [(0, 0)] [xv_ti, (0, 3, 3), (0, 0, 3), (0, 61, 2147483647), xv_ti, xv_ti] = true := by decide +kernel
set_option maxRecDepth 100000 in
set_option maxHeartbeats 4000000 in
theorem xq_r48 : xq_C 64 64 [(0, 0)] [xv_ti, (0, 3, 3), (0, 4, 2147483647), (0, (-2147483648), 2147483647), xv_ti, xv_ti] = true := by decide +kernel
set_option maxRecDepth 100000 in
set_option maxHeartbeats 4000000 in
theorem xq_r49 : xq_C 64 64 [(0, 0)] [xv_ti, (0, 4, 2147483647), (0, (-2147483648), 2147483647), (0, (-2147483648), 2147483647), xv_ti, xv_ti] = true := by decide +kernel
noncomputable def xq_subs : List (List xv_V) := [[xv_ti, (0, (-2147483648), (-1)), (0, (-2147483648), 2147483647), (0, (-2147483648), 2147483647), xv_ti, xv_ti],
  [xv_ti, (0, 0, 0), (0, (-2147483648), (-1)), (0, (-2147483648), 2147483647), xv_ti, xv_ti],
  [xv_ti, (0, 0, 0), (0, 0, 3), (0, (-2147483648), (-1)), xv_ti, xv_ti],
  [xv_ti, (0, 0, 0), (0, 0, 3), (0, 0, 7), xv_ti, xv_ti],
  [xv_ti, (0, 0, 0), (0, 0, 3), (0, 8, 15), xv_ti, xv_ti],
  [xv_ti, (0, 0, 0), (0, 0, 3), (0, 16, 23), xv_ti, xv_ti],
  [xv_ti, (0, 0, 0), (0, 0, 3), (0, 24, 31), xv_ti, xv_ti],
  [xv_ti, (0, 0, 0), (0, 0, 3), (0, 32, 39), xv_ti, xv_ti],
  [xv_ti, (0, 0, 0), (0, 0, 3), (0, 40, 47), xv_ti, xv_ti],
  [xv_ti, (0, 0, 0), (0, 0, 3), (0, 48, 55), xv_ti, xv_ti],
  [xv_ti, (0, 0, 0), (0, 0, 3), (0, 56, 60), xv_ti, xv_ti],
  [xv_ti, (0, 0, 0), (0, 0, 3), (0, 61, 2147483647), xv_ti, xv_ti],
  [xv_ti, (0, 0, 0), (0, 4, 2147483647), (0, (-2147483648), 2147483647), xv_ti, xv_ti],
  [xv_ti, (0, 1, 1), (0, (-2147483648), (-1)), (0, (-2147483648), 2147483647), xv_ti, xv_ti],
  [xv_ti, (0, 1, 1), (0, 0, 3), (0, (-2147483648), (-1)), xv_ti, xv_ti],
  [xv_ti, (0, 1, 1), (0, 0, 3), (0, 0, 7), xv_ti, xv_ti],
  [xv_ti, (0, 1, 1), (0, 0, 3), (0, 8, 15), xv_ti, xv_ti],
  [xv_ti, (0, 1, 1), (0, 0, 3), (0, 16, 23), xv_ti, xv_ti],
  [xv_ti, (0, 1, 1), (0, 0, 3), (0, 24, 31), xv_ti, xv_ti],
  [xv_ti, (0, 1, 1), (0, 0, 3), (0, 32, 39), xv_ti, xv_ti],
  [xv_ti, (0, 1, 1), (0, 0, 3), (0, 40, 47), xv_ti, xv_ti],
  [xv_ti, (0, 1, 1), (0, 0, 3), (0, 48, 55), xv_ti, xv_ti],
  [xv_ti, (0, 1, 1), (0, 0, 3), (0, 56, 60), xv_ti, xv_ti],
  [xv_ti, (0, 1, 1), (0, 0, 3), (0, 61, 2147483647), xv_ti, xv_ti],
  [xv_ti, (0, 1, 1), (0, 4, 2147483647), (0, (-2147483648), 2147483647), xv_ti, xv_ti],
  [xv_ti, (0, 2, 2), (0, (-2147483648), (-1)), (0, (-2147483648), 2147483647), xv_ti, xv_ti],
  [xv_ti, (0, 2, 2), (0, 0, 3), (0, (-2147483648), (-1)), xv_ti, xv_ti],
  [xv_ti, (0, 2, 2), (0, 0, 3), (0, 0, 7), xv_ti, xv_ti],
  [xv_ti, (0, 2, 2), (0, 0, 3), (0, 8, 15), xv_ti, xv_ti],
  [xv_ti, (0, 2, 2), (0, 0, 3), (0, 16, 23), xv_ti, xv_ti],
  [xv_ti, (0, 2, 2), (0, 0, 3), (0, 24, 31), xv_ti, xv_ti],
  [xv_ti, (0, 2, 2), (0, 0, 3), (0, 32, 39), xv_ti, xv_ti],
  [xv_ti, (0, 2, 2), (0, 0, 3), (0, 40, 47), xv_ti, xv_ti],
  [xv_ti, (0, 2, 2), (0, 0, 3), (0, 48, 55), xv_ti, xv_ti],
  [xv_ti, (0, 2, 2), (0, 0, 3), (0, 56, 60), xv_ti, xv_ti],
  [xv_ti, (0, 2, 2), (0, 0, 3), (0, 61, 2147483647), xv_ti, xv_ti],
  [xv_ti, (0, 2, 2), (0, 4, 2147483647), (0, (-2147483648), 2147483647), xv_ti, xv_ti],
  [xv_ti, (0, 3, 3), (0, (-2147483648), (-1)), (0, (-2147483648), 2147483647), xv_ti, xv_ti],
  [xv_ti, (0, 3, 3), (0, 0, 3), (0, (-2147483648), (-1)), xv_ti, xv_ti],
  [xv_ti, (0, 3, 3), (0, 0, 3), (0, 0, 7), xv_ti, xv_ti],
  [xv_ti, (0, 3, 3), (0, 0, 3), (0, 8, 15), xv_ti, xv_ti],
  [xv_ti, (0, 3, 3), (0, 0, 3), (0, 16, 23), xv_ti, xv_ti],
  [xv_ti, (0, 3, 3), (0, 0, 3), (0, 24, 31), xv_ti, xv_ti],
  [xv_ti, (0, 3, 3), (0, 0, 3), (0, 32, 39), xv_ti, xv_ti],
  [xv_ti, (0, 3, 3), (0, 0, 3), (0, 40, 47), xv_ti, xv_ti],
  [xv_ti, (0, 3, 3), (0, 0, 3), (0, 48, 55), xv_ti, xv_ti],
  [xv_ti, (0, 3, 3), (0, 0, 3), (0, 56, 60), xv_ti, xv_ti],
  [xv_ti, (0, 3, 3), (0, 0, 3), (0, 61, 2147483647), xv_ti, xv_ti],
  [xv_ti, (0, 3, 3), (0, 4, 2147483647), (0, (-2147483648), 2147483647), xv_ti, xv_ti],
  [xv_ti, (0, 4, 2147483647), (0, (-2147483648), 2147483647), (0, (-2147483648), 2147483647), xv_ti, xv_ti]]
set_option maxRecDepth 100000 in
set_option maxHeartbeats 4000000 in
theorem xq_top : (match xq_tree (fun b => decide (b ∈ xq_subs)) 100000 [(1, (-1)), (0, 0), (1, 0), (2, (-1)), (0, 0), (2, 3), (3, (-1)), (0, 0), (3, 7), (0, 0), (3, 15), (0, 0), (3, 23), (0, 0), (3, 31), (0, 0), (3, 39), (0, 0), (3, 47), (0, 0), (3, 55), (0, 0), (3, 60), (0, 0), (0, 0), (0, 0), (1, 1), (2, (-1)), (0, 0), (2, 3), (3, (-1)), (0, 0), (3, 7), (0, 0), (3, 15), (0, 0), (3, 23), (0, 0), (3, 31), (0, 0), (3, 39), (0, 0), (3, 47), (0, 0), (3, 55), (0, 0), (3, 60), (0, 0), (0, 0), (0, 0), (1, 2), (2, (-1)), (0, 0), (2, 3), (3, (-1)), (0, 0), (3, 7), (0, 0), (3, 15), (0, 0), (3, 23), (0, 0), (3, 31), (0, 0), (3, 39), (0, 0), (3, 47), (0, 0), (3, 55), (0, 0), (3, 60), (0, 0), (0, 0), (0, 0), (1, 3), (2, (-1)), (0, 0), (2, 3), (3, (-1)), (0, 0), (3, 7), (0, 0), (3, 15), (0, 0), (3, 23), (0, 0), (3, 31), (0, 0), (3, 39), (0, 0), (3, 47), (0, 0), (3, 55), (0, 0), (3, 60), (0, 0), (0, 0), (0, 0), (0, 0)] xq_all with
  | some _ => true
  | none => false) = true := by decide +kernel
theorem xq_row {r : xv_R} {xs : Nat → Int32} (hr : xq_1 = some r) (hx : xq_in xq_all xs) : ∃ box, box.length = 6 ∧ xq_go r 64 64 box = true ∧ xq_in box xs := by
  have h := xq_top
  cases ht : xq_tree (fun b => decide (b ∈ xq_subs)) 100000 [(1, (-1)), (0, 0), (1, 0), (2, (-1)), (0, 0), (2, 3), (3, (-1)), (0, 0), (3, 7), (0, 0), (3, 15), (0, 0), (3, 23), (0, 0), (3, 31), (0, 0), (3, 39), (0, 0), (3, 47), (0, 0), (3, 55), (0, 0), (3, 60), (0, 0), (0, 0), (0, 0), (1, 1), (2, (-1)), (0, 0), (2, 3), (3, (-1)), (0, 0), (3, 7), (0, 0), (3, 15), (0, 0), (3, 23), (0, 0), (3, 31), (0, 0), (3, 39), (0, 0), (3, 47), (0, 0), (3, 55), (0, 0), (3, 60), (0, 0), (0, 0), (0, 0), (1, 2), (2, (-1)), (0, 0), (2, 3), (3, (-1)), (0, 0), (3, 7), (0, 0), (3, 15), (0, 0), (3, 23), (0, 0), (3, 31), (0, 0), (3, 39), (0, 0), (3, 47), (0, 0), (3, 55), (0, 0), (3, 60), (0, 0), (0, 0), (0, 0), (1, 3), (2, (-1)), (0, 0), (2, 3), (3, (-1)), (0, 0), (3, 7), (0, 0), (3, 15), (0, 0), (3, 23), (0, 0), (3, 31), (0, 0), (3, 39), (0, 0), (3, 47), (0, 0), (3, 55), (0, 0), (3, 60), (0, 0), (0, 0), (0, 0), (0, 0)] xq_all with
  | none => rw [ht] at h; cases h
  | some rest =>
    obtain ⟨b, h1, h2, h3⟩ := xq_tree_ok _ _ _ _ _ ht hx
    have h2 := of_decide_eq_true h2
    have hlen : b.length = 6 := h1
    have key : ∃ prog, xq_C 64 64 prog b = true := by
      unfold xq_subs at h2
      simp only [List.mem_cons, List.not_mem_nil, or_false] at h2
      rcases h2 with rfl | rfl | rfl | rfl | rfl | rfl | rfl | rfl | rfl | rfl | rfl | rfl | rfl | rfl | rfl | rfl | rfl | rfl | rfl | rfl | rfl | rfl | rfl | rfl | rfl | rfl | rfl | rfl | rfl | rfl | rfl | rfl | rfl | rfl | rfl | rfl | rfl | rfl | rfl | rfl | rfl | rfl | rfl | rfl | rfl | rfl | rfl | rfl | rfl | rfl
      · exact ⟨_, xq_r0⟩
      · exact ⟨_, xq_r1⟩
      · exact ⟨_, xq_r2⟩
      · exact ⟨_, xq_r3⟩
      · exact ⟨_, xq_r4⟩
      · exact ⟨_, xq_r5⟩
      · exact ⟨_, xq_r6⟩
      · exact ⟨_, xq_r7⟩
      · exact ⟨_, xq_r8⟩
      · exact ⟨_, xq_r9⟩
      · exact ⟨_, xq_r10⟩
      · exact ⟨_, xq_r11⟩
      · exact ⟨_, xq_r12⟩
      · exact ⟨_, xq_r13⟩
      · exact ⟨_, xq_r14⟩
      · exact ⟨_, xq_r15⟩
      · exact ⟨_, xq_r16⟩
      · exact ⟨_, xq_r17⟩
      · exact ⟨_, xq_r18⟩
      · exact ⟨_, xq_r19⟩
      · exact ⟨_, xq_r20⟩
      · exact ⟨_, xq_r21⟩
      · exact ⟨_, xq_r22⟩
      · exact ⟨_, xq_r23⟩
      · exact ⟨_, xq_r24⟩
      · exact ⟨_, xq_r25⟩
      · exact ⟨_, xq_r26⟩
      · exact ⟨_, xq_r27⟩
      · exact ⟨_, xq_r28⟩
      · exact ⟨_, xq_r29⟩
      · exact ⟨_, xq_r30⟩
      · exact ⟨_, xq_r31⟩
      · exact ⟨_, xq_r32⟩
      · exact ⟨_, xq_r33⟩
      · exact ⟨_, xq_r34⟩
      · exact ⟨_, xq_r35⟩
      · exact ⟨_, xq_r36⟩
      · exact ⟨_, xq_r37⟩
      · exact ⟨_, xq_r38⟩
      · exact ⟨_, xq_r39⟩
      · exact ⟨_, xq_r40⟩
      · exact ⟨_, xq_r41⟩
      · exact ⟨_, xq_r42⟩
      · exact ⟨_, xq_r43⟩
      · exact ⟨_, xq_r44⟩
      · exact ⟨_, xq_r45⟩
      · exact ⟨_, xq_r46⟩
      · exact ⟨_, xq_r47⟩
      · exact ⟨_, xq_r48⟩
      · exact ⟨_, xq_r49⟩
    obtain ⟨prog, hp⟩ := key
    obtain ⟨b2, g1, g2, g3⟩ := xq_C_ok hr hp h3
    exact ⟨b2, g1.trans hlen, g2, g3⟩
theorem xq_calls {r : xv_R} {xs : Nat → Int32} (hr : xq_1 = some r) (hx : xq_in xq_all xs) : ∀ op : Nat, op < 128 → ∃ (lo hi : Int) (box : List xv_V), lo ≤ (op : Int) ∧ (op : Int) ≤ hi ∧ box.length = 6 ∧ xq_go r lo hi box = true ∧ xq_in box xs := by
  intro op hop
  have g : ∀ (lo hi : Int) (prog : List (Nat × Int)), xq_C lo hi prog xq_all = true → lo ≤ (op : Int) → (op : Int) ≤ hi → ∃ (lo hi : Int) (box : List xv_V), lo ≤ (op : Int) ∧ (op : Int) ≤ hi ∧ box.length = 6 ∧ xq_go r lo hi box = true ∧ xq_in box xs := fun lo hi prog h h1 h2 => by
    obtain ⟨b, e1, e2, e3⟩ := xq_C_ok hr h hx
    exact ⟨lo, hi, b, h1, h2, e1, e2, e3⟩
  by_cases h67 : op < 67
  · match op, h67 with
    | 0, _ => exact g _ _ _ xq_o0 (by decide) (by decide)
    | 1, _ => exact g _ _ _ xq_o1 (by decide) (by decide)
    | 2, _ => exact g _ _ _ xq_o2 (by decide) (by decide)
    | 3, _ => exact g _ _ _ xq_o3 (by decide) (by decide)
    | 4, _ => exact g _ _ _ xq_o4 (by decide) (by decide)
    | 5, _ => exact g _ _ _ xq_o5 (by decide) (by decide)
    | 6, _ => exact g _ _ _ xq_o6 (by decide) (by decide)
    | 7, _ => exact g _ _ _ xq_o7 (by decide) (by decide)
    | 8, _ => exact g _ _ _ xq_o8 (by decide) (by decide)
    | 9, _ => exact g _ _ _ xq_o9 (by decide) (by decide)
    | 10, _ => exact g _ _ _ xq_o10 (by decide) (by decide)
    | 11, _ => exact g _ _ _ xq_o11 (by decide) (by decide)
    | 12, _ => exact g _ _ _ xq_o12 (by decide) (by decide)
    | 13, _ => exact g _ _ _ xq_o13 (by decide) (by decide)
    | 14, _ => exact g _ _ _ xq_o14 (by decide) (by decide)
    | 15, _ => exact g _ _ _ xq_o15 (by decide) (by decide)
    | 16, _ => exact g _ _ _ xq_o16 (by decide) (by decide)
    | 17, _ => exact g _ _ _ xq_o17 (by decide) (by decide)
    | 18, _ => exact g _ _ _ xq_o18 (by decide) (by decide)
    | 19, _ => exact g _ _ _ xq_o19 (by decide) (by decide)
    | 20, _ => exact g _ _ _ xq_o20 (by decide) (by decide)
    | 21, _ => exact g _ _ _ xq_o21 (by decide) (by decide)
    | 22, _ => exact g _ _ _ xq_o22 (by decide) (by decide)
    | 23, _ => exact g _ _ _ xq_o23 (by decide) (by decide)
    | 24, _ => exact g _ _ _ xq_o24 (by decide) (by decide)
    | 25, _ => exact g _ _ _ xq_o25 (by decide) (by decide)
    | 26, _ => exact g _ _ _ xq_o26 (by decide) (by decide)
    | 27, _ => exact g _ _ _ xq_o27 (by decide) (by decide)
    | 28, _ => exact g _ _ _ xq_o28 (by decide) (by decide)
    | 29, _ => exact g _ _ _ xq_o29 (by decide) (by decide)
    | 30, _ => exact g _ _ _ xq_o30 (by decide) (by decide)
    | 31, _ => exact g _ _ _ xq_o31 (by decide) (by decide)
    | 32, _ => exact g _ _ _ xq_o32 (by decide) (by decide)
    | 33, _ => exact g _ _ _ xq_o33 (by decide) (by decide)
    | 34, _ => exact g _ _ _ xq_o34 (by decide) (by decide)
    | 35, _ => exact g _ _ _ xq_o35 (by decide) (by decide)
    | 36, _ => exact g _ _ _ xq_o36 (by decide) (by decide)
    | 37, _ => exact g _ _ _ xq_o37 (by decide) (by decide)
    | 38, _ => exact g _ _ _ xq_o38 (by decide) (by decide)
    | 39, _ => exact g _ _ _ xq_o39 (by decide) (by decide)
    | 40, _ => exact g _ _ _ xq_o40 (by decide) (by decide)
    | 41, _ => exact g _ _ _ xq_o41 (by decide) (by decide)
    | 42, _ => exact g _ _ _ xq_o42 (by decide) (by decide)
    | 43, _ => exact g _ _ _ xq_o43 (by decide) (by decide)
    | 44, _ => exact g _ _ _ xq_o44 (by decide) (by decide)
    | 45, _ => exact g _ _ _ xq_o45 (by decide) (by decide)
    | 46, _ => exact g _ _ _ xq_o46 (by decide) (by decide)
    | 47, _ => exact g _ _ _ xq_o47 (by decide) (by decide)
    | 48, _ => exact g _ _ _ xq_o48 (by decide) (by decide)
    | 49, _ => exact g _ _ _ xq_o49 (by decide) (by decide)
    | 50, _ => exact g _ _ _ xq_o50 (by decide) (by decide)
    | 51, _ => exact g _ _ _ xq_o51 (by decide) (by decide)
    | 52, _ => exact g _ _ _ xq_o52 (by decide) (by decide)
    | 53, _ => exact g _ _ _ xq_o53 (by decide) (by decide)
    | 54, _ => exact g _ _ _ xq_o54 (by decide) (by decide)
    | 55, _ => exact g _ _ _ xq_o55 (by decide) (by decide)
    | 56, _ => exact g _ _ _ xq_o56 (by decide) (by decide)
    | 57, _ => exact g _ _ _ xq_o57 (by decide) (by decide)
    | 58, _ => exact g _ _ _ xq_o58 (by decide) (by decide)
    | 59, _ => exact g _ _ _ xq_o59 (by decide) (by decide)
    | 60, _ => exact g _ _ _ xq_o60 (by decide) (by decide)
    | 61, _ => exact g _ _ _ xq_o61 (by decide) (by decide)
    | 62, _ => exact g _ _ _ xq_o62 (by decide) (by decide)
    | 63, _ => exact g _ _ _ xq_o63 (by decide) (by decide)
    | 64, _ => obtain ⟨b, e1, e2, e3⟩ := xq_row hr hx; exact ⟨64, 64, b, by decide, by decide, e1, e2, e3⟩
    | 65, _ => exact g _ _ _ xq_o65 (by decide) (by decide)
    | 66, _ => exact g _ _ _ xq_o66 (by decide) (by decide)
    | n + 67, h => exact absurd h (by omega)
  · exact g _ _ _ xq_o67 (by omega) (by omega)
end
section
/-! THE CLAIM OUT OF ONE WALK OF THE LAW'S BODY. Your part is whole_start (and what it stands on); all else here is the same for every law, but numbers. -/
def R_law : String := "PassedPenanceLaw"
def lw_P (b : Addr) (xs : List Int32) (args : Array Value) (s : State) : Prop := args = #[.ref b] ∧ s.IntsAt b xs ∧ xs.length ≤ 6 ∧ (Jvm.Cond.and given_1 narrow_1).before args s = true
def lw_Q (_ : Array Value) (s : State) (o : Outcome) (t : State) : Prop := o = .returned (some (.int 1)) ∧ Framed s o t [] 600000 7302250
def lw_Z (below : List Frame) (a : Array Value) (s : State) : State → Prop := fun t => ∃ o, t.status = .running ∧ Ended t below o ∧ lw_Q a s o t
/-- the law's own end, with 1 on the stack, nothing written that was there before, its room as the claim has it -/
theorem lw_ret {p : Program} {l : Launch} {e : Env} {s : State} {m : MethodId} {below : List Frame} {meth : Method} {c : Code} {b : Nat} (hx : p.tables.exec = Jvm.exec) (hb : c.code = code) (hr : meth.sig.returnType = ret) (hlocks : meth.locks = false) {pc : Nat} {H : Heap} {ls : Array Slot} (hdg : decode code pc = .ok (.ireturn, 1)) : W p l e room_1 s m #[Value.ref b] below meth c H [] 600000 7302250 (lw_Z below #[Value.ref b] s) (F0 m pc ls [.int 1]) := by
  intro T hT X
  obtain ⟨fs, hret, hrun, hended, hW, hframe⟩ := X.leave (v := some (.int 1)) (hlocks := hlocks) (fun h => by rw [hr] at h; cases h)
  have hmeth' : T.vm.method? m = some meth := X.method'
  refine ⟨T.setFrames fs, ?_, .returned (some (.int 1)), hrun, hended, rfl, ⟨_, rfl⟩, hW, hframe⟩
  jvm_step X.here [X.here.top, hx, hb, hdg, hmeth', hr, ret, narrow_b1]
  (try refine ⟨rfl, ?_⟩); (try refine ⟨rfl, ?_⟩)
  first | (intro acts; rw [hret _ acts rfl rfl rfl]) | rw [hret _ _ rfl rfl rfl]
  exact Steps.refl _
/-- what holds at the law's entry: the machine, the code, the tables' words (any of lw_tbl by 'hts w (by decide +kernel)'), the script of L ints xs at the cell b, what the Statement gives of the start (any of its parts by flat_of_before) -/
def lw_At (p : Program) (s : State) (m : MethodId) (meth : Method) (c : Code) (b L : Nat) (xs : Nat → Int32) : Prop :=
  p.tables.exec = Jvm.exec ∧ c.code = code ∧ meth.sig.returnType = ret ∧ c.maxLocals = 4 ∧ s.vm.findClass R_law = some m.cls ∧ (∀ w ∈ lw_tbl, w.before #[Value.ref b] s = true) ∧ va_X b L xs s s.heap ∧ b < s.heap.size ∧ meth.locks = false ∧ (Jvm.Cond.and given_1 narrow_1).before #[Value.ref b] s = true
theorem xl_W {p : Program} {l : Launch} {e : Env} {R : Room} {s : State} {m : MethodId} {args : Array Value} {below : List Frame} {meth : Method} {c : Code} {H : Heap} {locs : List Loc} {a b : Nat} {Q Q' : State → Prop} {g : JFrame} (hQ : ∀ t, Q t → Q' t) (h : W p l e R s m args below meth c H locs a b Q g) : W p l e R s m args below meth c H locs a b Q' g := fun T hT X => by
  obtain ⟨t, h1, h2⟩ := h T hT X
  exact ⟨t, h1, hQ t h2⟩
theorem xl_any {p : Program} {l : Launch} {e : Env} {R : Room} {s : State} {m : MethodId} {args : Array Value} {below : List Frame} {meth : Method} {c : Code} {H : Heap} {locs : List Loc} {a b : Nat} {Q : State → Prop} {g : JFrame} (hQ : ∀ t, Q t) : W p l e R s m args below meth c H locs a b Q g := fun T _ _ => ⟨_, Steps.refl _, hQ _⟩
/-- the classes and the rows' classes, out of the tables -/
theorem xl_K {s : State} {args : Array Value} (hts : ∀ w ∈ lw_tbl, w.before args s = true) : ∃ (D : va_G) (t : Nat → ClassId), va_K D vwCl (xv_tys t) s ∧ xv_Ex s := by
  have htb : ∀ w ∈ xv_tb, w.before args s = true := fun w hw => hts w (List.mem_filter.mp hw).1
  have hex : ∀ k : Nat, ∃ z : ClassId × (Nat → Nat), ∀ q : vw_C, vwCl[k]? = some q → u_Kn s q.1 q.2.1 q.2.2 z.1 z.2 := fun k => by
    cases hq : vwCl[k]? with
    | none => exact ⟨(0, fun _ => 0), fun q h => (by cases h)⟩
    | some q =>
      obtain ⟨h1, -, -, h4, -⟩ := xv_cls k q hq
      obtain ⟨cC, iS, h⟩ := u_known (C := q.1) (T := q.2.1) (N := q.2.2) (n := q.2.2) htb h1 (htb _ h4)
      exact ⟨(cC, iS), fun q' e => by cases e; exact h⟩
  obtain ⟨f, hf⟩ := Classical.axiomOfChoice hex
  have prim : ∀ ty : FieldType, Cond.arrayClass ty ∈ lw_tbl → ∃ cA : ClassId, ArrOfT s cA ty ∧ s.vm.findClass (FieldType.array ty).toString = some cA := fun ty h => by
    obtain ⟨comp, k, cc, h1, h2, h3⟩ := Cond.arrayClass_spec (hts _ h)
    exact ⟨comp, fun N z => ⟨fun q hq => (by cases hq), k, h2, cc, h3⟩, h1⟩
  obtain ⟨a1, p1, q1⟩ := prim .int (List.mem_filter.mp (xv_at_ok (p := 221) (by decide +kernel))).1
  obtain ⟨a2, p2, q2⟩ := prim .byte (List.mem_filter.mp (xv_at_ok (p := 688) (by decide +kernel))).1
  obtain ⟨a3, p3, q3⟩ := prim .boolean (List.mem_filter.mp (xv_at_ok (p := 1477) (by decide +kernel))).1
  obtain ⟨a4, p4, q4⟩ := prim .long (List.mem_filter.mp (xv_at_ok (p := 312) (by decide +kernel))).1
  have o1 := xm_over (hts _ xv_ao_in.2.1)
  have o2 := xm_over (hts _ xv_ao_in.2.2)
  have oI := hts _ xv_ao_in.1
  obtain ⟨c5, a5, k5, r1, r2, r3, r4⟩ := id o1
  obtain ⟨c6, a6, k6, s1, s2, s3, s4⟩ := id o2
  obtain ⟨c7, a7, k7, t1, -, t3, t4, t5⟩ := Cond.arrayOver_spec oI
  refine ⟨(fun k => (f k).1, fun k => (f k).2), fun k => match k with
    | 1 => a1
    | 2 => a2
    | 3 => a3
    | 4 => a4
    | 5 => a5
    | 6 => a6
    | _ => a7, ⟨fun k q hq => hf k q hq, fun k q hq => ?_⟩, fun q hq => va_Nw.of rfl (hts _ (xv_nest_in q hq)), va_AO.of oI, o1, o2⟩
  match k, hq with
  | 0, hq => cases hq; exact ⟨p1, q1⟩
  | 1, hq => cases hq; exact ⟨p2, q2⟩
  | 2, hq => cases hq; exact ⟨p3, q3⟩
  | 3, hq => cases hq; exact ⟨p4, q4⟩
  | 4, hq => cases hq; exact ⟨fun N z => ⟨fun q hq => (by cases hq), k5, r2, c5, r3⟩, r4⟩
  | 5, hq => cases hq; exact ⟨fun N z => ⟨fun q hq => (by cases hq), k6, s2, c6, s3⟩, s4⟩
  | 6, hq => cases hq; exact ⟨fun N z => ⟨fun q hq => (by cases hq), k7, t3, c7, t4⟩, k7, c7, t3, t4, t1, t5⟩
  | k + 7, hq => simp [xv_tys] at hq
def xl_noput : Instr → Bool
  | .putfield _ => false
  | _ => true
set_option maxRecDepth 100000 in
theorem xl_np : xt_190.all (fun x => xl_noput x.2.1) = true := by decide +kernel
theorem xl_law (nm : String) : ∀ x ∈ xt_190, xv_okE code RL nm (some .boolean) (xv_JI xt_J) x := fun x hx => by
  obtain ⟨h1, h2, h3⟩ := xt_law x hx
  have h4 := List.all_eq_true.mp xl_np x hx
  refine ⟨h1, h2, ?_⟩
  obtain ⟨pc, ins, len, a, b, p, v⟩ := x
  dsimp only at h3 h4 ⊢
  cases ins
  case putfield => cases h4
  all_goals exact h3
theorem d18 : decode code 18 = .ok (.iload_n 3, 1) := by decide +kernel
theorem d19 : decode code 19 = .ok (.aload_n 0, 1) := by decide +kernel
theorem d20 : decode code 20 = .ok (.arraylength, 1) := by decide +kernel
theorem d21 : decode code 21 = .ok (.bipush 6, 2) := by decide +kernel
theorem d23 : decode code 23 = .ok (.isub, 1) := by decide +kernel
theorem d24 : decode code 24 = .ok (.if_icmp .gt 2131, 3) := by decide +kernel
theorem d27 : decode code 27 = .ok (.aload_n 0, 1) := by decide +kernel
theorem d28 : decode code 28 = .ok (.iload_n 3, 1) := by decide +kernel
theorem d29 : decode code 29 = .ok (.iaload, 1) := by decide +kernel
theorem d30 : decode code 30 = .ok (.bipush 127, 2) := by decide +kernel
theorem d32 : decode code 32 = .ok (.iand, 1) := by decide +kernel
theorem d2155 : decode code 2155 = .ok (.iconst 1, 1) := by decide +kernel
theorem d2156 : decode code 2156 = .ok (.ireturn, 1) := by decide +kernel
set_option maxHeartbeats 4000000 in
set_option maxRecDepth 100000 in
/-- THE LAW, from its entry -/
theorem whole_start {p : Program} {e : Env} {s : State} {m : MethodId} {below : List Frame} {meth : Method} {c : Code} (l : Launch) {b L : Nat} {xs : Nat → Int32} (hL : L ≤ 6) (C0 : lw_At p s m meth c b L xs) : W p l e room_1 s m #[Value.ref b] below meth c s.heap [] 0 0 (lw_Z below #[Value.ref b] s) (entryFrame m ([Value.ref b] : List Value).toArray 4) := by
  obtain ⟨hx, hb, hr, hml, hown, hts, hX, hbl, hlocks, hgv⟩ := id C0
  obtain ⟨D, t, hK, hEx⟩ := xl_K hts
  have htb : ∀ w ∈ xv_tb, w.before #[Value.ref b] s = true := fun w hw => hts w (List.mem_filter.mp hw).1
  have hA : ∀ q : Nat, s.heap.size ≤ q → (fun q : Nat => s.heap.size ≤ q) q := fun _ h => h
  have hbA : ¬ (fun q : Nat => s.heap.size ≤ q) b := Nat.not_le.mpr hbl
  obtain ⟨hCG, hcr⟩ := xv_meth xt_ok.2 l 100000 6
  have hRm : 6 + 1 ≤ room_1.frames ∧ 60 * 6 + 60 ≤ room_1.locals := ⟨by decide, by decide⟩
  -- the first run, up to the loop
  have h1 := xq_1ok
  cases hq1 : xq_1 with
  | none => rw [hq1] at h1; cases h1
  | some r =>
    rw [hq1] at h1
    obtain ⟨w1, h1⟩ := xv_and_t h1
    obtain ⟨w2, h1⟩ := xv_and_t h1
    obtain ⟨w3, w4⟩ := xv_and_t h1
    have g1 : r.1 = [] := of_decide_eq_true w1
    have g2 : r.2.1 = [(5, 0, 0), (2, 0, 0), (2, 102, 0), (0, 0, 0)] := of_decide_eq_true w2
    have g3 := xv_ble w3
    have g4 := xv_ble w4
    clear w1 w2 w3 w4 h1
    have Cx : xv_Cx p s m #[Value.ref b] c code RL 4 D t (fun q : Nat => s.heap.size ≤ q) b [] := ⟨hx, hb, hml, hown, htb, hK, hA, Or.inl rfl, hEx⟩
    have hend : ∀ {pc : Nat} {H : Heap} {locs : List Loc} {ls : Array Slot} {a z : Nat}, decode code pc = .ok (.ireturn, 1) → (∀ q ∈ locs, s.heap.size ≤ q.base) → a ≤ 600000 → z ≤ 7302250 → W p l e room_1 s m #[Value.ref b] below meth c H locs a z (lw_Z below #[Value.ref b] s) (F0 m pc ls [.int 1]) := fun hd hl h1 h2 => va_forget hl (W.widen h1 h2 (lw_ret hx hb hr hlocks hd))
    have hT := xs_run (p := p) (l := l) (e := e) (R := room_1) (s := s) (m := m) (args := #[Value.ref b]) (below := below) (meth := meth) (c := c) (cc := code) (own := RL) (nL := 4) (D := D) (t := t) (A := fun q : Nat => s.heap.size ≤ q) (as0 := []) (sb := b) (scr := []) (Q := fun r' tt => r' = r → lw_Z below #[Value.ref b] s tt) (name := meth.name) (ret := some .boolean) (I := xv_JI xt_J) (dF := 6) (stop := 19) (full := xt_190) Cx hCG hcr hRm rfl ?ends ?stop (xl_law meth.name) 100000 xt_190 (fun _ h => h) 0 [(5, 0, 0), xv_un, xv_un, xv_un] [] (xv_h0, 0, 0, 0) r hq1
    case ends =>
      intro pc L9 st S hcase
      refine ⟨Nat.le_refl _, Nat.le_refl _, fun _ _ ls vst H locs ws hR => xl_any (fun tt he => ?_)⟩
      rcases hcase with ⟨-, x, rfl, -⟩ | ⟨-, h9, -⟩ | ⟨-, h9, -⟩
      · rw [← he] at g1; cases g1
      · cases h9
      · cases h9
    case stop =>
      intro pc hpc L9 st S
      have e18 : pc = 18 := by omega
      subst e18
      refine ⟨Nat.le_refl _, Nat.le_refl _, fun _ _ ls vst H locs ws hR => ?_⟩
      by_cases he : (st, L9, S.1, S.2.1, S.2.2.1, S.2.2.2) = r
      · refine xl_W (Q := lw_Z below #[Value.ref b] s) (fun tt h _ => h) ?_
        subst he
        dsimp only at g1 g2 g3 g4
        subst g1
        subst g2
        have ev := hR.2.1.nil
        subst ev
        obtain ⟨x0, hx0, hv0⟩ := hR.1.at (i := 0) rfl (Or.inr (Or.inr (Or.inr (Or.inr rfl))))
        have e0 := hv0.2.2.2.2 rfl
        subst e0
        obtain ⟨x3, hx3, hv3⟩ := hR.1.at (i := 3) rfl (Or.inl rfl)
        obtain ⟨i3, rfl, j1, j2⟩ := hv3.1 rfl
        have e3 : i3 = 0 := by
          apply Int32.toInt_inj.mp
          have h0 : (0 : Int32).toInt = 0 := by decide
          dsimp only at j1 j2
          omega
        subst e3
        have hS := hR.2.2.2.2.1
        refine lv_iload_n hx hb d18 rfl hx3 ?_
        refine lv_aload_n hx hb d19 rfl hx0 ?_
        refine va_slen hx hb hX hbl hbA hS d20 ?_
        refine lv_bipush (v := 6) hx hb d21 (by decide) ?_
        refine lv_isub hx hb d23 ?_
        rcases Nat.lt_or_ge L 6 with hL6 | hL6
        · refine lv_icmp_gt (tgt := 2155) hx hb d24 (by decide) (fun _ => ?_) (fun hn => ?_)
          · refine lv_iconst (v := 1) hx hb d2155 (by decide) ?_
            exact hend d2156 hS.2.2 g3 g4
          · refine absurd ?_ hn
            have hL7 : L = 0 ∨ L = 1 ∨ L = 2 ∨ L = 3 ∨ L = 4 ∨ L = 5 := by omega
            rcases hL7 with rfl | rfl | rfl | rfl | rfl | rfl <;> decide
        · have hL7 : L = 6 := by omega
          subst hL7
          refine lv_icmp_gt (tgt := 2155) hx hb d24 (by decide) (fun hn => absurd hn (by decide)) (fun _ => ?_)
          refine lv_aload_n hx hb d27 rfl hx0 ?_
          refine lv_iload_n hx hb d28 rfl hx3 ?_
          refine va_sld hx hb hX hbl hbA hS (i := 0) (by rw [vp_in_iff]; decide) d29 ?_
          refine lv_bipush (v := 127) hx hb d30 (by decide) ?_
          refine lv_iand hx hb d32 ?_
          obtain ⟨op, hop, eop⟩ := pk_andE (xs (0 : Int32).toNatClampNeg) (m := 127) 7 (by decide)
          rw [eop]
          have hin : xq_in xq_all xs := fun j v hj => by
            have hm : v ∈ xq_all := List.mem_of_getElem? hj
            have hv : v = xv_ti := by
              unfold xq_all at hm
              simp only [List.mem_cons, List.not_mem_nil, or_false, or_self] at hm
              exact hm
            rw [hv]
            exact ⟨rfl, (xv_i32 _).1, (xv_i32 _).2⟩
          obtain ⟨lo, hi, box, k1, k2, k3, k4, k5⟩ := xq_calls hq1 hin op hop
          unfold xq_go at k4
          dsimp only at k4
          generalize hrun : xv_run (xv_calls xt_M 100000 6) box 0 xt_190 100000 xt_190 33 [(5, 0, 0), (2, 0, 0), (2, 102, 0), (0, 0, 0)] [(0, lo, hi)] (S.1, S.2.1, S.2.2.1, S.2.2.2) = ro at k4
          cases ro with
          | none => cases k4
          | some q =>
            dsimp only at k4
            obtain ⟨n1, k4⟩ := xv_and_t k4
            obtain ⟨n2, k4⟩ := xv_and_t k4
            have n1 := xv_ble n1
            have n2 := xv_ble n2
            have Cx2 : xv_Cx p s m #[Value.ref b] c code RL 4 D t (fun q : Nat => s.heap.size ≤ q) b box := ⟨hx, hb, hml, hown, htb, hK, hA, Or.inr ⟨xs, by rw [k3]; exact hX, hbl, hbA, by rw [k3]; decide, k5⟩, hEx⟩
            have hT2 := xs_run (p := p) (l := l) (e := e) (R := room_1) (s := s) (m := m) (args := #[Value.ref b]) (below := below) (meth := meth) (c := c) (cc := code) (own := RL) (nL := 4) (D := D) (t := t) (A := fun q : Nat => s.heap.size ≤ q) (as0 := []) (sb := b) (scr := box) (Q := fun r' tt => r' = q → lw_Z below #[Value.ref b] s tt) (name := meth.name) (ret := some .boolean) (I := xv_JI xt_J) (dF := 6) (stop := 0) (full := xt_190) Cx2 hCG hcr hRm rfl ?ends2 (fun _ h => by cases h) (xl_law meth.name) 100000 xt_190 (fun _ h => h) 33 [(5, 0, 0), (2, 0, 0), (2, 102, 0), (0, 0, 0)] [(0, lo, hi)] (S.1, S.2.1, S.2.2.1, S.2.2.2) q hrun
            case ends2 =>
              intro pc L9 st S9 hcase
              refine ⟨Nat.le_refl _, Nat.le_refl _, fun _ _ ls9 vst9 H9 locs9 ws9 hR9 => ?_⟩
              by_cases he9 : (st, L9, S9.1, S9.2.1, S9.2.2.1, S9.2.2.2) = q
              · refine xl_W (Q := lw_Z below #[Value.ref b] s) (fun tt h _ => h) ?_
                subst he9
                rcases hcase with ⟨hd9, x, rfl, hx9, -⟩ | ⟨-, h9, -⟩ | ⟨-, h9, -⟩
                · obtain ⟨y0, vst, rfl, hy, hst⟩ := hR9.2.1.un
                  have ev9 := hst.nil
                  subst ev9
                  obtain ⟨i, rfl, i1, i2⟩ := hy.1 hx9
                  dsimp only at k4 n1 n2
                  obtain ⟨-, m2⟩ := xv_and_t k4
                  obtain ⟨m2, m3⟩ := xv_and_t m2
                  have m2 := xv_le_iff.mp m2
                  have m3 := xv_le_iff.mp m3
                  have ei : i = 1 := by
                    apply Int32.toInt_inj.mp
                    have h0 : (1 : Int32).toInt = 1 := by decide
                    omega
                  subst ei
                  exact hend hd9 hR9.2.2.2.2.1.2.2 n1 n2
                · cases h9
                · cases h9
              · exact xl_any (fun tt h => absurd h he9)
            obtain ⟨-, -, hW⟩ := hT2
            refine xl_W (fun tt h => h rfl) (hW n1 n2 ls _ H locs ws ⟨hR.1, xv_sm.cons (xv_hv.i ⟨rfl, ?_, ?_⟩) True.intro, hR.2.2⟩)
            · rw [nI_toInt (by omega)]; exact k1
            · rw [nI_toInt (by omega)]; exact k2
      · exact xl_any (fun tt h => absurd h he)
    obtain ⟨-, -, hW⟩ := hT
    rw [lg_entry_eq]
    have hl := lv_entry ([Value.ref b] : List Value) (n := 4) (Nat.le_of_ble_eq_true rfl)
    refine xl_W (fun tt h => h rfl) (hW g3 g4 _ [] s.heap [] [] ⟨⟨rfl, _, hl, fun i v hi hk => ?_⟩, True.intro, fun k q h => by simp at h, ⟨fun i j p q h => by simp at h, fun k q h => by simp at h⟩, va_S.rf, ⟨rfl, fun q k hq h9 => ?_⟩, [], rfl⟩)
    · match i, hi with
      | 0, hi =>
        cases hi
        exact ⟨.ref b, List.mem_cons_self, fun q => (by cases q), fun q => (by cases q), fun q => (by cases q), fun q => (by cases q), fun _ => rfl⟩
      | 1, hi => cases hi; rcases hk with q | q | q | q | q <;> cases q
      | 2, hi => cases hi; rcases hk with q | q | q | q | q <;> cases q
      | 3, hi => cases hi; rcases hk with q | q | q | q | q <;> cases q
      | i + 4, hi => cases hi
    · obtain ⟨l9, m1, m2⟩ := xv_get_mem hq
      have m1 : l9 ∈ xv_rep 14 (xv_rep 14 xv_none) := m1
      have e1 := xv_rep_mem m1
      rw [e1] at m2
      have e2 := xv_rep_mem m2
      rw [e2] at h9
      exact absurd rfl h9
-- ===== YOUR PART ENDS =====
set_option maxHeartbeats 4000000 in
theorem lw_walk (l : Launch) (b : Addr) (xs : List Int32) : MetFree l x (headSpec (Jvm.Cond.code x code maxLocals ret :: tables_1) room_1) (lw_P b xs) (fun _ _ _ _ _ => True) lw_Q := by
  refine MetFree.of_bodyS (code := code) (maxLocals := maxLocals) (ret := ret) (by decide) ?_ ?_
  · intro args s m h hn
    obtain ⟨meth, c, h1, h2, h3, h4, h5, h6, -, -⟩ := Cond.code_spec hn (atoms_spec (ws := Jvm.Cond.code x code maxLocals ret :: tables_1) h _ List.mem_cons_self)
    exact ⟨meth, c, h1, h2, h3, h4, h5, h6⟩
  · intro p e s m args below meth c s₁ B hml0 hP _
    obtain ⟨rfl, hx, hbd, hgv⟩ := hP
    obtain ⟨scr, harrAt, hlist, hof, hsmall⟩ := hx
    obtain ⟨hcb, hkn, -, -⟩ := State.arrayAt?_spec harrAt
    have hown : s.vm.findClass R_law = some m.cls := findClass_of_methodNamed B.named
    have hts0 : ∀ c ∈ (Jvm.Cond.code x code maxLocals ret :: tables_1), c.before #[Value.ref b] s = true := atoms_spec (ws := Jvm.Cond.code x code maxLocals ret :: tables_1) B.pre
    have hts : ∀ w ∈ lw_tbl, w.before #[Value.ref b] s = true := k2_hts_sels lw_privs (fun w hw => hts0 w (List.mem_cons_of_mem _ hw)) lw_privs_ok
    have hml : c.maxLocals = 4 := B.maxLocals_eq (hts0 _ List.mem_cons_self)
    have X₀ : Stand p l e room_1 s m #[Value.ref b] below meth c s₁ [] 0 0 := Stand.of_body B
    have hh0 : s₁.heap = s.heap := by rw [B.state]; rfl
    have hsz : scr.slots.size = xs.length := by rw [← Array.length_toList, hlist, List.length_map]
    have hval : ∀ j : Nat, j < xs.length → scr.slots[j]? = some (.int (xs.getD j 0)) := fun j hj => by
      rw [← Array.getElem?_toList, hlist]
      simp [hj]
    have hbl : b < s.heap.size := (Array.getElem?_eq_some_iff.mp hcb).1
    have hX : va_X b xs.length (fun j => xs.getD j 0) s s.heap := ⟨scr, hcb, hof, hkn, hsz, hval⟩
    have K : W p l e room_1 s m #[Value.ref b] below meth c s₁.heap [] 0 0 (lw_Z below #[Value.ref b] s) (entryFrame m ([Value.ref b] : List Value).toArray 4) := by
      rw [hh0]
      exact whole_start l hbd ⟨B.exec, B.bytes, B.returns, hml, hown, hts, hX, hbl, B.notSynchronized, hgv⟩
    obtain ⟨t, a1, o, b1, b2, b3⟩ := K s₁ rfl X₀
    exact ⟨t, o, a1, b1, b2, b3⟩
theorem lw_pre_spec {args : Array Value} {s : State} (h : (Jvm.Cond.and given_1 narrow_1).before args s = true) (hr : rest_1_c.before args s = true) : ∃ (b : Addr) (xs : List Int32), lw_P b xs args s := by
  have hs := flat_of_before _ h
  have hq := flat_of_before _ hr
  have hc : (Cond.count 1).before args s = true := hs _ (by decide +kernel)
  have harr : (Cond.arrayOf (.arg 0) .int).before args s = true := hs _ (by decide +kernel)
  have hle : (Cond.le (.length (.arg 0)) (.int 6)).before args s = true := hs _ (by decide +kernel)
  have hlen : (Cond.isInt (.length (.arg 0))).before args s = true := hq _ (by decide +kernel)
  have hall : (Cond.all (.arg 0) (.isInt (.elem (.arg 0) (.index 0)))).before args s = true := hq _ (by decide +kernel)
  obtain ⟨b, xs, hb, hx⟩ := State.ints_of_pre rfl harr hlen hall
  have hsm : xs.length < 2 ^ 31 := hx.choose_spec.2.2.2
  have hev : (Term.length (.arg 0)).eval args s none [] s = some (.int xs.length.toInt32) := hx.length_eval hb
  have hv := Cond.le_ints hev (show (Term.int 6).eval args s none [] s = some (.int 6) from rfl)
  have hd : xs.length.toInt32 ≤ 6 := by
    simpa [Cond.before, Cond.holds, hv] using hle
  have hN : xs.length ≤ 6 := (Int32.ofNat_le_ofNat hsm (by decide)).mp (show Int32.ofNat xs.length ≤ Int32.ofNat 6 from hd)
  exact ⟨b, xs, Cond.one_arg hc (show args[0]? = some (.ref b) from hb), hx, hN, h⟩
theorem lw_comes (l : Launch) : Comes l x (Jvm.Cond.code x code maxLocals ret :: tables_1) room_1 (fun tb e args s => Calls_1 tb e args s ∧ rest_1 tb e args s ∧ Pre_1 tb e args s)
    (fun _ _ args s o t => lw_Q args s o t) := by
  intro p e ha hc hk s m args below hf hfit hheap happ hpre
  obtain ⟨b, xs, hP⟩ := lw_pre_spec hpre.2.2 hpre.2.1
  obtain ⟨k, o, h1, h2, h3, hQ⟩ := lw_walk l b xs p e ha hc hk s m args below hf ((Spec.applies_iff_loose hf).mp happ).1 hP trivial
  exact ⟨k, o, h1, h2, h3, hQ⟩
theorem lw_frame {s t : State} {o : Outcome} {args : Array Value} (h : Framed s o t [] 600000 7302250) :
    Framed s o t (fieldLocs frame_1_writes args s ++ arrayLocs frame_1_arrays args s ++ staticLocs frame_1_statics s) 600000 7302250 := h
theorem lw_limb (L : Cond) (hL : ∀ (args : Array Value) (s t : State), L.after args s (.returned (some (.int 1))) t = true) :
    ArmFor flags0 classFile x code maxLocals ret World_1 tables_1 room_1 Calls_1 rest_1 Pre_1
      (fun tb e a s o t => postC L tb e a s o t ∧ Framed s o t (fieldLocs frame_1_writes a s ++ arrayLocs frame_1_arrays a s ++ staticLocs frame_1_statics s) 600000 7302250) := by
  intro l _ _ _ p e ha hc hk s m args below hf hfit hheap happ hpre
  obtain ⟨k, o, h1, h2, h3, rfl, hF⟩ := lw_comes l p e ha hc hk s m args below hf hfit hheap happ hpre
  exact ⟨k, _, h1, h2, h3, hL args s _, lw_frame hF⟩
theorem i_vc : Claimed_1_1 ∧ Claimed_1_2 := ⟨lw_limb limb_1_1 (fun args s t => by simp [limb_1_1, Cond.after, Cond.holds, Cond.value]), lw_limb limb_1_2 (fun args s t => Cond.after_iff.mpr (by
  first | (rw [show limb_1_2 = Cond.eq .result (.int 1) from rfl, Cond.eq_ints (x := 1) (y := 1) rfl rfl]; simp; done) | (simp [limb_1_2, Cond.value, Term.eval]; done)))⟩
end
