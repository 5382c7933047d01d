section
-- ===== PART A: goes FIRST, ahead of the names: the tables' words, and 'selects' of the private methods out of them =====
/-- a private method of a class that the tables say can be made, by its rows of tables_1 -/
def lw_okq (q : MethodName × Nat) : Prop := (q.1.cls ≠ "java/lang/invoke/MethodHandle" ∧ q.1.cls ≠ "java/lang/invoke/VarHandle") ∧ Cond.instantiable q.1.cls q.2 ∈ tables_1 ∧ Cond.privateMethod q.1 ∈ tables_1 ∧ Cond.instanceMethod q.1 ∈ tables_1
theorem lw_p0 : lw_okq (⟨"PassedPenance$Reader", "step", "()V"⟩, 9) := ⟨⟨by decide +kernel, by decide +kernel⟩, List.mem_of_getElem? (i := 31) (by decide +kernel), List.mem_of_getElem? (i := 440) (by decide +kernel), List.mem_of_getElem? (i := 441) (by decide +kernel)⟩
theorem lw_p1 : lw_okq (⟨"PassedPenance$Reader", "kindAt", "(I)I"⟩, 9) := ⟨⟨by decide +kernel, by decide +kernel⟩, List.mem_of_getElem? (i := 31) (by decide +kernel), List.mem_of_getElem? (i := 444) (by decide +kernel), List.mem_of_getElem? (i := 445) (by decide +kernel)⟩
theorem lw_p2 : lw_okq (⟨"PassedPenance$Reader", "takeValue", "()V"⟩, 9) := ⟨⟨by decide +kernel, by decide +kernel⟩, List.mem_of_getElem? (i := 31) (by decide +kernel), List.mem_of_getElem? (i := 448) (by decide +kernel), List.mem_of_getElem? (i := 449) (by decide +kernel)⟩
theorem lw_p3 : lw_okq (⟨"PassedPenance$Reader", "readLine", "()Z"⟩, 9) := ⟨⟨by decide +kernel, by decide +kernel⟩, List.mem_of_getElem? (i := 31) (by decide +kernel), List.mem_of_getElem? (i := 456) (by decide +kernel), List.mem_of_getElem? (i := 457) (by decide +kernel)⟩
theorem lw_p4 : lw_okq (⟨"PassedPenance$Reader", "readHead", "()Z"⟩, 9) := ⟨⟨by decide +kernel, by decide +kernel⟩, List.mem_of_getElem? (i := 31) (by decide +kernel), List.mem_of_getElem? (i := 460) (by decide +kernel), List.mem_of_getElem? (i := 461) (by decide +kernel)⟩
theorem lw_p5 : lw_okq (⟨"PassedPenance$Reader", "passWord", "(Ljava/lang/String;)Z"⟩, 9) := ⟨⟨by decide +kernel, by decide +kernel⟩, List.mem_of_getElem? (i := 31) (by decide +kernel), List.mem_of_getElem? (i := 465) (by decide +kernel), List.mem_of_getElem? (i := 466) (by decide +kernel)⟩
theorem lw_p6 : lw_okq (⟨"PassedPenance$Reader", "isWord", "(Ljava/lang/String;)Z"⟩, 9) := ⟨⟨by decide +kernel, by decide +kernel⟩, List.mem_of_getElem? (i := 31) (by decide +kernel), List.mem_of_getElem? (i := 469) (by decide +kernel), List.mem_of_getElem? (i := 470) (by decide +kernel)⟩
theorem lw_p7 : lw_okq (⟨"PassedPenance$Reader", "refuse", "(I)Z"⟩, 9) := ⟨⟨by decide +kernel, by decide +kernel⟩, List.mem_of_getElem? (i := 31) (by decide +kernel), List.mem_of_getElem? (i := 521) (by decide +kernel), List.mem_of_getElem? (i := 522) (by decide +kernel)⟩
theorem lw_p8 : lw_okq (⟨"PassedPenance$Reader", "isNumber", "(II)Z"⟩, 9) := ⟨⟨by decide +kernel, by decide +kernel⟩, List.mem_of_getElem? (i := 31) (by decide +kernel), List.mem_of_getElem? (i := 526) (by decide +kernel), List.mem_of_getElem? (i := 527) (by decide +kernel)⟩
theorem lw_p9 : lw_okq (⟨"PassedPenance$Reader", "passNumber", "()I"⟩, 9) := ⟨⟨by decide +kernel, by decide +kernel⟩, List.mem_of_getElem? (i := 31) (by decide +kernel), List.mem_of_getElem? (i := 530) (by decide +kernel), List.mem_of_getElem? (i := 531) (by decide +kernel)⟩
theorem lw_p10 : lw_okq (⟨"PassedPenance$Reader", "readPenance", "()Z"⟩, 9) := ⟨⟨by decide +kernel, by decide +kernel⟩, List.mem_of_getElem? (i := 31) (by decide +kernel), List.mem_of_getElem? (i := 537) (by decide +kernel), List.mem_of_getElem? (i := 538) (by decide +kernel)⟩
theorem lw_p11 : lw_okq (⟨"PassedPenance$Reader", "readPerson", "()Z"⟩, 9) := ⟨⟨by decide +kernel, by decide +kernel⟩, List.mem_of_getElem? (i := 31) (by decide +kernel), List.mem_of_getElem? (i := 543) (by decide +kernel), List.mem_of_getElem? (i := 544) (by decide +kernel)⟩
theorem lw_p12 : lw_okq (⟨"PassedPenance$Reader", "readGrudges", "()Z"⟩, 9) := ⟨⟨by decide +kernel, by decide +kernel⟩, List.mem_of_getElem? (i := 31) (by decide +kernel), List.mem_of_getElem? (i := 551) (by decide +kernel), List.mem_of_getElem? (i := 552) (by decide +kernel)⟩
theorem lw_p13 : lw_okq (⟨"PassedPenance$Reader", "readLeft", "()Z"⟩, 9) := ⟨⟨by decide +kernel, by decide +kernel⟩, List.mem_of_getElem? (i := 31) (by decide +kernel), List.mem_of_getElem? (i := 569) (by decide +kernel), List.mem_of_getElem? (i := 570) (by decide +kernel)⟩
theorem lw_p14 : lw_okq (⟨"PassedPenance$Reader", "passSign", "()Z"⟩, 9) := ⟨⟨by decide +kernel, by decide +kernel⟩, List.mem_of_getElem? (i := 31) (by decide +kernel), List.mem_of_getElem? (i := 573) (by decide +kernel), List.mem_of_getElem? (i := 574) (by decide +kernel)⟩
theorem lw_p15 : lw_okq (⟨"PassedPenance$Church", "isAhead", "(III)Z"⟩, 13) := ⟨⟨by decide +kernel, by decide +kernel⟩, List.mem_of_getElem? (i := 37) (by decide +kernel), List.mem_of_getElem? (i := 645) (by decide +kernel), List.mem_of_getElem? (i := 646) (by decide +kernel)⟩
def lw_privs_1 : List (MethodName × Nat) := [(⟨"PassedPenance$Reader", "step", "()V"⟩, 9), (⟨"PassedPenance$Reader", "kindAt", "(I)I"⟩, 9), (⟨"PassedPenance$Reader", "takeValue", "()V"⟩, 9), (⟨"PassedPenance$Reader", "readLine", "()Z"⟩, 9), (⟨"PassedPenance$Reader", "readHead", "()Z"⟩, 9), (⟨"PassedPenance$Reader", "passWord", "(Ljava/lang/String;)Z"⟩, 9), (⟨"PassedPenance$Reader", "isWord", "(Ljava/lang/String;)Z"⟩, 9), (⟨"PassedPenance$Reader", "refuse", "(I)Z"⟩, 9), (⟨"PassedPenance$Reader", "isNumber", "(II)Z"⟩, 9), (⟨"PassedPenance$Reader", "passNumber", "()I"⟩, 9), (⟨"PassedPenance$Reader", "readPenance", "()Z"⟩, 9), (⟨"PassedPenance$Reader", "readPerson", "()Z"⟩, 9), (⟨"PassedPenance$Reader", "readGrudges", "()Z"⟩, 9), (⟨"PassedPenance$Reader", "readLeft", "()Z"⟩, 9), (⟨"PassedPenance$Reader", "passSign", "()Z"⟩, 9), (⟨"PassedPenance$Church", "isAhead", "(III)Z"⟩, 13)]
theorem lw_r1 : ∀ q ∈ lw_privs_1, lw_okq q := List.forall_mem_cons.mpr ⟨lw_p0, List.forall_mem_cons.mpr ⟨lw_p1, List.forall_mem_cons.mpr ⟨lw_p2, List.forall_mem_cons.mpr ⟨lw_p3, List.forall_mem_cons.mpr ⟨lw_p4, List.forall_mem_cons.mpr ⟨lw_p5, List.forall_mem_cons.mpr ⟨lw_p6, List.forall_mem_cons.mpr ⟨lw_p7, List.forall_mem_cons.mpr ⟨lw_p8, List.forall_mem_cons.mpr ⟨lw_p9, List.forall_mem_cons.mpr ⟨lw_p10, List.forall_mem_cons.mpr ⟨lw_p11, List.forall_mem_cons.mpr ⟨lw_p12, List.forall_mem_cons.mpr ⟨lw_p13, List.forall_mem_cons.mpr ⟨lw_p14, List.forall_mem_cons.mpr ⟨lw_p15, fun _ h => absurd h List.not_mem_nil⟩⟩⟩⟩⟩⟩⟩⟩⟩⟩⟩⟩⟩⟩⟩⟩
theorem lw_p16 : lw_okq (⟨"PassedPenance$Church", "rightAhead", "(IIII)I"⟩, 13) := ⟨⟨by decide +kernel, by decide +kernel⟩, List.mem_of_getElem? (i := 37) (by decide +kernel), List.mem_of_getElem? (i := 657) (by decide +kernel), List.mem_of_getElem? (i := 658) (by decide +kernel)⟩
theorem lw_p17 : lw_okq (⟨"PassedPenance", "weighs", "(I)Z"⟩, 13) := ⟨⟨by decide +kernel, by decide +kernel⟩, List.mem_of_getElem? (i := 23) (by decide +kernel), List.mem_of_getElem? (i := 751) (by decide +kernel), List.mem_of_getElem? (i := 752) (by decide +kernel)⟩
theorem lw_p18 : lw_okq (⟨"PassedPenance$Orders", "weighNode", "(IIZ)V"⟩, 6) := ⟨⟨by decide +kernel, by decide +kernel⟩, List.mem_of_getElem? (i := 250) (by decide +kernel), List.mem_of_getElem? (i := 772) (by decide +kernel), List.mem_of_getElem? (i := 773) (by decide +kernel)⟩
theorem lw_p19 : lw_okq (⟨"PassedPenance$Orders", "goOn", "(IIII)V"⟩, 6) := ⟨⟨by decide +kernel, by decide +kernel⟩, List.mem_of_getElem? (i := 250) (by decide +kernel), List.mem_of_getElem? (i := 780) (by decide +kernel), List.mem_of_getElem? (i := 781) (by decide +kernel)⟩
theorem lw_p20 : lw_okq (⟨"PassedPenance$Orders", "firstSeat", "(II)I"⟩, 6) := ⟨⟨by decide +kernel, by decide +kernel⟩, List.mem_of_getElem? (i := 250) (by decide +kernel), List.mem_of_getElem? (i := 796) (by decide +kernel), List.mem_of_getElem? (i := 797) (by decide +kernel)⟩
theorem lw_p21 : lw_okq (⟨"PassedPenance$Church", "firstOf", "(I)I"⟩, 13) := ⟨⟨by decide +kernel, by decide +kernel⟩, List.mem_of_getElem? (i := 37) (by decide +kernel), List.mem_of_getElem? (i := 855) (by decide +kernel), List.mem_of_getElem? (i := 856) (by decide +kernel)⟩
theorem lw_p22 : lw_okq (⟨"PassedPenance$Swaps", "fewestBehind", "(II)I"⟩, 7) := ⟨⟨by decide +kernel, by decide +kernel⟩, List.mem_of_getElem? (i := 307) (by decide +kernel), List.mem_of_getElem? (i := 889) (by decide +kernel), List.mem_of_getElem? (i := 890) (by decide +kernel)⟩
theorem lw_p23 : lw_okq (⟨"PassedPenance$Swaps", "change", "(II)V"⟩, 7) := ⟨⟨by decide +kernel, by decide +kernel⟩, List.mem_of_getElem? (i := 307) (by decide +kernel), List.mem_of_getElem? (i := 893) (by decide +kernel), List.mem_of_getElem? (i := 894) (by decide +kernel)⟩
theorem lw_p24 : lw_okq (⟨"PassedPenance", "wouldTrade", "(II)Z"⟩, 13) := ⟨⟨by decide +kernel, by decide +kernel⟩, List.mem_of_getElem? (i := 23) (by decide +kernel), List.mem_of_getElem? (i := 901) (by decide +kernel), List.mem_of_getElem? (i := 902) (by decide +kernel)⟩
theorem lw_p25 : lw_okq (⟨"PassedPenance$Deal", "costsWith", "(II)I"⟩, 3) := ⟨⟨by decide +kernel, by decide +kernel⟩, List.mem_of_getElem? (i := 337) (by decide +kernel), List.mem_of_getElem? (i := 915) (by decide +kernel), List.mem_of_getElem? (i := 916) (by decide +kernel)⟩
theorem lw_p26 : lw_okq (⟨"PassedPenance$Deal", "firstShare", "(I)I"⟩, 3) := ⟨⟨by decide +kernel, by decide +kernel⟩, List.mem_of_getElem? (i := 337) (by decide +kernel), List.mem_of_getElem? (i := 935) (by decide +kernel), List.mem_of_getElem? (i := 936) (by decide +kernel)⟩
theorem lw_p27 : lw_okq (⟨"PassedPenance", "compare", "(II)I"⟩, 13) := ⟨⟨by decide +kernel, by decide +kernel⟩, List.mem_of_getElem? (i := 23) (by decide +kernel), List.mem_of_getElem? (i := 946) (by decide +kernel), List.mem_of_getElem? (i := 947) (by decide +kernel)⟩
theorem lw_p28 : lw_okq (⟨"PassedPenance$Sightings", "isSeated", "(I)Z"⟩, 6) := ⟨⟨by decide +kernel, by decide +kernel⟩, List.mem_of_getElem? (i := 280) (by decide +kernel), List.mem_of_getElem? (i := 968) (by decide +kernel), List.mem_of_getElem? (i := 969) (by decide +kernel)⟩
theorem lw_p29 : lw_okq (⟨"PassedPenance$Sightings", "countRest", "(IIZ)V"⟩, 6) := ⟨⟨by decide +kernel, by decide +kernel⟩, List.mem_of_getElem? (i := 280) (by decide +kernel), List.mem_of_getElem? (i := 981) (by decide +kernel), List.mem_of_getElem? (i := 982) (by decide +kernel)⟩
theorem lw_p30 : lw_okq (⟨"PassedPenance$Sightings", "fitsBehind", "(III)Z"⟩, 6) := ⟨⟨by decide +kernel, by decide +kernel⟩, List.mem_of_getElem? (i := 280) (by decide +kernel), List.mem_of_getElem? (i := 985) (by decide +kernel), List.mem_of_getElem? (i := 986) (by decide +kernel)⟩
theorem lw_p31 : lw_okq (⟨"PassedPenance$Sightings", "countOn", "(II)V"⟩, 6) := ⟨⟨by decide +kernel, by decide +kernel⟩, List.mem_of_getElem? (i := 280) (by decide +kernel), List.mem_of_getElem? (i := 990) (by decide +kernel), List.mem_of_getElem? (i := 991) (by decide +kernel)⟩
def lw_privs_2 : List (MethodName × Nat) := [(⟨"PassedPenance$Church", "rightAhead", "(IIII)I"⟩, 13), (⟨"PassedPenance", "weighs", "(I)Z"⟩, 13), (⟨"PassedPenance$Orders", "weighNode", "(IIZ)V"⟩, 6), (⟨"PassedPenance$Orders", "goOn", "(IIII)V"⟩, 6), (⟨"PassedPenance$Orders", "firstSeat", "(II)I"⟩, 6), (⟨"PassedPenance$Church", "firstOf", "(I)I"⟩, 13), (⟨"PassedPenance$Swaps", "fewestBehind", "(II)I"⟩, 7), (⟨"PassedPenance$Swaps", "change", "(II)V"⟩, 7), (⟨"PassedPenance", "wouldTrade", "(II)Z"⟩, 13), (⟨"PassedPenance$Deal", "costsWith", "(II)I"⟩, 3), (⟨"PassedPenance$Deal", "firstShare", "(I)I"⟩, 3), (⟨"PassedPenance", "compare", "(II)I"⟩, 13), (⟨"PassedPenance$Sightings", "isSeated", "(I)Z"⟩, 6), (⟨"PassedPenance$Sightings", "countRest", "(IIZ)V"⟩, 6), (⟨"PassedPenance$Sightings", "fitsBehind", "(III)Z"⟩, 6), (⟨"PassedPenance$Sightings", "countOn", "(II)V"⟩, 6)]
theorem lw_r2 : ∀ q ∈ lw_privs_2, lw_okq q := List.forall_mem_cons.mpr ⟨lw_p16, List.forall_mem_cons.mpr ⟨lw_p17, List.forall_mem_cons.mpr ⟨lw_p18, List.forall_mem_cons.mpr ⟨lw_p19, List.forall_mem_cons.mpr ⟨lw_p20, List.forall_mem_cons.mpr ⟨lw_p21, List.forall_mem_cons.mpr ⟨lw_p22, List.forall_mem_cons.mpr ⟨lw_p23, List.forall_mem_cons.mpr ⟨lw_p24, List.forall_mem_cons.mpr ⟨lw_p25, List.forall_mem_cons.mpr ⟨lw_p26, List.forall_mem_cons.mpr ⟨lw_p27, List.forall_mem_cons.mpr ⟨lw_p28, List.forall_mem_cons.mpr ⟨lw_p29, List.forall_mem_cons.mpr ⟨lw_p30, List.forall_mem_cons.mpr ⟨lw_p31, fun _ h => absurd h List.not_mem_nil⟩⟩⟩⟩⟩⟩⟩⟩⟩⟩⟩⟩⟩⟩⟩⟩
theorem lw_p32 : lw_okq (⟨"PassedPenance", "whyNoMean", "(III)I"⟩, 13) := ⟨⟨by decide +kernel, by decide +kernel⟩, List.mem_of_getElem? (i := 23) (by decide +kernel), List.mem_of_getElem? (i := 1038) (by decide +kernel), List.mem_of_getElem? (i := 1039) (by decide +kernel)⟩
theorem lw_p33 : lw_okq (⟨"PassedPenance$Acts", "log", "(II)V"⟩, 6) := ⟨⟨by decide +kernel, by decide +kernel⟩, List.mem_of_getElem? (i := 158) (by decide +kernel), List.mem_of_getElem? (i := 1094) (by decide +kernel), List.mem_of_getElem? (i := 1095) (by decide +kernel)⟩
theorem lw_p34 : lw_okq (⟨"PassedPenance$Acts", "change", "(II)V"⟩, 6) := ⟨⟨by decide +kernel, by decide +kernel⟩, List.mem_of_getElem? (i := 158) (by decide +kernel), List.mem_of_getElem? (i := 1106) (by decide +kernel), List.mem_of_getElem? (i := 1107) (by decide +kernel)⟩
theorem lw_p35 : lw_okq (⟨"PassedPenanceModel", "four", "(I)V"⟩, 42) := ⟨⟨by decide +kernel, by decide +kernel⟩, List.mem_of_getElem? (i := 1246) (by decide +kernel), List.mem_of_getElem? (i := 1406) (by decide +kernel), List.mem_of_getElem? (i := 1407) (by decide +kernel)⟩
theorem lw_p36 : lw_okq (⟨"PassedPenanceModel", "clears", "()V"⟩, 42) := ⟨⟨by decide +kernel, by decide +kernel⟩, List.mem_of_getElem? (i := 1246) (by decide +kernel), List.mem_of_getElem? (i := 1422) (by decide +kernel), List.mem_of_getElem? (i := 1423) (by decide +kernel)⟩
theorem lw_p37 : lw_okq (⟨"PassedPenanceModel", "tells", "(II)V"⟩, 42) := ⟨⟨by decide +kernel, by decide +kernel⟩, List.mem_of_getElem? (i := 1246) (by decide +kernel), List.mem_of_getElem? (i := 1426) (by decide +kernel), List.mem_of_getElem? (i := 1427) (by decide +kernel)⟩
theorem lw_p38 : lw_okq (⟨"PassedPenanceModel", "begins", "()V"⟩, 42) := ⟨⟨by decide +kernel, by decide +kernel⟩, List.mem_of_getElem? (i := 1246) (by decide +kernel), List.mem_of_getElem? (i := 1430) (by decide +kernel), List.mem_of_getElem? (i := 1431) (by decide +kernel)⟩
theorem lw_p39 : lw_okq (⟨"PassedPenanceModel", "next", "()V"⟩, 42) := ⟨⟨by decide +kernel, by decide +kernel⟩, List.mem_of_getElem? (i := 1246) (by decide +kernel), List.mem_of_getElem? (i := 1434) (by decide +kernel), List.mem_of_getElem? (i := 1435) (by decide +kernel)⟩
theorem lw_p40 : lw_okq (⟨"PassedPenanceModel", "isByte", "(III)Z"⟩, 42) := ⟨⟨by decide +kernel, by decide +kernel⟩, List.mem_of_getElem? (i := 1246) (by decide +kernel), List.mem_of_getElem? (i := 1438) (by decide +kernel), List.mem_of_getElem? (i := 1439) (by decide +kernel)⟩
theorem lw_p41 : lw_okq (⟨"PassedPenanceModel", "isGood", "()Z"⟩, 42) := ⟨⟨by decide +kernel, by decide +kernel⟩, List.mem_of_getElem? (i := 1246) (by decide +kernel), List.mem_of_getElem? (i := 1447) (by decide +kernel), List.mem_of_getElem? (i := 1448) (by decide +kernel)⟩
theorem lw_p42 : lw_okq (⟨"PassedPenanceModel", "asks", "(J)V"⟩, 42) := ⟨⟨by decide +kernel, by decide +kernel⟩, List.mem_of_getElem? (i := 1246) (by decide +kernel), List.mem_of_getElem? (i := 1452) (by decide +kernel), List.mem_of_getElem? (i := 1453) (by decide +kernel)⟩
theorem lw_p43 : lw_okq (⟨"PassedPenanceModel", "takes", "(J)Z"⟩, 42) := ⟨⟨by decide +kernel, by decide +kernel⟩, List.mem_of_getElem? (i := 1246) (by decide +kernel), List.mem_of_getElem? (i := 1456) (by decide +kernel), List.mem_of_getElem? (i := 1457) (by decide +kernel)⟩
theorem lw_p44 : lw_okq (⟨"PassedPenanceModel", "is", "(J)Z"⟩, 42) := ⟨⟨by decide +kernel, by decide +kernel⟩, List.mem_of_getElem? (i := 1246) (by decide +kernel), List.mem_of_getElem? (i := 1460) (by decide +kernel), List.mem_of_getElem? (i := 1461) (by decide +kernel)⟩
theorem lw_p45 : lw_okq (⟨"PassedPenanceModel", "fails", "(I)V"⟩, 42) := ⟨⟨by decide +kernel, by decide +kernel⟩, List.mem_of_getElem? (i := 1246) (by decide +kernel), List.mem_of_getElem? (i := 1464) (by decide +kernel), List.mem_of_getElem? (i := 1465) (by decide +kernel)⟩
theorem lw_p46 : lw_okq (⟨"PassedPenanceModel", "number", "(JII)I"⟩, 42) := ⟨⟨by decide +kernel, by decide +kernel⟩, List.mem_of_getElem? (i := 1246) (by decide +kernel), List.mem_of_getElem? (i := 1469) (by decide +kernel), List.mem_of_getElem? (i := 1470) (by decide +kernel)⟩
theorem lw_p47 : lw_okq (⟨"PassedPenanceModel", "number", "(II)I"⟩, 42) := ⟨⟨by decide +kernel, by decide +kernel⟩, List.mem_of_getElem? (i := 1246) (by decide +kernel), List.mem_of_getElem? (i := 1473) (by decide +kernel), List.mem_of_getElem? (i := 1474) (by decide +kernel)⟩
def lw_privs_3 : List (MethodName × Nat) := [(⟨"PassedPenance", "whyNoMean", "(III)I"⟩, 13), (⟨"PassedPenance$Acts", "log", "(II)V"⟩, 6), (⟨"PassedPenance$Acts", "change", "(II)V"⟩, 6), (⟨"PassedPenanceModel", "four", "(I)V"⟩, 42), (⟨"PassedPenanceModel", "clears", "()V"⟩, 42), (⟨"PassedPenanceModel", "tells", "(II)V"⟩, 42), (⟨"PassedPenanceModel", "begins", "()V"⟩, 42), (⟨"PassedPenanceModel", "next", "()V"⟩, 42), (⟨"PassedPenanceModel", "isByte", "(III)Z"⟩, 42), (⟨"PassedPenanceModel", "isGood", "()Z"⟩, 42), (⟨"PassedPenanceModel", "asks", "(J)V"⟩, 42), (⟨"PassedPenanceModel", "takes", "(J)Z"⟩, 42), (⟨"PassedPenanceModel", "is", "(J)Z"⟩, 42), (⟨"PassedPenanceModel", "fails", "(I)V"⟩, 42), (⟨"PassedPenanceModel", "number", "(JII)I"⟩, 42), (⟨"PassedPenanceModel", "number", "(II)I"⟩, 42)]
theorem lw_r3 : ∀ q ∈ lw_privs_3, lw_okq q := List.forall_mem_cons.mpr ⟨lw_p32, List.forall_mem_cons.mpr ⟨lw_p33, List.forall_mem_cons.mpr ⟨lw_p34, List.forall_mem_cons.mpr ⟨lw_p35, List.forall_mem_cons.mpr ⟨lw_p36, List.forall_mem_cons.mpr ⟨lw_p37, List.forall_mem_cons.mpr ⟨lw_p38, List.forall_mem_cons.mpr ⟨lw_p39, List.forall_mem_cons.mpr ⟨lw_p40, List.forall_mem_cons.mpr ⟨lw_p41, List.forall_mem_cons.mpr ⟨lw_p42, List.forall_mem_cons.mpr ⟨lw_p43, List.forall_mem_cons.mpr ⟨lw_p44, List.forall_mem_cons.mpr ⟨lw_p45, List.forall_mem_cons.mpr ⟨lw_p46, List.forall_mem_cons.mpr ⟨lw_p47, fun _ h => absurd h List.not_mem_nil⟩⟩⟩⟩⟩⟩⟩⟩⟩⟩⟩⟩⟩⟩⟩⟩
theorem lw_p48 : lw_okq (⟨"PassedPenanceModel", "line", "()V"⟩, 42) := ⟨⟨by decide +kernel, by decide +kernel⟩, List.mem_of_getElem? (i := 1246) (by decide +kernel), List.mem_of_getElem? (i := 1479) (by decide +kernel), List.mem_of_getElem? (i := 1480) (by decide +kernel)⟩
theorem lw_p49 : lw_okq (⟨"PassedPenanceModel", "isRoom", "(ZII)Z"⟩, 42) := ⟨⟨by decide +kernel, by decide +kernel⟩, List.mem_of_getElem? (i := 1246) (by decide +kernel), List.mem_of_getElem? (i := 1484) (by decide +kernel), List.mem_of_getElem? (i := 1485) (by decide +kernel)⟩
theorem lw_p50 : lw_okq (⟨"PassedPenanceModel", "hasRead", "(I)I"⟩, 42) := ⟨⟨by decide +kernel, by decide +kernel⟩, List.mem_of_getElem? (i := 1246) (by decide +kernel), List.mem_of_getElem? (i := 1488) (by decide +kernel), List.mem_of_getElem? (i := 1489) (by decide +kernel)⟩
theorem lw_p51 : lw_okq (⟨"PassedPenanceModel", "personLine", "()V"⟩, 42) := ⟨⟨by decide +kernel, by decide +kernel⟩, List.mem_of_getElem? (i := 1246) (by decide +kernel), List.mem_of_getElem? (i := 1494) (by decide +kernel), List.mem_of_getElem? (i := 1495) (by decide +kernel)⟩
theorem lw_p52 : lw_okq (⟨"PassedPenanceModel", "penanceHere", "()I"⟩, 42) := ⟨⟨by decide +kernel, by decide +kernel⟩, List.mem_of_getElem? (i := 1246) (by decide +kernel), List.mem_of_getElem? (i := 1499) (by decide +kernel), List.mem_of_getElem? (i := 1500) (by decide +kernel)⟩
theorem lw_p53 : lw_okq (⟨"PassedPenanceModel", "boxHere", "()I"⟩, 42) := ⟨⟨by decide +kernel, by decide +kernel⟩, List.mem_of_getElem? (i := 1246) (by decide +kernel), List.mem_of_getElem? (i := 1505) (by decide +kernel), List.mem_of_getElem? (i := 1506) (by decide +kernel)⟩
theorem lw_p54 : lw_okq (⟨"PassedPenanceModel", "ends", "()V"⟩, 42) := ⟨⟨by decide +kernel, by decide +kernel⟩, List.mem_of_getElem? (i := 1246) (by decide +kernel), List.mem_of_getElem? (i := 1512) (by decide +kernel), List.mem_of_getElem? (i := 1513) (by decide +kernel)⟩
theorem lw_p55 : lw_okq (⟨"PassedPenanceModel", "isOver", "()V"⟩, 42) := ⟨⟨by decide +kernel, by decide +kernel⟩, List.mem_of_getElem? (i := 1246) (by decide +kernel), List.mem_of_getElem? (i := 1516) (by decide +kernel), List.mem_of_getElem? (i := 1517) (by decide +kernel)⟩
theorem lw_p56 : lw_okq (⟨"PassedPenanceModel", "copyChurch", "(II)V"⟩, 42) := ⟨⟨by decide +kernel, by decide +kernel⟩, List.mem_of_getElem? (i := 1246) (by decide +kernel), List.mem_of_getElem? (i := 1520) (by decide +kernel), List.mem_of_getElem? (i := 1521) (by decide +kernel)⟩
theorem lw_p57 : lw_okq (⟨"PassedPenanceModel", "isPenance", "(J)Z"⟩, 42) := ⟨⟨by decide +kernel, by decide +kernel⟩, List.mem_of_getElem? (i := 1246) (by decide +kernel), List.mem_of_getElem? (i := 1531) (by decide +kernel), List.mem_of_getElem? (i := 1532) (by decide +kernel)⟩
theorem lw_p58 : lw_okq (⟨"PassedPenanceModel", "isPerson", "(J)Z"⟩, 42) := ⟨⟨by decide +kernel, by decide +kernel⟩, List.mem_of_getElem? (i := 1246) (by decide +kernel), List.mem_of_getElem? (i := 1539) (by decide +kernel), List.mem_of_getElem? (i := 1540) (by decide +kernel)⟩
theorem lw_p59 : lw_okq (⟨"PassedPenanceModel", "costOf", "(II)I"⟩, 42) := ⟨⟨by decide +kernel, by decide +kernel⟩, List.mem_of_getElem? (i := 1246) (by decide +kernel), List.mem_of_getElem? (i := 1551) (by decide +kernel), List.mem_of_getElem? (i := 1552) (by decide +kernel)⟩
theorem lw_p60 : lw_okq (⟨"PassedPenanceModel", "isBox", "(I)Z"⟩, 42) := ⟨⟨by decide +kernel, by decide +kernel⟩, List.mem_of_getElem? (i := 1246) (by decide +kernel), List.mem_of_getElem? (i := 1559) (by decide +kernel), List.mem_of_getElem? (i := 1560) (by decide +kernel)⟩
theorem lw_p61 : lw_okq (⟨"PassedPenanceModel", "lays", "()V"⟩, 42) := ⟨⟨by decide +kernel, by decide +kernel⟩, List.mem_of_getElem? (i := 1246) (by decide +kernel), List.mem_of_getElem? (i := 1567) (by decide +kernel), List.mem_of_getElem? (i := 1568) (by decide +kernel)⟩
theorem lw_p62 : lw_okq (⟨"PassedPenanceModel", "everybody", "()I"⟩, 42) := ⟨⟨by decide +kernel, by decide +kernel⟩, List.mem_of_getElem? (i := 1246) (by decide +kernel), List.mem_of_getElem? (i := 1571) (by decide +kernel), List.mem_of_getElem? (i := 1572) (by decide +kernel)⟩
theorem lw_p63 : lw_okq (⟨"PassedPenanceModel", "boxOf", "(I)I"⟩, 42) := ⟨⟨by decide +kernel, by decide +kernel⟩, List.mem_of_getElem? (i := 1246) (by decide +kernel), List.mem_of_getElem? (i := 1575) (by decide +kernel), List.mem_of_getElem? (i := 1576) (by decide +kernel)⟩
def lw_privs_4 : List (MethodName × Nat) := [(⟨"PassedPenanceModel", "line", "()V"⟩, 42), (⟨"PassedPenanceModel", "isRoom", "(ZII)Z"⟩, 42), (⟨"PassedPenanceModel", "hasRead", "(I)I"⟩, 42), (⟨"PassedPenanceModel", "personLine", "()V"⟩, 42), (⟨"PassedPenanceModel", "penanceHere", "()I"⟩, 42), (⟨"PassedPenanceModel", "boxHere", "()I"⟩, 42), (⟨"PassedPenanceModel", "ends", "()V"⟩, 42), (⟨"PassedPenanceModel", "isOver", "()V"⟩, 42), (⟨"PassedPenanceModel", "copyChurch", "(II)V"⟩, 42), (⟨"PassedPenanceModel", "isPenance", "(J)Z"⟩, 42), (⟨"PassedPenanceModel", "isPerson", "(J)Z"⟩, 42), (⟨"PassedPenanceModel", "costOf", "(II)I"⟩, 42), (⟨"PassedPenanceModel", "isBox", "(I)Z"⟩, 42), (⟨"PassedPenanceModel", "lays", "()V"⟩, 42), (⟨"PassedPenanceModel", "everybody", "()I"⟩, 42), (⟨"PassedPenanceModel", "boxOf", "(I)I"⟩, 42)]
theorem lw_r4 : ∀ q ∈ lw_privs_4, lw_okq q := List.forall_mem_cons.mpr ⟨lw_p48, List.forall_mem_cons.mpr ⟨lw_p49, List.forall_mem_cons.mpr ⟨lw_p50, List.forall_mem_cons.mpr ⟨lw_p51, List.forall_mem_cons.mpr ⟨lw_p52, List.forall_mem_cons.mpr ⟨lw_p53, List.forall_mem_cons.mpr ⟨lw_p54, List.forall_mem_cons.mpr ⟨lw_p55, List.forall_mem_cons.mpr ⟨lw_p56, List.forall_mem_cons.mpr ⟨lw_p57, List.forall_mem_cons.mpr ⟨lw_p58, List.forall_mem_cons.mpr ⟨lw_p59, List.forall_mem_cons.mpr ⟨lw_p60, List.forall_mem_cons.mpr ⟨lw_p61, List.forall_mem_cons.mpr ⟨lw_p62, List.forall_mem_cons.mpr ⟨lw_p63, fun _ h => absurd h List.not_mem_nil⟩⟩⟩⟩⟩⟩⟩⟩⟩⟩⟩⟩⟩⟩⟩⟩
theorem lw_p64 : lw_okq (⟨"PassedPenanceModel", "isAhead", "(II)Z"⟩, 42) := ⟨⟨by decide +kernel, by decide +kernel⟩, List.mem_of_getElem? (i := 1246) (by decide +kernel), List.mem_of_getElem? (i := 1579) (by decide +kernel), List.mem_of_getElem? (i := 1580) (by decide +kernel)⟩
theorem lw_p65 : lw_okq (⟨"PassedPenanceModel", "getsOf", "(I)I"⟩, 42) := ⟨⟨by decide +kernel, by decide +kernel⟩, List.mem_of_getElem? (i := 1246) (by decide +kernel), List.mem_of_getElem? (i := 1587) (by decide +kernel), List.mem_of_getElem? (i := 1588) (by decide +kernel)⟩
theorem lw_p66 : lw_okq (⟨"PassedPenanceModel", "aheadOf", "(I)I"⟩, 42) := ⟨⟨by decide +kernel, by decide +kernel⟩, List.mem_of_getElem? (i := 1246) (by decide +kernel), List.mem_of_getElem? (i := 1591) (by decide +kernel), List.mem_of_getElem? (i := 1592) (by decide +kernel)⟩
theorem lw_p67 : lw_okq (⟨"PassedPenanceModel", "sinOf", "(I)I"⟩, 42) := ⟨⟨by decide +kernel, by decide +kernel⟩, List.mem_of_getElem? (i := 1246) (by decide +kernel), List.mem_of_getElem? (i := 1598) (by decide +kernel), List.mem_of_getElem? (i := 1599) (by decide +kernel)⟩
theorem lw_p68 : lw_okq (⟨"PassedPenanceModel", "hasCost", "(I)I"⟩, 42) := ⟨⟨by decide +kernel, by decide +kernel⟩, List.mem_of_getElem? (i := 1246) (by decide +kernel), List.mem_of_getElem? (i := 1619) (by decide +kernel), List.mem_of_getElem? (i := 1620) (by decide +kernel)⟩
theorem lw_p69 : lw_okq (⟨"PassedPenanceModel", "isChurch", "()Z"⟩, 42) := ⟨⟨by decide +kernel, by decide +kernel⟩, List.mem_of_getElem? (i := 1246) (by decide +kernel), List.mem_of_getElem? (i := 1627) (by decide +kernel), List.mem_of_getElem? (i := 1628) (by decide +kernel)⟩
theorem lw_p70 : lw_okq (⟨"PassedPenanceModel", "sinnedOf", "(I)I"⟩, 42) := ⟨⟨by decide +kernel, by decide +kernel⟩, List.mem_of_getElem? (i := 1246) (by decide +kernel), List.mem_of_getElem? (i := 1655) (by decide +kernel), List.mem_of_getElem? (i := 1656) (by decide +kernel)⟩
theorem lw_p71 : lw_okq (⟨"PassedPenanceModel", "bestBy", "(II)I"⟩, 42) := ⟨⟨by decide +kernel, by decide +kernel⟩, List.mem_of_getElem? (i := 1246) (by decide +kernel), List.mem_of_getElem? (i := 1668) (by decide +kernel), List.mem_of_getElem? (i := 1669) (by decide +kernel)⟩
theorem lw_p72 : lw_okq (⟨"PassedPenanceModel", "laysOrders", "(II)V"⟩, 42) := ⟨⟨by decide +kernel, by decide +kernel⟩, List.mem_of_getElem? (i := 1246) (by decide +kernel), List.mem_of_getElem? (i := 1672) (by decide +kernel), List.mem_of_getElem? (i := 1673) (by decide +kernel)⟩
theorem lw_p73 : lw_okq (⟨"PassedPenanceModel", "of", "(I)I"⟩, 42) := ⟨⟨by decide +kernel, by decide +kernel⟩, List.mem_of_getElem? (i := 1246) (by decide +kernel), List.mem_of_getElem? (i := 1676) (by decide +kernel), List.mem_of_getElem? (i := 1677) (by decide +kernel)⟩
theorem lw_p74 : lw_okq (⟨"PassedPenanceModel", "stepOf", "(IIII)I"⟩, 42) := ⟨⟨by decide +kernel, by decide +kernel⟩, List.mem_of_getElem? (i := 1246) (by decide +kernel), List.mem_of_getElem? (i := 1680) (by decide +kernel), List.mem_of_getElem? (i := 1681) (by decide +kernel)⟩
theorem lw_p75 : lw_okq (⟨"PassedPenanceModel", "isHour", "(I)Z"⟩, 42) := ⟨⟨by decide +kernel, by decide +kernel⟩, List.mem_of_getElem? (i := 1246) (by decide +kernel), List.mem_of_getElem? (i := 1714) (by decide +kernel), List.mem_of_getElem? (i := 1715) (by decide +kernel)⟩
theorem lw_p76 : lw_okq (⟨"PassedPenanceModel", "comesIn", "(II)I"⟩, 42) := ⟨⟨by decide +kernel, by decide +kernel⟩, List.mem_of_getElem? (i := 1246) (by decide +kernel), List.mem_of_getElem? (i := 1718) (by decide +kernel), List.mem_of_getElem? (i := 1719) (by decide +kernel)⟩
theorem lw_p77 : lw_okq (⟨"PassedPenanceModel", "hourOf", "(I)I"⟩, 42) := ⟨⟨by decide +kernel, by decide +kernel⟩, List.mem_of_getElem? (i := 1246) (by decide +kernel), List.mem_of_getElem? (i := 1726) (by decide +kernel), List.mem_of_getElem? (i := 1727) (by decide +kernel)⟩
theorem lw_p78 : lw_okq (⟨"PassedPenanceModel", "stirs", "(I)Z"⟩, 42) := ⟨⟨by decide +kernel, by decide +kernel⟩, List.mem_of_getElem? (i := 1246) (by decide +kernel), List.mem_of_getElem? (i := 1734) (by decide +kernel), List.mem_of_getElem? (i := 1735) (by decide +kernel)⟩
theorem lw_p79 : lw_okq (⟨"PassedPenanceModel", "settle", "()I"⟩, 42) := ⟨⟨by decide +kernel, by decide +kernel⟩, List.mem_of_getElem? (i := 1246) (by decide +kernel), List.mem_of_getElem? (i := 1742) (by decide +kernel), List.mem_of_getElem? (i := 1743) (by decide +kernel)⟩
def lw_privs_5 : List (MethodName × Nat) := [(⟨"PassedPenanceModel", "isAhead", "(II)Z"⟩, 42), (⟨"PassedPenanceModel", "getsOf", "(I)I"⟩, 42), (⟨"PassedPenanceModel", "aheadOf", "(I)I"⟩, 42), (⟨"PassedPenanceModel", "sinOf", "(I)I"⟩, 42), (⟨"PassedPenanceModel", "hasCost", "(I)I"⟩, 42), (⟨"PassedPenanceModel", "isChurch", "()Z"⟩, 42), (⟨"PassedPenanceModel", "sinnedOf", "(I)I"⟩, 42), (⟨"PassedPenanceModel", "bestBy", "(II)I"⟩, 42), (⟨"PassedPenanceModel", "laysOrders", "(II)V"⟩, 42), (⟨"PassedPenanceModel", "of", "(I)I"⟩, 42), (⟨"PassedPenanceModel", "stepOf", "(IIII)I"⟩, 42), (⟨"PassedPenanceModel", "isHour", "(I)Z"⟩, 42), (⟨"PassedPenanceModel", "comesIn", "(II)I"⟩, 42), (⟨"PassedPenanceModel", "hourOf", "(I)I"⟩, 42), (⟨"PassedPenanceModel", "stirs", "(I)Z"⟩, 42), (⟨"PassedPenanceModel", "settle", "()I"⟩, 42)]
theorem lw_r5 : ∀ q ∈ lw_privs_5, lw_okq q := List.forall_mem_cons.mpr ⟨lw_p64, List.forall_mem_cons.mpr ⟨lw_p65, List.forall_mem_cons.mpr ⟨lw_p66, List.forall_mem_cons.mpr ⟨lw_p67, List.forall_mem_cons.mpr ⟨lw_p68, List.forall_mem_cons.mpr ⟨lw_p69, List.forall_mem_cons.mpr ⟨lw_p70, List.forall_mem_cons.mpr ⟨lw_p71, List.forall_mem_cons.mpr ⟨lw_p72, List.forall_mem_cons.mpr ⟨lw_p73, List.forall_mem_cons.mpr ⟨lw_p74, List.forall_mem_cons.mpr ⟨lw_p75, List.forall_mem_cons.mpr ⟨lw_p76, List.forall_mem_cons.mpr ⟨lw_p77, List.forall_mem_cons.mpr ⟨lw_p78, List.forall_mem_cons.mpr ⟨lw_p79, fun _ h => absurd h List.not_mem_nil⟩⟩⟩⟩⟩⟩⟩⟩⟩⟩⟩⟩⟩⟩⟩⟩
theorem lw_p80 : lw_okq (⟨"PassedPenanceModel", "laysGot", "()V"⟩, 42) := ⟨⟨by decide +kernel, by decide +kernel⟩, List.mem_of_getElem? (i := 1246) (by decide +kernel), List.mem_of_getElem? (i := 1754) (by decide +kernel), List.mem_of_getElem? (i := 1755) (by decide +kernel)⟩
theorem lw_p81 : lw_okq (⟨"PassedPenanceModel", "fewestSwaps", "()I"⟩, 42) := ⟨⟨by decide +kernel, by decide +kernel⟩, List.mem_of_getElem? (i := 1246) (by decide +kernel), List.mem_of_getElem? (i := 1758) (by decide +kernel), List.mem_of_getElem? (i := 1759) (by decide +kernel)⟩
theorem lw_p82 : lw_okq (⟨"PassedPenanceModel", "deals", "(II)V"⟩, 42) := ⟨⟨by decide +kernel, by decide +kernel⟩, List.mem_of_getElem? (i := 1246) (by decide +kernel), List.mem_of_getElem? (i := 1762) (by decide +kernel), List.mem_of_getElem? (i := 1763) (by decide +kernel)⟩
theorem lw_p83 : lw_okq (⟨"PassedPenanceModel", "rings", "()I"⟩, 42) := ⟨⟨by decide +kernel, by decide +kernel⟩, List.mem_of_getElem? (i := 1246) (by decide +kernel), List.mem_of_getElem? (i := 1766) (by decide +kernel), List.mem_of_getElem? (i := 1767) (by decide +kernel)⟩
theorem lw_p84 : lw_okq (⟨"PassedPenanceModel", "changes", "(II)V"⟩, 42) := ⟨⟨by decide +kernel, by decide +kernel⟩, List.mem_of_getElem? (i := 1246) (by decide +kernel), List.mem_of_getElem? (i := 1774) (by decide +kernel), List.mem_of_getElem? (i := 1775) (by decide +kernel)⟩
theorem lw_p85 : lw_okq (⟨"PassedPenanceModel", "laysDeal", "()V"⟩, 42) := ⟨⟨by decide +kernel, by decide +kernel⟩, List.mem_of_getElem? (i := 1246) (by decide +kernel), List.mem_of_getElem? (i := 1786) (by decide +kernel), List.mem_of_getElem? (i := 1787) (by decide +kernel)⟩
theorem lw_p86 : lw_okq (⟨"PassedPenanceModel", "dealOf", "(II)I"⟩, 42) := ⟨⟨by decide +kernel, by decide +kernel⟩, List.mem_of_getElem? (i := 1246) (by decide +kernel), List.mem_of_getElem? (i := 1794) (by decide +kernel), List.mem_of_getElem? (i := 1795) (by decide +kernel)⟩
theorem lw_p87 : lw_okq (⟨"PassedPenanceModel", "whyNot", "(II)I"⟩, 42) := ⟨⟨by decide +kernel, by decide +kernel⟩, List.mem_of_getElem? (i := 1246) (by decide +kernel), List.mem_of_getElem? (i := 1802) (by decide +kernel), List.mem_of_getElem? (i := 1803) (by decide +kernel)⟩
theorem lw_p88 : lw_okq (⟨"PassedPenanceModel", "laysFits", "(II)V"⟩, 42) := ⟨⟨by decide +kernel, by decide +kernel⟩, List.mem_of_getElem? (i := 1246) (by decide +kernel), List.mem_of_getElem? (i := 1806) (by decide +kernel), List.mem_of_getElem? (i := 1807) (by decide +kernel)⟩
theorem lw_p89 : lw_okq (⟨"PassedPenanceModel", "comesNext", "(IIII)V"⟩, 42) := ⟨⟨by decide +kernel, by decide +kernel⟩, List.mem_of_getElem? (i := 1246) (by decide +kernel), List.mem_of_getElem? (i := 1810) (by decide +kernel), List.mem_of_getElem? (i := 1811) (by decide +kernel)⟩
theorem lw_p90 : lw_okq (⟨"PassedPenanceModel", "laysAsk", "(II)V"⟩, 42) := ⟨⟨by decide +kernel, by decide +kernel⟩, List.mem_of_getElem? (i := 1246) (by decide +kernel), List.mem_of_getElem? (i := 1826) (by decide +kernel), List.mem_of_getElem? (i := 1827) (by decide +kernel)⟩
theorem lw_p91 : lw_okq (⟨"PassedPenanceModel", "whyNotMean", "(II)I"⟩, 42) := ⟨⟨by decide +kernel, by decide +kernel⟩, List.mem_of_getElem? (i := 1246) (by decide +kernel), List.mem_of_getElem? (i := 1838) (by decide +kernel), List.mem_of_getElem? (i := 1839) (by decide +kernel)⟩
theorem lw_p92 : lw_okq (⟨"PassedPenanceModel", "allOf", "(I)J"⟩, 42) := ⟨⟨by decide +kernel, by decide +kernel⟩, List.mem_of_getElem? (i := 1246) (by decide +kernel), List.mem_of_getElem? (i := 1843) (by decide +kernel), List.mem_of_getElem? (i := 1844) (by decide +kernel)⟩
theorem lw_p93 : lw_okq (⟨"PassedPenanceModel", "passOf", "(III)J"⟩, 42) := ⟨⟨by decide +kernel, by decide +kernel⟩, List.mem_of_getElem? (i := 1246) (by decide +kernel), List.mem_of_getElem? (i := 1847) (by decide +kernel), List.mem_of_getElem? (i := 1848) (by decide +kernel)⟩
theorem lw_p94 : lw_okq (⟨"PassedPenanceModel", "laysNow", "()V"⟩, 42) := ⟨⟨by decide +kernel, by decide +kernel⟩, List.mem_of_getElem? (i := 1246) (by decide +kernel), List.mem_of_getElem? (i := 1874) (by decide +kernel), List.mem_of_getElem? (i := 1875) (by decide +kernel)⟩
theorem lw_p95 : lw_okq (⟨"PassedPenanceModel", "isFull", "()Z"⟩, 42) := ⟨⟨by decide +kernel, by decide +kernel⟩, List.mem_of_getElem? (i := 1246) (by decide +kernel), List.mem_of_getElem? (i := 1878) (by decide +kernel), List.mem_of_getElem? (i := 1879) (by decide +kernel)⟩
def lw_privs_6 : List (MethodName × Nat) := [(⟨"PassedPenanceModel", "laysGot", "()V"⟩, 42), (⟨"PassedPenanceModel", "fewestSwaps", "()I"⟩, 42), (⟨"PassedPenanceModel", "deals", "(II)V"⟩, 42), (⟨"PassedPenanceModel", "rings", "()I"⟩, 42), (⟨"PassedPenanceModel", "changes", "(II)V"⟩, 42), (⟨"PassedPenanceModel", "laysDeal", "()V"⟩, 42), (⟨"PassedPenanceModel", "dealOf", "(II)I"⟩, 42), (⟨"PassedPenanceModel", "whyNot", "(II)I"⟩, 42), (⟨"PassedPenanceModel", "laysFits", "(II)V"⟩, 42), (⟨"PassedPenanceModel", "comesNext", "(IIII)V"⟩, 42), (⟨"PassedPenanceModel", "laysAsk", "(II)V"⟩, 42), (⟨"PassedPenanceModel", "whyNotMean", "(II)I"⟩, 42), (⟨"PassedPenanceModel", "allOf", "(I)J"⟩, 42), (⟨"PassedPenanceModel", "passOf", "(III)J"⟩, 42), (⟨"PassedPenanceModel", "laysNow", "()V"⟩, 42), (⟨"PassedPenanceModel", "isFull", "()Z"⟩, 42)]
theorem lw_r6 : ∀ q ∈ lw_privs_6, lw_okq q := List.forall_mem_cons.mpr ⟨lw_p80, List.forall_mem_cons.mpr ⟨lw_p81, List.forall_mem_cons.mpr ⟨lw_p82, List.forall_mem_cons.mpr ⟨lw_p83, List.forall_mem_cons.mpr ⟨lw_p84, List.forall_mem_cons.mpr ⟨lw_p85, List.forall_mem_cons.mpr ⟨lw_p86, List.forall_mem_cons.mpr ⟨lw_p87, List.forall_mem_cons.mpr ⟨lw_p88, List.forall_mem_cons.mpr ⟨lw_p89, List.forall_mem_cons.mpr ⟨lw_p90, List.forall_mem_cons.mpr ⟨lw_p91, List.forall_mem_cons.mpr ⟨lw_p92, List.forall_mem_cons.mpr ⟨lw_p93, List.forall_mem_cons.mpr ⟨lw_p94, List.forall_mem_cons.mpr ⟨lw_p95, fun _ h => absurd h List.not_mem_nil⟩⟩⟩⟩⟩⟩⟩⟩⟩⟩⟩⟩⟩⟩⟩⟩
theorem lw_p96 : lw_okq (⟨"PassedPenanceModel", "acts", "(II)V"⟩, 42) := ⟨⟨by decide +kernel, by decide +kernel⟩, List.mem_of_getElem? (i := 1246) (by decide +kernel), List.mem_of_getElem? (i := 1882) (by decide +kernel), List.mem_of_getElem? (i := 1883) (by decide +kernel)⟩
theorem lw_p97 : lw_okq (⟨"PassedPenanceModel", "isSeed", "(I)Z"⟩, 42) := ⟨⟨by decide +kernel, by decide +kernel⟩, List.mem_of_getElem? (i := 1246) (by decide +kernel), List.mem_of_getElem? (i := 1918) (by decide +kernel), List.mem_of_getElem? (i := 1919) (by decide +kernel)⟩
theorem lw_p98 : lw_okq (⟨"PassedPenanceModel", "draws", "(J)V"⟩, 42) := ⟨⟨by decide +kernel, by decide +kernel⟩, List.mem_of_getElem? (i := 1246) (by decide +kernel), List.mem_of_getElem? (i := 1923) (by decide +kernel), List.mem_of_getElem? (i := 1924) (by decide +kernel)⟩
def lw_privs_7 : List (MethodName × Nat) := [(⟨"PassedPenanceModel", "acts", "(II)V"⟩, 42), (⟨"PassedPenanceModel", "isSeed", "(I)Z"⟩, 42), (⟨"PassedPenanceModel", "draws", "(J)V"⟩, 42)]
theorem lw_r7 : ∀ q ∈ lw_privs_7, lw_okq q := List.forall_mem_cons.mpr ⟨lw_p96, List.forall_mem_cons.mpr ⟨lw_p97, List.forall_mem_cons.mpr ⟨lw_p98, fun _ h => absurd h List.not_mem_nil⟩⟩⟩
def lw_privs : List (MethodName × Nat) := lw_privs_1 ++ (lw_privs_2 ++ (lw_privs_3 ++ (lw_privs_4 ++ (lw_privs_5 ++ (lw_privs_6 ++ (lw_privs_7))))))
def lw_tbl : List Cond := k2_sels lw_privs ++ tables_1
theorem lw_privs_ok : ∀ q ∈ lw_privs, lw_okq q := by
  show ∀ q ∈ lw_privs_1 ++ (lw_privs_2 ++ (lw_privs_3 ++ (lw_privs_4 ++ (lw_privs_5 ++ (lw_privs_6 ++ (lw_privs_7)))))), lw_okq q
  exact List.forall_mem_append.mpr ⟨lw_r1, List.forall_mem_append.mpr ⟨lw_r2, List.forall_mem_append.mpr ⟨lw_r3, List.forall_mem_append.mpr ⟨lw_r4, List.forall_mem_append.mpr ⟨lw_r5, List.forall_mem_append.mpr ⟨lw_r6, lw_r7⟩⟩⟩⟩⟩⟩
end
section
def RX0 : String := "PassedPenance$Acts"
def TX0 : u_T := fun k => match k with
  | 0 => ("PassedPenance$Acts", "count", "I", false)
  | 1 => ("PassedPenance$Acts", "confessed", "I", false)
  | 2 => ("PassedPenance$Acts", "lies", "[I", true)
  | 3 => ("PassedPenance$Acts", "held", "[I", true)
  | 4 => ("PassedPenance$Acts", "doer", "[I", true)
  | _ => ("PassedPenance$Acts", "partner", "[I", true)
def tyX0 : Nat → FieldType := fun k => match k with
  | 0 => .int
  | 1 => .int
  | 2 => .array .int
  | 3 => .array .int
  | 4 => .array .int
  | _ => .array .int
abbrev wsX00 : List Cond := u_ws RX0 TX0 6
theorem nmX0 : ∀ a, a < 6 → ∀ b, b < 6 → a ≠ b → (TX0 a).2.1 ≠ (TX0 b).2.1 := by decide +kernel
theorem tyX0_ok : ∀ k, k < 6 → parseFieldDescriptor (TX0 k).2.2.1 = some (tyX0 k) := by decide +kernel
abbrev cX0_init : ByteArray := prog_2_method_1_code
def yX0_init : MethodName := ⟨RX0, "<init>", "()V"⟩
abbrev cX0_begin : ByteArray := prog_2_method_2_code
def yX0_begin : MethodName := ⟨RX0, "begin", "(LPassedPenance$Church;)V"⟩
abbrev cX0_takeOver : ByteArray := prog_2_method_3_code
def yX0_takeOver : MethodName := ⟨RX0, "takeOver", "(LPassedPenance$Acts;)V"⟩
abbrev cX0_isFull : ByteArray := prog_2_method_4_code
def yX0_isFull : MethodName := ⟨RX0, "isFull", "()Z"⟩
abbrev cX0_hasConfessed : ByteArray := prog_2_method_5_code
def yX0_hasConfessed : MethodName := ⟨RX0, "hasConfessed", "(I)Z"⟩
abbrev cX0_addConfession : ByteArray := prog_2_method_6_code
def yX0_addConfession : MethodName := ⟨RX0, "addConfession", "(LPassedPenance$Church;I)I"⟩
abbrev cX0_addClearing : ByteArray := prog_2_method_7_code
def yX0_addClearing : MethodName := ⟨RX0, "addClearing", "(II)V"⟩
abbrev cX0_log : ByteArray := prog_2_method_8_code
def yX0_log : MethodName := ⟨RX0, "log", "(II)V"⟩
abbrev cX0_change : ByteArray := prog_2_method_9_code
def yX0_change : MethodName := ⟨RX0, "change", "(II)V"⟩
abbrev cX0_takeBack : ByteArray := prog_2_method_10_code
def yX0_takeBack : MethodName := ⟨RX0, "takeBack", "(LPassedPenance$Church;)V"⟩
def RX1 : String := "PassedPenance$Bench"
def TX1 : u_T := fun k => match k with
  | 0 => ("PassedPenance$Bench", "church", "LPassedPenance$Church;", true)
  | 1 => ("PassedPenance$Bench", "box", "I", false)
  | 2 => ("PassedPenance$Bench", "size", "I", false)
  | 3 => ("PassedPenance$Bench", "who", "[I", true)
  | 4 => ("PassedPenance$Bench", "lies", "[I", true)
  | _ => ("PassedPenance$Bench", "costs", "[[I", true)
def tyX1 : Nat → FieldType := fun k => match k with
  | 0 => .object "PassedPenance$Church"
  | 1 => .int
  | 2 => .int
  | 3 => .array .int
  | 4 => .array .int
  | _ => .array (.array .int)
abbrev wsX10 : List Cond := u_ws RX1 TX1 6
theorem nmX1 : ∀ a, a < 6 → ∀ b, b < 6 → a ≠ b → (TX1 a).2.1 ≠ (TX1 b).2.1 := by decide +kernel
theorem tyX1_ok : ∀ k, k < 6 → parseFieldDescriptor (TX1 k).2.2.1 = some (tyX1 k) := by decide +kernel
abbrev cX1_init : ByteArray := prog_3_method_1_code
def yX1_init : MethodName := ⟨RX1, "<init>", "(LPassedPenance$Church;)V"⟩
abbrev cX1_seat : ByteArray := prog_3_method_2_code
def yX1_seat : MethodName := ⟨RX1, "seat", "(I)V"⟩
abbrev cX1_allSeats : ByteArray := prog_3_method_3_code
def yX1_allSeats : MethodName := ⟨RX1, "allSeats", "()I"⟩
abbrev cX1_node : ByteArray := prog_3_method_4_code
def yX1_node : MethodName := ⟨RX1, "node", "(II)I"⟩
abbrev cX1_isNode : ByteArray := prog_3_method_5_code
def yX1_isNode : MethodName := ⟨RX1, "isNode", "(II)Z"⟩
def RX2 : String := "PassedPenance$Church"
def TX2 : u_T := fun k => match k with
  | 0 => ("PassedPenance$Church", "lines", "I", false)
  | 1 => ("PassedPenance$Church", "hours", "I", false)
  | 2 => ("PassedPenance$Church", "boxes", "I", false)
  | 3 => ("PassedPenance$Church", "odds", "I", false)
  | 4 => ("PassedPenance$Church", "penances", "I", false)
  | 5 => ("PassedPenance$Church", "persons", "I", false)
  | 6 => ("PassedPenance$Church", "days", "[I", true)
  | 7 => ("PassedPenance$Church", "sin", "[I", true)
  | 8 => ("PassedPenance$Church", "hourOf", "[I", true)
  | 9 => ("PassedPenance$Church", "boxOf", "[I", true)
  | 10 => ("PassedPenance$Church", "strength", "[I", true)
  | 11 => ("PassedPenance$Church", "grudges", "[[I", true)
  | _ => ("PassedPenance$Church", "left", "[I", true)
def tyX2 : Nat → FieldType := fun k => match k with
  | 0 => .int
  | 1 => .int
  | 2 => .int
  | 3 => .int
  | 4 => .int
  | 5 => .int
  | 6 => .array .int
  | 7 => .array .int
  | 8 => .array .int
  | 9 => .array .int
  | 10 => .array .int
  | 11 => .array (.array .int)
  | _ => .array .int
abbrev wsX20 : List Cond := u_ws RX2 TX2 13
theorem nmX2 : ∀ a, a < 13 → ∀ b, b < 13 → a ≠ b → (TX2 a).2.1 ≠ (TX2 b).2.1 := by decide +kernel
theorem tyX2_ok : ∀ k, k < 13 → parseFieldDescriptor (TX2 k).2.2.1 = some (tyX2 k) := by decide +kernel
abbrev cX2_init : ByteArray := prog_4_method_1_code
def yX2_init : MethodName := ⟨RX2, "<init>", "()V"⟩
abbrev cX2_forget : ByteArray := prog_4_method_2_code
def yX2_forget : MethodName := ⟨RX2, "forget", "()V"⟩
abbrev cX2_takeOver : ByteArray := prog_4_method_3_code
def yX2_takeOver : MethodName := ⟨RX2, "takeOver", "(LPassedPenance$Church;)V"⟩
abbrev cX2_isNone : ByteArray := prog_4_method_4_code
def yX2_isNone : MethodName := ⟨RX2, "isNone", "()Z"⟩
abbrev cX2_hasPenance : ByteArray := prog_4_method_5_code
def yX2_hasPenance : MethodName := ⟨RX2, "hasPenance", "(I)Z"⟩
abbrev cX2_hasPenanceOrNone : ByteArray := prog_4_method_6_code
def yX2_hasPenanceOrNone : MethodName := ⟨RX2, "hasPenanceOrNone", "(I)Z"⟩
abbrev cX2_hasPerson : ByteArray := prog_4_method_7_code
def yX2_hasPerson : MethodName := ⟨RX2, "hasPerson", "(I)Z"⟩
abbrev cX2_hasBox : ByteArray := prog_4_method_8_code
def yX2_hasBox : MethodName := ⟨RX2, "hasBox", "(I)Z"⟩
abbrev cX2_hasHour : ByteArray := prog_4_method_9_code
def yX2_hasHour : MethodName := ⟨RX2, "hasHour", "(I)Z"⟩
abbrev cX2_putGrudge : ByteArray := prog_4_method_10_code
def yX2_putGrudge : MethodName := ⟨RX2, "putGrudge", "(III)V"⟩
abbrev cX2_grudge : ByteArray := prog_4_method_11_code
def yX2_grudge : MethodName := ⟨RX2, "grudge", "(II)I"⟩
abbrev cX2_costOf : ByteArray := prog_4_method_12_code
def yX2_costOf : MethodName := ⟨RX2, "costOf", "(II)I"⟩
abbrev cX2_personsOf : ByteArray := prog_4_method_13_code
def yX2_personsOf : MethodName := ⟨RX2, "personsOf", "(I)I"⟩
abbrev cX2_isAhead : ByteArray := prog_4_method_14_code
def yX2_isAhead : MethodName := ⟨RX2, "isAhead", "(III)Z"⟩
abbrev cX2_placeOf : ByteArray := prog_4_method_15_code
def yX2_placeOf : MethodName := ⟨RX2, "placeOf", "(I)I"⟩
abbrev cX2_inQueue : ByteArray := prog_4_method_16_code
def yX2_inQueue : MethodName := ⟨RX2, "inQueue", "(II)I"⟩
abbrev cX2_rightAhead : ByteArray := prog_4_method_17_code
def yX2_rightAhead : MethodName := ⟨RX2, "rightAhead", "(IIII)I"⟩
abbrev cX2_forerunner : ByteArray := prog_4_method_18_code
def yX2_forerunner : MethodName := ⟨RX2, "forerunner", "(I)I"⟩
abbrev cX2_gotBy : ByteArray := prog_4_method_19_code
def yX2_gotBy : MethodName := ⟨RX2, "gotBy", "(II)I"⟩
abbrev cX2_leftBehind : ByteArray := prog_4_method_20_code
def yX2_leftBehind : MethodName := ⟨RX2, "leftBehind", "(I)I"⟩
abbrev cX2_costsOf : ByteArray := prog_4_method_21_code
def yX2_costsOf : MethodName := ⟨RX2, "costsOf", "(I)I"⟩
abbrev cX2_loss : ByteArray := prog_4_method_22_code
def yX2_loss : MethodName := ⟨RX2, "loss", "(I)I"⟩
abbrev cX2_costsIfSin : ByteArray := prog_4_method_23_code
def yX2_costsIfSin : MethodName := ⟨RX2, "costsIfSin", "(II)I"⟩
abbrev cX2_bestSin : ByteArray := prog_4_method_24_code
def yX2_bestSin : MethodName := ⟨RX2, "bestSin", "(I)I"⟩
abbrev cX2_costInHour : ByteArray := prog_4_method_25_code
def yX2_costInHour : MethodName := ⟨RX2, "costInHour", "(II)I"⟩
abbrev cX2_bestHour : ByteArray := prog_4_method_26_code
def yX2_bestHour : MethodName := ⟨RX2, "bestHour", "(I)I"⟩
abbrev cX2_restless : ByteArray := prog_4_method_27_code
def yX2_restless : MethodName := ⟨RX2, "restless", "()I"⟩
abbrev cX2_firstOf : ByteArray := prog_4_method_28_code
def yX2_firstOf : MethodName := ⟨RX2, "firstOf", "(I)I"⟩
abbrev cX2_settleDown : ByteArray := prog_4_method_29_code
def yX2_settleDown : MethodName := ⟨RX2, "settleDown", "()I"⟩
abbrev cX2_comers : ByteArray := prog_4_method_30_code
def yX2_comers : MethodName := ⟨RX2, "comers", "(J)I"⟩
abbrev cX2_fateOf : ByteArray := prog_4_method_31_code
def yX2_fateOf : MethodName := ⟨RX2, "fateOf", "(IJ)I"⟩
def RX3 : String := "PassedPenance$Deal"
def TX3 : u_T := fun k => match k with
  | 0 => ("PassedPenance$Deal", "church", "LPassedPenance$Church;", true)
  | 1 => ("PassedPenance$Deal", "least", "[I", true)
  | _ => ("PassedPenance$Deal", "shares", "[I", true)
def tyX3 : Nat → FieldType := fun k => match k with
  | 0 => .object "PassedPenance$Church"
  | 1 => .array .int
  | _ => .array .int
abbrev wsX30 : List Cond := u_ws RX3 TX3 3
theorem nmX3 : ∀ a, a < 3 → ∀ b, b < 3 → a ≠ b → (TX3 a).2.1 ≠ (TX3 b).2.1 := by decide +kernel
theorem tyX3_ok : ∀ k, k < 3 → parseFieldDescriptor (TX3 k).2.2.1 = some (tyX3 k) := by decide +kernel
abbrev cX3_init : ByteArray := prog_5_method_1_code
def yX3_init : MethodName := ⟨RX3, "<init>", "(LPassedPenance$Church;)V"⟩
abbrev cX3_weigh : ByteArray := prog_5_method_2_code
def yX3_weigh : MethodName := ⟨RX3, "weigh", "()V"⟩
abbrev cX3_costsWith : ByteArray := prog_5_method_3_code
def yX3_costsWith : MethodName := ⟨RX3, "costsWith", "(II)I"⟩
abbrev cX3_shareOf : ByteArray := prog_5_method_4_code
def yX3_shareOf : MethodName := ⟨RX3, "shareOf", "(I)I"⟩
abbrev cX3_firstShare : ByteArray := prog_5_method_5_code
def yX3_firstShare : MethodName := ⟨RX3, "firstShare", "(I)I"⟩
abbrev cX3_isLess : ByteArray := prog_5_method_6_code
def yX3_isLess : MethodName := ⟨RX3, "isLess", "(II)Z"⟩
def RX4 : String := "PassedPenance$Image"
def TX4 : u_T := fun k => match k with
  | 0 => ("PassedPenance$Image", "church", "LPassedPenance$Church;", true)
  | _ => ("PassedPenance$Image", "acts", "LPassedPenance$Acts;", true)
def tyX4 : Nat → FieldType := fun k => match k with
  | 0 => .object "PassedPenance$Church"
  | _ => .object "PassedPenance$Acts"
abbrev wsX40 : List Cond := u_ws RX4 TX4 2
theorem nmX4 : ∀ a, a < 2 → ∀ b, b < 2 → a ≠ b → (TX4 a).2.1 ≠ (TX4 b).2.1 := by decide +kernel
theorem tyX4_ok : ∀ k, k < 2 → parseFieldDescriptor (TX4 k).2.2.1 = some (tyX4 k) := by decide +kernel
abbrev cX4_init : ByteArray := prog_6_method_1_code
def yX4_init : MethodName := ⟨RX4, "<init>", "()V"⟩
def RX5 : String := "PassedPenance$Mean"
def TX5 : u_T := fun k => match k with
  | 0 => ("PassedPenance$Mean", "above", "J", false)
  | _ => ("PassedPenance$Mean", "below", "J", false)
def tyX5 : Nat → FieldType := fun k => match k with
  | 0 => .long
  | _ => .long
abbrev wsX50 : List Cond := u_ws RX5 TX5 2
theorem nmX5 : ∀ a, a < 2 → ∀ b, b < 2 → a ≠ b → (TX5 a).2.1 ≠ (TX5 b).2.1 := by decide +kernel
theorem tyX5_ok : ∀ k, k < 2 → parseFieldDescriptor (TX5 k).2.2.1 = some (tyX5 k) := by decide +kernel
abbrev cX5_init : ByteArray := prog_7_method_1_code
def yX5_init : MethodName := ⟨RX5, "<init>", "()V"⟩
abbrev cX5_expect : ByteArray := prog_7_method_2_code
def yX5_expect : MethodName := ⟨RX5, "expect", "(LPassedPenance$Rows;ILPassedPenance$Church;II)V"⟩
abbrev cX5_put : ByteArray := prog_7_method_3_code
def yX5_put : MethodName := ⟨RX5, "put", "(JJ)V"⟩
abbrev cX5_commonDivisor : ByteArray := prog_7_method_4_code
def yX5_commonDivisor : MethodName := ⟨RX5, "commonDivisor", "(JJ)J"⟩
abbrev cX5_isBelow : ByteArray := prog_7_method_5_code
def yX5_isBelow : MethodName := ⟨RX5, "isBelow", "(LPassedPenance$Mean;)Z"⟩
abbrev cX5_cut : ByteArray := prog_7_method_6_code
def yX5_cut : MethodName := ⟨RX5, "cut", "()I"⟩
def RX6 : String := "PassedPenance$Orders"
def TX6 : u_T := fun k => match k with
  | 0 => ("PassedPenance$Orders", "bench", "LPassedPenance$Bench;", true)
  | 1 => ("PassedPenance$Orders", "least", "[I", true)
  | 2 => ("PassedPenance$Orders", "many", "[I", true)
  | 3 => ("PassedPenance$Orders", "greatest", "[I", true)
  | 4 => ("PassedPenance$Orders", "hardest", "[I", true)
  | _ => ("PassedPenance$Orders", "alike", "[I", true)
def tyX6 : Nat → FieldType := fun k => match k with
  | 0 => .object "PassedPenance$Bench"
  | 1 => .array .int
  | 2 => .array .int
  | 3 => .array .int
  | 4 => .array .int
  | _ => .array .int
abbrev wsX60 : List Cond := u_ws RX6 TX6 6
theorem nmX6 : ∀ a, a < 6 → ∀ b, b < 6 → a ≠ b → (TX6 a).2.1 ≠ (TX6 b).2.1 := by decide +kernel
theorem tyX6_ok : ∀ k, k < 6 → parseFieldDescriptor (TX6 k).2.2.1 = some (tyX6 k) := by decide +kernel
abbrev cX6_init : ByteArray := prog_8_method_1_code
def yX6_init : MethodName := ⟨RX6, "<init>", "(LPassedPenance$Bench;)V"⟩
abbrev cX6_weigh : ByteArray := prog_8_method_2_code
def yX6_weigh : MethodName := ⟨RX6, "weigh", "()V"⟩
abbrev cX6_weighNode : ByteArray := prog_8_method_3_code
def yX6_weighNode : MethodName := ⟨RX6, "weighNode", "(IIZ)V"⟩
abbrev cX6_goOn : ByteArray := prog_8_method_4_code
def yX6_goOn : MethodName := ⟨RX6, "goOn", "(IIII)V"⟩
abbrev cX6_personAt : ByteArray := prog_8_method_5_code
def yX6_personAt : MethodName := ⟨RX6, "personAt", "(I)I"⟩
abbrev cX6_firstSeat : ByteArray := prog_8_method_6_code
def yX6_firstSeat : MethodName := ⟨RX6, "firstSeat", "(II)I"⟩
def RX7 : String := "PassedPenance$Reader"
def TX7 : u_T := fun k => match k with
  | 0 => ("PassedPenance$Reader", "told", "LPassedPenance$Church;", true)
  | 1 => ("PassedPenance$Reader", "length", "I", false)
  | 2 => ("PassedPenance$Reader", "fault", "I", false)
  | 3 => ("PassedPenance$Reader", "place", "I", false)
  | 4 => ("PassedPenance$Reader", "bytes", "[I", true)
  | 5 => ("PassedPenance$Reader", "start", "I", false)
  | 6 => ("PassedPenance$Reader", "behind", "I", false)
  | 7 => ("PassedPenance$Reader", "kind", "I", false)
  | _ => ("PassedPenance$Reader", "value", "I", false)
def tyX7 : Nat → FieldType := fun k => match k with
  | 0 => .object "PassedPenance$Church"
  | 1 => .int
  | 2 => .int
  | 3 => .int
  | 4 => .array .int
  | 5 => .int
  | 6 => .int
  | 7 => .int
  | _ => .int
abbrev wsX70 : List Cond := u_ws RX7 TX7 9
theorem nmX7 : ∀ a, a < 9 → ∀ b, b < 9 → a ≠ b → (TX7 a).2.1 ≠ (TX7 b).2.1 := by decide +kernel
theorem tyX7_ok : ∀ k, k < 9 → parseFieldDescriptor (TX7 k).2.2.1 = some (tyX7 k) := by decide +kernel
abbrev cX7_init : ByteArray := prog_9_method_1_code
def yX7_init : MethodName := ⟨RX7, "<init>", "()V"⟩
abbrev cX7_hasRoom : ByteArray := prog_9_method_2_code
def yX7_hasRoom : MethodName := ⟨RX7, "hasRoom", "()Z"⟩
abbrev cX7_addNumber : ByteArray := prog_9_method_3_code
def yX7_addNumber : MethodName := ⟨RX7, "addNumber", "(I)V"⟩
abbrev cX7_readAll : ByteArray := prog_9_method_4_code
def yX7_readAll : MethodName := ⟨RX7, "readAll", "()V"⟩
abbrev cX7_readLine : ByteArray := prog_9_method_5_code
def yX7_readLine : MethodName := ⟨RX7, "readLine", "()Z"⟩
abbrev cX7_readHead : ByteArray := prog_9_method_6_code
def yX7_readHead : MethodName := ⟨RX7, "readHead", "()Z"⟩
abbrev cX7_readPenance : ByteArray := prog_9_method_7_code
def yX7_readPenance : MethodName := ⟨RX7, "readPenance", "()Z"⟩
abbrev cX7_readPerson : ByteArray := prog_9_method_8_code
def yX7_readPerson : MethodName := ⟨RX7, "readPerson", "()Z"⟩
abbrev cX7_readGrudges : ByteArray := prog_9_method_9_code
def yX7_readGrudges : MethodName := ⟨RX7, "readGrudges", "()Z"⟩
abbrev cX7_readLeft : ByteArray := prog_9_method_10_code
def yX7_readLeft : MethodName := ⟨RX7, "readLeft", "()Z"⟩
abbrev cX7_passSign : ByteArray := prog_9_method_11_code
def yX7_passSign : MethodName := ⟨RX7, "passSign", "()Z"⟩
abbrev cX7_passWord : ByteArray := prog_9_method_12_code
def yX7_passWord : MethodName := ⟨RX7, "passWord", "(Ljava/lang/String;)Z"⟩
abbrev cX7_passNumber : ByteArray := prog_9_method_13_code
def yX7_passNumber : MethodName := ⟨RX7, "passNumber", "()I"⟩
abbrev cX7_isNumber : ByteArray := prog_9_method_14_code
def yX7_isNumber : MethodName := ⟨RX7, "isNumber", "(II)Z"⟩
abbrev cX7_isWord : ByteArray := prog_9_method_15_code
def yX7_isWord : MethodName := ⟨RX7, "isWord", "(Ljava/lang/String;)Z"⟩
abbrev cX7_refuse : ByteArray := prog_9_method_16_code
def yX7_refuse : MethodName := ⟨RX7, "refuse", "(I)Z"⟩
abbrev cX7_step : ByteArray := prog_9_method_17_code
def yX7_step : MethodName := ⟨RX7, "step", "()V"⟩
abbrev cX7_takeValue : ByteArray := prog_9_method_18_code
def yX7_takeValue : MethodName := ⟨RX7, "takeValue", "()V"⟩
abbrev cX7_kindAt : ByteArray := prog_9_method_19_code
def yX7_kindAt : MethodName := ⟨RX7, "kindAt", "(I)I"⟩
def RX8 : String := "PassedPenance$Rows"
def TX8 : u_T := fun k => match k with
  | 0 => ("PassedPenance$Rows", "numbers", "[[J", true)
  | 1 => ("PassedPenance$Rows", "widths", "[I", true)
  | _ => ("PassedPenance$Rows", "lengths", "[I", true)
def tyX8 : Nat → FieldType := fun k => match k with
  | 0 => .array (.array .long)
  | 1 => .array .int
  | _ => .array .int
abbrev wsX80 : List Cond := u_ws RX8 TX8 3
theorem nmX8 : ∀ a, a < 3 → ∀ b, b < 3 → a ≠ b → (TX8 a).2.1 ≠ (TX8 b).2.1 := by decide +kernel
theorem tyX8_ok : ∀ k, k < 3 → parseFieldDescriptor (TX8 k).2.2.1 = some (tyX8 k) := by decide +kernel
abbrev cX8_init : ByteArray := prog_10_method_1_code
def yX8_init : MethodName := ⟨RX8, "<init>", "()V"⟩
abbrev cX8_isSlot : ByteArray := prog_10_method_2_code
def yX8_isSlot : MethodName := ⟨RX8, "isSlot", "(I)Z"⟩
abbrev cX8_hasRow : ByteArray := prog_10_method_3_code
def yX8_hasRow : MethodName := ⟨RX8, "hasRow", "(I)Z"⟩
abbrev cX8_howMany : ByteArray := prog_10_method_4_code
def yX8_howMany : MethodName := ⟨RX8, "howMany", "()I"⟩
abbrev cX8_lay : ByteArray := prog_10_method_5_code
def yX8_lay : MethodName := ⟨RX8, "lay", "(III)V"⟩
abbrev cX8_put : ByteArray := prog_10_method_6_code
def yX8_put : MethodName := ⟨RX8, "put", "(IIJ)V"⟩
abbrev cX8_cutTo : ByteArray := prog_10_method_7_code
def yX8_cutTo : MethodName := ⟨RX8, "cutTo", "(IJ)J"⟩
abbrev cX8_holds : ByteArray := prog_10_method_8_code
def yX8_holds : MethodName := ⟨RX8, "holds", "(III)Z"⟩
abbrev cX8_tellsHowOften : ByteArray := prog_10_method_9_code
def yX8_tellsHowOften : MethodName := ⟨RX8, "tellsHowOften", "(II)Z"⟩
def RX9 : String := "PassedPenance$Sightings"
def TX9 : u_T := fun k => match k with
  | 0 => ("PassedPenance$Sightings", "bench", "LPassedPenance$Bench;", true)
  | 1 => ("PassedPenance$Sightings", "firstBits", "I", false)
  | 2 => ("PassedPenance$Sightings", "allowed", "[I", true)
  | 3 => ("PassedPenance$Sightings", "ways", "[I", true)
  | 4 => ("PassedPenance$Sightings", "rest", "[I", true)
  | _ => ("PassedPenance$Sightings", "tallies", "[[I", true)
def tyX9 : Nat → FieldType := fun k => match k with
  | 0 => .object "PassedPenance$Bench"
  | 1 => .int
  | 2 => .array .int
  | 3 => .array .int
  | 4 => .array .int
  | _ => .array (.array .int)
abbrev wsX90 : List Cond := u_ws RX9 TX9 6
theorem nmX9 : ∀ a, a < 6 → ∀ b, b < 6 → a ≠ b → (TX9 a).2.1 ≠ (TX9 b).2.1 := by decide +kernel
theorem tyX9_ok : ∀ k, k < 6 → parseFieldDescriptor (TX9 k).2.2.1 = some (tyX9 k) := by decide +kernel
abbrev cX9_init : ByteArray := prog_11_method_1_code
def yX9_init : MethodName := ⟨RX9, "<init>", "(LPassedPenance$Bench;)V"⟩
abbrev cX9_kindOf : ByteArray := prog_11_method_2_code
def yX9_kindOf : MethodName := ⟨RX9, "kindOf", "(I)I"⟩
abbrev cX9_note : ByteArray := prog_11_method_3_code
def yX9_note : MethodName := ⟨RX9, "note", "(LPassedPenance$Rows;I)Z"⟩
abbrev cX9_inBounds : ByteArray := prog_11_method_4_code
def yX9_inBounds : MethodName := ⟨RX9, "inBounds", "(JI)I"⟩
abbrev cX9_isSeated : ByteArray := prog_11_method_5_code
def yX9_isSeated : MethodName := ⟨RX9, "isSeated", "(I)Z"⟩
abbrev cX9_tally : ByteArray := prog_11_method_6_code
def yX9_tally : MethodName := ⟨RX9, "tally", "()V"⟩
abbrev cX9_fitsBehind : ByteArray := prog_11_method_7_code
def yX9_fitsBehind : MethodName := ⟨RX9, "fitsBehind", "(III)Z"⟩
abbrev cX9_countRest : ByteArray := prog_11_method_8_code
def yX9_countRest : MethodName := ⟨RX9, "countRest", "(IIZ)V"⟩
abbrev cX9_countOn : ByteArray := prog_11_method_9_code
def yX9_countOn : MethodName := ⟨RX9, "countOn", "(II)V"⟩
abbrev cX9_total : ByteArray := prog_11_method_10_code
def yX9_total : MethodName := ⟨RX9, "total", "()I"⟩
abbrev cX9_possible : ByteArray := prog_11_method_11_code
def yX9_possible : MethodName := ⟨RX9, "possible", "(I)I"⟩
abbrev cX9_leftAtWorst : ByteArray := prog_11_method_12_code
def yX9_leftAtWorst : MethodName := ⟨RX9, "leftAtWorst", "(I)I"⟩
abbrev cX9_mostTelling : ByteArray := prog_11_method_13_code
def yX9_mostTelling : MethodName := ⟨RX9, "mostTelling", "()I"⟩
def RX10 : String := "PassedPenance$Swaps"
def TX10 : u_T := fun k => match k with
  | 0 => ("PassedPenance$Swaps", "lesser", "I", false)
  | 1 => ("PassedPenance$Swaps", "greater", "I", false)
  | 2 => ("PassedPenance$Swaps", "size", "I", false)
  | 3 => ("PassedPenance$Swaps", "got", "[I", true)
  | 4 => ("PassedPenance$Swaps", "sin", "[I", true)
  | 5 => ("PassedPenance$Swaps", "excess", "[J", true)
  | _ => ("PassedPenance$Swaps", "groups", "[I", true)
def tyX10 : Nat → FieldType := fun k => match k with
  | 0 => .int
  | 1 => .int
  | 2 => .int
  | 3 => .array .int
  | 4 => .array .int
  | 5 => .array .long
  | _ => .array .int
abbrev wsX100 : List Cond := u_ws RX10 TX10 7
theorem nmX10 : ∀ a, a < 7 → ∀ b, b < 7 → a ≠ b → (TX10 a).2.1 ≠ (TX10 b).2.1 := by decide +kernel
theorem tyX10_ok : ∀ k, k < 7 → parseFieldDescriptor (TX10 k).2.2.1 = some (tyX10 k) := by decide +kernel
abbrev cX10_init : ByteArray := prog_12_method_1_code
def yX10_init : MethodName := ⟨RX10, "<init>", "()V"⟩
abbrev cX10_lookAt : ByteArray := prog_12_method_2_code
def yX10_lookAt : MethodName := ⟨RX10, "lookAt", "(LPassedPenance$Church;)V"⟩
abbrev cX10_lane : ByteArray := prog_12_method_3_code
def yX10_lane : MethodName := ⟨RX10, "lane", "(I)J"⟩
abbrev cX10_fewest : ByteArray := prog_12_method_4_code
def yX10_fewest : MethodName := ⟨RX10, "fewest", "()I"⟩
abbrev cX10_findPair : ByteArray := prog_12_method_5_code
def yX10_findPair : MethodName := ⟨RX10, "findPair", "()V"⟩
abbrev cX10_fewestBehind : ByteArray := prog_12_method_6_code
def yX10_fewestBehind : MethodName := ⟨RX10, "fewestBehind", "(II)I"⟩
abbrev cX10_change : ByteArray := prog_12_method_7_code
def yX10_change : MethodName := ⟨RX10, "change", "(II)V"⟩
def RX11 : String := "PassedPenance"
def TX11 : u_T := fun k => match k with
  | 0 => ("PassedPenance", "reader", "LPassedPenance$Reader;", true)
  | 1 => ("PassedPenance", "church", "LPassedPenance$Church;", true)
  | 2 => ("PassedPenance", "trial", "LPassedPenance$Church;", true)
  | 3 => ("PassedPenance", "acts", "LPassedPenance$Acts;", true)
  | 4 => ("PassedPenance", "rows", "LPassedPenance$Rows;", true)
  | 5 => ("PassedPenance", "bench", "LPassedPenance$Bench;", true)
  | 6 => ("PassedPenance", "orders", "LPassedPenance$Orders;", true)
  | 7 => ("PassedPenance", "sightings", "LPassedPenance$Sightings;", true)
  | 8 => ("PassedPenance", "swaps", "LPassedPenance$Swaps;", true)
  | 9 => ("PassedPenance", "deal", "LPassedPenance$Deal;", true)
  | 10 => ("PassedPenance", "mean", "LPassedPenance$Mean;", true)
  | 11 => ("PassedPenance", "leastMean", "LPassedPenance$Mean;", true)
  | _ => ("PassedPenance", "images", "[LPassedPenance$Image;", true)
def tyX11 : Nat → FieldType := fun k => match k with
  | 0 => .object "PassedPenance$Reader"
  | 1 => .object "PassedPenance$Church"
  | 2 => .object "PassedPenance$Church"
  | 3 => .object "PassedPenance$Acts"
  | 4 => .object "PassedPenance$Rows"
  | 5 => .object "PassedPenance$Bench"
  | 6 => .object "PassedPenance$Orders"
  | 7 => .object "PassedPenance$Sightings"
  | 8 => .object "PassedPenance$Swaps"
  | 9 => .object "PassedPenance$Deal"
  | 10 => .object "PassedPenance$Mean"
  | 11 => .object "PassedPenance$Mean"
  | _ => .array (.object "PassedPenance$Image")
abbrev wsX110 : List Cond := u_ws RX11 TX11 13
theorem nmX11 : ∀ a, a < 13 → ∀ b, b < 13 → a ≠ b → (TX11 a).2.1 ≠ (TX11 b).2.1 := by decide +kernel
theorem tyX11_ok : ∀ k, k < 13 → parseFieldDescriptor (TX11 k).2.2.1 = some (tyX11 k) := by decide +kernel
abbrev cX11_init : ByteArray := prog_1_method_1_code
def yX11_init : MethodName := ⟨RX11, "<init>", "()V"⟩
abbrev cX11_feed : ByteArray := prog_1_method_2_code
def yX11_feed : MethodName := ⟨RX11, "feed", "(IIIII)I"⟩
abbrev cX11_end : ByteArray := prog_1_method_3_code
def yX11_end : MethodName := ⟨RX11, "end", "(I)I"⟩
abbrev cX11_church : ByteArray := prog_1_method_4_code
def yX11_church : MethodName := ⟨RX11, "church", "()I"⟩
abbrev cX11_fault : ByteArray := prog_1_method_5_code
def yX11_fault : MethodName := ⟨RX11, "fault", "(I)I"⟩
abbrev cX11_penance : ByteArray := prog_1_method_6_code
def yX11_penance : MethodName := ⟨RX11, "penance", "(I)I"⟩
abbrev cX11_person : ByteArray := prog_1_method_7_code
def yX11_person : MethodName := ⟨RX11, "person", "(II)I"⟩
abbrev cX11_minds : ByteArray := prog_1_method_8_code
def yX11_minds : MethodName := ⟨RX11, "minds", "(II)I"⟩
abbrev cX11_cost : ByteArray := prog_1_method_9_code
def yX11_cost : MethodName := ⟨RX11, "cost", "(II)I"⟩
abbrev cX11_box : ByteArray := prog_1_method_10_code
def yX11_box : MethodName := ⟨RX11, "box", "(I)I"⟩
abbrev cX11_queue : ByteArray := prog_1_method_11_code
def yX11_queue : MethodName := ⟨RX11, "queue", "(II)I"⟩
abbrev cX11_gets : ByteArray := prog_1_method_12_code
def yX11_gets : MethodName := ⟨RX11, "gets", "(I)I"⟩
abbrev cX11_giver : ByteArray := prog_1_method_13_code
def yX11_giver : MethodName := ⟨RX11, "giver", "(I)I"⟩
abbrev cX11_back : ByteArray := prog_1_method_14_code
def yX11_back : MethodName := ⟨RX11, "back", "(II)I"⟩
abbrev cX11_last : ByteArray := prog_1_method_15_code
def yX11_last : MethodName := ⟨RX11, "last", "(I)I"⟩
abbrev cX11_bears : ByteArray := prog_1_method_16_code
def yX11_bears : MethodName := ⟨RX11, "bears", "(I)I"⟩
abbrev cX11_own : ByteArray := prog_1_method_17_code
def yX11_own : MethodName := ⟨RX11, "own", "()I"⟩
abbrev cX11_gain : ByteArray := prog_1_method_18_code
def yX11_gain : MethodName := ⟨RX11, "gain", "()I"⟩
abbrev cX11_worst : ByteArray := prog_1_method_19_code
def yX11_worst : MethodName := ⟨RX11, "worst", "()I"⟩
abbrev cX11_passes : ByteArray := prog_1_method_20_code
def yX11_passes : MethodName := ⟨RX11, "passes", "(I)I"⟩
abbrev cX11_ahead : ByteArray := prog_1_method_21_code
def yX11_ahead : MethodName := ⟨RX11, "ahead", "(I)I"⟩
abbrev cX11_kneel : ByteArray := prog_1_method_22_code
def yX11_kneel : MethodName := ⟨RX11, "kneel", "(I)I"⟩
abbrev cX11_sins : ByteArray := prog_1_method_23_code
def yX11_sins : MethodName := ⟨RX11, "sins", "(I)I"⟩
abbrev cX11_sinned : ByteArray := prog_1_method_24_code
def yX11_sinned : MethodName := ⟨RX11, "sinned", "(I)I"⟩
abbrev cX11_best : ByteArray := prog_1_method_25_code
def yX11_best : MethodName := ⟨RX11, "best", "(I)I"⟩
abbrev cX11_orders : ByteArray := prog_1_method_26_code
def yX11_orders : MethodName := ⟨RX11, "orders", "(II)I"⟩
abbrev cX11_most : ByteArray := prog_1_method_27_code
def yX11_most : MethodName := ⟨RX11, "most", "(I)I"⟩
abbrev cX11_fair : ByteArray := prog_1_method_28_code
def yX11_fair : MethodName := ⟨RX11, "fair", "(I)I"⟩
abbrev cX11_likes : ByteArray := prog_1_method_29_code
def yX11_likes : MethodName := ⟨RX11, "likes", "(I)I"⟩
abbrev cX11_ways : ByteArray := prog_1_method_30_code
def yX11_ways : MethodName := ⟨RX11, "ways", "(I)I"⟩
abbrev cX11_weighs : ByteArray := prog_1_method_31_code
def yX11_weighs : MethodName := ⟨RX11, "weighs", "(I)Z"⟩
abbrev cX11_comes : ByteArray := prog_1_method_32_code
def yX11_comes : MethodName := ⟨RX11, "comes", "(II)I"⟩
abbrev cX11_hour : ByteArray := prog_1_method_33_code
def yX11_hour : MethodName := ⟨RX11, "hour", "(I)I"⟩
abbrev cX11_stir : ByteArray := prog_1_method_34_code
def yX11_stir : MethodName := ⟨RX11, "stir", "()I"⟩
abbrev cX11_settles : ByteArray := prog_1_method_35_code
def yX11_settles : MethodName := ⟨RX11, "settles", "()I"⟩
abbrev cX11_settled : ByteArray := prog_1_method_36_code
def yX11_settled : MethodName := ⟨RX11, "settled", "(I)I"⟩
abbrev cX11_swaps : ByteArray := prog_1_method_37_code
def yX11_swaps : MethodName := ⟨RX11, "swaps", "()I"⟩
abbrev cX11_swap : ByteArray := prog_1_method_38_code
def yX11_swap : MethodName := ⟨RX11, "swap", "(I)I"⟩
abbrev cX11_trades : ByteArray := prog_1_method_39_code
def yX11_trades : MethodName := ⟨RX11, "trades", "()I"⟩
abbrev cX11_wouldTrade : ByteArray := prog_1_method_40_code
def yX11_wouldTrade : MethodName := ⟨RX11, "wouldTrade", "(II)Z"⟩
abbrev cX11_deal : ByteArray := prog_1_method_41_code
def yX11_deal : MethodName := ⟨RX11, "deal", "()I"⟩
abbrev cX11_dealt : ByteArray := prog_1_method_42_code
def yX11_dealt : MethodName := ⟨RX11, "dealt", "(I)I"⟩
abbrev cX11_fits : ByteArray := prog_1_method_43_code
def yX11_fits : MethodName := ⟨RX11, "fits", "(II)I"⟩
abbrev cX11_firsts : ByteArray := prog_1_method_44_code
def yX11_firsts : MethodName := ⟨RX11, "firsts", "(II)I"⟩
abbrev cX11_may : ByteArray := prog_1_method_45_code
def yX11_may : MethodName := ⟨RX11, "may", "(III)I"⟩
abbrev cX11_ask : ByteArray := prog_1_method_46_code
def yX11_ask : MethodName := ⟨RX11, "ask", "(II)I"⟩
abbrev cX11_leaves : ByteArray := prog_1_method_47_code
def yX11_leaves : MethodName := ⟨RX11, "leaves", "(II)I"⟩
abbrev cX11_compare : ByteArray := prog_1_method_48_code
def yX11_compare : MethodName := ⟨RX11, "compare", "(II)I"⟩
abbrev cX11_mean : ByteArray := prog_1_method_49_code
def yX11_mean : MethodName := ⟨RX11, "mean", "(III)J"⟩
abbrev cX11_choose : ByteArray := prog_1_method_50_code
def yX11_choose : MethodName := ⟨RX11, "choose", "(I)I"⟩
abbrev cX11_pass : ByteArray := prog_1_method_51_code
def yX11_pass : MethodName := ⟨RX11, "pass", "(IIII)J"⟩
abbrev cX11_takes : ByteArray := prog_1_method_52_code
def yX11_takes : MethodName := ⟨RX11, "takes", "(III)I"⟩
abbrev cX11_whyNoMean : ByteArray := prog_1_method_53_code
def yX11_whyNoMean : MethodName := ⟨RX11, "whyNoMean", "(III)I"⟩
abbrev cX11_confess : ByteArray := prog_1_method_54_code
def yX11_confess : MethodName := ⟨RX11, "confess", "(I)I"⟩
abbrev cX11_clear : ByteArray := prog_1_method_55_code
def yX11_clear : MethodName := ⟨RX11, "clear", "(II)I"⟩
abbrev cX11_now : ByteArray := prog_1_method_56_code
def yX11_now : MethodName := ⟨RX11, "now", "(I)I"⟩
abbrev cX11_has : ByteArray := prog_1_method_57_code
def yX11_has : MethodName := ⟨RX11, "has", "(I)I"⟩
abbrev cX11_done : ByteArray := prog_1_method_58_code
def yX11_done : MethodName := ⟨RX11, "done", "()I"⟩
abbrev cX11_sum : ByteArray := prog_1_method_59_code
def yX11_sum : MethodName := ⟨RX11, "sum", "()I"⟩
abbrev cX11_undo : ByteArray := prog_1_method_60_code
def yX11_undo : MethodName := ⟨RX11, "undo", "()I"⟩
abbrev cX11_anew : ByteArray := prog_1_method_61_code
def yX11_anew : MethodName := ⟨RX11, "anew", "()I"⟩
abbrev cX11_drawn : ByteArray := prog_1_method_62_code
def yX11_drawn : MethodName := ⟨RX11, "drawn", "(II)I"⟩
abbrev cX11_fate : ByteArray := prog_1_method_63_code
def yX11_fate : MethodName := ⟨RX11, "fate", "(II)I"⟩
abbrev cX11_luck : ByteArray := prog_1_method_64_code
def yX11_luck : MethodName := ⟨RX11, "luck", "(III)I"⟩
abbrev cX11_isSeed : ByteArray := prog_1_method_65_code
def yX11_isSeed : MethodName := ⟨RX11, "isSeed", "(I)Z"⟩
abbrev cX11_set : ByteArray := prog_1_method_66_code
def yX11_set : MethodName := ⟨RX11, "set", "(II)I"⟩
abbrev cX11_move : ByteArray := prog_1_method_67_code
def yX11_move : MethodName := ⟨RX11, "move", "(II)I"⟩
abbrev cX11_count : ByteArray := prog_1_method_68_code
def yX11_count : MethodName := ⟨RX11, "count", "(I)I"⟩
abbrev cX11_image : ByteArray := prog_1_method_69_code
def yX11_image : MethodName := ⟨RX11, "image", "(I)I"⟩
abbrev cX11_again : ByteArray := prog_1_method_70_code
def yX11_again : MethodName := ⟨RX11, "again", "(I)I"⟩
abbrev cX11_row : ByteArray := prog_1_method_71_code
def yX11_row : MethodName := ⟨RX11, "row", "(III)I"⟩
abbrev cX11_write : ByteArray := prog_1_method_72_code
def yX11_write : MethodName := ⟨RX11, "write", "(IIJ)I"⟩
abbrev cX11_paste : ByteArray := prog_1_method_73_code
def yX11_paste : MethodName := ⟨RX11, "paste", "(IIIII)I"⟩
def RX12 : String := "PassedPenanceModel"
def TX12 : u_T := fun k => match k with
  | 0 => ("PassedPenanceModel", "thrown", "I", false)
  | 1 => ("PassedPenanceModel", "width", "[I", true)
  | 2 => ("PassedPenanceModel", "many", "[I", true)
  | 3 => ("PassedPenanceModel", "cells", "[J", true)
  | 4 => ("PassedPenanceModel", "moved", "[J", true)
  | 5 => ("PassedPenanceModel", "tape", "[B", true)
  | 6 => ("PassedPenanceModel", "taped", "I", false)
  | 7 => ("PassedPenanceModel", "at", "I", false)
  | 8 => ("PassedPenanceModel", "token", "I", false)
  | 9 => ("PassedPenanceModel", "place", "I", false)
  | 10 => ("PassedPenanceModel", "value", "I", false)
  | 11 => ("PassedPenanceModel", "word", "J", false)
  | 12 => ("PassedPenanceModel", "bad", "I", false)
  | 13 => ("PassedPenanceModel", "badPlace", "I", false)
  | 14 => ("PassedPenanceModel", "fault", "I", false)
  | 15 => ("PassedPenanceModel", "faultPlace", "I", false)
  | 16 => ("PassedPenanceModel", "lines", "[I", true)
  | 17 => ("PassedPenanceModel", "has", "[I", true)
  | 18 => ("PassedPenanceModel", "days", "[I", true)
  | 19 => ("PassedPenanceModel", "person", "[I", true)
  | 20 => ("PassedPenanceModel", "lying", "[I", true)
  | 21 => ("PassedPenanceModel", "act", "[I", true)
  | 22 => ("PassedPenanceModel", "isKept", "[Z", true)
  | 23 => ("PassedPenanceModel", "hours", "[I", true)
  | 24 => ("PassedPenanceModel", "coming", "I", false)
  | 25 => ("PassedPenanceModel", "sinsLeast", "I", false)
  | 26 => ("PassedPenanceModel", "best", "[I", true)
  | 27 => ("PassedPenanceModel", "ways", "[I", true)
  | 28 => ("PassedPenanceModel", "got", "[I", true)
  | 29 => ("PassedPenanceModel", "from", "[I", true)
  | 30 => ("PassedPenanceModel", "mostRings", "I", false)
  | 31 => ("PassedPenanceModel", "dealt", "[I", true)
  | 32 => ("PassedPenanceModel", "seen", "[I", true)
  | 33 => ("PassedPenanceModel", "firsts", "[I", true)
  | 34 => ("PassedPenanceModel", "often", "[I", true)
  | 35 => ("PassedPenanceModel", "now", "[I", true)
  | 36 => ("PassedPenanceModel", "fitMany", "I", false)
  | 37 => ("PassedPenanceModel", "askBest", "I", false)
  | 38 => ("PassedPenanceModel", "askLeaves", "I", false)
  | 39 => ("PassedPenanceModel", "passBelow", "J", false)
  | 40 => ("PassedPenanceModel", "lies", "[I", true)
  | _ => ("PassedPenanceModel", "hasNow", "[I", true)
def tyX12 : Nat → FieldType := fun k => match k with
  | 0 => .int
  | 1 => .array .int
  | 2 => .array .int
  | 3 => .array .long
  | 4 => .array .long
  | 5 => .array .byte
  | 6 => .int
  | 7 => .int
  | 8 => .int
  | 9 => .int
  | 10 => .int
  | 11 => .long
  | 12 => .int
  | 13 => .int
  | 14 => .int
  | 15 => .int
  | 16 => .array .int
  | 17 => .array .int
  | 18 => .array .int
  | 19 => .array .int
  | 20 => .array .int
  | 21 => .array .int
  | 22 => .array .boolean
  | 23 => .array .int
  | 24 => .int
  | 25 => .int
  | 26 => .array .int
  | 27 => .array .int
  | 28 => .array .int
  | 29 => .array .int
  | 30 => .int
  | 31 => .array .int
  | 32 => .array .int
  | 33 => .array .int
  | 34 => .array .int
  | 35 => .array .int
  | 36 => .int
  | 37 => .int
  | 38 => .int
  | 39 => .long
  | 40 => .array .int
  | _ => .array .int
abbrev wsX120 : List Cond := u_ws RX12 TX12 42
theorem nmX12 : ∀ a, a < 42 → ∀ b, b < 42 → a ≠ b → (TX12 a).2.1 ≠ (TX12 b).2.1 := by decide +kernel
theorem tyX12_ok : ∀ k, k < 42 → parseFieldDescriptor (TX12 k).2.2.1 = some (tyX12 k) := by decide +kernel
abbrev cX12_init : ByteArray := prog_14_method_1_code
def yX12_init : MethodName := ⟨RX12, "<init>", "()V"⟩
abbrev cX12_in : ByteArray := prog_14_method_3_code
def yX12_in : MethodName := ⟨RX12, "in", "(JJJ)Z"⟩
abbrev cX12_isSlot : ByteArray := prog_14_method_4_code
def yX12_isSlot : MethodName := ⟨RX12, "isSlot", "(I)Z"⟩
abbrev cX12_row : ByteArray := prog_14_method_5_code
def yX12_row : MethodName := ⟨RX12, "row", "(III)I"⟩
abbrev cX12_cut : ByteArray := prog_14_method_6_code
def yX12_cut : MethodName := ⟨RX12, "cut", "(JI)J"⟩
abbrev cX12_write : ByteArray := prog_14_method_7_code
def yX12_write : MethodName := ⟨RX12, "write", "(IIJ)I"⟩
abbrev cX12_paste : ByteArray := prog_14_method_8_code
def yX12_paste : MethodName := ⟨RX12, "paste", "(IIIII)I"⟩
abbrev cX12_feed : ByteArray := prog_14_method_9_code
def yX12_feed : MethodName := ⟨RX12, "feed", "(IIIII)I"⟩
abbrev cX12_four : ByteArray := prog_14_method_10_code
def yX12_four : MethodName := ⟨RX12, "four", "(I)V"⟩
abbrev cX12_end : ByteArray := prog_14_method_11_code
def yX12_end : MethodName := ⟨RX12, "end", "(I)I"⟩
abbrev cX12_isByte : ByteArray := prog_14_method_12_code
def yX12_isByte : MethodName := ⟨RX12, "isByte", "(III)Z"⟩
abbrev cX12_next : ByteArray := prog_14_method_13_code
def yX12_next : MethodName := ⟨RX12, "next", "()V"⟩
abbrev cX12_isGood : ByteArray := prog_14_method_14_code
def yX12_isGood : MethodName := ⟨RX12, "isGood", "()Z"⟩
abbrev cX12_fails : ByteArray := prog_14_method_15_code
def yX12_fails : MethodName := ⟨RX12, "fails", "(I)V"⟩
abbrev cX12_is : ByteArray := prog_14_method_16_code
def yX12_is : MethodName := ⟨RX12, "is", "(J)Z"⟩
abbrev cX12_takes : ByteArray := prog_14_method_17_code
def yX12_takes : MethodName := ⟨RX12, "takes", "(J)Z"⟩
abbrev cX12_asks : ByteArray := prog_14_method_18_code
def yX12_asks : MethodName := ⟨RX12, "asks", "(J)V"⟩
abbrev cX12_number : ByteArray := prog_14_method_19_code
def yX12_number : MethodName := ⟨RX12, "number", "(II)I"⟩
abbrev cX12_number_ : ByteArray := prog_14_method_20_code
def yX12_number_ : MethodName := ⟨RX12, "number", "(JII)I"⟩
abbrev cX12_ends : ByteArray := prog_14_method_21_code
def yX12_ends : MethodName := ⟨RX12, "ends", "()V"⟩
abbrev cX12_begins : ByteArray := prog_14_method_22_code
def yX12_begins : MethodName := ⟨RX12, "begins", "()V"⟩
abbrev cX12_isOver : ByteArray := prog_14_method_23_code
def yX12_isOver : MethodName := ⟨RX12, "isOver", "()V"⟩
abbrev cX12_fault : ByteArray := prog_14_method_24_code
def yX12_fault : MethodName := ⟨RX12, "fault", "(I)I"⟩
abbrev cX12_hasRead : ByteArray := prog_14_method_25_code
def yX12_hasRead : MethodName := ⟨RX12, "hasRead", "(I)I"⟩
abbrev cX12_tells : ByteArray := prog_14_method_26_code
def yX12_tells : MethodName := ⟨RX12, "tells", "(II)V"⟩
abbrev cX12_penanceHere : ByteArray := prog_14_method_27_code
def yX12_penanceHere : MethodName := ⟨RX12, "penanceHere", "()I"⟩
abbrev cX12_boxHere : ByteArray := prog_14_method_28_code
def yX12_boxHere : MethodName := ⟨RX12, "boxHere", "()I"⟩
abbrev cX12_personLine : ByteArray := prog_14_method_29_code
def yX12_personLine : MethodName := ⟨RX12, "personLine", "()V"⟩
abbrev cX12_isRoom : ByteArray := prog_14_method_30_code
def yX12_isRoom : MethodName := ⟨RX12, "isRoom", "(ZII)Z"⟩
abbrev cX12_line : ByteArray := prog_14_method_31_code
def yX12_line : MethodName := ⟨RX12, "line", "()V"⟩
abbrev cX12_clears : ByteArray := prog_14_method_32_code
def yX12_clears : MethodName := ⟨RX12, "clears", "()V"⟩
abbrev cX12_church : ByteArray := prog_14_method_33_code
def yX12_church : MethodName := ⟨RX12, "church", "()I"⟩
abbrev cX12_copyRow : ByteArray := prog_14_method_34_code
def yX12_copyRow : MethodName := ⟨RX12, "copyRow", "([IIII)V"⟩
abbrev cX12_copyChurch : ByteArray := prog_14_method_35_code
def yX12_copyChurch : MethodName := ⟨RX12, "copyChurch", "(II)V"⟩
abbrev cX12_isChurch : ByteArray := prog_14_method_36_code
def yX12_isChurch : MethodName := ⟨RX12, "isChurch", "()Z"⟩
abbrev cX12_isPenance : ByteArray := prog_14_method_37_code
def yX12_isPenance : MethodName := ⟨RX12, "isPenance", "(J)Z"⟩
abbrev cX12_isPerson : ByteArray := prog_14_method_38_code
def yX12_isPerson : MethodName := ⟨RX12, "isPerson", "(J)Z"⟩
abbrev cX12_isBox : ByteArray := prog_14_method_39_code
def yX12_isBox : MethodName := ⟨RX12, "isBox", "(I)Z"⟩
abbrev cX12_isHour : ByteArray := prog_14_method_40_code
def yX12_isHour : MethodName := ⟨RX12, "isHour", "(I)Z"⟩
abbrev cX12_isBit : ByteArray := prog_14_method_41_code
def yX12_isBit : MethodName := ⟨RX12, "isBit", "(II)Z"⟩
abbrev cX12_sinOf : ByteArray := prog_14_method_42_code
def yX12_sinOf : MethodName := ⟨RX12, "sinOf", "(I)I"⟩
abbrev cX12_boxOf : ByteArray := prog_14_method_43_code
def yX12_boxOf : MethodName := ⟨RX12, "boxOf", "(I)I"⟩
abbrev cX12_costOf : ByteArray := prog_14_method_44_code
def yX12_costOf : MethodName := ⟨RX12, "costOf", "(II)I"⟩
abbrev cX12_everybody : ByteArray := prog_14_method_45_code
def yX12_everybody : MethodName := ⟨RX12, "everybody", "()I"⟩
abbrev cX12_of : ByteArray := prog_14_method_46_code
def yX12_of : MethodName := ⟨RX12, "of", "(I)I"⟩
abbrev cX12_lays : ByteArray := prog_14_method_47_code
def yX12_lays : MethodName := ⟨RX12, "lays", "()V"⟩
abbrev cX12_isAhead : ByteArray := prog_14_method_48_code
def yX12_isAhead : MethodName := ⟨RX12, "isAhead", "(II)Z"⟩
abbrev cX12_aheadOf : ByteArray := prog_14_method_49_code
def yX12_aheadOf : MethodName := ⟨RX12, "aheadOf", "(I)I"⟩
abbrev cX12_getsOf : ByteArray := prog_14_method_50_code
def yX12_getsOf : MethodName := ⟨RX12, "getsOf", "(I)I"⟩
abbrev cX12_hasCost : ByteArray := prog_14_method_51_code
def yX12_hasCost : MethodName := ⟨RX12, "hasCost", "(I)I"⟩
abbrev cX12_penance : ByteArray := prog_14_method_52_code
def yX12_penance : MethodName := ⟨RX12, "penance", "(I)I"⟩
abbrev cX12_person : ByteArray := prog_14_method_53_code
def yX12_person : MethodName := ⟨RX12, "person", "(II)I"⟩
abbrev cX12_minds : ByteArray := prog_14_method_54_code
def yX12_minds : MethodName := ⟨RX12, "minds", "(II)I"⟩
abbrev cX12_cost : ByteArray := prog_14_method_55_code
def yX12_cost : MethodName := ⟨RX12, "cost", "(II)I"⟩
abbrev cX12_box : ByteArray := prog_14_method_56_code
def yX12_box : MethodName := ⟨RX12, "box", "(I)I"⟩
abbrev cX12_queue : ByteArray := prog_14_method_57_code
def yX12_queue : MethodName := ⟨RX12, "queue", "(II)I"⟩
abbrev cX12_gets : ByteArray := prog_14_method_58_code
def yX12_gets : MethodName := ⟨RX12, "gets", "(I)I"⟩
abbrev cX12_giver : ByteArray := prog_14_method_59_code
def yX12_giver : MethodName := ⟨RX12, "giver", "(I)I"⟩
abbrev cX12_back : ByteArray := prog_14_method_60_code
def yX12_back : MethodName := ⟨RX12, "back", "(II)I"⟩
abbrev cX12_last : ByteArray := prog_14_method_61_code
def yX12_last : MethodName := ⟨RX12, "last", "(I)I"⟩
abbrev cX12_bears : ByteArray := prog_14_method_62_code
def yX12_bears : MethodName := ⟨RX12, "bears", "(I)I"⟩
abbrev cX12_own : ByteArray := prog_14_method_63_code
def yX12_own : MethodName := ⟨RX12, "own", "()I"⟩
abbrev cX12_gain : ByteArray := prog_14_method_64_code
def yX12_gain : MethodName := ⟨RX12, "gain", "()I"⟩
abbrev cX12_worst : ByteArray := prog_14_method_65_code
def yX12_worst : MethodName := ⟨RX12, "worst", "()I"⟩
abbrev cX12_passes : ByteArray := prog_14_method_66_code
def yX12_passes : MethodName := ⟨RX12, "passes", "(I)I"⟩
abbrev cX12_ahead : ByteArray := prog_14_method_67_code
def yX12_ahead : MethodName := ⟨RX12, "ahead", "(I)I"⟩
abbrev cX12_kneel : ByteArray := prog_14_method_68_code
def yX12_kneel : MethodName := ⟨RX12, "kneel", "(I)I"⟩
abbrev cX12_sinnedOf : ByteArray := prog_14_method_69_code
def yX12_sinnedOf : MethodName := ⟨RX12, "sinnedOf", "(I)I"⟩
abbrev cX12_sins : ByteArray := prog_14_method_70_code
def yX12_sins : MethodName := ⟨RX12, "sins", "(I)I"⟩
abbrev cX12_sinned : ByteArray := prog_14_method_71_code
def yX12_sinned : MethodName := ⟨RX12, "sinned", "(I)I"⟩
abbrev cX12_stepOf : ByteArray := prog_14_method_72_code
def yX12_stepOf : MethodName := ⟨RX12, "stepOf", "(IIII)I"⟩
abbrev cX12_joined : ByteArray := prog_14_method_73_code
def yX12_joined : MethodName := ⟨RX12, "joined", "(III)I"⟩
abbrev cX12_isBetter : ByteArray := prog_14_method_74_code
def yX12_isBetter : MethodName := ⟨RX12, "isBetter", "(III)Z"⟩
abbrev cX12_laysOrders : ByteArray := prog_14_method_75_code
def yX12_laysOrders : MethodName := ⟨RX12, "laysOrders", "(II)V"⟩
abbrev cX12_bestBy : ByteArray := prog_14_method_76_code
def yX12_bestBy : MethodName := ⟨RX12, "bestBy", "(II)I"⟩
abbrev cX12_best : ByteArray := prog_14_method_77_code
def yX12_best : MethodName := ⟨RX12, "best", "(I)I"⟩
abbrev cX12_orders : ByteArray := prog_14_method_78_code
def yX12_orders : MethodName := ⟨RX12, "orders", "(II)I"⟩
abbrev cX12_most : ByteArray := prog_14_method_79_code
def yX12_most : MethodName := ⟨RX12, "most", "(I)I"⟩
abbrev cX12_fair : ByteArray := prog_14_method_80_code
def yX12_fair : MethodName := ⟨RX12, "fair", "(I)I"⟩
abbrev cX12_likes : ByteArray := prog_14_method_81_code
def yX12_likes : MethodName := ⟨RX12, "likes", "(I)I"⟩
abbrev cX12_ways : ByteArray := prog_14_method_82_code
def yX12_ways : MethodName := ⟨RX12, "ways", "(I)I"⟩
abbrev cX12_comesIn : ByteArray := prog_14_method_83_code
def yX12_comesIn : MethodName := ⟨RX12, "comesIn", "(II)I"⟩
abbrev cX12_hourOf : ByteArray := prog_14_method_84_code
def yX12_hourOf : MethodName := ⟨RX12, "hourOf", "(I)I"⟩
abbrev cX12_stirs : ByteArray := prog_14_method_85_code
def yX12_stirs : MethodName := ⟨RX12, "stirs", "(I)Z"⟩
abbrev cX12_comes : ByteArray := prog_14_method_86_code
def yX12_comes : MethodName := ⟨RX12, "comes", "(II)I"⟩
abbrev cX12_hour : ByteArray := prog_14_method_87_code
def yX12_hour : MethodName := ⟨RX12, "hour", "(I)I"⟩
abbrev cX12_stir : ByteArray := prog_14_method_88_code
def yX12_stir : MethodName := ⟨RX12, "stir", "()I"⟩
abbrev cX12_settle : ByteArray := prog_14_method_89_code
def yX12_settle : MethodName := ⟨RX12, "settle", "()I"⟩
abbrev cX12_settles : ByteArray := prog_14_method_90_code
def yX12_settles : MethodName := ⟨RX12, "settles", "()I"⟩
abbrev cX12_settled : ByteArray := prog_14_method_91_code
def yX12_settled : MethodName := ⟨RX12, "settled", "(I)I"⟩
abbrev cX12_laysGot : ByteArray := prog_14_method_92_code
def yX12_laysGot : MethodName := ⟨RX12, "laysGot", "()V"⟩
abbrev cX12_rings : ByteArray := prog_14_method_93_code
def yX12_rings : MethodName := ⟨RX12, "rings", "()I"⟩
abbrev cX12_deals : ByteArray := prog_14_method_94_code
def yX12_deals : MethodName := ⟨RX12, "deals", "(II)V"⟩
abbrev cX12_fewestSwaps : ByteArray := prog_14_method_95_code
def yX12_fewestSwaps : MethodName := ⟨RX12, "fewestSwaps", "()I"⟩
abbrev cX12_swaps : ByteArray := prog_14_method_96_code
def yX12_swaps : MethodName := ⟨RX12, "swaps", "()I"⟩
abbrev cX12_changes : ByteArray := prog_14_method_97_code
def yX12_changes : MethodName := ⟨RX12, "changes", "(II)V"⟩
abbrev cX12_swap : ByteArray := prog_14_method_98_code
def yX12_swap : MethodName := ⟨RX12, "swap", "(I)I"⟩
abbrev cX12_trades : ByteArray := prog_14_method_99_code
def yX12_trades : MethodName := ⟨RX12, "trades", "()I"⟩
abbrev cX12_laysDeal : ByteArray := prog_14_method_100_code
def yX12_laysDeal : MethodName := ⟨RX12, "laysDeal", "()V"⟩
abbrev cX12_deal : ByteArray := prog_14_method_101_code
def yX12_deal : MethodName := ⟨RX12, "deal", "()I"⟩
abbrev cX12_dealOf : ByteArray := prog_14_method_102_code
def yX12_dealOf : MethodName := ⟨RX12, "dealOf", "(II)I"⟩
abbrev cX12_dealt : ByteArray := prog_14_method_103_code
def yX12_dealt : MethodName := ⟨RX12, "dealt", "(I)I"⟩
abbrev cX12_whyNot : ByteArray := prog_14_method_104_code
def yX12_whyNot : MethodName := ⟨RX12, "whyNot", "(II)I"⟩
abbrev cX12_laysFits : ByteArray := prog_14_method_105_code
def yX12_laysFits : MethodName := ⟨RX12, "laysFits", "(II)V"⟩
abbrev cX12_comesNext : ByteArray := prog_14_method_106_code
def yX12_comesNext : MethodName := ⟨RX12, "comesNext", "(IIII)V"⟩
abbrev cX12_fits : ByteArray := prog_14_method_107_code
def yX12_fits : MethodName := ⟨RX12, "fits", "(II)I"⟩
abbrev cX12_firsts : ByteArray := prog_14_method_108_code
def yX12_firsts : MethodName := ⟨RX12, "firsts", "(II)I"⟩
abbrev cX12_may : ByteArray := prog_14_method_109_code
def yX12_may : MethodName := ⟨RX12, "may", "(III)I"⟩
abbrev cX12_laysAsk : ByteArray := prog_14_method_110_code
def yX12_laysAsk : MethodName := ⟨RX12, "laysAsk", "(II)V"⟩
abbrev cX12_ask : ByteArray := prog_14_method_111_code
def yX12_ask : MethodName := ⟨RX12, "ask", "(II)I"⟩
abbrev cX12_leaves : ByteArray := prog_14_method_112_code
def yX12_leaves : MethodName := ⟨RX12, "leaves", "(II)I"⟩
abbrev cX12_whyNotMean : ByteArray := prog_14_method_113_code
def yX12_whyNotMean : MethodName := ⟨RX12, "whyNotMean", "(II)I"⟩
abbrev cX12_allOf : ByteArray := prog_14_method_114_code
def yX12_allOf : MethodName := ⟨RX12, "allOf", "(I)J"⟩
abbrev cX12_common : ByteArray := prog_14_method_115_code
def yX12_common : MethodName := ⟨RX12, "common", "(JJ)J"⟩
abbrev cX12_part : ByteArray := prog_14_method_116_code
def yX12_part : MethodName := ⟨RX12, "part", "(JJI)J"⟩
abbrev cX12_passOf : ByteArray := prog_14_method_117_code
def yX12_passOf : MethodName := ⟨RX12, "passOf", "(III)J"⟩
abbrev cX12_mean : ByteArray := prog_14_method_118_code
def yX12_mean : MethodName := ⟨RX12, "mean", "(III)J"⟩
abbrev cX12_choose : ByteArray := prog_14_method_119_code
def yX12_choose : MethodName := ⟨RX12, "choose", "(I)I"⟩
abbrev cX12_pass : ByteArray := prog_14_method_120_code
def yX12_pass : MethodName := ⟨RX12, "pass", "(IIII)J"⟩
abbrev cX12_takes_ : ByteArray := prog_14_method_121_code
def yX12_takes_ : MethodName := ⟨RX12, "takes", "(III)I"⟩
abbrev cX12_laysNow : ByteArray := prog_14_method_122_code
def yX12_laysNow : MethodName := ⟨RX12, "laysNow", "()V"⟩
abbrev cX12_isFull : ByteArray := prog_14_method_123_code
def yX12_isFull : MethodName := ⟨RX12, "isFull", "()Z"⟩
abbrev cX12_acts : ByteArray := prog_14_method_124_code
def yX12_acts : MethodName := ⟨RX12, "acts", "(II)V"⟩
abbrev cX12_confess : ByteArray := prog_14_method_125_code
def yX12_confess : MethodName := ⟨RX12, "confess", "(I)I"⟩
abbrev cX12_clear : ByteArray := prog_14_method_126_code
def yX12_clear : MethodName := ⟨RX12, "clear", "(II)I"⟩
abbrev cX12_now : ByteArray := prog_14_method_127_code
def yX12_now : MethodName := ⟨RX12, "now", "(I)I"⟩
abbrev cX12_has : ByteArray := prog_14_method_128_code
def yX12_has : MethodName := ⟨RX12, "has", "(I)I"⟩
abbrev cX12_done : ByteArray := prog_14_method_129_code
def yX12_done : MethodName := ⟨RX12, "done", "()I"⟩
abbrev cX12_sum : ByteArray := prog_14_method_130_code
def yX12_sum : MethodName := ⟨RX12, "sum", "()I"⟩
abbrev cX12_undo : ByteArray := prog_14_method_131_code
def yX12_undo : MethodName := ⟨RX12, "undo", "()I"⟩
abbrev cX12_anew : ByteArray := prog_14_method_132_code
def yX12_anew : MethodName := ⟨RX12, "anew", "()I"⟩
abbrev cX12_draws : ByteArray := prog_14_method_133_code
def yX12_draws : MethodName := ⟨RX12, "draws", "(J)V"⟩
abbrev cX12_isSeed : ByteArray := prog_14_method_134_code
def yX12_isSeed : MethodName := ⟨RX12, "isSeed", "(I)Z"⟩
abbrev cX12_drawn : ByteArray := prog_14_method_135_code
def yX12_drawn : MethodName := ⟨RX12, "drawn", "(II)I"⟩
abbrev cX12_fate : ByteArray := prog_14_method_136_code
def yX12_fate : MethodName := ⟨RX12, "fate", "(II)I"⟩
abbrev cX12_luck : ByteArray := prog_14_method_137_code
def yX12_luck : MethodName := ⟨RX12, "luck", "(III)I"⟩
abbrev cX12_set : ByteArray := prog_14_method_138_code
def yX12_set : MethodName := ⟨RX12, "set", "(II)I"⟩
abbrev cX12_move : ByteArray := prog_14_method_139_code
def yX12_move : MethodName := ⟨RX12, "move", "(II)I"⟩
abbrev cX12_count : ByteArray := prog_14_method_140_code
def yX12_count : MethodName := ⟨RX12, "count", "(I)I"⟩
abbrev cX12_image : ByteArray := prog_14_method_141_code
def yX12_image : MethodName := ⟨RX12, "image", "(I)I"⟩
abbrev cX12_again : ByteArray := prog_14_method_142_code
def yX12_again : MethodName := ⟨RX12, "again", "(I)I"⟩
def RJx145de : String := "java/io/Serializable"
def TJx145de : u_T := fun k => match k with
  | _ => ("", "", "", false)
def tyJx145de : Nat → FieldType := fun k => match k with
  | _ => .int
abbrev wsJx145de0 : List Cond := u_ws RJx145de TJx145de 0
theorem nmJx145de : ∀ a, a < 0 → ∀ b, b < 0 → a ≠ b → (TJx145de a).2.1 ≠ (TJx145de b).2.1 := by decide +kernel
theorem tyJx145de_ok : ∀ k, k < 0 → parseFieldDescriptor (TJx145de k).2.2.1 = some (tyJx145de k) := by decide +kernel
def RJx9f9b0 : String := "java/lang/CharSequence"
def TJx9f9b0 : u_T := fun k => match k with
  | _ => ("", "", "", false)
def tyJx9f9b0 : Nat → FieldType := fun k => match k with
  | _ => .int
abbrev wsJx9f9b00 : List Cond := u_ws RJx9f9b0 TJx9f9b0 0
theorem nmJx9f9b0 : ∀ a, a < 0 → ∀ b, b < 0 → a ≠ b → (TJx9f9b0 a).2.1 ≠ (TJx9f9b0 b).2.1 := by decide +kernel
theorem tyJx9f9b0_ok : ∀ k, k < 0 → parseFieldDescriptor (TJx9f9b0 k).2.2.1 = some (tyJx9f9b0 k) := by decide +kernel
def RJxb160c : String := "java/lang/Comparable"
def TJxb160c : u_T := fun k => match k with
  | _ => ("", "", "", false)
def tyJxb160c : Nat → FieldType := fun k => match k with
  | _ => .int
abbrev wsJxb160c0 : List Cond := u_ws RJxb160c TJxb160c 0
theorem nmJxb160c : ∀ a, a < 0 → ∀ b, b < 0 → a ≠ b → (TJxb160c a).2.1 ≠ (TJxb160c b).2.1 := by decide +kernel
theorem tyJxb160c_ok : ∀ k, k < 0 → parseFieldDescriptor (TJxb160c k).2.2.1 = some (tyJxb160c k) := by decide +kernel
def RJ6 : String := "java/lang/Integer"
def TJ6 : u_T := fun k => match k with
  | _ => ("", "", "", false)
def tyJ6 : Nat → FieldType := fun k => match k with
  | _ => .int
abbrev wsJ60 : List Cond := u_ws RJ6 TJ6 0
theorem nmJ6 : ∀ a, a < 0 → ∀ b, b < 0 → a ≠ b → (TJ6 a).2.1 ≠ (TJ6 b).2.1 := by decide +kernel
theorem tyJ6_ok : ∀ k, k < 0 → parseFieldDescriptor (TJ6 k).2.2.1 = some (tyJ6 k) := by decide +kernel
abbrev cJ6_bitCount_0f7a4 : ByteArray := prog_15_method_49_code
def yJ6_bitCount_0f7a4 : MethodName := ⟨RJ6, "bitCount", "(I)I"⟩
def RJ9 : String := "java/lang/Math"
def TJ9 : u_T := fun k => match k with
  | _ => ("", "", "", false)
def tyJ9 : Nat → FieldType := fun k => match k with
  | _ => .int
abbrev wsJ90 : List Cond := u_ws RJ9 TJ9 0
theorem nmJ9 : ∀ a, a < 0 → ∀ b, b < 0 → a ≠ b → (TJ9 a).2.1 ≠ (TJ9 b).2.1 := by decide +kernel
theorem tyJ9_ok : ∀ k, k < 0 → parseFieldDescriptor (TJ9 k).2.2.1 = some (tyJ9 k) := by decide +kernel
abbrev cJ9_max_7cf53 : ByteArray := prog_16_method_65_code
def yJ9_max_7cf53 : MethodName := ⟨RJ9, "max", "(II)I"⟩
abbrev cJ9_min_7cf53 : ByteArray := prog_16_method_69_code
def yJ9_min_7cf53 : MethodName := ⟨RJ9, "min", "(II)I"⟩
def RJ0 : String := "java/lang/String"
def TJ0 : u_T := fun k => match k with
  | _ => ("", "", "", false)
def tyJ0 : Nat → FieldType := fun k => match k with
  | _ => .int
abbrev wsJ00 : List Cond := u_ws RJ0 TJ0 0
theorem nmJ0 : ∀ a, a < 0 → ∀ b, b < 0 → a ≠ b → (TJ0 a).2.1 ≠ (TJ0 b).2.1 := by decide +kernel
theorem tyJ0_ok : ∀ k, k < 0 → parseFieldDescriptor (TJ0 k).2.2.1 = some (tyJ0 k) := by decide +kernel
abbrev cJ0_length_8abf5 : ByteArray := prog_17_method_54_code
def yJ0_length_8abf5 : MethodName := ⟨RJ0, "length", "()I"⟩
abbrev cJ0_charAt_5068e : ByteArray := prog_17_method_56_code
def yJ0_charAt_5068e : MethodName := ⟨RJ0, "charAt", "(I)C"⟩
abbrev cJ0_coder_7d493 : ByteArray := prog_17_method_152_code
def yJ0_coder_7d493 : MethodName := ⟨RJ0, "coder", "()B"⟩
abbrev cJ0_isLatin1_aae02 : ByteArray := prog_17_method_154_code
def yJ0_isLatin1_aae02 : MethodName := ⟨RJ0, "isLatin1", "()Z"⟩
abbrev cJ0_checkIndex_df160 : ByteArray := prog_17_method_155_code
def yJ0_checkIndex_df160 : MethodName := ⟨RJ0, "checkIndex", "(II)V"⟩
def RJ1 : String := "java/lang/StringLatin1"
def TJ1 : u_T := fun k => match k with
  | _ => ("", "", "", false)
def tyJ1 : Nat → FieldType := fun k => match k with
  | _ => .int
abbrev wsJ10 : List Cond := u_ws RJ1 TJ1 0
theorem nmJ1 : ∀ a, a < 0 → ∀ b, b < 0 → a ≠ b → (TJ1 a).2.1 ≠ (TJ1 b).2.1 := by decide +kernel
theorem tyJ1_ok : ∀ k, k < 0 → parseFieldDescriptor (TJ1 k).2.2.1 = some (tyJ1 k) := by decide +kernel
abbrev cJ1_charAt_3b067 : ByteArray := prog_18_method_2_code
def yJ1_charAt_3b067 : MethodName := ⟨RJ1, "charAt", "([BI)C"⟩
def RJ2 : String := "java/lang/StringUTF16"
def TJ2 : u_T := fun k => match k with
  | _ => ("", "", "", false)
def tyJ2 : Nat → FieldType := fun k => match k with
  | _ => .int
abbrev wsJ20 : List Cond := u_ws RJ2 TJ2 0
theorem nmJ2 : ∀ a, a < 0 → ∀ b, b < 0 → a ≠ b → (TJ2 a).2.1 ≠ (TJ2 b).2.1 := by decide +kernel
theorem tyJ2_ok : ∀ k, k < 0 → parseFieldDescriptor (TJ2 k).2.2.1 = some (tyJ2 k) := by decide +kernel
abbrev cJ2_getChar_3b067 : ByteArray := prog_19_method_5_code
def yJ2_getChar_3b067 : MethodName := ⟨RJ2, "getChar", "([BI)C"⟩
abbrev cJ2_length_9d52b : ByteArray := prog_19_method_6_code
def yJ2_length_9d52b : MethodName := ⟨RJ2, "length", "([B)I"⟩
abbrev cJ2_charAt_3b067 : ByteArray := prog_19_method_83_code
def yJ2_charAt_3b067 : MethodName := ⟨RJ2, "charAt", "([BI)C"⟩
abbrev cJ2_checkIndex_2214a : ByteArray := prog_19_method_91_code
def yJ2_checkIndex_2214a : MethodName := ⟨RJ2, "checkIndex", "(I[B)V"⟩
def RJ10 : String := "java/lang/System"
def TJ10 : u_T := fun k => match k with
  | _ => ("", "", "", false)
def tyJ10 : Nat → FieldType := fun k => match k with
  | _ => .int
abbrev wsJ100 : List Cond := u_ws RJ10 TJ10 0
theorem nmJ10 : ∀ a, a < 0 → ∀ b, b < 0 → a ≠ b → (TJ10 a).2.1 ≠ (TJ10 b).2.1 := by decide +kernel
theorem tyJ10_ok : ∀ k, k < 0 → parseFieldDescriptor (TJ10 k).2.2.1 = some (tyJ10 k) := by decide +kernel
def RJxfd54e : String := "java/lang/constant/Constable"
def TJxfd54e : u_T := fun k => match k with
  | _ => ("", "", "", false)
def tyJxfd54e : Nat → FieldType := fun k => match k with
  | _ => .int
abbrev wsJxfd54e0 : List Cond := u_ws RJxfd54e TJxfd54e 0
theorem nmJxfd54e : ∀ a, a < 0 → ∀ b, b < 0 → a ≠ b → (TJxfd54e a).2.1 ≠ (TJxfd54e b).2.1 := by decide +kernel
theorem tyJxfd54e_ok : ∀ k, k < 0 → parseFieldDescriptor (TJxfd54e k).2.2.1 = some (tyJxfd54e k) := by decide +kernel
def RJx3cf43 : String := "java/lang/constant/ConstantDesc"
def TJx3cf43 : u_T := fun k => match k with
  | _ => ("", "", "", false)
def tyJx3cf43 : Nat → FieldType := fun k => match k with
  | _ => .int
abbrev wsJx3cf430 : List Cond := u_ws RJx3cf43 TJx3cf43 0
theorem nmJx3cf43 : ∀ a, a < 0 → ∀ b, b < 0 → a ≠ b → (TJx3cf43 a).2.1 ≠ (TJx3cf43 b).2.1 := by decide +kernel
theorem tyJx3cf43_ok : ∀ k, k < 0 → parseFieldDescriptor (TJx3cf43 k).2.2.1 = some (tyJx3cf43 k) := by decide +kernel
def RJ7 : String := "java/util/Arrays"
def TJ7 : u_T := fun k => match k with
  | _ => ("", "", "", false)
def tyJ7 : Nat → FieldType := fun k => match k with
  | _ => .int
abbrev wsJ70 : List Cond := u_ws RJ7 TJ7 0
theorem nmJ7 : ∀ a, a < 0 → ∀ b, b < 0 → a ≠ b → (TJ7 a).2.1 ≠ (TJ7 b).2.1 := by decide +kernel
theorem tyJ7_ok : ∀ k, k < 0 → parseFieldDescriptor (TJ7 k).2.2.1 = some (tyJ7 k) := by decide +kernel
abbrev cJ7_fill_d0a16 : ByteArray := prog_21_method_101_code
def yJ7_fill_d0a16 : MethodName := ⟨RJ7, "fill", "([JJ)V"⟩
abbrev cJ7_fill_53178 : ByteArray := prog_21_method_103_code
def yJ7_fill_53178 : MethodName := ⟨RJ7, "fill", "([II)V"⟩
def RJ3 : String := "jdk/internal/util/Preconditions"
def TJ3 : u_T := fun k => match k with
  | _ => ("", "", "", false)
def tyJ3 : Nat → FieldType := fun k => match k with
  | _ => .int
abbrev wsJ30 : List Cond := u_ws RJ3 TJ3 0
theorem nmJ3 : ∀ a, a < 0 → ∀ b, b < 0 → a ≠ b → (TJ3 a).2.1 ≠ (TJ3 b).2.1 := by decide +kernel
theorem tyJ3_ok : ∀ k, k < 0 → parseFieldDescriptor (TJ3 k).2.2.1 = some (tyJ3 k) := by decide +kernel
abbrev cJ3_checkIndex_8e157 : ByteArray := prog_22_method_11_code
def yJ3_checkIndex_8e157 : MethodName := ⟨RJ3, "checkIndex", "(IILjava/util/function/BiFunction;)I"⟩
def RL : String := "PassedPenanceLaw"
abbrev cL_law : ByteArray := code
def yL_law : MethodName := ⟨RL, "law", "([I)Z"⟩
abbrev vwCl : List vw_C := [(RX0, TX0, 6), (RX1, TX1, 6), (RX2, TX2, 13), (RX3, TX3, 3), (RX4, TX4, 2), (RX5, TX5, 2), (RX6, TX6, 6), (RX7, TX7, 9), (RX8, TX8, 3), (RX9, TX9, 6), (RX10, TX10, 7), (RX11, TX11, 13), (RX12, TX12, 42)]
/-- the tables' words that stay -/
def xv_tb : List Cond := lw_tbl.filter goodWord
theorem xv_tbm {w : Cond} (h : w ∈ lw_tbl) (hg : goodWord w = true) : w ∈ xv_tb := List.mem_filter.mpr ⟨h, hg⟩
theorem xv_memp {ws : List Cond} (ps : List Nat) (hp : ws = ps.filterMap (fun i => lw_tbl[i]?)) (hg : ws.all goodWord = true) : ∀ w ∈ ws, w ∈ xv_tb := by
  intro w hw
  have h1 := List.all_eq_true.mp hg w hw
  rw [hp] at hw
  obtain ⟨i, -, hi⟩ := List.mem_filterMap.mp hw
  exact xv_tbm (List.mem_of_getElem? hi) h1
theorem xv_in0 : ∀ w ∈ u_ws RX0 TX0 6, w ∈ xv_tb := xv_memp [272, 274, 276, 278, 280, 282] (by decide +kernel) (by decide +kernel)
theorem xv_ia0 : Cond.instantiable RX0 6 ∈ xv_tb := xv_tbm (List.mem_of_getElem? (i := 257) (by decide +kernel)) (by decide +kernel)
theorem xv_it0 : Cond.initialized RX0 ∈ xv_tb := xv_tbm (List.mem_of_getElem? (i := 103) (by decide +kernel)) (by decide +kernel)
theorem xv_in1 : ∀ w ∈ u_ws RX1 TX1 6, w ∈ xv_tb := xv_memp [335, 337, 339, 341, 343, 345] (by decide +kernel) (by decide +kernel)
theorem xv_ia1 : Cond.instantiable RX1 6 ∈ xv_tb := xv_tbm (List.mem_of_getElem? (i := 314) (by decide +kernel)) (by decide +kernel)
theorem xv_it1 : Cond.initialized RX1 ∈ xv_tb := xv_tbm (List.mem_of_getElem? (i := 106) (by decide +kernel)) (by decide +kernel)
theorem xv_in2 : ∀ w ∈ u_ws RX2 TX2 13, w ∈ xv_tb := xv_memp [194, 196, 198, 200, 202, 204, 206, 208, 210, 212, 214, 216, 218] (by decide +kernel) (by decide +kernel)
theorem xv_ia2 : Cond.instantiable RX2 13 ∈ xv_tb := xv_tbm (List.mem_of_getElem? (i := 136) (by decide +kernel)) (by decide +kernel)
theorem xv_it2 : Cond.initialized RX2 ∈ xv_tb := xv_tbm (List.mem_of_getElem? (i := 102) (by decide +kernel)) (by decide +kernel)
theorem xv_in3 : ∀ w ∈ u_ws RX3 TX3 3, w ∈ xv_tb := xv_memp [445, 447, 449] (by decide +kernel) (by decide +kernel)
theorem xv_ia3 : Cond.instantiable RX3 3 ∈ xv_tb := xv_tbm (List.mem_of_getElem? (i := 436) (by decide +kernel)) (by decide +kernel)
theorem xv_it3 : Cond.initialized RX3 ∈ xv_tb := xv_tbm (List.mem_of_getElem? (i := 110) (by decide +kernel)) (by decide +kernel)
theorem xv_in4 : ∀ w ∈ u_ws RX4 TX4 2, w ∈ xv_tb := xv_memp [1300, 1302] (by decide +kernel) (by decide +kernel)
theorem xv_ia4 : Cond.instantiable RX4 2 ∈ xv_tb := xv_tbm (List.mem_of_getElem? (i := 1287) (by decide +kernel)) (by decide +kernel)
theorem xv_it4 : Cond.initialized RX4 ∈ xv_tb := xv_tbm (List.mem_of_getElem? (i := 120) (by decide +kernel)) (by decide +kernel)
theorem xv_in5 : ∀ w ∈ u_ws RX5 TX5 2, w ∈ xv_tb := xv_memp [462, 464] (by decide +kernel) (by decide +kernel)
theorem xv_ia5 : Cond.instantiable RX5 2 ∈ xv_tb := xv_tbm (List.mem_of_getElem? (i := 453) (by decide +kernel)) (by decide +kernel)
theorem xv_it5 : Cond.initialized RX5 ∈ xv_tb := xv_tbm (List.mem_of_getElem? (i := 111) (by decide +kernel)) (by decide +kernel)
theorem xv_in6 : ∀ w ∈ u_ws RX6 TX6 6, w ∈ xv_tb := xv_memp [365, 367, 369, 371, 373, 375] (by decide +kernel) (by decide +kernel)
theorem xv_ia6 : Cond.instantiable RX6 6 ∈ xv_tb := xv_tbm (List.mem_of_getElem? (i := 349) (by decide +kernel)) (by decide +kernel)
theorem xv_it6 : Cond.initialized RX6 ∈ xv_tb := xv_tbm (List.mem_of_getElem? (i := 107) (by decide +kernel)) (by decide +kernel)
theorem xv_in7 : ∀ w ∈ u_ws RX7 TX7 9, w ∈ xv_tb := xv_memp [235, 237, 239, 241, 243, 245, 247, 249, 251] (by decide +kernel) (by decide +kernel)
theorem xv_ia7 : Cond.instantiable RX7 9 ∈ xv_tb := xv_tbm (List.mem_of_getElem? (i := 130) (by decide +kernel)) (by decide +kernel)
theorem xv_it7 : Cond.initialized RX7 ∈ xv_tb := xv_tbm (List.mem_of_getElem? (i := 101) (by decide +kernel)) (by decide +kernel)
theorem xv_in8 : ∀ w ∈ u_ws RX8 TX8 3, w ∈ xv_tb := xv_memp [305, 307, 309] (by decide +kernel) (by decide +kernel)
theorem xv_ia8 : Cond.instantiable RX8 3 ∈ xv_tb := xv_tbm (List.mem_of_getElem? (i := 286) (by decide +kernel)) (by decide +kernel)
theorem xv_it8 : Cond.initialized RX8 ∈ xv_tb := xv_tbm (List.mem_of_getElem? (i := 104) (by decide +kernel)) (by decide +kernel)
theorem xv_in9 : ∀ w ∈ u_ws RX9 TX9 6, w ∈ xv_tb := xv_memp [392, 394, 396, 398, 400, 402] (by decide +kernel) (by decide +kernel)
theorem xv_ia9 : Cond.instantiable RX9 6 ∈ xv_tb := xv_tbm (List.mem_of_getElem? (i := 379) (by decide +kernel)) (by decide +kernel)
theorem xv_it9 : Cond.initialized RX9 ∈ xv_tb := xv_tbm (List.mem_of_getElem? (i := 108) (by decide +kernel)) (by decide +kernel)
theorem xv_in10 : ∀ w ∈ u_ws RX10 TX10 7, w ∈ xv_tb := xv_memp [420, 422, 424, 426, 428, 430, 432] (by decide +kernel) (by decide +kernel)
theorem xv_ia10 : Cond.instantiable RX10 7 ∈ xv_tb := xv_tbm (List.mem_of_getElem? (i := 406) (by decide +kernel)) (by decide +kernel)
theorem xv_it10 : Cond.initialized RX10 ∈ xv_tb := xv_tbm (List.mem_of_getElem? (i := 109) (by decide +kernel)) (by decide +kernel)
theorem xv_in11 : ∀ w ∈ u_ws RX11 TX11 13, w ∈ xv_tb := xv_memp [482, 484, 486, 488, 490, 492, 494, 496, 498, 500, 502, 504, 506] (by decide +kernel) (by decide +kernel)
theorem xv_ia11 : Cond.instantiable RX11 13 ∈ xv_tb := xv_tbm (List.mem_of_getElem? (i := 122) (by decide +kernel)) (by decide +kernel)
theorem xv_it11 : Cond.initialized RX11 ∈ xv_tb := xv_tbm (List.mem_of_getElem? (i := 100) (by decide +kernel)) (by decide +kernel)
theorem xv_in12 : ∀ w ∈ u_ws RX12 TX12 42, w ∈ xv_tb := xv_memp [1392, 1394, 1396, 1398, 1400, 1402, 1404, 1406, 1408, 1410, 1412, 1414, 1416, 1418, 1420, 1422, 1424, 1426, 1428, 1430, 1432, 1434, 1436, 1438, 1440, 1442, 1444, 1446, 1448, 1450, 1452, 1454, 1456, 1458, 1460, 1462, 1464, 1466, 1468, 1470, 1472, 1474] (by decide +kernel) (by decide +kernel)
theorem xv_ia12 : Cond.instantiable RX12 42 ∈ xv_tb := xv_tbm (List.mem_of_getElem? (i := 1345) (by decide +kernel)) (by decide +kernel)
theorem xv_it12 : Cond.initialized RX12 ∈ xv_tb := xv_tbm (List.mem_of_getElem? (i := 112) (by decide +kernel)) (by decide +kernel)
/-- the links to a nest mate -/
def xv_nest : List (String × Nat × MethodName × String) := [("PassedPenance", 11, ⟨"PassedPenance$Reader", "<init>", "()V"⟩, "PassedPenance"), ("PassedPenance$Reader", 11, ⟨"PassedPenance$Church", "<init>", "()V"⟩, "PassedPenance"), ("PassedPenance", 18, ⟨"PassedPenance$Church", "<init>", "()V"⟩, "PassedPenance"), ("PassedPenance", 28, ⟨"PassedPenance$Acts", "<init>", "()V"⟩, "PassedPenance"), ("PassedPenance", 67, ⟨"PassedPenance$Swaps", "<init>", "()V"⟩, "PassedPenance"), ("PassedPenance", 81, ⟨"PassedPenance$Mean", "<init>", "()V"⟩, "PassedPenance"), ("PassedPenance", 394, ⟨"PassedPenance$Image", "<init>", "()V"⟩, "PassedPenance"), ("PassedPenance$Image", 9, ⟨"PassedPenance$Church", "<init>", "()V"⟩, "PassedPenance"), ("PassedPenance$Image", 18, ⟨"PassedPenance$Acts", "<init>", "()V"⟩, "PassedPenance")]
theorem xv_nest_in : ∀ q ∈ xv_nest, Cond.methodLinkNest q.1 q.2.1 q.2.2.1 q.2.2.2 ∈ lw_tbl := by
  have h : xv_nest.map (fun q => Cond.methodLinkNest q.1 q.2.1 q.2.2.1 q.2.2.2) = [131, 137, 255, 258, 407, 454, 1288, 1293, 1295].filterMap (fun i => lw_tbl[i]?) := by decide +kernel
  intro q hq
  have hm := List.mem_map_of_mem (f := fun q : String × Nat × MethodName × String => Cond.methodLinkNest q.1 q.2.1 q.2.2.1 q.2.2.2) hq
  rw [h] at hm
  obtain ⟨i, -, hi⟩ := List.mem_filterMap.mp hm
  exact List.mem_of_getElem? hi
theorem xv_ao_in : Cond.arrayOver (.object "PassedPenance$Image") ∈ lw_tbl ∧ Cond.arrayOver (.array .int) ∈ lw_tbl ∧ Cond.arrayOver (.array .long) ∈ lw_tbl := ⟨List.mem_of_getElem? (i := 468) (by decide +kernel), List.mem_of_getElem? (i := 142) (by decide +kernel), List.mem_of_getElem? (i := 292) (by decide +kernel)⟩
end
section
/-! THE EXECUTOR: numbers are intervals, cells are lists of them; all is a list or a pair, so that the kernel can run it.
A value (k, lo, hi): k 0 an int in lo .. hi, 1 a long, 2 the cell number lo, 3 null, 5 the script, 9 nothing is known. -/
abbrev xv_V : Type := Nat × Int × Int
/-- a cell (k, c, w, els): k 0 an object of class number c; k 1 int, 2 byte, 3 boolean, 4 long, 5 int[], 6 long[], 7 Image: a row of c; place i has els (i % w); k 99: no cell -/
abbrev xv_C : Type := Nat × Nat × Nat × List (List xv_V)
abbrev xv_A : Type := List (List xv_C)
/-- an instruction: its place, itself, its length, three numbers that say what it links to, a constant -/
abbrev xv_E : Type := Nat × Instr × Nat × Nat × Nat × Nat × Int
/-- an end: stack, locals, cells, how many, how many new, their slots -/
abbrev xv_R : Type := List xv_V × List xv_V × xv_A × Nat × Nat × Nat
noncomputable def xv_nth {α : Type} (l : List α) : Nat → Option α := List.rec (motive := fun _ => Nat → Option α) (fun _ => none) (fun a _ ih n => Nat.rec (motive := fun _ => Option α) (some a) (fun k _ => ih k) n) l
noncomputable def xv_put {α : Type} (v : α) (l : List α) : Nat → List α := List.rec (motive := fun _ => Nat → List α) (fun _ => []) (fun a t ih n => Nat.rec (motive := fun _ => List α) (v :: t) (fun k _ => a :: ih k) n) l
noncomputable def xv_get {α : Type} (R : Nat) (ll : List (List α)) (i : Nat) : Option α := match xv_nth ll (i / R) with
  | some l => xv_nth l (i % R)
  | none => none
noncomputable def xv_upd {α : Type} (R : Nat) (ll : List (List α)) (i : Nat) (v : α) : List (List α) := match xv_nth ll (i / R) with
  | some l => xv_put (xv_put v l (i % R)) ll (i / R)
  | none => ll
def xv_le (a b : Int) : Bool := match b - a with
  | .ofNat _ => true
  | .negSucc _ => false
def xv_int (lo hi : Int) : xv_V := bif xv_le (-2147483648) lo && xv_le hi 2147483647 then (0, lo, hi) else (0, -2147483648, 2147483647)
def xv_lng (lo hi : Int) : xv_V := bif xv_le (-9223372036854775808) lo && xv_le hi 9223372036854775807 then (1, lo, hi) else (1, -9223372036854775808, 9223372036854775807)
def xv_ti : xv_V := (0, -2147483648, 2147483647)
def xv_tl : xv_V := (1, -9223372036854775808, 9223372036854775807)
def xv_add (x y : xv_V) : xv_V := xv_int (x.2.1 + y.2.1) (x.2.2 + y.2.2)
def xv_sub (x y : xv_V) : xv_V := xv_int (x.2.1 - y.2.2) (x.2.2 - y.2.1)
def xv_mul (x y : xv_V) : xv_V := bif xv_le 0 x.2.1 && xv_le 0 y.2.1 then xv_int (x.2.1 * y.2.1) (x.2.2 * y.2.2) else xv_ti
def xv_and (_ y : xv_V) : xv_V := bif xv_le 0 y.2.1 then (0, 0, y.2.2) else xv_ti
def xv_lsub (x y : xv_V) : xv_V := xv_lng (x.2.1 - y.2.2) (x.2.2 - y.2.1)
def xv_cmpl (x y : xv_V) : xv_V := (0, bif xv_le (y.2.2 + 1) x.2.1 then 1 else bif xv_le y.2.2 x.2.1 then 0 else -1, bif xv_le (x.2.2 + 1) y.2.1 then -1 else bif xv_le x.2.2 y.2.1 then 0 else 1)
def xv_two (k : Nat) (st : List xv_V) (f : xv_V → xv_V → xv_V) : Option (List xv_V) := match st with
  | y :: x :: r => bif Nat.beq x.1 k && Nat.beq y.1 k then some (f x y :: r) else none
  | _ => none
def xv_one (k : Nat) (st : List xv_V) (f : xv_V → xv_V) : Option (List xv_V) := match st with
  | x :: r => bif Nat.beq x.1 k then some (f x :: r) else none
  | _ => none
def xv_lt3 (x y : xv_V) : Option Bool := bif xv_le (x.2.2 + 1) y.2.1 then some true else bif xv_le y.2.2 x.2.1 then some false else none
def xv_eq3 (x y : xv_V) : Option Bool := bif xv_le (x.2.2 + 1) y.2.1 then some false else bif xv_le (y.2.2 + 1) x.2.1 then some false else bif xv_le x.2.2 y.2.1 && xv_le y.2.2 x.2.1 then some true else none
def xv_not : Option Bool → Option Bool
  | some b => some (!b)
  | none => none
def xv_cond (c : ClassFile.Cond) (x y : xv_V) : Option Bool := match c with
  | .eq => xv_eq3 x y
  | .ne => xv_not (xv_eq3 x y)
  | .lt => xv_lt3 x y
  | .ge => xv_not (xv_lt3 x y)
  | .gt => xv_lt3 y x
  | .le => xv_not (xv_lt3 y x)
/-- a local is read: k the kind wanted -/
noncomputable def xv_ld (k : Nat) (L : List xv_V) (i : Nat) : Option xv_V := match xv_nth L i with
  | some v => bif Nat.beq v.1 k then some v else none
  | none => none
def xv_un : xv_V := (9, 0, 0)
noncomputable def xv_cl1 (L : List xv_V) (i : Nat) : List xv_V := match i with
  | 0 => L
  | j + 1 => match xv_nth L j with
    | some v => bif Nat.beq v.1 1 then xv_put xv_un L j else L
    | none => L
noncomputable def xv_st1 (L : List xv_V) (i : Nat) (v : xv_V) : List xv_V := xv_put v (xv_cl1 L i) i
noncomputable def xv_st2 (L : List xv_V) (i : Nat) (v : xv_V) : List xv_V := xv_put xv_un (xv_put v (xv_cl1 L i) i) (i + 1)
def xv_isOne (x : xv_V) : Bool := xv_le x.2.2 x.2.1 && xv_le 0 x.2.1
/-- cells of w times the same value -/
def xv_rep {α : Type} (n : Nat) (v : α) : List α := Nat.rec (motive := fun _ => List α) [] (fun _ l => v :: l) n
def xv_reps {α : Type} (n : Nat) (v : α) : List (List α) := Nat.rec (motive := fun _ => List (List α)) [xv_rep (n % 8) v] (fun _ l => xv_rep 8 v :: l) (n / 8)
def xv_row (k n : Nat) (v : xv_V) : xv_C := bif Nat.ble n 64 then (k, n, n, xv_reps n v) else (k, n, 1, [[v]])
noncomputable def xv_read (c : xv_C) (i : xv_V) : Option xv_V := bif xv_isOne i && Nat.ble (i.2.1.toNat + 1) c.2.1 then xv_get 8 c.2.2.2 (i.2.1.toNat % c.2.2.1) else none
def xv_join (x y : xv_V) : xv_V := (x.1, bif xv_le x.2.1 y.2.1 then x.2.1 else y.2.1, bif xv_le x.2.2 y.2.2 then y.2.2 else x.2.2)
noncomputable def xv_write (c : xv_C) (i v : xv_V) : Option xv_C := bif xv_isOne i && Nat.ble (i.2.1.toNat + 1) c.2.1 then
    (bif Nat.beq c.2.1 c.2.2.1 then some (c.1, c.2.1, c.2.2.1, xv_upd 8 c.2.2.2 i.2.1.toNat v) else
      match xv_get 8 c.2.2.2 (i.2.1.toNat % c.2.2.1) with
      | some u => bif Nat.beq u.1 v.1 && Nat.ble v.1 1 then some (c.1, c.2.1, c.2.2.1, xv_upd 8 c.2.2.2 (i.2.1.toNat % c.2.2.1) (xv_join u v)) else none
      | none => none) else none
/-- k numbers off the stack, the first of them deepest -/
noncomputable def xv_take (k : Nat) : List xv_V → List xv_V → Option (List xv_V × List xv_V) := Nat.rec (motive := fun _ => List xv_V → List xv_V → Option (List xv_V × List xv_V)) (fun acc st => some (acc, st)) (fun _ ih acc st => match st with
  | v :: r => ih (v :: acc) r
  | [] => none) k
def xv_cat (v : xv_V) : Nat := bif Nat.beq v.1 1 then 2 else bif Nat.ble v.1 3 || Nat.beq v.1 5 then 1 else 100
noncomputable def xv_cats (st : List xv_V) : Nat := List.rec (motive := fun _ => Nat) 0 (fun v _ n => xv_cat v + n) st
noncomputable def xv_ats (c d : xv_C) (n : Nat) : Bool := Nat.rec (motive := fun _ => Bool) true (fun j b => b && match xv_get 8 c.2.2.2 j, xv_get 8 d.2.2.2 j with
  | some _, some _ => true
  | _, _ => false) n
/-- the rows of a row of rows: n of them, from cell q on -/
noncomputable def xv_refs (q n : Nat) : List xv_V := Nat.rec (motive := fun _ => Nat → List xv_V) (fun _ => []) (fun _ ih q => (2, Int.ofNat q, 0) :: ih (q + 1)) n q
noncomputable def xv_fills (h : xv_A) (c : xv_C) (n : Nat) : Nat → xv_A := Nat.rec (motive := fun _ => xv_A → Nat → xv_A) (fun h _ => h) (fun _ ih h q => ih (xv_upd 14 h q c) (q + 1)) n h
/-- a new object: how many fields its class has, and what they are at first -/
def xv_news : List (Nat × List (List xv_V)) := [(6, [[(0, 0, 0), (0, 0, 0), (3, 0, 0), (3, 0, 0), (3, 0, 0), (3, 0, 0)]]), (6, [[(3, 0, 0), (0, 0, 0), (0, 0, 0), (3, 0, 0), (3, 0, 0), (3, 0, 0)]]), (13, [[(0, 0, 0), (0, 0, 0), (0, 0, 0), (0, 0, 0), (0, 0, 0), (0, 0, 0), (3, 0, 0), (3, 0, 0)], [(3, 0, 0), (3, 0, 0), (3, 0, 0), (3, 0, 0), (3, 0, 0)]]), (3, [[(3, 0, 0), (3, 0, 0), (3, 0, 0)]]), (2, [[(3, 0, 0), (3, 0, 0)]]), (2, [[(1, 0, 0), (1, 0, 0)]]), (6, [[(3, 0, 0), (3, 0, 0), (3, 0, 0), (3, 0, 0), (3, 0, 0), (3, 0, 0)]]), (9, [[(3, 0, 0), (0, 0, 0), (0, 0, 0), (0, 0, 0), (3, 0, 0), (0, 0, 0), (0, 0, 0), (0, 0, 0)], [(0, 0, 0)]]), (3, [[(3, 0, 0), (3, 0, 0), (3, 0, 0)]]), (6, [[(3, 0, 0), (0, 0, 0), (3, 0, 0), (3, 0, 0), (3, 0, 0), (3, 0, 0)]]), (7, [[(0, 0, 0), (0, 0, 0), (0, 0, 0), (3, 0, 0), (3, 0, 0), (3, 0, 0), (3, 0, 0)]]), (13, [[(3, 0, 0), (3, 0, 0), (3, 0, 0), (3, 0, 0), (3, 0, 0), (3, 0, 0), (3, 0, 0), (3, 0, 0)], [(3, 0, 0), (3, 0, 0), (3, 0, 0), (3, 0, 0), (3, 0, 0)]]), (42, [[(0, 0, 0), (3, 0, 0), (3, 0, 0), (3, 0, 0), (3, 0, 0), (3, 0, 0), (0, 0, 0), (0, 0, 0)], [(0, 0, 0), (0, 0, 0), (0, 0, 0), (1, 0, 0), (0, 0, 0), (0, 0, 0), (0, 0, 0), (0, 0, 0)], [(3, 0, 0), (3, 0, 0), (3, 0, 0), (3, 0, 0), (3, 0, 0), (3, 0, 0), (3, 0, 0), (3, 0, 0)], [(0, 0, 0), (0, 0, 0), (3, 0, 0), (3, 0, 0), (3, 0, 0), (3, 0, 0), (0, 0, 0), (3, 0, 0)], [(3, 0, 0), (3, 0, 0), (3, 0, 0), (3, 0, 0), (0, 0, 0), (0, 0, 0), (0, 0, 0), (1, 0, 0)], [(3, 0, 0), (3, 0, 0)]])]
abbrev xv_S : Type := xv_A × Nat × Nat × Nat
abbrev xv_K : Type := Nat → List xv_V → List xv_V → xv_S → Option xv_R
/-- a copy of n places, from sp on of one row to dp on of another -/
noncomputable def xv_copy (e : List (List xv_V)) (sp dp n : Nat) : List (List xv_V) → Option (List (List xv_V)) := Nat.rec (motive := fun _ => List (List xv_V) → Option (List (List xv_V))) (fun g => some g) (fun j ih g => match xv_get 8 e (sp + j) with
  | some v => ih (xv_upd 8 g (dp + j) v)
  | none => none) n
def xv_tgt (pc : Nat) (off : Int) : Nat := (Int.ofNat pc + off).toNat
noncomputable def xv_br (k : xv_K) (o : Option Bool) (pc : Nat) (off : Int) (L st : List xv_V) (s : xv_S) : Option xv_R := bif xv_le 0 (Int.ofNat pc + off) then (match o with
  | some true => k (xv_tgt pc off) L st s
  | some false => k (pc + 3) L st s
  | none => none) else none
noncomputable def xv_cell (h : xv_A) (o : xv_V) : Option xv_C := bif Nat.beq o.1 2 && xv_le 0 o.2.1 then xv_get 14 h o.2.1.toNat else none
noncomputable def xv_go (k : xv_K) (pc : Nat) (L : List xv_V) (s : xv_S) (o : Option (List xv_V)) : Option xv_R := match o with
  | some st => k pc L st s
  | none => none
noncomputable def xv_ldk (k : xv_K) (pc : Nat) (L st : List xv_V) (s : xv_S) (o : Option xv_V) : Option xv_R := match o with
  | some v => k pc L (v :: st) s
  | none => none
noncomputable def xv_lda (L : List xv_V) (i : Nat) : Option xv_V := match xv_nth L i with
  | some v => bif Nat.beq v.1 2 || (Nat.beq v.1 3 || Nat.beq v.1 5) then some v else none
  | none => none
noncomputable def xv_sto (k : xv_K) (kd pc i : Nat) (L st : List xv_V) (s : xv_S) : Option xv_R := match st with
  | v :: r => bif Nat.beq v.1 kd && Nat.ble (i + 1) L.length then k pc (xv_st1 L i v) r s else none
  | [] => none
noncomputable def xv_stoa (k : xv_K) (pc i : Nat) (L st : List xv_V) (s : xv_S) : Option xv_R := match st with
  | v :: r => bif (Nat.beq v.1 2 || Nat.beq v.1 3) && Nat.ble (i + 1) L.length then k pc (xv_st1 L i v) r s else none
  | [] => none
noncomputable def xv_stol (k : xv_K) (pc i : Nat) (L st : List xv_V) (s : xv_S) : Option xv_R := match st with
  | v :: r => bif Nat.beq v.1 1 && Nat.ble (i + 2) L.length then k pc (xv_st2 L i v) r s else none
  | [] => none
/-- a row's place is read: kd the kind of row -/
noncomputable def xv_ald (k : xv_K) (kd pc : Nat) (L st : List xv_V) (s : xv_S) : Option xv_R := match st with
  | i :: o :: r => (match xv_cell s.1 o with
    | some c => bif Nat.beq i.1 0 && Nat.beq c.1 kd then xv_ldk k pc L r s (xv_read c i) else none
    | none => none)
  | _ => none
noncomputable def xv_ast (k : xv_K) (kd pc : Nat) (L st : List xv_V) (s : xv_S) (ok : xv_V → Bool) : Option xv_R := match st with
  | v :: i :: o :: r => (match xv_cell s.1 o with
    | some c => bif Nat.beq i.1 0 && Nat.beq c.1 kd && ok v then (match xv_write c i v with
      | some c' => k pc L r (xv_upd 14 s.1 o.2.1.toNat c', s.2)
      | none => none) else none
    | none => none)
  | _ => none
noncomputable def xv_ret (st : List xv_V) (L : List xv_V) (s : xv_S) : Option xv_R := some (st, L, s.1, s.2.1, s.2.2.1, s.2.2.2)
noncomputable def xv_call (k : xv_K) (call : Nat → List xv_V → xv_A → Nat → Option xv_R) (id pc : Nat) (args L rest : List xv_V) (s : xv_S) : Option xv_R :=
  bif Nat.ble (xv_cats rest) 8 then (match call id args s.1 s.2.1 with
    | some r => k pc L (r.1 ++ rest) (r.2.2.1, r.2.2.2.1, s.2.2.1 + r.2.2.2.2.1, s.2.2.2 + r.2.2.2.2.2)
    | none => none) else none
noncomputable def xv_step (call : Nat → List xv_V → xv_A → Nat → Option xv_R) (scr : List xv_V) (k : xv_K) (ins : Instr) (a b : Nat) (v : Int) (pc : Nat) (L st : List xv_V) (s : xv_S) : Option xv_R :=
  match ins with
  | .iconst i => k (pc + 1) L (xv_int i i :: st) s
  | .bipush i => bif xv_le (-128) i && xv_le i 127 then k (pc + 2) L ((0, i, i) :: st) s else none
  | .sipush i => bif xv_le (-32768) i && xv_le i 32767 then k (pc + 3) L ((0, i, i) :: st) s else none
  | .lconst i => k (pc + 1) L ((1, Int.ofNat i.val, Int.ofNat i.val) :: st) s
  | .iload i => xv_ldk k (pc + 2) L st s (xv_ld 0 L i)
  | .iload_n i => xv_ldk k (pc + 1) L st s (xv_ld 0 L i.val)
  | .lload i => xv_ldk k (pc + 2) L st s (xv_ld 1 L i)
  | .lload_n i => xv_ldk k (pc + 1) L st s (xv_ld 1 L i.val)
  | .aload_n i => xv_ldk k (pc + 1) L st s (xv_lda L i.val)
  | .istore i => xv_sto k 0 (pc + 2) i L st s
  | .istore_n i => xv_sto k 0 (pc + 1) i.val L st s
  | .astore_n i => xv_stoa k (pc + 1) i.val L st s
  | .iinc i c => (match xv_ld 0 L i with
    | some x => k (pc + 3) (xv_st1 L i (xv_int (x.2.1 + c) (x.2.2 + c))) st s
    | none => none)
  | .iadd => xv_go k (pc + 1) L s (xv_two 0 st xv_add)
  | .isub => xv_go k (pc + 1) L s (xv_two 0 st xv_sub)
  | .imul => xv_go k (pc + 1) L s (xv_two 0 st xv_mul)
  | .iand => xv_go k (pc + 1) L s (xv_two 0 st xv_and)
  | .iushr => xv_go k (pc + 1) L s (xv_two 0 st (fun _ _ => xv_ti))
  | .ishr => xv_go k (pc + 1) L s (xv_two 0 st (fun _ _ => xv_ti))
  | .lsub => xv_go k (pc + 1) L s (xv_two 1 st xv_lsub)
  | .land => xv_go k (pc + 1) L s (xv_two 1 st (fun _ _ => xv_tl))
  | .lor => xv_go k (pc + 1) L s (xv_two 1 st (fun _ _ => xv_tl))
  | .lshl => (match st with
    | y :: x :: r => bif Nat.beq y.1 0 && Nat.beq x.1 1 then k (pc + 1) L (xv_tl :: r) s else none
    | _ => none)
  | .lcmp => xv_go k (pc + 1) L s (xv_two 1 st xv_cmpl)
  | .i2l => xv_go k (pc + 1) L s (xv_one 0 st (fun x => (1, x.2.1, x.2.2)))
  | .i2b => xv_go k (pc + 1) L s (xv_one 0 st (fun _ => (0, -128, 127)))
  | .dup => (match st with
    | x :: r => bif Nat.beq x.1 0 || (Nat.beq x.1 2 || Nat.beq x.1 5) then k (pc + 1) L (x :: x :: r) s else none
    | _ => none)
  | .goto off => bif xv_le 0 (Int.ofNat pc + off) then k (xv_tgt pc off) L st s else none
  | .ifCond c off => (match st with
    | x :: r => bif Nat.beq x.1 0 then xv_br k (xv_cond c x (0, 0, 0)) pc off L r s else none
    | _ => none)
  | .if_icmp c off => (match st with
    | y :: x :: r => bif Nat.beq x.1 0 && Nat.beq y.1 0 then xv_br k (xv_cond c x y) pc off L r s else none
    | _ => none)
  | .ifnonnull off => (match st with
    | x :: r => bif Nat.beq x.1 3 then k (pc + 3) L r s else bif Nat.beq x.1 2 && xv_le 0 (Int.ofNat pc + off) then k (xv_tgt pc off) L r s else none
    | _ => none)
  | .tableswitch d lo hi offs => (match st with
    | x :: r => bif Nat.beq x.1 0 then
        (bif xv_le (x.2.2 + 1) lo || xv_le (hi + 1) x.2.1 then (bif xv_le 0 (Int.ofNat pc + d) then k (xv_tgt pc d) L r s else none)
        else bif xv_le lo x.2.1 && (xv_le x.2.2 hi && xv_le x.2.2 x.2.1) then (match xv_nth offs.toList (x.2.1 - lo).toNat with
          | some off => bif xv_le 0 (Int.ofNat pc + off) then k (xv_tgt pc off) L r s else none
          | none => none) else none) else none
    | _ => none)
  | .ldc_w _ => k (pc + 3) L (xv_int v v :: st) s
  | .ldc2_w _ => k (pc + 3) L (xv_lng v v :: st) s
  | .getfield _ => (match st with
    | o :: r => (match xv_cell s.1 o with
      | some c => bif Nat.beq c.1 0 && Nat.beq c.2.1 a then xv_ldk k (pc + 3) L r s (xv_get 8 c.2.2.2 b) else none
      | none => none)
    | _ => none)
  | .putfield _ => (match st with
    | x :: o :: r => (match xv_cell s.1 o with
      | some c => bif Nat.beq c.1 0 && (Nat.beq c.2.1 a && (Nat.ble (b + 1) c.2.2.1 && Nat.beq x.1 v.toNat)) then k (pc + 3) L r (xv_upd 14 s.1 o.2.1.toNat (c.1, c.2.1, c.2.2.1, xv_upd 8 c.2.2.2 b x), s.2) else none
      | none => none)
    | _ => none)
  | .new _ => (match xv_nth xv_news a with
    | some q => k (pc + 3) L ((2, Int.ofNat s.2.1, 0) :: st) (xv_upd 14 s.1 s.2.1 (0, a, q.1, q.2), s.2.1 + 1, s.2.2.1 + 1, s.2.2.2 + q.1)
    | none => none)
  | .newarray t => (match st with
    | x :: r => bif Nat.beq x.1 0 && (xv_isOne x && xv_le x.2.1 65536) then
        (match t with
        | .int => k (pc + 2) L ((2, Int.ofNat s.2.1, 0) :: r) (xv_upd 14 s.1 s.2.1 (xv_row 1 x.2.1.toNat (0, 0, 0)), s.2.1 + 1, s.2.2.1 + 1, s.2.2.2 + x.2.1.toNat)
        | .byte => k (pc + 2) L ((2, Int.ofNat s.2.1, 0) :: r) (xv_upd 14 s.1 s.2.1 (xv_row 2 x.2.1.toNat (0, 0, 0)), s.2.1 + 1, s.2.2.1 + 1, s.2.2.2 + x.2.1.toNat)
        | .boolean => k (pc + 2) L ((2, Int.ofNat s.2.1, 0) :: r) (xv_upd 14 s.1 s.2.1 (xv_row 3 x.2.1.toNat (0, 0, 0)), s.2.1 + 1, s.2.2.1 + 1, s.2.2.2 + x.2.1.toNat)
        | .long => k (pc + 2) L ((2, Int.ofNat s.2.1, 0) :: r) (xv_upd 14 s.1 s.2.1 (xv_row 4 x.2.1.toNat (1, 0, 0)), s.2.1 + 1, s.2.2.1 + 1, s.2.2.2 + x.2.1.toNat)
        | _ => none) else none
    | _ => none)
  | .anewarray _ => (match st with
    | x :: r => bif Nat.beq x.1 0 && (xv_isOne x && xv_le x.2.1 65536) then k (pc + 3) L ((2, Int.ofNat s.2.1, 0) :: r) (xv_upd 14 s.1 s.2.1 (xv_row 7 x.2.1.toNat (3, 0, 0)), s.2.1 + 1, s.2.2.1 + 1, s.2.2.2 + x.2.1.toNat) else none
    | _ => none)
  | .multianewarray _ _ => (match st with
    | y :: x :: r => bif Nat.beq x.1 0 && (Nat.beq y.1 0 && (xv_isOne x && (xv_isOne y && (xv_le x.2.1 8 && xv_le y.2.1 64)))) then
        k (pc + 4) L ((2, Int.ofNat s.2.1, 0) :: r) (xv_fills (xv_upd 14 s.1 s.2.1 (a + 4, x.2.1.toNat, x.2.1.toNat, [xv_refs (s.2.1 + 1) x.2.1.toNat])) (xv_row b y.2.1.toNat (v.toNat, 0, 0)) x.2.1.toNat (s.2.1 + 1), s.2.1 + 1 + x.2.1.toNat, s.2.2.1 + 1 + x.2.1.toNat, s.2.2.2 + x.2.1.toNat + x.2.1.toNat * y.2.1.toNat) else none
    | _ => none)
  | .arraylength => (match st with
    | o :: r => bif Nat.beq o.1 5 then (bif !scr.isEmpty then k (pc + 1) L ((0, Int.ofNat scr.length, Int.ofNat scr.length) :: r) s else none) else (match xv_cell s.1 o with
      | some c => bif Nat.ble 1 c.1 && Nat.ble c.1 7 then k (pc + 1) L ((0, Int.ofNat c.2.1, Int.ofNat c.2.1) :: r) s else none
      | none => none)
    | _ => none)
  | .iaload => (match st with
    | i :: o :: r => bif Nat.beq o.1 5 then (bif Nat.beq i.1 0 && xv_isOne i then xv_ldk k (pc + 1) L r s (xv_nth scr i.2.1.toNat) else none) else xv_ald k 1 (pc + 1) L st s
    | _ => none)
  | .baload => (match st with
    | _ :: o :: _ => (match xv_cell s.1 o with
      | some c => bif Nat.beq c.1 2 then xv_ald k 2 (pc + 1) L st s else xv_ald k 3 (pc + 1) L st s
      | none => none)
    | _ => none)
  | .laload => xv_ald k 4 (pc + 1) L st s
  | .aaload => (match st with
    | _ :: o :: _ => (match xv_cell s.1 o with
      | some c => bif Nat.beq c.1 5 then xv_ald k 5 (pc + 1) L st s else bif Nat.beq c.1 6 then xv_ald k 6 (pc + 1) L st s else xv_ald k 7 (pc + 1) L st s
      | none => none)
    | _ => none)
  | .iastore => xv_ast k 1 (pc + 1) L st s (fun v => Nat.beq v.1 0)
  | .bastore => (match st with
    | _ :: _ :: o :: _ => (match xv_cell s.1 o with
      | some c => bif Nat.beq c.1 2 then xv_ast k 2 (pc + 1) L st s (fun v => Nat.beq v.1 0 && (xv_le (-128) v.2.1 && xv_le v.2.2 127)) else xv_ast k 3 (pc + 1) L st s (fun v => Nat.beq v.1 0 && (xv_le 0 v.2.1 && xv_le v.2.2 1))
      | none => none)
    | _ => none)
  | .lastore => xv_ast k 4 (pc + 1) L st s (fun v => Nat.beq v.1 1)
  | .aastore => xv_ast k 7 (pc + 1) L st s (fun v => Nat.beq v.1 2 && (match xv_cell s.1 v with
      | some c => Nat.beq c.1 0 && Nat.beq c.2.1 4
      | none => false))
  | .invokevirtual _ => (match xv_take b [] st with
    | some (as, o :: r) => (match xv_cell s.1 o with
      | some c => bif Nat.beq c.1 0 && Nat.beq c.2.1 v.toNat then xv_call k call a (pc + 3) (o :: as) L r s else none
      | none => none)
    | _ => none)
  | .invokestatic _ => (bif Nat.beq a 9999 then (match st with
      | n :: dp :: d :: sp :: o :: r => (match xv_cell s.1 o, xv_cell s.1 d with
        | some c, some g => bif Nat.beq n.1 0 && (Nat.beq dp.1 0 && (Nat.beq sp.1 0 && (xv_isOne n && (xv_isOne dp && (xv_isOne sp && (Nat.beq c.1 1 && (Nat.beq g.1 1 && (Nat.ble (sp.2.1.toNat + n.2.1.toNat) c.2.1 && (Nat.ble (dp.2.1.toNat + n.2.1.toNat) g.2.1 && (Nat.beq c.2.1 c.2.2.1 && (Nat.beq g.2.1 g.2.2.1 && (Nat.ble (xv_cats r) 8 && !(Nat.beq o.2.1.toNat d.2.1.toNat))))))))))))) then
            (match xv_copy c.2.2.2 sp.2.1.toNat dp.2.1.toNat n.2.1.toNat g.2.2.2 with
            | some e => k (pc + 3) L r (xv_upd 14 s.1 d.2.1.toNat (g.1, g.2.1, g.2.2.1, e), s.2)
            | none => none) else none
        | _, _ => none)
      | _ => none) else (match xv_take b [] st with
    | some (as, r) => xv_call k call a (pc + 3) as L r s
    | none => none))
  | .invokespecial _ => bif Nat.beq a 9998 then (match st with
      | o :: r => bif Nat.beq o.1 2 && Nat.ble (xv_cats r) 8 then k (pc + 3) L r s else none
      | _ => none) else (match xv_take b [] st with
    | some (as, o :: r) => bif Nat.beq o.1 2 then xv_call k call a (pc + 3) (o :: as) L r s else none
    | _ => none)
  | .ireturn => (match st with
    | [x] => bif Nat.beq x.1 0 && (Nat.beq a 0 || (xv_le 0 x.2.1 && xv_le x.2.2 1)) then xv_ret [x] L s else none
    | _ => none)
  | .lreturn => (match st with
    | [x] => bif Nat.beq x.1 1 then xv_ret [x] L s else none
    | _ => none)
  | .return_ => (match st with
    | [] => xv_ret [] L s
    | _ => none)
  | _ => none
noncomputable def xv_find (full : List xv_E) (pc : Nat) : Option (xv_E × List xv_E) := List.rec (motive := fun _ => Option (xv_E × List xv_E)) none (fun e t ih => bif Nat.beq e.1 pc then some (e, t) else ih) full
noncomputable def xv_fetch (full rest : List xv_E) (pc : Nat) : Option (xv_E × List xv_E) := match rest with
  | e :: t => bif Nat.beq e.1 pc then some (e, t) else xv_find full pc
  | [] => xv_find full pc
noncomputable def xv_run (call : Nat → List xv_V → xv_A → Nat → Option xv_R) (scr : List xv_V) (stop : Nat) (full : List xv_E) : Nat → List xv_E → xv_K := Nat.rec (motive := fun _ => List xv_E → xv_K) (fun _ _ _ _ _ => none) (fun _ ih rest pc L st s => bif Nat.beq (pc + 1) stop then xv_ret st L s else match xv_fetch full rest pc with
  | some (e, t) => xv_step call scr (ih t) e.2.1 e.2.2.2.1 e.2.2.2.2.1 e.2.2.2.2.2.2 pc L st s
  | none => none)
noncomputable def xv_locs (args : List xv_V) : Nat → List xv_V := List.rec (motive := fun _ => Nat → List xv_V) (fun n => xv_rep n xv_un) (fun v _ ih n => bif Nat.beq v.1 1 then v :: xv_un :: ih (n - 2) else v :: ih (n - 1)) args
abbrev xv_M : Type := List (List (List xv_E × Nat))
noncomputable def xv_calls (M : xv_M) (F : Nat) : Nat → Nat → List xv_V → xv_A → Nat → Option xv_R := Nat.rec (motive := fun _ => Nat → List xv_V → xv_A → Nat → Option xv_R) (fun _ _ _ _ => none) (fun _ ih id args h n => match xv_get 20 M id with
  | some q => bif Nat.ble (xv_cats args) q.2 then xv_run ih [] 0 q.1 F q.1 0 (xv_locs args q.2) [] (h, n, 0, 0) else none
  | none => none)
def xv_none : xv_C := (99, 0, 0, [])
def xv_h0 : xv_A := xv_rep 14 (xv_rep 14 xv_none)
end
section
/-! lists, intervals -/
theorem xv_nth_eq {α : Type} (l : List α) : ∀ n : Nat, xv_nth l n = l[n]? := by
  induction l with
  | nil => intro n; simp [xv_nth]
  | cons a l ih =>
    intro n
    cases n with
    | zero => rfl
    | succ k => exact (ih k).trans (by simp)
theorem xv_put_eq {α : Type} (v : α) (l : List α) : ∀ n : Nat, xv_put v l n = l.set n v := by
  induction l with
  | nil => intro n; rfl
  | cons a l ih =>
    intro n
    cases n with
    | zero => rfl
    | succ k => exact congrArg (List.cons a) (ih k)
theorem xv_get_eq {α : Type} (R : Nat) (ll : List (List α)) (i : Nat) : xv_get R ll i = (ll[i / R]?).bind (fun l => l[i % R]?) := by
  unfold xv_get
  rw [xv_nth_eq]
  cases ll[i / R]? with
  | none => rfl
  | some l => exact xv_nth_eq l _
theorem xv_get_upd {α : Type} {R : Nat} {ll : List (List α)} {i j : Nat} {v c : α} (h : xv_get R (xv_upd R ll i v) j = some c) : (j = i ∧ c = v) ∨ (j ≠ i ∧ xv_get R ll j = some c) := by
  rw [xv_get_eq] at h ⊢
  unfold xv_upd at h
  rw [xv_nth_eq] at h
  cases hl : ll[i / R]? with
  | none =>
    rw [hl] at h
    refine Or.inr ⟨fun e => ?_, h⟩
    subst e
    dsimp only at h
    rw [hl] at h
    cases h
  | some l =>
    rw [hl] at h
    dsimp only at h
    rw [xv_put_eq, xv_put_eq] at h
    by_cases hd : i / R = j / R
    · by_cases hm : i % R = j % R
      · have e : j = i := by rw [← Nat.div_add_mod i R, ← Nat.div_add_mod j R, hd, hm]
        subst e
        refine Or.inl ⟨rfl, ?_⟩
        have hlt : j / R < ll.length := (List.getElem?_eq_some_iff.mp hl).1
        rw [List.getElem?_set_self hlt] at h
        simp only [Option.bind_some] at h
        obtain ⟨h1, h2⟩ := List.getElem?_eq_some_iff.mp h
        simpa using h2.symm
      · refine Or.inr ⟨fun e => hm (by rw [e]), ?_⟩
        have hlt : i / R < ll.length := (List.getElem?_eq_some_iff.mp hl).1
        rw [← hd, List.getElem?_set_self hlt] at h
        simp only [Option.bind_some] at h
        rw [List.getElem?_set_ne hm] at h
        rw [← hd, hl]
        exact h
    · refine Or.inr ⟨fun e => hd (by rw [e]), ?_⟩
      rw [List.getElem?_set_ne hd] at h
      exact h
theorem xv_le_iff {a b : Int} : xv_le a b = true ↔ a ≤ b := by
  unfold xv_le
  constructor
  · intro h
    cases hs : b - a with
    | ofNat n => have : (0 : Int) ≤ Int.ofNat n := Int.natCast_nonneg n; omega
    | negSucc n => rw [hs] at h; cases h
  · intro h
    cases hs : b - a with
    | ofNat n => rfl
    | negSucc n => have : Int.negSucc n < 0 := Int.negSucc_lt_zero n; omega
theorem xv_le_f {a b : Int} (h : xv_le a b = false) : b < a := by
  rcases Int.lt_or_le b a with q | q
  · exact q
  · rw [xv_le_iff.mpr q] at h; cases h
theorem xv_bt {b : Bool} {α : Type} {x : Option α} {r : α} (h : (bif b then x else none) = some r) : b = true ∧ x = some r := by
  cases b with
  | true => exact ⟨rfl, h⟩
  | false => cases h
theorem xv_and_t {a b : Bool} (h : (a && b) = true) : a = true ∧ b = true := by simpa using h
theorem xv_beq {a b : Nat} (h : Nat.beq a b = true) : a = b := Nat.eq_of_beq_eq_true h
theorem xv_ble {a b : Nat} (h : Nat.ble a b = true) : a ≤ b := Nat.le_of_ble_eq_true h
theorem xv_i32 (x : Int32) : -2147483648 ≤ x.toInt ∧ x.toInt ≤ 2147483647 := by
  have h1 := Int32.le_toInt x
  have h2 := Int32.toInt_lt x
  omega
theorem xv_i64 (x : Int64) : -9223372036854775808 ≤ x.toInt ∧ x.toInt ≤ 9223372036854775807 := by
  have h1 := Int64.le_toInt x
  have h2 := Int64.toInt_lt x
  omega
theorem xv_int_ok {x : Int32} {lo hi z : Int} (h1 : lo ≤ z) (h2 : z ≤ hi) (hz : x.toInt = z.bmod (2 ^ 32)) : (xv_int lo hi).1 = 0 ∧ (xv_int lo hi).2.1 ≤ x.toInt ∧ x.toInt ≤ (xv_int lo hi).2.2 := by
  unfold xv_int
  cases hb : (xv_le (-2147483648) lo && xv_le hi 2147483647) with
  | true =>
    obtain ⟨q1, q2⟩ := xv_and_t hb
    have q1 := xv_le_iff.mp q1
    have q2 := xv_le_iff.mp q2
    have e : z.bmod (2 ^ 32) = z := Int.bmod_eq_of_le (by omega) (by omega)
    rw [e] at hz
    exact ⟨rfl, by show lo ≤ _; omega, by show _ ≤ hi; omega⟩
  | false => exact ⟨rfl, (xv_i32 x).1, (xv_i32 x).2⟩
theorem xv_lng_ok {x : Int64} {lo hi z : Int} (h1 : lo ≤ z) (h2 : z ≤ hi) (hz : x.toInt = z.bmod (2 ^ 64)) : (xv_lng lo hi).1 = 1 ∧ (xv_lng lo hi).2.1 ≤ x.toInt ∧ x.toInt ≤ (xv_lng lo hi).2.2 := by
  unfold xv_lng
  cases hb : (xv_le (-9223372036854775808) lo && xv_le hi 9223372036854775807) with
  | true =>
    obtain ⟨q1, q2⟩ := xv_and_t hb
    have q1 := xv_le_iff.mp q1
    have q2 := xv_le_iff.mp q2
    have e : z.bmod (2 ^ 64) = z := Int.bmod_eq_of_le (by omega) (by omega)
    rw [e] at hz
    exact ⟨rfl, by show lo ≤ _; omega, by show _ ≤ hi; omega⟩
  | false => exact ⟨rfl, (xv_i64 x).1, (xv_i64 x).2⟩
/-! what a value is -/
def xv_hv (sb : Nat) (as : List Nat) (v : xv_V) (x : Value) : Prop :=
  (v.1 = 0 → ∃ i : Int32, x = .int i ∧ v.2.1 ≤ i.toInt ∧ i.toInt ≤ v.2.2) ∧ (v.1 = 1 → ∃ i : Int64, x = .long i ∧ v.2.1 ≤ i.toInt ∧ i.toInt ≤ v.2.2) ∧ (v.1 = 2 → ∃ a, as[v.2.1.toNat]? = some a ∧ x = .ref a) ∧ (v.1 = 3 → x = .null) ∧ (v.1 = 5 → x = .ref sb)
theorem xv_hv.i {sb : Nat} {as : List Nat} {v : xv_V} {x : Int32} (h : v.1 = 0 ∧ v.2.1 ≤ x.toInt ∧ x.toInt ≤ v.2.2) : xv_hv sb as v (.int x) :=
  ⟨fun _ => ⟨x, rfl, h.2⟩, fun q => (by omega), fun q => (by omega), fun q => (by omega), fun q => (by omega)⟩
theorem xv_hv.l {sb : Nat} {as : List Nat} {v : xv_V} {x : Int64} (h : v.1 = 1 ∧ v.2.1 ≤ x.toInt ∧ x.toInt ≤ v.2.2) : xv_hv sb as v (.long x) :=
  ⟨fun q => (by omega), fun _ => ⟨x, rfl, h.2⟩, fun q => (by omega), fun q => (by omega), fun q => (by omega)⟩
theorem xv_hv.r {sb : Nat} {as : List Nat} {n a : Nat} (h : as[n]? = some a) : xv_hv sb as (2, Int.ofNat n, 0) (.ref a) :=
  ⟨fun q => (by cases q), fun q => (by cases q), fun _ => ⟨a, h, rfl⟩, fun q => (by cases q), fun q => (by cases q)⟩
theorem xv_hv.more {sb : Nat} {as as' : List Nat} {v : xv_V} {x : Value} (hp : ∀ (n a : Nat), as[n]? = some a → as'[n]? = some a) (h : xv_hv sb as v x) : xv_hv sb as' v x :=
  ⟨h.1, h.2.1, fun q => (h.2.2.1 q).elim fun a ha => ⟨a, hp _ _ ha.1, ha.2⟩, h.2.2.2⟩
def xv_known (v : xv_V) : Prop := v.1 = 0 ∨ v.1 = 1 ∨ v.1 = 2 ∨ v.1 = 3 ∨ v.1 = 5
theorem xv_cat1 {sb : Nat} {as : List Nat} {v : xv_V} {x : Value} (h : xv_hv sb as v x) (hk : xv_known v) (h1 : v.1 ≠ 1) : x.category = 1 := by
  rcases hk with q | q | q | q | q
  · obtain ⟨i, rfl, -⟩ := h.1 q; rfl
  · exact absurd q h1
  · obtain ⟨a, -, rfl⟩ := h.2.2.1 q; rfl
  · rw [h.2.2.2.1 q]; rfl
  · rw [h.2.2.2.2 q]; rfl
theorem xv_hv.join {sb : Nat} {as : List Nat} {u v : xv_V} {x : Value} (huv : u.1 = v.1) (hv1 : v.1 ≤ 1) (h : xv_hv sb as u x ∨ xv_hv sb as v x) : xv_hv sb as (xv_join u v) x := by
  have e1 : (xv_join u v).2.1 ≤ u.2.1 ∧ (xv_join u v).2.1 ≤ v.2.1 := by
    unfold xv_join
    cases hb : xv_le u.2.1 v.2.1 with
    | true => have := xv_le_iff.mp hb; exact ⟨Int.le_refl _, this⟩
    | false => have := xv_le_f hb; exact ⟨Int.le_of_lt this, Int.le_refl _⟩
  have e2 : u.2.2 ≤ (xv_join u v).2.2 ∧ v.2.2 ≤ (xv_join u v).2.2 := by
    unfold xv_join
    cases hb : xv_le u.2.2 v.2.2 with
    | true => have := xv_le_iff.mp hb; exact ⟨this, Int.le_refl _⟩
    | false => have := xv_le_f hb; exact ⟨Int.le_refl _, Int.le_of_lt this⟩
  have e0 : (xv_join u v).1 = u.1 := rfl
  have e0' : (xv_join u v).1 = v.1 := huv
  rcases h with h | h
  · rcases Nat.le_one_iff_eq_zero_or_eq_one.mp hv1 with q | q
    · obtain ⟨i, rfl, h1, h2⟩ := h.1 (huv.trans q)
      exact xv_hv.i ⟨e0'.trans q, by omega, by omega⟩
    · obtain ⟨i, rfl, h1, h2⟩ := h.2.1 (huv.trans q)
      exact xv_hv.l ⟨e0'.trans q, by omega, by omega⟩
  · rcases Nat.le_one_iff_eq_zero_or_eq_one.mp hv1 with q | q
    · obtain ⟨i, rfl, h1, h2⟩ := h.1 q
      exact xv_hv.i ⟨e0'.trans q, by omega, by omega⟩
    · obtain ⟨i, rfl, h1, h2⟩ := h.2.1 q
      exact xv_hv.l ⟨e0'.trans q, by omega, by omega⟩
/-! what the locals are -/
def xv_lm (sb : Nat) (as : List Nat) (L : List xv_V) (ls : Array Slot) (nL : Nat) : Prop := L.length = nL ∧ ∃ lv : List (Nat × Value), lv_has ls nL lv ∧ ∀ (i : Nat) (v : xv_V), L[i]? = some v → xv_known v → ∃ x, (i, x) ∈ lv ∧ xv_hv sb as v x
theorem xv_lm.more {sb : Nat} {as as' : List Nat} {L : List xv_V} {ls : Array Slot} {nL : Nat} (hp : ∀ (n a : Nat), as[n]? = some a → as'[n]? = some a) (h : xv_lm sb as L ls nL) : xv_lm sb as' L ls nL := by
  obtain ⟨h1, lv, h2, h3⟩ := h
  exact ⟨h1, lv, h2, fun i v hi hk => (h3 i v hi hk).elim fun x hx => ⟨x, hx.1, hx.2.more hp⟩⟩
theorem xv_lm.at {sb : Nat} {as : List Nat} {L : List xv_V} {ls : Array Slot} {nL : Nat} (h : xv_lm sb as L ls nL) {i : Nat} {v : xv_V} (hi : L[i]? = some v) (hk : xv_known v) : ∃ x, ls[i]? = some (.val x) ∧ xv_hv sb as v x := by
  obtain ⟨h1, lv, h2, h3⟩ := h
  obtain ⟨x, hm, hv⟩ := h3 i v hi hk
  exact ⟨x, h2.2.2 (i, x) hm, hv⟩
theorem xv_cl1_get {L : List xv_V} {i j : Nat} {w : xv_V} (hj : j ≠ i) (h : (xv_cl1 L i)[j]? = some w) (hk : xv_known w) : L[j]? = some w ∧ (j + 1 = i → w.1 ≠ 1) := by
  unfold xv_cl1 at h
  cases i with
  | zero => exact ⟨h, fun q => by omega⟩
  | succ i =>
    dsimp only at h
    rw [xv_nth_eq] at h
    cases hl : L[i]? with
    | none =>
      rw [hl] at h
      refine ⟨h, fun q => ?_⟩
      have e : j = i := by omega
      subst e
      rw [hl] at h; cases h
    | some v =>
      rw [hl] at h
      dsimp only at h
      cases hb : Nat.beq v.1 1 with
      | true =>
        rw [hb] at h
        simp only [cond_true] at h
        rw [xv_put_eq] at h
        by_cases e : i = j
        · subst e
          have hlt : i < L.length := (List.getElem?_eq_some_iff.mp hl).1
          rw [List.getElem?_set_self hlt] at h
          cases h
          rcases hk with q | q | q | q | q <;> cases q
        · rw [List.getElem?_set_ne e] at h
          exact ⟨h, fun q => by omega⟩
      | false =>
        rw [hb] at h
        simp only [cond_false] at h
        refine ⟨h, fun q q1 => ?_⟩
        have e : j = i := by omega
        subst e
        rw [hl] at h; cases h
        rw [q1] at hb; cases hb
theorem xv_cl1_len (L : List xv_V) (i : Nat) : (xv_cl1 L i).length = L.length := by
  unfold xv_cl1
  cases i with
  | zero => rfl
  | succ i =>
    dsimp only
    cases xv_nth L i with
    | none => rfl
    | some v =>
      dsimp only
      cases Nat.beq v.1 1 with
      | true => simp [xv_put_eq]
      | false => rfl
theorem xv_lm.st1 {sb : Nat} {as : List Nat} {L : List xv_V} {nL : Nat} {i : Nat} {v : xv_V} {x : Value} (hi : i < nL) (hx : xv_hv sb as v x) {lv : List (Nat × Value)} (h0 : L.length = nL) (h3 : ∀ (i : Nat) (v : xv_V), L[i]? = some v → xv_known v → ∃ x, (i, x) ∈ lv ∧ xv_hv sb as v x)
    {ls' : Array Slot} (h : lv_has ls' nL ((i, x) :: lv.filter (fun q => !(q.1 == i) && !(q.1 + 1 == i && q.2.category == 2)))) : xv_lm sb as (xv_st1 L i v) ls' nL := by
  refine ⟨by unfold xv_st1; rw [xv_put_eq, List.length_set, xv_cl1_len]; exact h0, _, h, fun j w hj hk => ?_⟩
  unfold xv_st1 at hj
  rw [xv_put_eq] at hj
  by_cases e : i = j
  · subst e
    rw [List.getElem?_set_self (by rw [xv_cl1_len, h0]; exact hi)] at hj
    cases hj
    exact ⟨x, List.mem_cons_self, hx⟩
  · rw [List.getElem?_set_ne e] at hj
    obtain ⟨h4, h5⟩ := xv_cl1_get (fun q => e q.symm) hj hk
    obtain ⟨y, hy, hv⟩ := h3 j w h4 hk
    refine ⟨y, List.mem_cons_of_mem _ (List.mem_filter.mpr ⟨hy, ?_⟩), hv⟩
    have e1 : (j == i) = false := by simp; omega
    simp only [e1, Bool.not_false, Bool.true_and, Bool.not_eq_true', Bool.and_eq_false_iff, beq_eq_false_iff_ne]
    by_cases q : j + 1 = i
    · right
      rw [xv_cat1 hv hk (h5 q)]; decide
    · left; exact q
end
section
/-! what the cells are, and where a walk stands -/
def xv_tys (t : Nat → ClassId) : List (ClassId × FieldType) := [(t 1, .int), (t 2, .byte), (t 3, .boolean), (t 4, .long), (t 5, .array .int), (t 6, .array .long), (t 7, .object "PassedPenance$Image")]
def xv_hc (t : Nat → ClassId) (sb : Nat) (as : List Nat) (k : xv_C) (x : va_E) : Prop :=
  (k.1 = 0 → ∃ fs, x = .inr (k.2.1, fs) ∧ fs.length = k.2.2.1 ∧ ∀ (b : Nat) (v : xv_V), xv_get 8 k.2.2.2 b = some v → ∃ y, fs[b]? = some y ∧ xv_hv sb as v y) ∧
  ((k.1 = 1 ∨ k.1 = 2 ∨ k.1 = 3) → ∃ f : Nat → Int32, x = .inl (t k.1, k.2.1, .inl f) ∧ ∀ i : Nat, i < k.2.1 → ∀ v : xv_V, xv_get 8 k.2.2.2 (i % k.2.2.1) = some v → xv_hv sb as v (.int (f i))) ∧
  (k.1 = 4 → ∃ f : Nat → Int64, x = .inl (t k.1, k.2.1, .inr (.inl f)) ∧ ∀ i : Nat, i < k.2.1 → ∀ v : xv_V, xv_get 8 k.2.2.2 (i % k.2.2.1) = some v → xv_hv sb as v (.long (f i))) ∧
  ((k.1 = 5 ∨ k.1 = 6 ∨ k.1 = 7) → ∃ f : Nat → Option Nat, x = .inl (t k.1, k.2.1, .inr (.inr (.inr (.inr f)))) ∧ ∀ i : Nat, i < k.2.1 → ∀ v : xv_V, xv_get 8 k.2.2.2 (i % k.2.2.1) = some v → xv_hv sb as v (va_rf (f i))) ∧
  (k.1 ≠ 0 → k.2.1 ≤ 65536)
theorem xv_hc.more {t : Nat → ClassId} {sb : Nat} {as as' : List Nat} {k : xv_C} {x : va_E} (hp : ∀ (n a : Nat), as[n]? = some a → as'[n]? = some a) (h : xv_hc t sb as k x) : xv_hc t sb as' k x := by
  obtain ⟨h0, h1, h4, h5, h6⟩ := h
  refine ⟨fun q => ?_, fun q => ?_, fun q => ?_, fun q => ?_, h6⟩
  · obtain ⟨fs, e, hl, hf⟩ := h0 q
    exact ⟨fs, e, hl, fun b v hb => (hf b v hb).elim fun y hy => ⟨y, hy.1, hy.2.more hp⟩⟩
  · obtain ⟨f, e, hf⟩ := h1 q
    exact ⟨f, e, fun i hi v hb => (hf i hi v hb).more hp⟩
  · obtain ⟨f, e, hf⟩ := h4 q
    exact ⟨f, e, fun i hi v hb => (hf i hi v hb).more hp⟩
  · obtain ⟨f, e, hf⟩ := h5 q
    exact ⟨f, e, fun i hi v hb => (hf i hi v hb).more hp⟩
def xv_H (t : Nat → ClassId) (sb : Nat) (h : xv_A) (n : Nat) (ws : va_W) : Prop := ws.length = n ∧ ∀ (r : Nat) (k : xv_C), xv_get 14 h r = some k → k.1 ≠ 99 → ∃ (a : Nat) (x : va_E), ws[r]? = some (a, x) ∧ xv_hc t sb (ws.map Prod.fst) k x
theorem xv_fst_set {ws : va_W} {q a : Nat} {x y : va_E} (h : ws[q]? = some (a, x)) : (ws.set q (a, y)).map Prod.fst = ws.map Prod.fst := by
  rw [List.map_set]
  apply List.ext_getElem?
  intro i
  by_cases e : q = i
  · subst e
    have hlt : q < ws.length := (List.getElem?_eq_some_iff.mp h).1
    rw [List.getElem?_set_self (by simpa using hlt), List.getElem?_map, h]
    rfl
  · rw [List.getElem?_set_ne e]
/-- a cell is changed -/
theorem xv_H.set {t : Nat → ClassId} {sb : Nat} {h : xv_A} {n : Nat} {ws : va_W} (hH : xv_H t sb h n ws) {q a : Nat} {x y : va_E} {k : xv_C} (hq : ws[q]? = some (a, x)) (hk : xv_hc t sb (ws.map Prod.fst) k y) : xv_H t sb (xv_upd 14 h q k) n (ws.set q (a, y)) := by
  refine ⟨by rw [List.length_set]; exact hH.1, fun r k' hr h9 => ?_⟩
  rw [xv_fst_set hq]
  have hlt : q < ws.length := (List.getElem?_eq_some_iff.mp hq).1
  rcases xv_get_upd hr with ⟨rfl, rfl⟩ | ⟨hne, hr⟩
  · exact ⟨a, y, by rw [List.getElem?_set_self hlt], hk⟩
  · obtain ⟨a', x', e1, e2⟩ := hH.2 r k' hr h9
    exact ⟨a', x', by rw [List.getElem?_set_ne (fun e => hne e.symm)]; exact e1, e2⟩
theorem xv_pre_app {as bs : List Nat} : ∀ (n a : Nat), as[n]? = some a → (as ++ bs)[n]? = some a := fun n a h => by
  rw [List.getElem?_append_left (List.getElem?_eq_some_iff.mp h).1]; exact h
/-- a cell is new -/
theorem xv_H.push {t : Nat → ClassId} {sb : Nat} {h : xv_A} {n : Nat} {ws : va_W} (hH : xv_H t sb h n ws) {a : Nat} {y : va_E} {k : xv_C} (hk : xv_hc t sb ((ws ++ [(a, y)]).map Prod.fst) k y) : xv_H t sb (xv_upd 14 h n k) (n + 1) (ws ++ [(a, y)]) := by
  refine ⟨by rw [List.length_append, hH.1]; rfl, fun r k' hr h9 => ?_⟩
  rcases xv_get_upd hr with ⟨rfl, rfl⟩ | ⟨hne, hr⟩
  · refine ⟨a, y, ?_, hk⟩
    rw [← hH.1, List.getElem?_append_right (Nat.le_refl _), Nat.sub_self]; rfl
  · obtain ⟨a', x', e1, e2⟩ := hH.2 r k' hr h9
    refine ⟨a', x', by rw [List.getElem?_append_left (List.getElem?_eq_some_iff.mp e1).1]; exact e1, e2.more ?_⟩
    rw [List.map_append]
    exact xv_pre_app
def xv_sm (sb : Nat) (as : List Nat) : List xv_V → List Value → Prop
  | [], [] => True
  | v :: r, x :: xs => xv_hv sb as v x ∧ xv_sm sb as r xs
  | _, _ => False
theorem xv_sm.cons {sb : Nat} {as : List Nat} {v : xv_V} {r : List xv_V} {x : Value} {xs : List Value} (h1 : xv_hv sb as v x) (h2 : xv_sm sb as r xs) : xv_sm sb as (v :: r) (x :: xs) := And.intro h1 h2
theorem xv_sm.un {sb : Nat} {as : List Nat} {v : xv_V} {r : List xv_V} {vst : List Value} (h : xv_sm sb as (v :: r) vst) : ∃ x xs, vst = x :: xs ∧ xv_hv sb as v x ∧ xv_sm sb as r xs := by
  cases vst with
  | nil => exact False.elim h
  | cons x xs => exact ⟨x, xs, rfl, h.1, h.2⟩
theorem xv_sm.nil {sb : Nat} {as : List Nat} {vst : List Value} (h : xv_sm sb as [] vst) : vst = [] := by
  cases vst with
  | nil => rfl
  | cons x xs => exact False.elim h
theorem xv_sm.more {sb : Nat} {as as' : List Nat} (hp : ∀ (n a : Nat), as[n]? = some a → as'[n]? = some a) : ∀ {st : List xv_V} {vst : List Value}, xv_sm sb as st vst → xv_sm sb as' st vst
  | [], [], _ => True.intro
  | [], _ :: _, h => False.elim h
  | _ :: _, [], h => False.elim h
  | _ :: _, _ :: _, h => And.intro (h.1.more hp) (xv_sm.more hp h.2)
def xv_Rl (D : va_G) (t : Nat → ClassId) (A : Nat → Prop) (H0 : Heap) (as0 : List Nat) (sb nL : Nat) (L st : List xv_V) (S : xv_S) (ls : Array Slot) (vst : List Value) (H : Heap) (locs : List Loc) (ws : va_W) : Prop :=
  xv_lm sb (ws.map Prod.fst) L ls nL ∧ xv_sm sb (ws.map Prod.fst) st vst ∧ va_P D vwCl ws H ∧ va_D A ws ∧ va_S A H0 H locs ∧ xv_H t sb S.1 S.2.1 ws ∧ ∃ more, ws.map Prod.fst = as0 ++ more
/-- from a place on, with this known, the machine comes to the end r -/
def xv_T (p : Program) (l : Launch) (e : Env) (R : Room) (s : State) (m : MethodId) (args : Array Value) (below : List Frame) (meth : Method) (c : Code) (D : va_G) (t : Nat → ClassId) (A : Nat → Prop) (as0 : List Nat) (sb nL : Nat) (Q : xv_R → State → Prop) (pc : Nat) (L st : List xv_V) (S : xv_S) (r : xv_R) : Prop :=
  S.2.2.1 ≤ r.2.2.2.2.1 ∧ S.2.2.2 ≤ r.2.2.2.2.2 ∧ (r.2.2.2.2.1 ≤ R.cells → r.2.2.2.2.2 ≤ R.slots → ∀ (ls : Array Slot) (vst : List Value) (H : Heap) (locs : List Loc) (ws : va_W), xv_Rl D t A s.heap as0 sb nL L st S ls vst H locs ws → W p l e R s m args below meth c H locs S.2.2.1 S.2.2.2 (Q r) (F0 m pc ls vst))
def xv_G (p : Program) (l : Launch) (e : Env) (R : Room) (s : State) (m : MethodId) (args : Array Value) (below : List Frame) (meth : Method) (c : Code) (D : va_G) (t : Nat → ClassId) (A : Nat → Prop) (as0 : List Nat) (sb nL : Nat) (Q : xv_R → State → Prop) (k : xv_K) : Prop :=
  ∀ (pc : Nat) (L st : List xv_V) (S : xv_S) (r : xv_R), k pc L st S = some r → xv_T p l e R s m args below meth c D t A as0 sb nL Q pc L st S r
/-- an array class over a class of rows is there -/
def xv_AOA (ty : FieldType) (U : State) : Prop := ∃ (cI cO : ClassId) (k : Class), U.vm.findClass (FieldType.array ty).toString = some cI ∧ U.vm.classes[cO]? = some k ∧ k.kind = .array cI (.array ty) ∧ U.vm.findClass ("[" ++ (FieldType.array ty).toString) = some cO
theorem xv_AOA.moved {ty : FieldType} {u U : State} (hvm : u.vm.Alike U.vm) (h : xv_AOA ty u) : xv_AOA ty U := by
  obtain ⟨cI, cO, k, h1, h2, h3, h4⟩ := h
  obtain ⟨k', hk', he⟩ := hvm.2.2 _ _ h2
  exact ⟨cI, cO, k', by rw [hvm.findClass]; exact h1, hk', by rw [he]; exact h3, by rw [hvm.findClass]; exact h4⟩
/-- what the tables say besides, that is carried from call to call -/
def xv_Ex (U : State) : Prop := (∀ q ∈ xv_nest, va_Nw (.methodLinkNest q.1 q.2.1 q.2.2.1 q.2.2.2) U) ∧ va_AO "PassedPenance$Image" U ∧ xv_AOA .int U ∧ xv_AOA .long U
theorem xv_Ex.warm {s U : State} (hW : s.WarmedH U.vm) (h : xv_Ex s) : xv_Ex U := ⟨fun q hq => va_Nw.warmM hW (h.1 q hq), h.2.1.moved hW.alike, h.2.2.1.moved hW.alike, h.2.2.2.moved hW.alike⟩
theorem xv_Ex.same {u U : State} (e : u.vm = U.vm) (h : xv_Ex u) : xv_Ex U := ⟨fun q hq => va_Nw.same rfl e (h.1 q hq), h.2.1.moved (e ▸ Vm.Alike.refl u.vm), h.2.2.1.moved (e ▸ Vm.Alike.refl u.vm), h.2.2.2.moved (e ▸ Vm.Alike.refl u.vm)⟩
/-- what holds all through a method's body -/
def xv_Cx (p : Program) (s : State) (m : MethodId) (args : Array Value) (c : Code) (cc : ByteArray) (own : String) (nL : Nat) (D : va_G) (t : Nat → ClassId) (A : Nat → Prop) (sb : Nat) (scr : List xv_V) : Prop :=
  p.tables.exec = Jvm.exec ∧ c.code = cc ∧ c.maxLocals = nL ∧ s.vm.findClass own = some m.cls ∧ (∀ w ∈ xv_tb, w.before args s = true) ∧ va_K D vwCl (xv_tys t) s ∧ (∀ q : Nat, s.heap.size ≤ q → A q) ∧
  (scr = [] ∨ ∃ xs : Nat → Int32, va_X sb scr.length xs s s.heap ∧ sb < s.heap.size ∧ ¬ A sb ∧ scr.length < 2 ^ 31 ∧ ∀ (j : Nat) (v : xv_V), scr[j]? = some v → v.1 = 0 ∧ v.2.1 ≤ (xs j).toInt ∧ (xs j).toInt ≤ v.2.2) ∧ xv_Ex s
section XV1
variable {p : Program} {l : Launch} {e : Env} {R : Room} {s : State} {m : MethodId} {args : Array Value} {below : List Frame} {meth : Method} {c : Code}
variable {cc : ByteArray} {own : String} {nL : Nat} {D : va_G} {t : Nat → ClassId} {A : Nat → Prop} {as0 : List Nat} {sb : Nat} {scr : List xv_V} {Q : xv_R → State → Prop} {k : xv_K} {pc : Nat} {L st : List xv_V} {S : xv_S} {r : xv_R}
/-- a step that leaves locals and cells as they are -/
theorem xs_pure {pc' : Nat} {st' : List xv_V} (hk : xv_G p l e R s m args below meth c D t A as0 sb nL Q k) (hr : k pc' L st' S = some r)
    (hs : ∀ (ls : Array Slot) (vst : List Value) (H : Heap) (locs : List Loc) (as : List Nat) (x y : Nat) (Z : State → Prop), xv_lm sb as L ls nL → xv_sm sb as st vst → ∃ vst', xv_sm sb as st' vst' ∧ (W p l e R s m args below meth c H locs x y Z (F0 m pc' ls vst') → W p l e R s m args below meth c H locs x y Z (F0 m pc ls vst))) : xv_T p l e R s m args below meth c D t A as0 sb nL Q pc L st S r := by
  obtain ⟨h1, h2, h3⟩ := hk _ _ _ _ _ hr
  refine ⟨h1, h2, fun hc hz ls vst H locs ws hR => ?_⟩
  obtain ⟨hl, hst, hrest⟩ := hR
  obtain ⟨vst', h4, h5⟩ := hs ls vst H locs _ _ _ _ hl hst
  exact h5 (h3 hc hz ls vst' H locs ws ⟨hl, h4, hrest⟩)
theorem xs_push {pc' : Nat} {v : xv_V} (hk : xv_G p l e R s m args below meth c D t A as0 sb nL Q k) (hr : k pc' L (v :: st) S = some r) {x : Value}
    (hx : ∀ as : List Nat, xv_hv sb as v x) (hs : ∀ (ls : Array Slot) (vst : List Value) (H : Heap) (locs : List Loc) (a b : Nat) (Z : State → Prop), W p l e R s m args below meth c H locs a b Z (F0 m pc' ls (x :: vst)) → W p l e R s m args below meth c H locs a b Z (F0 m pc ls vst)) : xv_T p l e R s m args below meth c D t A as0 sb nL Q pc L st S r :=
  xs_pure hk hr fun ls vst H locs as a b Z _ hst => ⟨x :: vst, xv_sm.cons (hx as) hst, hs ls vst H locs a b Z⟩
theorem xs_iconst {i : Int} (C : xv_Cx p s m args c cc own nL D t A sb scr) (hk : xv_G p l e R s m args below meth c D t A as0 sb nL Q k) (hd : decode cc pc = .ok (.iconst i, 1)) (hr : k (pc + 1) L (xv_int i i :: st) S = some r) : xv_T p l e R s m args below meth c D t A as0 sb nL Q pc L st S r :=
  xs_push hk hr (x := .int (Int32.ofInt i)) (fun _ => xv_hv.i (xv_int_ok (Int.le_refl i) (Int.le_refl i) (Int32.toInt_ofInt ..))) fun _ _ _ _ _ _ _ w => lv_iconst C.1 C.2.1 hd rfl w
theorem xs_bipush {i : Int} (C : xv_Cx p s m args c cc own nL D t A sb scr) (hk : xv_G p l e R s m args below meth c D t A as0 sb nL Q k) (hd : decode cc pc = .ok (.bipush i, 2)) (hr : (bif xv_le (-128) i && xv_le i 127 then k (pc + 2) L ((0, i, i) :: st) S else none) = some r) : xv_T p l e R s m args below meth c D t A as0 sb nL Q pc L st S r := by
  obtain ⟨hb, hr⟩ := xv_bt hr
  obtain ⟨b1, b2⟩ := xv_and_t hb
  have b1 := xv_le_iff.mp b1
  have b2 := xv_le_iff.mp b2
  have e : ((Int8.ofInt i).toInt32).toInt = i := by
    rw [Int8.toInt_toInt32, Int8.toInt_ofInt, show Int8.size = 256 from rfl]
    exact Int.bmod_eq_of_le (by omega) (by omega)
  exact xs_push hk hr (x := .int ((Int8.ofInt i).toInt32)) (fun _ => xv_hv.i ⟨rfl, by rw [e]; exact Int.le_refl _, by rw [e]; exact Int.le_refl _⟩) fun _ _ _ _ _ _ _ w => lv_bipush C.1 C.2.1 hd rfl w
theorem xs_sipush {i : Int} (C : xv_Cx p s m args c cc own nL D t A sb scr) (hk : xv_G p l e R s m args below meth c D t A as0 sb nL Q k) (hd : decode cc pc = .ok (.sipush i, 3)) (hr : (bif xv_le (-32768) i && xv_le i 32767 then k (pc + 3) L ((0, i, i) :: st) S else none) = some r) : xv_T p l e R s m args below meth c D t A as0 sb nL Q pc L st S r := by
  obtain ⟨hb, hr⟩ := xv_bt hr
  obtain ⟨b1, b2⟩ := xv_and_t hb
  have b1 := xv_le_iff.mp b1
  have b2 := xv_le_iff.mp b2
  have e : ((Int16.ofInt i).toInt32).toInt = i := by
    rw [Int16.toInt_toInt32, Int16.toInt_ofInt, show Int16.size = 65536 from rfl]
    exact Int.bmod_eq_of_le (by omega) (by omega)
  exact xs_push hk hr (x := .int ((Int16.ofInt i).toInt32)) (fun _ => xv_hv.i ⟨rfl, by rw [e]; exact Int.le_refl _, by rw [e]; exact Int.le_refl _⟩) fun _ _ _ _ _ _ _ w => lv_sipush C.1 C.2.1 hd rfl w
theorem xs_lconst {i : Fin 2} (C : xv_Cx p s m args c cc own nL D t A sb scr) (hk : xv_G p l e R s m args below meth c D t A as0 sb nL Q k) (hd : decode cc pc = .ok (.lconst i, 1)) (hr : k (pc + 1) L ((1, Int.ofNat i.val, Int.ofNat i.val) :: st) S = some r) : xv_T p l e R s m args below meth c D t A as0 sb nL Q pc L st S r := by
  have e : (Int64.ofNat i.val).toInt = Int.ofNat i.val := by
    have := i.isLt
    rw [Int64.toInt_ofNat']
    exact Int.bmod_eq_of_le (by omega) (by simp; omega)
  exact xs_push hk hr (x := .long (Int64.ofNat i.val)) (fun _ => xv_hv.l ⟨rfl, by rw [e]; exact Int.le_refl _, by rw [e]; exact Int.le_refl _⟩) fun _ _ _ _ _ _ _ w => lv_lconst C.1 C.2.1 hd rfl w
theorem xs_ldk {pc' : Nat} {o : Option xv_V} (hr : xv_ldk k pc' L st S o = some r) : ∃ v, o = some v ∧ k pc' L (v :: st) S = some r := by
  unfold xv_ldk at hr
  cases o with
  | none => cases hr
  | some v => exact ⟨v, rfl, hr⟩
theorem xv_ld_eq {kd i : Nat} {v : xv_V} (h : xv_ld kd L i = some v) : L[i]? = some v ∧ v.1 = kd := by
  unfold xv_ld at h
  rw [xv_nth_eq] at h
  cases hl : L[i]? with
  | none => rw [hl] at h; cases h
  | some w =>
    rw [hl] at h
    obtain ⟨b, e⟩ := xv_bt h
    cases e
    exact ⟨rfl, xv_beq b⟩
theorem xs_ldi {i pc' : Nat} (hk : xv_G p l e R s m args below meth c D t A as0 sb nL Q k) (hr : xv_ldk k pc' L st S (xv_ld 0 L i) = some r)
    (hs : ∀ (ls : Array Slot) (vst : List Value) (H : Heap) (locs : List Loc) (a b : Nat) (Z : State → Prop) (x : Int32), ls[i]? = some (.val (.int x)) → W p l e R s m args below meth c H locs a b Z (F0 m pc' ls (.int x :: vst)) → W p l e R s m args below meth c H locs a b Z (F0 m pc ls vst)) : xv_T p l e R s m args below meth c D t A as0 sb nL Q pc L st S r := by
  obtain ⟨v, e, hr⟩ := xs_ldk hr
  obtain ⟨e1, e2⟩ := xv_ld_eq e
  refine xs_pure hk hr fun ls vst H locs as a b Z hl hst => ?_
  obtain ⟨x, hx, hv⟩ := hl.at e1 (Or.inl e2)
  obtain ⟨y, rfl, -⟩ := hv.1 e2
  exact ⟨.int y :: vst, xv_sm.cons hv hst, hs ls vst H locs a b Z y hx⟩
theorem xs_ldl {i pc' : Nat} (hk : xv_G p l e R s m args below meth c D t A as0 sb nL Q k) (hr : xv_ldk k pc' L st S (xv_ld 1 L i) = some r)
    (hs : ∀ (ls : Array Slot) (vst : List Value) (H : Heap) (locs : List Loc) (a b : Nat) (Z : State → Prop) (x : Int64), ls[i]? = some (.val (.long x)) → W p l e R s m args below meth c H locs a b Z (F0 m pc' ls (.long x :: vst)) → W p l e R s m args below meth c H locs a b Z (F0 m pc ls vst)) : xv_T p l e R s m args below meth c D t A as0 sb nL Q pc L st S r := by
  obtain ⟨v, e, hr⟩ := xs_ldk hr
  obtain ⟨e1, e2⟩ := xv_ld_eq e
  refine xs_pure hk hr fun ls vst H locs as a b Z hl hst => ?_
  obtain ⟨x, hx, hv⟩ := hl.at e1 (Or.inr (Or.inl e2))
  obtain ⟨y, rfl, -⟩ := hv.2.1 e2
  exact ⟨.long y :: vst, xv_sm.cons hv hst, hs ls vst H locs a b Z y hx⟩
theorem xs_iload {i : Nat} (C : xv_Cx p s m args c cc own nL D t A sb scr) (hk : xv_G p l e R s m args below meth c D t A as0 sb nL Q k) (hd : decode cc pc = .ok (.iload i, 2)) (hr : xv_ldk k (pc + 2) L st S (xv_ld 0 L i) = some r) : xv_T p l e R s m args below meth c D t A as0 sb nL Q pc L st S r :=
  xs_ldi hk hr fun _ _ _ _ _ _ _ _ hx w => lv_iload C.1 C.2.1 hd hx w
theorem xs_iload_n {i : Fin 4} (C : xv_Cx p s m args c cc own nL D t A sb scr) (hk : xv_G p l e R s m args below meth c D t A as0 sb nL Q k) (hd : decode cc pc = .ok (.iload_n i, 1)) (hr : xv_ldk k (pc + 1) L st S (xv_ld 0 L i.val) = some r) : xv_T p l e R s m args below meth c D t A as0 sb nL Q pc L st S r :=
  xs_ldi hk hr fun _ _ _ _ _ _ _ _ hx w => lv_iload_n C.1 C.2.1 hd rfl hx w
theorem xs_lload {i : Nat} (C : xv_Cx p s m args c cc own nL D t A sb scr) (hk : xv_G p l e R s m args below meth c D t A as0 sb nL Q k) (hd : decode cc pc = .ok (.lload i, 2)) (hr : xv_ldk k (pc + 2) L st S (xv_ld 1 L i) = some r) : xv_T p l e R s m args below meth c D t A as0 sb nL Q pc L st S r :=
  xs_ldl hk hr fun _ _ _ _ _ _ _ _ hx w => lv_lload C.1 C.2.1 hd hx w
theorem xs_lload_n {i : Fin 4} (C : xv_Cx p s m args c cc own nL D t A sb scr) (hk : xv_G p l e R s m args below meth c D t A as0 sb nL Q k) (hd : decode cc pc = .ok (.lload_n i, 1)) (hr : xv_ldk k (pc + 1) L st S (xv_ld 1 L i.val) = some r) : xv_T p l e R s m args below meth c D t A as0 sb nL Q pc L st S r :=
  xs_ldl hk hr fun _ _ _ _ _ _ _ _ hx w => lv_lload_n C.1 C.2.1 hd rfl hx w
theorem xs_aload_n {i : Fin 4} (C : xv_Cx p s m args c cc own nL D t A sb scr) (hk : xv_G p l e R s m args below meth c D t A as0 sb nL Q k) (hd : decode cc pc = .ok (.aload_n i, 1)) (hr : xv_ldk k (pc + 1) L st S (xv_lda L i.val) = some r) : xv_T p l e R s m args below meth c D t A as0 sb nL Q pc L st S r := by
  obtain ⟨v, e, hr⟩ := xs_ldk hr
  unfold xv_lda at e
  rw [xv_nth_eq] at e
  cases hl : L[i.val]? with
  | none => rw [hl] at e; cases e
  | some w =>
    rw [hl] at e
    obtain ⟨b, e⟩ := xv_bt e
    cases e
    simp only [Bool.or_eq_true] at b
    refine xs_pure hk hr fun ls vst H locs as a b' Z hlm hst => ?_
    have hkn : xv_known v := by
      rcases b with b | b | b
      · exact Or.inr (Or.inr (Or.inl (xv_beq b)))
      · exact Or.inr (Or.inr (Or.inr (Or.inl (xv_beq b))))
      · exact Or.inr (Or.inr (Or.inr (Or.inr (xv_beq b))))
    obtain ⟨x, hx, hv⟩ := hlm.at hl hkn
    refine ⟨x :: vst, xv_sm.cons hv hst, fun w => ?_⟩
    rcases b with b | b | b
    · obtain ⟨q, -, rfl⟩ := hv.2.2.1 (xv_beq b)
      exact lv_aload_n C.1 C.2.1 hd rfl hx w
    · have e := hv.2.2.2.1 (xv_beq b)
      subst e
      exact lv_aload_nN C.1 C.2.1 hd rfl hx w
    · have e := hv.2.2.2.2 (xv_beq b)
      subst e
      exact lv_aload_n C.1 C.2.1 hd rfl hx w
/-- a local is written -/
theorem xs_sto {i pc' : Nat} {v : xv_V} {rest : List xv_V} (hk : xv_G p l e R s m args below meth c D t A as0 sb nL Q k) (hr : k pc' (xv_st1 L i v) rest S = some r) (hst : st = v :: rest) (hi : i + 1 ≤ L.length)
    (hs : ∀ (ls : Array Slot) (vst : List Value) (H : Heap) (locs : List Loc) (as : List Nat) (a b : Nat) (Z : State → Prop) (x : Value) (lv : List (Nat × Value)), xv_hv sb as v x → lv_has ls nL lv → i < nL → (∀ ls' : Array Slot, lv_has ls' nL ((i, x) :: lv.filter (fun q => !(q.1 == i) && !(q.1 + 1 == i && q.2.category == 2))) → W p l e R s m args below meth c H locs a b Z (F0 m pc' ls' vst)) → W p l e R s m args below meth c H locs a b Z (F0 m pc ls (x :: vst))) : xv_T p l e R s m args below meth c D t A as0 sb nL Q pc L st S r := by
  obtain ⟨h1, h2, h3⟩ := hk _ _ _ _ _ hr
  refine ⟨h1, h2, fun hc hz ls vst H locs ws hR => ?_⟩
  obtain ⟨hl, hfa, hrest⟩ := hR
  subst hst
  obtain ⟨x, vst, rfl, hx, htl⟩ := hfa.un
  obtain ⟨h0, lv, h4, h5⟩ := hl
  exact hs ls vst H locs _ _ _ _ x lv hx h4 (by omega) fun ls' hls' => h3 hc hz ls' vst H locs ws ⟨xv_lm.st1 (by omega) hx h0 h5 hls', htl, hrest⟩
theorem xs_istore {i pc' : Nat} (hk : xv_G p l e R s m args below meth c D t A as0 sb nL Q k) (hr : xv_sto k 0 pc' i L st S = some r)
    (hs : ∀ (ls : Array Slot) (vst : List Value) (H : Heap) (locs : List Loc) (a b : Nat) (Z : State → Prop) (x : Int32) (lv : List (Nat × Value)), lv_has ls nL lv → i < nL → (∀ ls' : Array Slot, lv_has ls' nL ((i, .int x) :: lv.filter (fun q => !(q.1 == i) && !(q.1 + 1 == i && q.2.category == 2))) → W p l e R s m args below meth c H locs a b Z (F0 m pc' ls' vst)) → W p l e R s m args below meth c H locs a b Z (F0 m pc ls (.int x :: vst))) : xv_T p l e R s m args below meth c D t A as0 sb nL Q pc L st S r := by
  unfold xv_sto at hr
  cases st with
  | nil => cases hr
  | cons v rest =>
    obtain ⟨b, hr⟩ := xv_bt hr
    obtain ⟨b1, b2⟩ := xv_and_t b
    refine xs_sto hk hr rfl (xv_ble b2) fun ls vst H locs as a b Z x lv hx hlv hi w => ?_
    obtain ⟨y, rfl, -⟩ := hx.1 (xv_beq b1)
    exact hs ls vst H locs a b Z y lv hlv hi w
theorem xs_istore_i {i : Nat} (C : xv_Cx p s m args c cc own nL D t A sb scr) (hk : xv_G p l e R s m args below meth c D t A as0 sb nL Q k) (hd : decode cc pc = .ok (.istore i, 2)) (hr : xv_sto k 0 (pc + 2) i L st S = some r) : xv_T p l e R s m args below meth c D t A as0 sb nL Q pc L st S r :=
  xs_istore hk hr fun _ _ _ _ _ _ _ _ _ h hi w => lv_istore C.1 C.2.1 hd h hi rfl w
theorem xs_istore_n {i : Fin 4} (C : xv_Cx p s m args c cc own nL D t A sb scr) (hk : xv_G p l e R s m args below meth c D t A as0 sb nL Q k) (hd : decode cc pc = .ok (.istore_n i, 1)) (hr : xv_sto k 0 (pc + 1) i.val L st S = some r) : xv_T p l e R s m args below meth c D t A as0 sb nL Q pc L st S r :=
  xs_istore hk hr fun _ _ _ _ _ _ _ _ _ h hi w => lv_istore_n C.1 C.2.1 hd rfl h hi rfl w
theorem xs_astore_n {i : Fin 4} (C : xv_Cx p s m args c cc own nL D t A sb scr) (hk : xv_G p l e R s m args below meth c D t A as0 sb nL Q k) (hd : decode cc pc = .ok (.astore_n i, 1)) (hr : xv_stoa k (pc + 1) i.val L st S = some r) : xv_T p l e R s m args below meth c D t A as0 sb nL Q pc L st S r := by
  unfold xv_stoa at hr
  cases st with
  | nil => cases hr
  | cons v rest =>
    obtain ⟨b, hr⟩ := xv_bt hr
    obtain ⟨b1, b2⟩ := xv_and_t b
    refine xs_sto hk hr rfl (xv_ble b2) fun ls vst H locs as a b Z x lv hx hlv hi w => ?_
    simp only [Bool.or_eq_true] at b1
    rcases b1 with b1 | b1
    · obtain ⟨q, -, rfl⟩ := hx.2.2.1 (xv_beq b1)
      exact lv_astore_n C.1 C.2.1 hd rfl hlv hi rfl w
    · have e := hx.2.2.2.1 (xv_beq b1)
      subst e
      exact lv_astore_nN C.1 C.2.1 hd rfl hlv hi rfl w
theorem xs_iinc {i : Nat} {n : Int} (C : xv_Cx p s m args c cc own nL D t A sb scr) (hk : xv_G p l e R s m args below meth c D t A as0 sb nL Q k) (hd : decode cc pc = .ok (.iinc i n, 3)) (hr : (match xv_ld 0 L i with | some x => k (pc + 3) (xv_st1 L i (xv_int (x.2.1 + n) (x.2.2 + n))) st S | none => none) = some r) : xv_T p l e R s m args below meth c D t A as0 sb nL Q pc L st S r := by
  cases hl : xv_ld 0 L i with
  | none => rw [hl] at hr; cases hr
  | some v =>
    rw [hl] at hr
    obtain ⟨e1, e2⟩ := xv_ld_eq hl
    obtain ⟨h1, h2, h3⟩ := hk _ _ _ _ _ hr
    refine ⟨h1, h2, fun hc hz ls vst H locs ws hR => ?_⟩
    obtain ⟨⟨h0, lv, h4, h5⟩, hfa, hrest⟩ := hR
    obtain ⟨x, hm, hv⟩ := h5 i v e1 (Or.inl e2)
    obtain ⟨y, rfl, y1, y2⟩ := hv.1 e2
    obtain ⟨j, hj⟩ := List.mem_iff_getElem?.mp hm
    have hi : i < nL := by rw [← h0]; exact (List.getElem?_eq_some_iff.mp e1).1
    refine lv_iinc C.1 C.2.1 hd h4 hj rfl hi rfl (fun ls' hls' => ?_)
    refine h3 hc hz ls' vst H locs ws ⟨xv_lm.st1 hi ?_ h0 h5 hls', hfa, hrest⟩
    refine xv_hv.i (xv_int_ok (z := y.toInt + n) (by omega) (by omega) ?_)
    rw [Int32.toInt_add, Int32.toInt_ofInt]
    exact Int.add_bmod_bmod
end XV1
end
section
/-! numbers -/
section XV2
variable {p : Program} {l : Launch} {e : Env} {R : Room} {s : State} {m : MethodId} {args : Array Value} {below : List Frame} {meth : Method} {c : Code}
variable {cc : ByteArray} {own : String} {nL : Nat} {D : va_G} {t : Nat → ClassId} {A : Nat → Prop} {as0 : List Nat} {sb : Nat} {scr : List xv_V} {Q : xv_R → State → Prop} {k : xv_K} {pc : Nat} {L st : List xv_V} {S : xv_S} {r : xv_R}
theorem xs_go {pc' : Nat} {o : Option (List xv_V)} (hr : xv_go k pc' L S o = some r) : ∃ st', o = some st' ∧ k pc' L st' S = some r := by
  unfold xv_go at hr
  cases o with
  | none => cases hr
  | some v => exact ⟨v, rfl, hr⟩
theorem xv_two_eq {kd : Nat} {f : xv_V → xv_V → xv_V} {st' : List xv_V} (h : xv_two kd st f = some st') : ∃ (x y : xv_V) (q : List xv_V), st = y :: x :: q ∧ x.1 = kd ∧ y.1 = kd ∧ st' = f x y :: q := by
  unfold xv_two at h
  match st, h with
  | [], h => cases h
  | [_], h => cases h
  | y :: x :: q, h =>
    obtain ⟨b, e⟩ := xv_bt h
    obtain ⟨b1, b2⟩ := xv_and_t b
    cases e
    exact ⟨x, y, q, rfl, xv_beq b1, xv_beq b2, rfl⟩
theorem xs_ii {pc' : Nat} {f : xv_V → xv_V → xv_V} (op : Int32 → Int32 → Int32) (hk : xv_G p l e R s m args below meth c D t A as0 sb nL Q k) (hr : xv_go k pc' L S (xv_two 0 st f) = some r)
    (hop : ∀ (u v : xv_V) (x y : Int32), u.2.1 ≤ x.toInt → x.toInt ≤ u.2.2 → v.2.1 ≤ y.toInt → y.toInt ≤ v.2.2 → (f u v).1 = 0 ∧ (f u v).2.1 ≤ (op x y).toInt ∧ (op x y).toInt ≤ (f u v).2.2)
    (hs : ∀ (ls : Array Slot) (vst : List Value) (H : Heap) (locs : List Loc) (a b : Nat) (Z : State → Prop) (x y : Int32), W p l e R s m args below meth c H locs a b Z (F0 m pc' ls (.int (op x y) :: vst)) → W p l e R s m args below meth c H locs a b Z (F0 m pc ls (.int y :: .int x :: vst))) : xv_T p l e R s m args below meth c D t A as0 sb nL Q pc L st S r := by
  obtain ⟨st', e, hr⟩ := xs_go hr
  obtain ⟨u, v, q, rfl, hu, hv, rfl⟩ := xv_two_eq e
  refine xs_pure hk hr fun ls vst H locs as a b Z _ hst => ?_
  obtain ⟨y0, vst, rfl, hy, ht1_⟩ := hst.un
  obtain ⟨x0, vst, rfl, hx, ht2_⟩ := ht1_.un
  obtain ⟨y, rfl, y1, y2⟩ := hy.1 hv
  obtain ⟨x, rfl, x1, x2⟩ := hx.1 hu
  exact ⟨.int (op x y) :: vst, xv_sm.cons (xv_hv.i (hop u v x y x1 x2 y1 y2)) ht2_, hs ls vst H locs a b Z x y⟩
theorem xs_ll {pc' : Nat} {f : xv_V → xv_V → xv_V} (op : Int64 → Int64 → Int64) (hk : xv_G p l e R s m args below meth c D t A as0 sb nL Q k) (hr : xv_go k pc' L S (xv_two 1 st f) = some r)
    (hop : ∀ (u v : xv_V) (x y : Int64), u.2.1 ≤ x.toInt → x.toInt ≤ u.2.2 → v.2.1 ≤ y.toInt → y.toInt ≤ v.2.2 → (f u v).1 = 1 ∧ (f u v).2.1 ≤ (op x y).toInt ∧ (op x y).toInt ≤ (f u v).2.2)
    (hs : ∀ (ls : Array Slot) (vst : List Value) (H : Heap) (locs : List Loc) (a b : Nat) (Z : State → Prop) (x y : Int64), W p l e R s m args below meth c H locs a b Z (F0 m pc' ls (.long (op x y) :: vst)) → W p l e R s m args below meth c H locs a b Z (F0 m pc ls (.long y :: .long x :: vst))) : xv_T p l e R s m args below meth c D t A as0 sb nL Q pc L st S r := by
  obtain ⟨st', e, hr⟩ := xs_go hr
  obtain ⟨u, v, q, rfl, hu, hv, rfl⟩ := xv_two_eq e
  refine xs_pure hk hr fun ls vst H locs as a b Z _ hst => ?_
  obtain ⟨y0, vst, rfl, hy, ht1_⟩ := hst.un
  obtain ⟨x0, vst, rfl, hx, ht2_⟩ := ht1_.un
  obtain ⟨y, rfl, y1, y2⟩ := hy.2.1 hv
  obtain ⟨x, rfl, x1, x2⟩ := hx.2.1 hu
  exact ⟨.long (op x y) :: vst, xv_sm.cons (xv_hv.l (hop u v x y x1 x2 y1 y2)) ht2_, hs ls vst H locs a b Z x y⟩
theorem xs_iadd (C : xv_Cx p s m args c cc own nL D t A sb scr) (hk : xv_G p l e R s m args below meth c D t A as0 sb nL Q k) (hd : decode cc pc = .ok (.iadd, 1)) (hr : xv_go k (pc + 1) L S (xv_two 0 st xv_add) = some r) : xv_T p l e R s m args below meth c D t A as0 sb nL Q pc L st S r :=
  xs_ii (fun x y => x + y) hk hr (fun u v x y x1 x2 y1 y2 => xv_int_ok (z := x.toInt + y.toInt) (by omega) (by omega) (Int32.toInt_add x y)) fun _ _ _ _ _ _ _ _ _ w => lv_iadd C.1 C.2.1 hd w
theorem xs_isub (C : xv_Cx p s m args c cc own nL D t A sb scr) (hk : xv_G p l e R s m args below meth c D t A as0 sb nL Q k) (hd : decode cc pc = .ok (.isub, 1)) (hr : xv_go k (pc + 1) L S (xv_two 0 st xv_sub) = some r) : xv_T p l e R s m args below meth c D t A as0 sb nL Q pc L st S r :=
  xs_ii (fun x y => x - y) hk hr (fun u v x y x1 x2 y1 y2 => xv_int_ok (z := x.toInt - y.toInt) (by omega) (by omega) (Int32.toInt_sub x y)) fun _ _ _ _ _ _ _ _ _ w => lv_isub C.1 C.2.1 hd w
theorem xs_imul (C : xv_Cx p s m args c cc own nL D t A sb scr) (hk : xv_G p l e R s m args below meth c D t A as0 sb nL Q k) (hd : decode cc pc = .ok (.imul, 1)) (hr : xv_go k (pc + 1) L S (xv_two 0 st xv_mul) = some r) : xv_T p l e R s m args below meth c D t A as0 sb nL Q pc L st S r := by
  refine xs_ii (fun x y => x * y) hk hr (fun u v x y x1 x2 y1 y2 => ?_) fun _ _ _ _ _ _ _ _ _ w => lv_imul C.1 C.2.1 hd w
  unfold xv_mul
  cases hb : (xv_le 0 u.2.1 && xv_le 0 v.2.1) with
  | true =>
    obtain ⟨b1, b2⟩ := xv_and_t hb
    have b1 := xv_le_iff.mp b1
    have b2 := xv_le_iff.mp b2
    exact xv_int_ok (z := x.toInt * y.toInt) (Int.mul_le_mul x1 y1 b2 (by omega)) (Int.mul_le_mul x2 y2 (by omega) (by omega)) (Int32.toInt_mul x y)
  | false => exact ⟨rfl, (xv_i32 _).1, (xv_i32 _).2⟩
theorem xv_and_ok (x y : Int32) (h : 0 ≤ y.toInt) : 0 ≤ (x &&& y).toInt ∧ (x &&& y).toInt ≤ y.toInt := by
  have hy : y.toInt = (y.toBitVec.toNat : Int) := by
    show y.toBitVec.toInt = _
    have h' : 0 ≤ y.toBitVec.toInt := h
    rw [BitVec.toInt_eq_toNat_cond] at h' ⊢
    split
    · rfl
    · rename_i q
      rw [if_neg q] at h'
      have := y.toBitVec.isLt
      omega
  have hlt : y.toBitVec.toNat < 2 ^ 31 := by
    have := Int32.toInt_lt y
    rw [hy] at this
    omega
  have hle : (x.toBitVec &&& y.toBitVec).toNat ≤ y.toBitVec.toNat := by
    rw [BitVec.toNat_and]
    exact Nat.and_le_right
  have hz : (x &&& y).toInt = ((x.toBitVec &&& y.toBitVec).toNat : Int) := by
    show (x &&& y).toBitVec.toInt = _
    rw [Int32.toBitVec_and, BitVec.toInt_eq_toNat_cond, if_pos (by omega)]
  rw [hz, hy]
  omega
theorem xs_iand (C : xv_Cx p s m args c cc own nL D t A sb scr) (hk : xv_G p l e R s m args below meth c D t A as0 sb nL Q k) (hd : decode cc pc = .ok (.iand, 1)) (hr : xv_go k (pc + 1) L S (xv_two 0 st xv_and) = some r) : xv_T p l e R s m args below meth c D t A as0 sb nL Q pc L st S r := by
  refine xs_ii (fun x y => x &&& y) hk hr (fun u v x y x1 x2 y1 y2 => ?_) fun _ _ _ _ _ _ _ _ _ w => lv_iand C.1 C.2.1 hd w
  unfold xv_and
  cases hb : xv_le 0 v.2.1 with
  | true =>
    have b1 := xv_le_iff.mp hb
    have := xv_and_ok x y (by omega)
    exact ⟨rfl, this.1, by show _ ≤ v.2.2; omega⟩
  | false => exact ⟨rfl, (xv_i32 _).1, (xv_i32 _).2⟩
theorem xs_iushr (C : xv_Cx p s m args c cc own nL D t A sb scr) (hk : xv_G p l e R s m args below meth c D t A as0 sb nL Q k) (hd : decode cc pc = .ok (.iushr, 1)) (hr : xv_go k (pc + 1) L S (xv_two 0 st (fun _ _ => xv_ti)) = some r) : xv_T p l e R s m args below meth c D t A as0 sb nL Q pc L st S r :=
  xs_ii (fun x y => (x.toUInt32 >>> (y.toUInt32 &&& Int32.toUInt32 31)).toInt32) hk hr (fun u v x y x1 x2 y1 y2 => ⟨rfl, (xv_i32 _).1, (xv_i32 _).2⟩) fun _ _ _ _ _ _ _ _ _ w => lv_iushr C.1 C.2.1 hd rfl w
theorem xs_ishr (C : xv_Cx p s m args c cc own nL D t A sb scr) (hk : xv_G p l e R s m args below meth c D t A as0 sb nL Q k) (hd : decode cc pc = .ok (.ishr, 1)) (hr : xv_go k (pc + 1) L S (xv_two 0 st (fun _ _ => xv_ti)) = some r) : xv_T p l e R s m args below meth c D t A as0 sb nL Q pc L st S r :=
  xs_ii (fun x y => x >>> (y &&& 31)) hk hr (fun u v x y x1 x2 y1 y2 => ⟨rfl, (xv_i32 _).1, (xv_i32 _).2⟩) fun _ _ _ _ _ _ _ _ _ w => lv_ishr C.1 C.2.1 hd w
theorem xs_lsub (C : xv_Cx p s m args c cc own nL D t A sb scr) (hk : xv_G p l e R s m args below meth c D t A as0 sb nL Q k) (hd : decode cc pc = .ok (.lsub, 1)) (hr : xv_go k (pc + 1) L S (xv_two 1 st xv_lsub) = some r) : xv_T p l e R s m args below meth c D t A as0 sb nL Q pc L st S r :=
  xs_ll (fun x y => x - y) hk hr (fun u v x y x1 x2 y1 y2 => xv_lng_ok (z := x.toInt - y.toInt) (by omega) (by omega) (Int64.toInt_sub x y)) fun _ _ _ _ _ _ _ _ _ w => lv_lsub C.1 C.2.1 hd w
theorem xs_land (C : xv_Cx p s m args c cc own nL D t A sb scr) (hk : xv_G p l e R s m args below meth c D t A as0 sb nL Q k) (hd : decode cc pc = .ok (.land, 1)) (hr : xv_go k (pc + 1) L S (xv_two 1 st (fun _ _ => xv_tl)) = some r) : xv_T p l e R s m args below meth c D t A as0 sb nL Q pc L st S r :=
  xs_ll (fun x y => x &&& y) hk hr (fun u v x y x1 x2 y1 y2 => ⟨rfl, (xv_i64 _).1, (xv_i64 _).2⟩) fun _ _ _ _ _ _ _ _ _ w => lv_land C.1 C.2.1 hd w
theorem xs_lor (C : xv_Cx p s m args c cc own nL D t A sb scr) (hk : xv_G p l e R s m args below meth c D t A as0 sb nL Q k) (hd : decode cc pc = .ok (.lor, 1)) (hr : xv_go k (pc + 1) L S (xv_two 1 st (fun _ _ => xv_tl)) = some r) : xv_T p l e R s m args below meth c D t A as0 sb nL Q pc L st S r :=
  xs_ll (fun x y => x ||| y) hk hr (fun u v x y x1 x2 y1 y2 => ⟨rfl, (xv_i64 _).1, (xv_i64 _).2⟩) fun _ _ _ _ _ _ _ _ _ w => lv_lor C.1 C.2.1 hd w
theorem xs_lshl (C : xv_Cx p s m args c cc own nL D t A sb scr) (hk : xv_G p l e R s m args below meth c D t A as0 sb nL Q k) (hd : decode cc pc = .ok (.lshl, 1)) (hr : (match st with | y :: x :: q => bif Nat.beq y.1 0 && Nat.beq x.1 1 then k (pc + 1) L (xv_tl :: q) S else none | _ => none) = some r) : xv_T p l e R s m args below meth c D t A as0 sb nL Q pc L st S r := by
  match st, hr with
  | [], hr => cases hr
  | [_], hr => cases hr
  | v :: u :: q, hr =>
    obtain ⟨b, hr⟩ := xv_bt hr
    obtain ⟨b1, b2⟩ := xv_and_t b
    refine xs_pure hk hr fun ls vst H locs as a b Z _ hst => ?_
    obtain ⟨y0, vst, rfl, hy, ht1_⟩ := hst.un
    obtain ⟨x0, vst, rfl, hx, ht2_⟩ := ht1_.un
    obtain ⟨y, rfl, y1, y2⟩ := hy.1 (xv_beq b1)
    obtain ⟨x, rfl, x1, x2⟩ := hx.2.1 (xv_beq b2)
    exact ⟨.long (x <<< (y.toInt64 &&& 63)) :: vst, xv_sm.cons (xv_hv.l ⟨rfl, (xv_i64 _).1, (xv_i64 _).2⟩) ht2_, fun w => lv_lshl C.1 C.2.1 hd rfl w⟩
theorem xv_cmpl_ok (u v : xv_V) (x y : Int64) (x1 : u.2.1 ≤ x.toInt) (x2 : x.toInt ≤ u.2.2) (y1 : v.2.1 ≤ y.toInt) (y2 : y.toInt ≤ v.2.2) : (xv_cmpl u v).1 = 0 ∧ (xv_cmpl u v).2.1 ≤ (lg_cmp x y).toInt ∧ (lg_cmp x y).toInt ≤ (xv_cmpl u v).2.2 := by
  have hc : (y.toInt < x.toInt ∧ (lg_cmp x y).toInt = 1) ∨ (x.toInt = y.toInt ∧ (lg_cmp x y).toInt = 0) ∨ (x.toInt < y.toInt ∧ (lg_cmp x y).toInt = -1) := by
    unfold lg_cmp
    by_cases h1 : y < x
    · left; exact ⟨Int64.lt_iff_toInt_lt.mp h1, by simp [h1]⟩
    · by_cases h2 : x = y
      · right; left; subst h2; exact ⟨rfl, by simp⟩
      · right; right
        refine ⟨?_, by simp [h1, h2]⟩
        have h3 : ¬ y.toInt < x.toInt := fun q => h1 (Int64.lt_iff_toInt_lt.mpr q)
        have h4 : x.toInt ≠ y.toInt := fun q => h2 (Int64.toInt_inj.mp q)
        omega
  refine ⟨rfl, ?_, ?_⟩
  · show (bif xv_le (v.2.2 + 1) u.2.1 then (1 : Int) else bif xv_le v.2.2 u.2.1 then 0 else -1) ≤ _
    cases hb : xv_le (v.2.2 + 1) u.2.1 with
    | true => have := xv_le_iff.mp hb; simp only [cond_true]; omega
    | false =>
      simp only [cond_false]
      cases hb2 : xv_le v.2.2 u.2.1 with
      | true => have := xv_le_iff.mp hb2; simp only [cond_true]; omega
      | false => simp only [cond_false]; omega
  · show _ ≤ (bif xv_le (u.2.2 + 1) v.2.1 then (-1 : Int) else bif xv_le u.2.2 v.2.1 then 0 else 1)
    cases hb : xv_le (u.2.2 + 1) v.2.1 with
    | true => have := xv_le_iff.mp hb; simp only [cond_true]; omega
    | false =>
      simp only [cond_false]
      cases hb2 : xv_le u.2.2 v.2.1 with
      | true => have := xv_le_iff.mp hb2; simp only [cond_true]; omega
      | false => simp only [cond_false]; omega
theorem xs_lcmp (C : xv_Cx p s m args c cc own nL D t A sb scr) (hk : xv_G p l e R s m args below meth c D t A as0 sb nL Q k) (hd : decode cc pc = .ok (.lcmp, 1)) (hr : xv_go k (pc + 1) L S (xv_two 1 st xv_cmpl) = some r) : xv_T p l e R s m args below meth c D t A as0 sb nL Q pc L st S r := by
  obtain ⟨st', e, hr⟩ := xs_go hr
  obtain ⟨u, v, q, rfl, hu, hv, rfl⟩ := xv_two_eq e
  refine xs_pure hk hr fun ls vst H locs as a b Z _ hst => ?_
  obtain ⟨y0, vst, rfl, hy, ht1_⟩ := hst.un
  obtain ⟨x0, vst, rfl, hx, ht2_⟩ := ht1_.un
  obtain ⟨y, rfl, y1, y2⟩ := hy.2.1 hv
  obtain ⟨x, rfl, x1, x2⟩ := hx.2.1 hu
  exact ⟨.int (lg_cmp x y) :: vst, xv_sm.cons (xv_hv.i (xv_cmpl_ok u v x y x1 x2 y1 y2)) ht2_, fun w => W.lcmp C.1 C.2.1 hd w⟩
theorem xv_one_eq {kd : Nat} {f : xv_V → xv_V} {st' : List xv_V} (h : xv_one kd st f = some st') : ∃ (x : xv_V) (q : List xv_V), st = x :: q ∧ x.1 = kd ∧ st' = f x :: q := by
  unfold xv_one at h
  match st, h with
  | [], h => cases h
  | x :: q, h =>
    obtain ⟨b, e⟩ := xv_bt h
    cases e
    exact ⟨x, q, rfl, xv_beq b, rfl⟩
theorem xs_i2l (C : xv_Cx p s m args c cc own nL D t A sb scr) (hk : xv_G p l e R s m args below meth c D t A as0 sb nL Q k) (hd : decode cc pc = .ok (.i2l, 1)) (hr : xv_go k (pc + 1) L S (xv_one 0 st (fun x => (1, x.2.1, x.2.2))) = some r) : xv_T p l e R s m args below meth c D t A as0 sb nL Q pc L st S r := by
  obtain ⟨st', e, hr⟩ := xs_go hr
  obtain ⟨u, q, rfl, hu, rfl⟩ := xv_one_eq e
  refine xs_pure hk hr fun ls vst H locs as a b Z _ hst => ?_
  obtain ⟨x0, vst, rfl, hx, ht1_⟩ := hst.un
  obtain ⟨x, rfl, x1, x2⟩ := hx.1 hu
  exact ⟨.long x.toInt64 :: vst, xv_sm.cons (xv_hv.l ⟨rfl, by rw [Int32.toInt_toInt64]; exact x1, by rw [Int32.toInt_toInt64]; exact x2⟩) ht1_, fun w => lv_i2l C.1 C.2.1 hd rfl w⟩
theorem xs_i2b (C : xv_Cx p s m args c cc own nL D t A sb scr) (hk : xv_G p l e R s m args below meth c D t A as0 sb nL Q k) (hd : decode cc pc = .ok (.i2b, 1)) (hr : xv_go k (pc + 1) L S (xv_one 0 st (fun _ => (0, -128, 127))) = some r) : xv_T p l e R s m args below meth c D t A as0 sb nL Q pc L st S r := by
  obtain ⟨st', e, hr⟩ := xs_go hr
  obtain ⟨u, q, rfl, hu, rfl⟩ := xv_one_eq e
  refine xs_pure hk hr fun ls vst H locs as a b Z _ hst => ?_
  obtain ⟨x0, vst, rfl, hx, ht1_⟩ := hst.un
  obtain ⟨x, rfl, x1, x2⟩ := hx.1 hu
  have h1 := Int8.le_toInt x.toInt8
  have h2 := Int8.toInt_lt x.toInt8
  exact ⟨.int x.toInt8.toInt32 :: vst, xv_sm.cons (xv_hv.i ⟨rfl, by rw [Int8.toInt_toInt32]; show -128 ≤ _; omega, by rw [Int8.toInt_toInt32]; show _ ≤ 127; omega⟩) ht1_, fun w => lv_i2b C.1 C.2.1 hd rfl w⟩
theorem xs_dup (C : xv_Cx p s m args c cc own nL D t A sb scr) (hk : xv_G p l e R s m args below meth c D t A as0 sb nL Q k) (hd : decode cc pc = .ok (.dup, 1)) (hr : (match st with | x :: q => bif Nat.beq x.1 0 || (Nat.beq x.1 2 || Nat.beq x.1 5) then k (pc + 1) L (x :: x :: q) S else none | _ => none) = some r) : xv_T p l e R s m args below meth c D t A as0 sb nL Q pc L st S r := by
  match st, hr with
  | [], hr => cases hr
  | u :: q, hr =>
    obtain ⟨b, hr⟩ := xv_bt hr
    simp only [Bool.or_eq_true] at b
    refine xs_pure hk hr fun ls vst H locs as a b' Z _ hst => ?_
    obtain ⟨x, vst, rfl, hx, ht1_⟩ := hst.un
    have hc : x.category = 1 := by
      rcases b with b | b | b
      · obtain ⟨i, rfl, -⟩ := hx.1 (xv_beq b); rfl
      · obtain ⟨i, -, rfl⟩ := hx.2.2.1 (xv_beq b); rfl
      · rw [hx.2.2.2.2 (xv_beq b)]; rfl
    exact ⟨x :: x :: vst, xv_sm.cons hx (xv_sm.cons hx ht1_), fun w => lv_dup C.1 C.2.1 hd hc w⟩
theorem xv_tgt_eq {off : Int} (h : xv_le 0 (Int.ofNat pc + off) = true) : (pc : Int) + off = (xv_tgt pc off : Int) := by
  unfold xv_tgt
  rw [Int.toNat_of_nonneg (xv_le_iff.mp h)]
  rfl
theorem xs_goto {off : Int} (C : xv_Cx p s m args c cc own nL D t A sb scr) (hk : xv_G p l e R s m args below meth c D t A as0 sb nL Q k) (hd : decode cc pc = .ok (.goto off, 3)) (hr : (bif xv_le 0 (Int.ofNat pc + off) then k (xv_tgt pc off) L st S else none) = some r) : xv_T p l e R s m args below meth c D t A as0 sb nL Q pc L st S r := by
  obtain ⟨b, hr⟩ := xv_bt hr
  exact xs_pure hk hr fun ls vst H locs as a b' Z _ hst => ⟨vst, hst, fun w => lv_goto C.1 C.2.1 hd (xv_tgt_eq b) w⟩
def xv_rel (q : ClassFile.Cond) (x y : Int32) : Prop := match q with
  | .eq => x = y
  | .ne => ¬ x = y
  | .lt => x < y
  | .ge => y ≤ x
  | .gt => y < x
  | .le => x ≤ y
theorem xv_lt3_ok {u v : xv_V} {x y : Int32} {b : Bool} (x1 : u.2.1 ≤ x.toInt) (x2 : x.toInt ≤ u.2.2) (y1 : v.2.1 ≤ y.toInt) (y2 : y.toInt ≤ v.2.2) (h : xv_lt3 u v = some b) : b = true ↔ x < y := by
  unfold xv_lt3 at h
  rw [Int32.lt_iff_toInt_lt]
  cases hb : xv_le (u.2.2 + 1) v.2.1 with
  | true => rw [hb] at h; cases h; have := xv_le_iff.mp hb; simp; omega
  | false =>
    rw [hb] at h
    cases hb2 : xv_le v.2.2 u.2.1 with
    | true => rw [hb2] at h; cases h; have := xv_le_iff.mp hb2; simp; omega
    | false => rw [hb2] at h; cases h
theorem xv_eq3_ok {u v : xv_V} {x y : Int32} {b : Bool} (x1 : u.2.1 ≤ x.toInt) (x2 : x.toInt ≤ u.2.2) (y1 : v.2.1 ≤ y.toInt) (y2 : y.toInt ≤ v.2.2) (h : xv_eq3 u v = some b) : b = true ↔ x = y := by
  unfold xv_eq3 at h
  rw [← Int32.toInt_inj]
  cases hb : xv_le (u.2.2 + 1) v.2.1 with
  | true => rw [hb] at h; cases h; have := xv_le_iff.mp hb; simp; omega
  | false =>
    rw [hb] at h
    cases hb2 : xv_le (v.2.2 + 1) u.2.1 with
    | true => rw [hb2] at h; cases h; have := xv_le_iff.mp hb2; simp; omega
    | false =>
      rw [hb2] at h
      cases hb3 : (xv_le u.2.2 v.2.1 && xv_le v.2.2 u.2.1) with
      | true =>
        rw [hb3] at h; cases h
        obtain ⟨q1, q2⟩ := xv_and_t hb3
        have := xv_le_iff.mp q1
        have := xv_le_iff.mp q2
        simp; omega
      | false => rw [hb3] at h; cases h
theorem xv_not_eq {o : Option Bool} {b : Bool} (h : xv_not o = some b) : o = some (!b) := by
  unfold xv_not at h
  cases o with
  | none => cases h
  | some q => cases h; simp
theorem xv_cond_ok {q : ClassFile.Cond} {u v : xv_V} {x y : Int32} {b : Bool} (x1 : u.2.1 ≤ x.toInt) (x2 : x.toInt ≤ u.2.2) (y1 : v.2.1 ≤ y.toInt) (y2 : y.toInt ≤ v.2.2) (h : xv_cond q u v = some b) : b = true ↔ xv_rel q x y := by
  cases q with
  | eq => exact xv_eq3_ok x1 x2 y1 y2 h
  | ne =>
    have := xv_eq3_ok x1 x2 y1 y2 (xv_not_eq h)
    show b = true ↔ ¬ x = y
    rw [← this]; cases b <;> simp
  | lt => exact xv_lt3_ok x1 x2 y1 y2 h
  | ge =>
    have := xv_lt3_ok x1 x2 y1 y2 (xv_not_eq h)
    show b = true ↔ y ≤ x
    rw [← Int32.not_lt, ← this]; cases b <;> simp
  | gt => exact xv_lt3_ok y1 y2 x1 x2 h
  | le =>
    have := xv_lt3_ok y1 y2 x1 x2 (xv_not_eq h)
    show b = true ↔ x ≤ y
    rw [← Int32.not_lt, ← this]; cases b <;> simp
theorem xs_br {o : Option Bool} {off : Int} (hr : xv_br k o pc off L st S = some r) : xv_le 0 (Int.ofNat pc + off) = true ∧ ((o = some true ∧ k (xv_tgt pc off) L st S = some r) ∨ (o = some false ∧ k (pc + 3) L st S = some r)) := by
  unfold xv_br at hr
  obtain ⟨b, hr⟩ := xv_bt hr
  refine ⟨b, ?_⟩
  match o, hr with
  | none, hr => cases hr
  | some true, hr => exact Or.inl ⟨rfl, hr⟩
  | some false, hr => exact Or.inr ⟨rfl, hr⟩
theorem xs_if_icmp {q : ClassFile.Cond} {off : Int} (C : xv_Cx p s m args c cc own nL D t A sb scr) (hk : xv_G p l e R s m args below meth c D t A as0 sb nL Q k) (hd : decode cc pc = .ok (.if_icmp q off, 3)) (hr : (match st with | y :: x :: z => bif Nat.beq x.1 0 && Nat.beq y.1 0 then xv_br k (xv_cond q x y) pc off L z S else none | _ => none) = some r) : xv_T p l e R s m args below meth c D t A as0 sb nL Q pc L st S r := by
  match st, hr with
  | [], hr => cases hr
  | [_], hr => cases hr
  | v :: u :: z, hr =>
    obtain ⟨b, hr⟩ := xv_bt hr
    obtain ⟨b1, b2⟩ := xv_and_t b
    obtain ⟨ht, hr⟩ := xs_br hr
    rcases hr with ⟨ho, hr⟩ | ⟨ho, hr⟩
    · refine xs_pure hk hr fun ls vst H locs as a b Z _ hst => ?_
      obtain ⟨y0, vst, rfl, hy, ht1_⟩ := hst.un
      obtain ⟨x0, vst, rfl, hx, ht2_⟩ := ht1_.un
      obtain ⟨y, rfl, y1, y2⟩ := hy.1 (xv_beq b2)
      obtain ⟨x, rfl, x1, x2⟩ := hx.1 (xv_beq b1)
      refine ⟨vst, ht2_, fun w => ?_⟩
      have key := (xv_cond_ok x1 x2 y1 y2 ho).mp rfl
      cases q with
      | eq => exact lv_icmp_eq C.1 C.2.1 hd (xv_tgt_eq ht) (fun _ => w) (fun n => absurd key n)
      | ne => exact lv_icmp_ne C.1 C.2.1 hd (xv_tgt_eq ht) (fun _ => w) (fun n => absurd n key)
      | lt => exact lv_icmp_lt C.1 C.2.1 hd (xv_tgt_eq ht) (fun _ => w) (fun n => absurd key n)
      | ge => exact lv_icmp_ge C.1 C.2.1 hd (xv_tgt_eq ht) (fun _ => w) (fun n => absurd key n)
      | gt => exact lv_icmp_gt C.1 C.2.1 hd (xv_tgt_eq ht) (fun _ => w) (fun n => absurd key n)
      | le => exact lv_icmp_le C.1 C.2.1 hd (xv_tgt_eq ht) (fun _ => w) (fun n => absurd key n)
    · refine xs_pure hk hr fun ls vst H locs as a b Z _ hst => ?_
      obtain ⟨y0, vst, rfl, hy, ht1_⟩ := hst.un
      obtain ⟨x0, vst, rfl, hx, ht2_⟩ := ht1_.un
      obtain ⟨y, rfl, y1, y2⟩ := hy.1 (xv_beq b2)
      obtain ⟨x, rfl, x1, x2⟩ := hx.1 (xv_beq b1)
      refine ⟨vst, ht2_, fun w => ?_⟩
      have key : ¬ xv_rel q x y := fun z => by have := (xv_cond_ok x1 x2 y1 y2 ho).mpr z; cases this
      cases q with
      | eq => exact lv_icmp_eq C.1 C.2.1 hd (xv_tgt_eq ht) (fun n => absurd n key) (fun _ => w)
      | ne => exact lv_icmp_ne C.1 C.2.1 hd (xv_tgt_eq ht) (fun n => absurd n key) (fun _ => w)
      | lt => exact lv_icmp_lt C.1 C.2.1 hd (xv_tgt_eq ht) (fun n => absurd n key) (fun _ => w)
      | ge => exact lv_icmp_ge C.1 C.2.1 hd (xv_tgt_eq ht) (fun n => absurd n key) (fun _ => w)
      | gt => exact lv_icmp_gt C.1 C.2.1 hd (xv_tgt_eq ht) (fun n => absurd n key) (fun _ => w)
      | le => exact lv_icmp_le C.1 C.2.1 hd (xv_tgt_eq ht) (fun n => absurd n key) (fun _ => w)
theorem xs_ifCond {q : ClassFile.Cond} {off : Int} (C : xv_Cx p s m args c cc own nL D t A sb scr) (hk : xv_G p l e R s m args below meth c D t A as0 sb nL Q k) (hd : decode cc pc = .ok (.ifCond q off, 3)) (hr : (match st with | x :: z => bif Nat.beq x.1 0 then xv_br k (xv_cond q x (0, 0, 0)) pc off L z S else none | _ => none) = some r) : xv_T p l e R s m args below meth c D t A as0 sb nL Q pc L st S r := by
  match st, hr with
  | [], hr => cases hr
  | u :: z, hr =>
    obtain ⟨b1, hr⟩ := xv_bt hr
    obtain ⟨ht, hr⟩ := xs_br hr
    rcases hr with ⟨ho, hr⟩ | ⟨ho, hr⟩
    · refine xs_pure hk hr fun ls vst H locs as a b Z _ hst => ?_
      obtain ⟨x0, vst, rfl, hx, ht1_⟩ := hst.un
      obtain ⟨x, rfl, x1, x2⟩ := hx.1 (xv_beq b1)
      refine ⟨vst, ht1_, fun w => ?_⟩
      have key := (xv_cond_ok (y := 0) x1 x2 (by decide) (by decide) ho).mp rfl
      cases q with
      | eq => exact lv_if_eq C.1 C.2.1 hd (xv_tgt_eq ht) (fun _ => w) (fun n => absurd key n)
      | ne => exact lv_if_ne C.1 C.2.1 hd (xv_tgt_eq ht) (fun _ => w) (fun n => absurd n key)
      | lt => exact lv_if_lt C.1 C.2.1 hd (xv_tgt_eq ht) (fun _ => w) (fun n => absurd key n)
      | ge => exact lv_if_ge C.1 C.2.1 hd (xv_tgt_eq ht) (fun _ => w) (fun n => absurd key n)
      | gt => exact lv_if_gt C.1 C.2.1 hd (xv_tgt_eq ht) (fun _ => w) (fun n => absurd key n)
      | le => exact lv_if_le C.1 C.2.1 hd (xv_tgt_eq ht) (fun _ => w) (fun n => absurd key n)
    · refine xs_pure hk hr fun ls vst H locs as a b Z _ hst => ?_
      obtain ⟨x0, vst, rfl, hx, ht1_⟩ := hst.un
      obtain ⟨x, rfl, x1, x2⟩ := hx.1 (xv_beq b1)
      refine ⟨vst, ht1_, fun w => ?_⟩
      have key : ¬ xv_rel q x 0 := fun z => by have := (xv_cond_ok (y := 0) x1 x2 (by decide) (by decide) ho).mpr z; cases this
      cases q with
      | eq => exact lv_if_eq C.1 C.2.1 hd (xv_tgt_eq ht) (fun n => absurd n key) (fun _ => w)
      | ne => exact lv_if_ne C.1 C.2.1 hd (xv_tgt_eq ht) (fun n => absurd n key) (fun _ => w)
      | lt => exact lv_if_lt C.1 C.2.1 hd (xv_tgt_eq ht) (fun n => absurd n key) (fun _ => w)
      | ge => exact lv_if_ge C.1 C.2.1 hd (xv_tgt_eq ht) (fun n => absurd n key) (fun _ => w)
      | gt => exact lv_if_gt C.1 C.2.1 hd (xv_tgt_eq ht) (fun n => absurd n key) (fun _ => w)
      | le => exact lv_if_le C.1 C.2.1 hd (xv_tgt_eq ht) (fun n => absurd n key) (fun _ => w)
theorem xs_ifnonnull {off : Int} (C : xv_Cx p s m args c cc own nL D t A sb scr) (hk : xv_G p l e R s m args below meth c D t A as0 sb nL Q k) (hd : decode cc pc = .ok (.ifnonnull off, 3)) (hr : (match st with | x :: z => bif Nat.beq x.1 3 then k (pc + 3) L z S else bif Nat.beq x.1 2 && xv_le 0 (Int.ofNat pc + off) then k (xv_tgt pc off) L z S else none | _ => none) = some r) : xv_T p l e R s m args below meth c D t A as0 sb nL Q pc L st S r := by
  match st, hr with
  | [], hr => cases hr
  | u :: z, hr =>
    dsimp only at hr
    cases hb : Nat.beq u.1 3 with
    | true =>
      rw [hb] at hr
      refine xs_pure hk hr fun ls vst H locs as a b Z _ hst => ?_
      obtain ⟨x0, vst, rfl, hx, ht1_⟩ := hst.un
      have e := hx.2.2.2.1 (xv_beq hb)
      subst e
      exact ⟨vst, ht1_, fun w => lv_ifnonnullN C.1 C.2.1 hd w⟩
    | false =>
      rw [hb] at hr
      obtain ⟨b, hr⟩ := xv_bt hr
      obtain ⟨b1, b2⟩ := xv_and_t b
      refine xs_pure hk hr fun ls vst H locs as a b Z _ hst => ?_
      obtain ⟨x0, vst, rfl, hx, ht1_⟩ := hst.un
      obtain ⟨q, -, rfl⟩ := hx.2.2.1 (xv_beq b1)
      exact ⟨vst, ht1_, fun w => lv_ifnonnull C.1 C.2.1 hd (xv_tgt_eq b2) w⟩
theorem xs_tableswitch {d lo hi : Int} {offs : Array Int} {len : Nat} (C : xv_Cx p s m args c cc own nL D t A sb scr) (hk : xv_G p l e R s m args below meth c D t A as0 sb nL Q k) (hd : decode cc pc = .ok (.tableswitch d lo hi offs, len)) (hr : (match st with
    | x :: z => bif Nat.beq x.1 0 then
        (bif xv_le (x.2.2 + 1) lo || xv_le (hi + 1) x.2.1 then (bif xv_le 0 (Int.ofNat pc + d) then k (xv_tgt pc d) L z S else none)
        else bif xv_le lo x.2.1 && (xv_le x.2.2 hi && xv_le x.2.2 x.2.1) then (match xv_nth offs.toList (x.2.1 - lo).toNat with
          | some off => bif xv_le 0 (Int.ofNat pc + off) then k (xv_tgt pc off) L z S else none
          | none => none) else none) else none
    | _ => none) = some r) : xv_T p l e R s m args below meth c D t A as0 sb nL Q pc L st S r := by
  match st, hr with
  | [], hr => cases hr
  | u :: z, hr =>
    obtain ⟨b, hr⟩ := xv_bt hr
    cases hb : (xv_le (u.2.2 + 1) lo || xv_le (hi + 1) u.2.1) with
    | true =>
      rw [hb] at hr
      obtain ⟨b2, hr⟩ := xv_bt hr
      refine xs_pure hk hr fun ls vst H locs as a b' Z _ hst => ?_
      obtain ⟨x0, vst, rfl, hx, ht1_⟩ := hst.un
      obtain ⟨x, rfl, x1, x2⟩ := hx.1 (xv_beq b)
      refine ⟨vst, ht1_, fun w => lv_tableOut C.1 C.2.1 hd ?_ (xv_tgt_eq b2) w⟩
      simp only [Bool.or_eq_true, xv_le_iff] at hb
      omega
    | false =>
      rw [hb] at hr
      obtain ⟨b2, hr⟩ := xv_bt hr
      obtain ⟨b3, b4⟩ := xv_and_t b2
      obtain ⟨b4, b5⟩ := xv_and_t b4
      have b3 := xv_le_iff.mp b3
      have b4 := xv_le_iff.mp b4
      have b5 := xv_le_iff.mp b5
      cases hn : xv_nth offs.toList (u.2.1 - lo).toNat with
      | none => rw [hn] at hr; cases hr
      | some off =>
        rw [hn] at hr
        obtain ⟨b6, hr⟩ := xv_bt hr
        refine xs_pure hk hr fun ls vst H locs as a b' Z _ hst => ?_
        obtain ⟨x0, vst, rfl, hx, ht1_⟩ := hst.un
        obtain ⟨x, rfl, x1, x2⟩ := hx.1 (xv_beq b)
        have e : x.toInt = u.2.1 := by omega
        refine ⟨vst, ht1_, fun w => lv_tableIn C.1 C.2.1 hd (by omega) (by omega) (off := off) ?_ (xv_tgt_eq b6) w⟩
        rw [e, ← Array.getElem?_toList, ← xv_nth_eq]
        exact hn
theorem xs_ldcw {index : Nat} {v : Int} (C : xv_Cx p s m args c cc own nL D t A sb scr) (hk : xv_G p l e R s m args below meth c D t A as0 sb nL Q k) (hd : decode cc pc = .ok (.ldc_w index, 3)) (hw : Jvm.Cond.constant own index (Int32.ofInt v) ∈ xv_tb) (hr : k (pc + 3) L (xv_int v v :: st) S = some r) : xv_T p l e R s m args below meth c D t A as0 sb nL Q pc L st S r :=
  xs_push hk hr (x := .int (Int32.ofInt v)) (fun _ => xv_hv.i (xv_int_ok (Int.le_refl v) (Int.le_refl v) (Int32.toInt_ofInt ..))) fun _ _ _ _ _ _ _ w => lv_ldcw C.1 C.2.1 C.2.2.2.1 (C.2.2.2.2.1 _ hw) hd w
theorem xs_ldc2 {index : Nat} {v : Int} (C : xv_Cx p s m args c cc own nL D t A sb scr) (hk : xv_G p l e R s m args below meth c D t A as0 sb nL Q k) (hd : decode cc pc = .ok (.ldc2_w index, 3)) (hw : Jvm.Cond.constantLong own index (Int64.ofInt v) ∈ xv_tb) (hr : k (pc + 3) L (xv_lng v v :: st) S = some r) : xv_T p l e R s m args below meth c D t A as0 sb nL Q pc L st S r :=
  xs_push hk hr (x := .long (Int64.ofInt v)) (fun _ => xv_hv.l (xv_lng_ok (Int.le_refl v) (Int.le_refl v) (Int64.toInt_ofInt ..))) fun _ _ _ _ _ _ _ w => lv_ldc2 C.1 C.2.1 C.2.2.2.1 (C.2.2.2.2.1 _ hw) hd w
end XV2
end
section
/-! cells -/
theorem xv_cls : ∀ (a : Nat) (q : vw_C), vwCl[a]? = some q → (∀ w ∈ u_ws q.1 q.2.1 q.2.2, w ∈ xv_tb) ∧ (∃ ty0 : Nat → FieldType, ∀ k, k < q.2.2 → parseFieldDescriptor (q.2.1 k).2.2.1 = some (ty0 k)) ∧ (∀ a, a < q.2.2 → ∀ b, b < q.2.2 → a ≠ b → (q.2.1 a).2.1 ≠ (q.2.1 b).2.1) ∧ Cond.instantiable q.1 q.2.2 ∈ xv_tb ∧ Cond.initialized q.1 ∈ xv_tb
  | 0, q, h => by cases (show some (RX0, TX0, 6) = some q from h); exact ⟨xv_in0, ⟨tyX0, tyX0_ok⟩, nmX0, xv_ia0, xv_it0⟩
  | 1, q, h => by cases (show some (RX1, TX1, 6) = some q from h); exact ⟨xv_in1, ⟨tyX1, tyX1_ok⟩, nmX1, xv_ia1, xv_it1⟩
  | 2, q, h => by cases (show some (RX2, TX2, 13) = some q from h); exact ⟨xv_in2, ⟨tyX2, tyX2_ok⟩, nmX2, xv_ia2, xv_it2⟩
  | 3, q, h => by cases (show some (RX3, TX3, 3) = some q from h); exact ⟨xv_in3, ⟨tyX3, tyX3_ok⟩, nmX3, xv_ia3, xv_it3⟩
  | 4, q, h => by cases (show some (RX4, TX4, 2) = some q from h); exact ⟨xv_in4, ⟨tyX4, tyX4_ok⟩, nmX4, xv_ia4, xv_it4⟩
  | 5, q, h => by cases (show some (RX5, TX5, 2) = some q from h); exact ⟨xv_in5, ⟨tyX5, tyX5_ok⟩, nmX5, xv_ia5, xv_it5⟩
  | 6, q, h => by cases (show some (RX6, TX6, 6) = some q from h); exact ⟨xv_in6, ⟨tyX6, tyX6_ok⟩, nmX6, xv_ia6, xv_it6⟩
  | 7, q, h => by cases (show some (RX7, TX7, 9) = some q from h); exact ⟨xv_in7, ⟨tyX7, tyX7_ok⟩, nmX7, xv_ia7, xv_it7⟩
  | 8, q, h => by cases (show some (RX8, TX8, 3) = some q from h); exact ⟨xv_in8, ⟨tyX8, tyX8_ok⟩, nmX8, xv_ia8, xv_it8⟩
  | 9, q, h => by cases (show some (RX9, TX9, 6) = some q from h); exact ⟨xv_in9, ⟨tyX9, tyX9_ok⟩, nmX9, xv_ia9, xv_it9⟩
  | 10, q, h => by cases (show some (RX10, TX10, 7) = some q from h); exact ⟨xv_in10, ⟨tyX10, tyX10_ok⟩, nmX10, xv_ia10, xv_it10⟩
  | 11, q, h => by cases (show some (RX11, TX11, 13) = some q from h); exact ⟨xv_in11, ⟨tyX11, tyX11_ok⟩, nmX11, xv_ia11, xv_it11⟩
  | 12, q, h => by cases (show some (RX12, TX12, 42) = some q from h); exact ⟨xv_in12, ⟨tyX12, tyX12_ok⟩, nmX12, xv_ia12, xv_it12⟩
  | n + 13, q, h => by simp [vwCl] at h
theorem xv_cell_eq {h : xv_A} {o : xv_V} {c : xv_C} (e : xv_cell h o = some c) : o.1 = 2 ∧ xv_get 14 h o.2.1.toNat = some c := by
  unfold xv_cell at e
  obtain ⟨b, e⟩ := xv_bt e
  exact ⟨xv_beq (xv_and_t b).1, e⟩
theorem xv_H.cell {t : Nat → ClassId} {sb : Nat} {h : xv_A} {n : Nat} {ws : va_W} (hH : xv_H t sb h n ws) {o : xv_V} {k : xv_C} {x0 : Value} (e : xv_cell h o = some k) (h9 : k.1 ≠ 99) (hv : xv_hv sb (ws.map Prod.fst) o x0) : ∃ (a : Nat) (x : va_E), x0 = .ref a ∧ ws[o.2.1.toNat]? = some (a, x) ∧ xv_hc t sb (ws.map Prod.fst) k x := by
  obtain ⟨e1, e2⟩ := xv_cell_eq e
  obtain ⟨a, x, h1, h2⟩ := hH.2 _ _ e2 h9
  obtain ⟨a', h3, rfl⟩ := hv.2.2.1 e1
  rw [List.getElem?_map, h1] at h3
  cases h3
  exact ⟨a, x, rfl, h1, h2⟩
theorem xv_isOne_eq {i : xv_V} (h : xv_isOne i = true) : i.2.2 ≤ i.2.1 ∧ 0 ≤ i.2.1 := by
  obtain ⟨a, b⟩ := xv_and_t h
  exact ⟨xv_le_iff.mp a, xv_le_iff.mp b⟩
theorem xv_read_eq {c : xv_C} {i v : xv_V} (h : xv_read c i = some v) : i.2.2 ≤ i.2.1 ∧ 0 ≤ i.2.1 ∧ i.2.1.toNat < c.2.1 ∧ xv_get 8 c.2.2.2 (i.2.1.toNat % c.2.2.1) = some v := by
  unfold xv_read at h
  obtain ⟨b, e⟩ := xv_bt h
  obtain ⟨b1, b2⟩ := xv_and_t b
  obtain ⟨q1, q2⟩ := xv_isOne_eq b1
  exact ⟨q1, q2, xv_ble b2, e⟩
theorem xv_write_ok {sb : Nat} {as : List Nat} {c c' : xv_C} {i v : xv_V} {g g' : Nat → Value} (h : xv_write c i v = some c') (hold : ∀ j : Nat, j < c.2.1 → ∀ u : xv_V, xv_get 8 c.2.2.2 (j % c.2.2.1) = some u → xv_hv sb as u (g j))
    (hnew : xv_hv sb as v (g' i.2.1.toNat)) (hsame : ∀ j : Nat, j ≠ i.2.1.toNat → g' j = g j) : i.2.2 ≤ i.2.1 ∧ 0 ≤ i.2.1 ∧ i.2.1.toNat < c.2.1 ∧ c'.1 = c.1 ∧ c'.2.1 = c.2.1 ∧ ∀ j : Nat, j < c.2.1 → ∀ u : xv_V, xv_get 8 c'.2.2.2 (j % c'.2.2.1) = some u → xv_hv sb as u (g' j) := by
  unfold xv_write at h
  obtain ⟨b, h⟩ := xv_bt h
  obtain ⟨b1, b2⟩ := xv_and_t b
  obtain ⟨q1, q2⟩ := xv_isOne_eq b1
  have q3 := xv_ble b2
  cases hb : Nat.beq c.2.1 c.2.2.1 with
  | true =>
    rw [hb] at h
    have hw := xv_beq hb
    cases h
    refine ⟨q1, q2, q3, rfl, rfl, fun j hj u hu => ?_⟩
    dsimp only at hu
    rw [← hw, Nat.mod_eq_of_lt hj] at hu
    rcases xv_get_upd hu with ⟨rfl, rfl⟩ | ⟨hne, hu⟩
    · exact hnew
    · rw [hsame j hne]
      exact hold j hj u (by rw [← hw, Nat.mod_eq_of_lt hj]; exact hu)
  | false =>
    rw [hb] at h
    simp only [cond_false] at h
    cases hg : xv_get 8 c.2.2.2 (i.2.1.toNat % c.2.2.1) with
    | none => rw [hg] at h; cases h
    | some u0 =>
      rw [hg] at h
      obtain ⟨b3, h⟩ := xv_bt h
      obtain ⟨b3, b4⟩ := xv_and_t b3
      have b3 := xv_beq b3
      have b4 := xv_ble b4
      cases h
      refine ⟨q1, q2, q3, rfl, rfl, fun j hj u hu => ?_⟩
      dsimp only at hu
      rcases xv_get_upd hu with ⟨ej, rfl⟩ | ⟨hne, hu⟩
      · by_cases hj2 : j = i.2.1.toNat
        · subst hj2
          exact xv_hv.join b3 b4 (Or.inr hnew)
        · rw [hsame j hj2]
          exact xv_hv.join b3 b4 (Or.inl (hold j hj u0 (by rw [ej]; exact hg)))
      · rw [hsame j (fun e => hne (by rw [e]))]
        exact hold j hj u hu
theorem xv_get_mem {α : Type} {R : Nat} {ll : List (List α)} {i : Nat} {u : α} (h : xv_get R ll i = some u) : ∃ l ∈ ll, u ∈ l := by
  rw [xv_get_eq] at h
  obtain ⟨l, h1, h2⟩ := Option.bind_eq_some_iff.mp h
  exact ⟨l, List.mem_of_getElem? h1, List.mem_of_getElem? h2⟩
theorem xv_rep_mem {α : Type} {n : Nat} {v u : α} (h : u ∈ xv_rep n v) : u = v := by
  induction n with
  | zero => cases h
  | succ n ih => exact (List.mem_cons.mp h).elim id ih
theorem xv_reps_mem {α : Type} {n : Nat} {v u : α} {l : List α} (h : l ∈ xv_reps n v) (hu : u ∈ l) : u = v := by
  unfold xv_reps at h
  generalize n / 8 = q at h
  induction q with
  | zero =>
    have e : l = xv_rep (n % 8) v := List.mem_singleton.mp h
    rw [e] at hu
    exact xv_rep_mem hu
  | succ q ih =>
    rcases List.mem_cons.mp h with e | h
    · rw [e] at hu; exact xv_rep_mem hu
    · exact ih h
theorem xv_row_ok {k n i : Nat} {z u : xv_V} (h : xv_get 8 (xv_row k n z).2.2.2 i = some u) : u = z := by
  obtain ⟨l, h1, h2⟩ := xv_get_mem h
  unfold xv_row at h1
  cases hb : Nat.ble n 64 with
  | true => rw [hb] at h1; exact xv_reps_mem h1 h2
  | false =>
    rw [hb] at h1
    have e : l = [z] := by simpa using h1
    rw [e] at h2
    simpa using h2
theorem xv_row_k (k n : Nat) (z : xv_V) : (xv_row k n z).1 = k ∧ (xv_row k n z).2.1 = n := by
  unfold xv_row
  cases Nat.ble n 64 with
  | true => exact ⟨rfl, rfl⟩
  | false => exact ⟨rfl, rfl⟩
theorem xv_zi {sb : Nat} {as : List Nat} : xv_hv sb as (0, 0, 0) (.int 0) := xv_hv.i ⟨rfl, by decide, by decide⟩
theorem xv_zl {sb : Nat} {as : List Nat} : xv_hv sb as (1, 0, 0) (.long 0) := xv_hv.l ⟨rfl, by decide, by decide⟩
theorem xv_zn {sb : Nat} {as : List Nat} : xv_hv sb as (3, 0, 0) .null := ⟨fun q => (by cases q), fun q => (by cases q), fun q => (by cases q), fun _ => rfl, fun q => (by cases q)⟩
section XV3
variable {p : Program} {l : Launch} {e : Env} {R : Room} {s : State} {m : MethodId} {args : Array Value} {below : List Frame} {meth : Method} {c : Code}
variable {cc : ByteArray} {own : String} {nL : Nat} {D : va_G} {t : Nat → ClassId} {A : Nat → Prop} {as0 : List Nat} {sb : Nat} {scr : List xv_V} {Q : xv_R → State → Prop} {k : xv_K} {pc : Nat} {L st : List xv_V} {S : xv_S} {r : xv_R}
theorem xv_Rl.new {st' : List xv_V} {S' : xv_S} {ls : Array Slot} {vst vst' : List Value} {H H' : Heap} {locs locs' : List Loc} {ws ws' : va_W} (hR : xv_Rl D t A s.heap as0 sb nL L st S ls vst H locs ws) (hm : ∃ mr, ws'.map Prod.fst = ws.map Prod.fst ++ mr) (hst : xv_sm sb (ws'.map Prod.fst) st' vst')
    (hP : va_P D vwCl ws' H') (hD : va_D A ws') (hS : va_S A s.heap H' locs') (hH : xv_H t sb S'.1 S'.2.1 ws') : xv_Rl D t A s.heap as0 sb nL L st' S' ls vst' H' locs' ws' := by
  obtain ⟨mr, hm⟩ := hm
  refine ⟨hR.1.more ?_, hst, hP, hD, hS, hH, ?_⟩
  · rw [hm]; exact xv_pre_app
  · obtain ⟨m1, h1⟩ := hR.2.2.2.2.2.2
    exact ⟨m1 ++ mr, by rw [hm, h1, List.append_assoc]⟩
theorem xs_getfield {index a b : Nat} {q : vw_C} (C : xv_Cx p s m args c cc own nL D t A sb scr) (hk : xv_G p l e R s m args below meth c D t A as0 sb nL Q k) (hd : decode cc pc = .ok (.getfield index, 3)) (hq : vwCl[a]? = some q) (hbn : b < q.2.2) (hw : Cond.fieldLink own index (q.2.1 b).1 (q.2.1 b).2.1 (q.2.1 b).2.2.1 ∈ xv_tb)
    (hr : (match st with | o :: z => (match xv_cell S.1 o with | some c => bif Nat.beq c.1 0 && Nat.beq c.2.1 a then xv_ldk k (pc + 3) L z S (xv_get 8 c.2.2.2 b) else none | none => none) | _ => none) = some r) : xv_T p l e R s m args below meth c D t A as0 sb nL Q pc L st S r := by
  match st, hr with
  | [], hr => cases hr
  | o :: z, hr =>
    dsimp only at hr
    cases hc : xv_cell S.1 o with
    | none => rw [hc] at hr; cases hr
    | some x =>
      rw [hc] at hr
      obtain ⟨b1, hr⟩ := xv_bt hr
      obtain ⟨b1, b2⟩ := xv_and_t b1
      have b1 := xv_beq b1
      have b2 := xv_beq b2
      obtain ⟨v, hv, hr⟩ := xs_ldk hr
      obtain ⟨h1, h2, h3⟩ := hk _ _ _ _ _ hr
      refine ⟨h1, h2, fun hcc hz ls vst H locs ws hR => ?_⟩
      obtain ⟨x0, vst, rfl, hx, hst⟩ := hR.2.1.un
      have hH := hR.2.2.2.2.2.1
      obtain ⟨ad, en, rfl, hen, hce⟩ := hH.cell hc (by omega) hx
      obtain ⟨fs, rfl, hl, hf⟩ := hce.1 b1
      obtain ⟨y, hy, hvy⟩ := hf b v hv
      rw [b2] at hen
      have hcl := xv_cls a q hq
      exact va_get C.1 C.2.1 C.2.2.2.2.1 hcl.1 C.2.2.2.1 C.2.2.2.2.2.1 hR.2.2.1 _ hen hq b hbn (C.2.2.2.2.1 _ hw) (fun _ h => h) hy hd (h3 hcc hz ls _ H locs ws ⟨hR.1, xv_sm.cons hvy hst, hR.2.2⟩)
def xv_ftk (d : String) (kd : Nat) : Bool := match parseFieldDescriptor d with
  | some .int => Nat.beq kd 0
  | some .long => Nat.beq kd 1
  | some (.object _) => Nat.beq kd 2
  | some (.array _) => Nat.beq kd 2
  | _ => false
theorem xv_ftk_ok {d : String} {v : xv_V} {as : List Nat} {y : Value} (h : xv_ftk d v.1 = true) (hv : xv_hv sb as v y) : ∃ ty, parseFieldDescriptor d = some ty ∧ narrow ty y = y ∧ fits ty y = true := by
  unfold xv_ftk at h
  cases hp : parseFieldDescriptor d with
  | none => rw [hp] at h; cases h
  | some ty =>
    rw [hp] at h
    refine ⟨ty, rfl, ?_⟩
    cases ty with
    | int => obtain ⟨i, rfl, -⟩ := hv.1 (xv_beq h); exact ⟨rfl, rfl⟩
    | long => obtain ⟨i, rfl, -⟩ := hv.2.1 (xv_beq h); exact ⟨rfl, rfl⟩
    | object _ => obtain ⟨i, -, rfl⟩ := hv.2.2.1 (xv_beq h); exact ⟨rfl, rfl⟩
    | array _ => obtain ⟨i, -, rfl⟩ := hv.2.2.1 (xv_beq h); exact ⟨rfl, rfl⟩
    | byte => cases h
    | char => cases h
    | double => cases h
    | float => cases h
    | short => cases h
    | boolean => cases h
theorem xs_putfield {index a b kd : Nat} {q : vw_C} (C : xv_Cx p s m args c cc own nL D t A sb scr) (hk : xv_G p l e R s m args below meth c D t A as0 sb nL Q k) (hd : decode cc pc = .ok (.putfield index, 3)) (hq : vwCl[a]? = some q) (hbn : b < q.2.2) (hw : Cond.fieldLink own index (q.2.1 b).1 (q.2.1 b).2.1 (q.2.1 b).2.2.1 ∈ xv_tb)
    (hkd : xv_ftk (q.2.1 b).2.2.1 kd = true) (hfin : (q.2.1 b).2.2.2 = false ∨ ((q.2.1 b).2.2.2 = true ∧ meth.name = "<init>" ∧ (q.2.1 b).1 = own))
    (hr : (match st with | x :: o :: z => (match xv_cell S.1 o with | some c => bif Nat.beq c.1 0 && (Nat.beq c.2.1 a && (Nat.ble (b + 1) c.2.2.1 && Nat.beq x.1 kd)) then k (pc + 3) L z (xv_upd 14 S.1 o.2.1.toNat (c.1, c.2.1, c.2.2.1, xv_upd 8 c.2.2.2 b x), S.2) else none | none => none) | _ => none) = some r) : xv_T p l e R s m args below meth c D t A as0 sb nL Q pc L st S r := by
  match st, hr with
  | [], hr => cases hr
  | [_], hr => cases hr
  | v :: o :: z, hr =>
    dsimp only at hr
    cases hc : xv_cell S.1 o with
    | none => rw [hc] at hr; cases hr
    | some x =>
      rw [hc] at hr
      obtain ⟨b1, hr⟩ := xv_bt hr
      obtain ⟨b1, b2⟩ := xv_and_t b1
      obtain ⟨b2, b3⟩ := xv_and_t b2
      obtain ⟨b3, b4⟩ := xv_and_t b3
      have b1 := xv_beq b1
      have b2 := xv_beq b2
      have b3 := xv_ble b3
      have b4 := xv_beq b4
      obtain ⟨h1, h2, h3⟩ := hk _ _ _ _ _ hr
      refine ⟨h1, h2, fun hcc hz ls vst H locs ws hR => ?_⟩
      obtain ⟨y, vst, rfl, hy, hst⟩ := hR.2.1.un
      obtain ⟨x0, vst, rfl, hx, hst2⟩ := hst.un
      have hH := hR.2.2.2.2.2.1
      obtain ⟨ad, en, rfl, hen, hce⟩ := hH.cell hc (by omega) hx
      obtain ⟨fs, rfl, hl, hf⟩ := hce.1 b1
      have hcl := xv_cls a q hq
      obtain ⟨ty0, hty0⟩ := hcl.2.1
      rw [← b4] at hkd
      obtain ⟨ty, hpd, hnar, hfit⟩ := xv_ftk_ok hkd hy
      have hen' := hen
      rw [b2] at hen
      have hkk : ∀ (H1 : Heap) (locs1 : List Loc), va_P D vwCl (ws.set o.2.1.toNat (ad, .inr (a, fs.set b y))) H1 → va_D A (ws.set o.2.1.toNat (ad, .inr (a, fs.set b y))) → va_S A s.heap H1 locs1 → W p l e R s m args below meth c H1 locs1 S.2.2.1 S.2.2.2 (Q r) (F0 m (pc + 3) ls vst) := by
        intro H1 locs1 hP1 hD1 hS1
        refine h3 hcc hz ls vst H1 locs1 _ (hR.new ⟨[], ?_⟩ ?_ hP1 hD1 hS1 ?_)
        · rw [xv_fst_set hen, List.append_nil]
        · rw [xv_fst_set hen]; exact hst2
        · refine hH.set hen ⟨fun _ => ⟨fs.set b y, by rw [← b2], by rw [List.length_set]; exact hl, fun b' v' hb' => ?_⟩, fun w => ?_, fun w => ?_, fun w => ?_, fun w => ?_⟩
          · rcases xv_get_upd hb' with ⟨rfl, rfl⟩ | ⟨hne, hb'⟩
            · exact ⟨y, by rw [List.getElem?_set_self (by omega)], hy⟩
            · obtain ⟨y', hy', hv'⟩ := hf b' v' hb'
              exact ⟨y', by rw [List.getElem?_set_ne (fun e => hne e.symm)]; exact hy', hv'⟩
          · dsimp only at w; omega
          · dsimp only at w; omega
          · dsimp only at w; omega
          · dsimp only at w; omega
      rcases hfin with hfin | ⟨hfin, hin2, hdecl⟩
      · exact va_put C.1 C.2.1 C.2.2.2.2.1 hcl.1 ty0 hty0 hcl.2.2.1 C.2.2.2.1 C.2.2.2.2.2.1 hR.2.2.1 hR.2.2.2.1 hR.2.2.2.2.1 _ hen hq b hbn (C.2.2.2.2.1 _ hw) (fun _ h => h) hfin hpd hnar hfit (by omega) hd hkk
      · exact va_putF C.1 C.2.1 C.2.2.2.2.1 hcl.1 ty0 hty0 hcl.2.2.1 C.2.2.2.1 C.2.2.2.2.2.1 hR.2.2.1 hR.2.2.2.1 hR.2.2.2.2.1 _ hen hq b hbn (C.2.2.2.2.1 _ hw) (fun _ h => h) hfin hin2 hdecl hpd hnar hfit (by omega) hd hkk
end XV3
end
section
/-! new objects; rows -/
def xv_zv (v : xv_V) : Value := if v.1 = 0 then .int 0 else if v.1 = 1 then .long 0 else .null
noncomputable def xv_newB (q : vw_C) (n : Nat × List (List xv_V)) : Bool := decide (n.1 = q.2.2) && (decide (n.2.length ≤ 6) && (decide (n.2.flatten.length = n.1) && (n.2.flatten.all (fun v => decide (v = (0, 0, 0) ∨ v = (1, 0, 0) ∨ v = (3, 0, 0))) && ((List.range 48).all (fun b => decide (xv_get 8 n.2 b = n.2.flatten[b]?)) &&
  (List.range q.2.2).all (fun j => match parseFieldDescriptor (q.2.1 j).2.2.1 with
    | some ty => decide (defaultValue ty = (n.2.flatten.map xv_zv).getD j .null)
    | none => false)))))
set_option maxRecDepth 100000 in
theorem xv_new_all : (List.range 13).all (fun a => match vwCl[a]?, xv_news[a]? with
  | some q, some n => xv_newB q n
  | _, _ => false) = true := by decide +kernel
theorem xv_zv_ok {sb : Nat} {as : List Nat} {v : xv_V} (h : v = (0, 0, 0) ∨ v = (1, 0, 0) ∨ v = (3, 0, 0)) : xv_hv sb as v (xv_zv v) := by
  rcases h with rfl | rfl | rfl
  · exact xv_zi
  · exact xv_zl
  · exact xv_zn
theorem xv_new_ok {a : Nat} {q : vw_C} {n : Nat × List (List xv_V)} (hq : vwCl[a]? = some q) (hn : xv_news[a]? = some n) : n.1 = q.2.2 ∧ ∃ (ty : Nat → FieldType) (fs : List Value), (∀ k, k < q.2.2 → parseFieldDescriptor (q.2.1 k).2.2.1 = some (ty k)) ∧ (∀ j, j < q.2.2 → defaultValue (ty j) = vp_V fs j) ∧ fs.length = n.1 ∧
    ∀ (sb : Nat) (as : List Nat) (b : Nat) (v : xv_V), xv_get 8 n.2 b = some v → ∃ y, fs[b]? = some y ∧ xv_hv sb as v y := by
  have ha : a < 13 := (List.getElem?_eq_some_iff.mp hq).1
  have h := List.all_eq_true.mp xv_new_all a (List.mem_range.mpr ha)
  rw [hq, hn] at h
  dsimp only at h
  unfold xv_newB at h
  simp only [Bool.and_eq_true, decide_eq_true_eq] at h
  obtain ⟨h1, h2, h3, h4, h5, h6⟩ := h
  obtain ⟨-, ⟨ty, hty⟩, -⟩ := xv_cls a q hq
  refine ⟨h1, ty, n.2.flatten.map xv_zv, hty, fun j hj => ?_, by rw [List.length_map]; exact h3, fun sb as b v hb => ?_⟩
  · have := List.all_eq_true.mp h6 j (List.mem_range.mpr hj)
    rw [hty j hj] at this
    exact of_decide_eq_true this
  · have hlt : b < 48 := by
      rw [xv_get_eq] at hb
      obtain ⟨l, hl, -⟩ := Option.bind_eq_some_iff.mp hb
      have := (List.getElem?_eq_some_iff.mp hl).1
      omega
    have e := of_decide_eq_true (List.all_eq_true.mp h5 b (List.mem_range.mpr hlt))
    rw [e] at hb
    refine ⟨xv_zv v, by rw [List.getElem?_map, hb]; rfl, xv_zv_ok ?_⟩
    exact of_decide_eq_true (List.all_eq_true.mp h4 v (List.mem_of_getElem? hb))
theorem xv_hc.nobj {t : Nat → ClassId} {sb : Nat} {as : List Nat} {k : xv_C} {fs : List Value} (h0 : k.1 = 0) (hl : fs.length = k.2.2.1) (hf : ∀ (b : Nat) (v : xv_V), xv_get 8 k.2.2.2 b = some v → ∃ y, fs[b]? = some y ∧ xv_hv sb as v y) : xv_hc t sb as k (.inr (k.2.1, fs)) :=
  ⟨fun _ => ⟨fs, rfl, hl, hf⟩, fun q => (by omega), fun q => (by omega), fun q => (by omega), fun q => absurd h0 q⟩
theorem xv_hc.irow {t : Nat → ClassId} {sb : Nat} {as : List Nat} {k : xv_C} {f : Nat → Int32} (h0 : k.1 = 1 ∨ k.1 = 2 ∨ k.1 = 3) (hl : k.2.1 ≤ 65536) (hf : ∀ i : Nat, i < k.2.1 → ∀ v : xv_V, xv_get 8 k.2.2.2 (i % k.2.2.1) = some v → xv_hv sb as v (.int (f i))) : xv_hc t sb as k (.inl (t k.1, k.2.1, .inl f)) :=
  ⟨fun q => (by omega), fun _ => ⟨f, rfl, hf⟩, fun q => (by omega), fun q => (by omega), fun _ => hl⟩
theorem xv_hc.lrow {t : Nat → ClassId} {sb : Nat} {as : List Nat} {k : xv_C} {f : Nat → Int64} (h0 : k.1 = 4) (hl : k.2.1 ≤ 65536) (hf : ∀ i : Nat, i < k.2.1 → ∀ v : xv_V, xv_get 8 k.2.2.2 (i % k.2.2.1) = some v → xv_hv sb as v (.long (f i))) : xv_hc t sb as k (.inl (t k.1, k.2.1, .inr (.inl f))) :=
  ⟨fun q => (by omega), fun q => (by omega), fun _ => ⟨f, rfl, hf⟩, fun q => (by omega), fun _ => hl⟩
theorem xv_hc.arow {t : Nat → ClassId} {sb : Nat} {as : List Nat} {k : xv_C} {f : Nat → Option Nat} (h0 : k.1 = 5 ∨ k.1 = 6 ∨ k.1 = 7) (hl : k.2.1 ≤ 65536) (hf : ∀ i : Nat, i < k.2.1 → ∀ v : xv_V, xv_get 8 k.2.2.2 (i % k.2.2.1) = some v → xv_hv sb as v (va_rf (f i))) : xv_hc t sb as k (.inl (t k.1, k.2.1, .inr (.inr (.inr (.inr f))))) :=
  ⟨fun q => (by omega), fun q => (by omega), fun q => (by omega), fun _ => ⟨f, rfl, hf⟩, fun _ => hl⟩
/-- a number that stands for itself -/
theorem xv_idx {i : xv_V} {x : Int32} (h1 : i.2.2 ≤ i.2.1) (h2 : 0 ≤ i.2.1) (x1 : i.2.1 ≤ x.toInt) (x2 : x.toInt ≤ i.2.2) : x.toInt = i.2.1 ∧ x.toNatClampNeg = i.2.1.toNat ∧ ¬ x < 0 := by
  have e : x.toInt = i.2.1 := by omega
  refine ⟨e, ?_, fun h => ?_⟩
  · show x.toInt.toNat = _
    rw [e]
  · have := Int32.lt_iff_toInt_lt.mp h
    rw [e] at this
    have h0 : (0 : Int32).toInt = 0 := by decide
    omega
section XV4
variable {p : Program} {l : Launch} {e : Env} {R : Room} {s : State} {m : MethodId} {args : Array Value} {below : List Frame} {meth : Method} {c : Code}
variable {cc : ByteArray} {own : String} {nL : Nat} {D : va_G} {t : Nat → ClassId} {A : Nat → Prop} {as0 : List Nat} {sb : Nat} {scr : List xv_V} {Q : xv_R → State → Prop} {k : xv_K} {pc : Nat} {L st : List xv_V} {S : xv_S} {r : xv_R}
theorem xs_new {index a : Nat} {q : vw_C} (C : xv_Cx p s m args c cc own nL D t A sb scr) (hk : xv_G p l e R s m args below meth c D t A as0 sb nL Q k) (hd : decode cc pc = .ok (.new index, 3)) (hq : vwCl[a]? = some q) (hw : Cond.classLink own index q.1 ∈ xv_tb)
    (hr : (match xv_nth xv_news a with | some q => k (pc + 3) L ((2, Int.ofNat S.2.1, 0) :: st) (xv_upd 14 S.1 S.2.1 (0, a, q.1, q.2), S.2.1 + 1, S.2.2.1 + 1, S.2.2.2 + q.1) | none => none) = some r) : xv_T p l e R s m args below meth c D t A as0 sb nL Q pc L st S r := by
  rw [xv_nth_eq] at hr
  cases hn : xv_news[a]? with
  | none => rw [hn] at hr; cases hr
  | some n =>
    rw [hn] at hr
    obtain ⟨h1, h2, h3⟩ := hk _ _ _ _ _ hr
    dsimp only at h1 h2 h3
    obtain ⟨e1, ty, fs, hty, hfs, hlen, hf⟩ := xv_new_ok hq hn
    refine ⟨by omega, by omega, fun hcc hz ls vst H locs ws hR => ?_⟩
    have hcl := xv_cls a q hq
    have hH := hR.2.2.2.2.2.1
    refine va_new (C := q.1) (T := q.2.1) (N := q.2.2) C.1 C.2.1 C.2.2.2.2.1 hcl.1 ty hty C.2.2.2.1 (C.2.2.2.2.1 _ hw) (C.2.2.2.2.1 _ hcl.2.2.2.1) (C.2.2.2.2.1 _ hcl.2.2.2.2) C.2.2.2.2.2.1 hR.2.2.1 hR.2.2.2.1 hR.2.2.2.2.1 C.2.2.2.2.2.2.1 hq hfs (by omega) (by omega) hd (fun ad H1 hP1 hD1 hS1 => ?_)
    rw [e1] at h3
    have hm : (ws ++ [(ad, (Sum.inr (a, fs) : va_E))]).map Prod.fst = ws.map Prod.fst ++ [ad] := by rw [List.map_append]; rfl
    refine h3 hcc hz ls _ H1 locs _ (hR.new ⟨[ad], hm⟩ (xv_sm.cons ?_ (hR.2.1.more ?_)) hP1 hD1 hS1 (hH.push ?_))
    · rw [hm]
      apply xv_hv.r
      rw [← hH.1, List.getElem?_append_right (by simp), List.length_map, Nat.sub_self]; rfl
    · rw [hm]; exact xv_pre_app
    · exact xv_hc.nobj (k := (0, a, q.2.2, n.2)) rfl (by rw [hlen, e1]) (hf sb _)
/-- a new row, of one class of rows -/
theorem xs_newrow {pc' N : Nat} {x : xv_V} {z : List xv_V} {row : xv_C} (hk : xv_G p l e R s m args below meth c D t A as0 sb nL Q k) (hst : st = x :: z) (hx0 : x.1 = 0) (hone : xv_isOne x = true) (hr : k pc' L ((2, Int.ofNat S.2.1, 0) :: z) (xv_upd 14 S.1 S.2.1 row, S.2.1 + 1, S.2.2.1 + 1, S.2.2.2 + x.2.1.toNat) = some r)
    (hs : ∀ (ls : Array Slot) (vst : List Value) (H : Heap) (locs : List Loc) (ws : va_W) (Z : State → Prop) (i : Int32), va_P D vwCl ws H → va_D A ws → va_S A s.heap H locs → i.toNatClampNeg = x.2.1.toNat → ¬ i < 0 → S.2.2.1 + 1 ≤ R.cells → S.2.2.2 + x.2.1.toNat ≤ R.slots →
      (∀ (ad : Nat) (en : va_E) (H1 : Heap), (∀ as : List Nat, xv_hc t sb as row en) → va_P D vwCl (ws ++ [(ad, en)]) H1 → va_D A (ws ++ [(ad, en)]) → va_S A s.heap H1 locs → W p l e R s m args below meth c H1 locs (S.2.2.1 + 1) (S.2.2.2 + x.2.1.toNat) Z (F0 m pc' ls (.ref ad :: vst))) → W p l e R s m args below meth c H locs S.2.2.1 S.2.2.2 Z (F0 m pc ls (.int i :: vst))) : xv_T p l e R s m args below meth c D t A as0 sb nL Q pc L st S r := by
  subst hst
  obtain ⟨h1, h2, h3⟩ := hk _ _ _ _ _ hr
  dsimp only at h1 h2 h3
  obtain ⟨o1, o2⟩ := xv_isOne_eq hone
  refine ⟨by omega, by omega, fun hcc hz ls vst H locs ws hR => ?_⟩
  obtain ⟨y0, vst, rfl, hy, hst⟩ := hR.2.1.un
  obtain ⟨i, rfl, i1, i2⟩ := hy.1 hx0
  have hH := hR.2.2.2.2.2.1
  obtain ⟨e1, e2, e3⟩ := xv_idx o1 o2 i1 i2
  refine hs ls vst H locs ws _ i hR.2.2.1 hR.2.2.2.1 hR.2.2.2.2.1 e2 e3 (by omega) (by omega) (fun ad en H1 hen hP1 hD1 hS1 => ?_)
  have hm : (ws ++ [(ad, en)]).map Prod.fst = ws.map Prod.fst ++ [ad] := by rw [List.map_append]; rfl
  refine h3 hcc hz ls _ H1 locs _ (hR.new ⟨[ad], hm⟩ (xv_sm.cons ?_ (hst.more ?_)) hP1 hD1 hS1 (hH.push (hen _)))
  · rw [hm]
    apply xv_hv.r
    rw [← hH.1, List.getElem?_append_right (by simp), List.length_map, Nat.sub_self]; rfl
  · rw [hm]; exact xv_pre_app
theorem xv_ty_same {tys : List (ClassId × FieldType)} {cA cB : ClassId} {ty : FieldType} {j : Nat} (hty : ∀ C, ty ≠ .object C) (hK : va_K D vwCl tys s) (hj : tys[j]? = some (cB, ty)) (hK2 : va_K D vwCl (tys ++ [(cA, ty)]) s) : cA = cB := by
  have h1 := (hK.2 j _ hj).2
  have h2 := (hK2.2 tys.length (cA, ty) (by rw [List.getElem?_append_right (Nat.le_refl _), Nat.sub_self]; rfl)).2
  cases ty with
  | object C => exact absurd rfl (hty C)
  | _ => exact Option.some.inj (h2.symm.trans h1)
theorem xv_ty_sameO {tys : List (ClassId × FieldType)} {cA cB : ClassId} {E : String} {j : Nat} (hK : va_K D vwCl tys s) (hj : tys[j]? = some (cB, .object E)) (hK2 : va_K D vwCl (tys ++ [(cA, .object E)]) s) : cA = cB := by
  obtain ⟨_, _, -, -, -, h1⟩ := (hK.2 j _ hj).2
  obtain ⟨_, _, -, -, -, h2⟩ := (hK2.2 tys.length (cA, .object E) (by rw [List.getElem?_append_right (Nat.le_refl _), Nat.sub_self]; rfl)).2
  exact Option.some.inj (h2.symm.trans h1)
theorem xs_newarray {ty : ArrayType} (C : xv_Cx p s m args c cc own nL D t A sb scr) (hk : xv_G p l e R s m args below meth c D t A as0 sb nL Q k) 
    (hr : (match st with
    | x :: r => bif Nat.beq x.1 0 && (xv_isOne x && xv_le x.2.1 65536) then
        (match ty with
        | .int => k (pc + 2) L ((2, Int.ofNat S.2.1, 0) :: r) (xv_upd 14 S.1 S.2.1 (xv_row 1 x.2.1.toNat (0, 0, 0)), S.2.1 + 1, S.2.2.1 + 1, S.2.2.2 + x.2.1.toNat)
        | .byte => k (pc + 2) L ((2, Int.ofNat S.2.1, 0) :: r) (xv_upd 14 S.1 S.2.1 (xv_row 2 x.2.1.toNat (0, 0, 0)), S.2.1 + 1, S.2.2.1 + 1, S.2.2.2 + x.2.1.toNat)
        | .boolean => k (pc + 2) L ((2, Int.ofNat S.2.1, 0) :: r) (xv_upd 14 S.1 S.2.1 (xv_row 3 x.2.1.toNat (0, 0, 0)), S.2.1 + 1, S.2.2.1 + 1, S.2.2.2 + x.2.1.toNat)
        | .long => k (pc + 2) L ((2, Int.ofNat S.2.1, 0) :: r) (xv_upd 14 S.1 S.2.1 (xv_row 4 x.2.1.toNat (1, 0, 0)), S.2.1 + 1, S.2.2.1 + 1, S.2.2.2 + x.2.1.toNat)
        | _ => none) else none
    | _ => none) = some r) (hd : decode cc pc = .ok (.newarray ty, 2)) (hw : Cond.arrayClass (newarray.typeOf ty) ∈ xv_tb) : xv_T p l e R s m args below meth c D t A as0 sb nL Q pc L st S r := by
  match st, hr with
  | [], hr => cases hr
  | x :: z, hr =>
    obtain ⟨b1, hr⟩ := xv_bt hr
    obtain ⟨b1, b2⟩ := xv_and_t b1
    obtain ⟨b2, b3⟩ := xv_and_t b2
    have b3 := xv_le_iff.mp b3
    have hn : x.2.1.toNat ≤ 65536 := by omega
    cases ty with
    | int =>
      refine xs_newrow (N := 0) hk rfl (xv_beq b1) b2 hr (fun ls vst H locs ws Z i hP hD hS ei hi hc1 hc2 kk => ?_)
      refine va_newa (a0 := (x.2.1.toNat, .inl (fun _ => 0))) C.1 C.2.1 (C.2.2.2.2.1 _ hw) rfl C.2.2.2.2.2.1 hP hD hS C.2.2.2.2.2.2.1 (fun _ => rfl) hi ei (by show _ * 4 ≤ _; omega) hc1 hc2 hd (fun q cA H1 hK1 hP1 hD1 hS1 => ?_)
      have e := xv_ty_same (j := 0) (by intro C h; cases h) C.2.2.2.2.2.1 rfl hK1
      subst e
      refine kk q _ H1 (fun as => ?_) hP1 hD1 hS1
      have hrk := xv_row_k 1 x.2.1.toNat (0, 0, 0)
      have := xv_hc.irow (t := t) (sb := sb) (as := as) (k := xv_row 1 x.2.1.toNat (0, 0, 0)) (f := fun _ => 0) (Or.inl hrk.1) (by rw [hrk.2]; exact hn) (fun j _ v hv => by rw [xv_row_ok hv]; exact xv_zi)
      rw [hrk.1, hrk.2] at this
      exact this
    | byte =>
      refine xs_newrow (N := 0) hk rfl (xv_beq b1) b2 hr (fun ls vst H locs ws Z i hP hD hS ei hi hc1 hc2 kk => ?_)
      refine va_newa (a0 := (x.2.1.toNat, .inl (fun _ => 0))) C.1 C.2.1 (C.2.2.2.2.1 _ hw) rfl C.2.2.2.2.2.1 hP hD hS C.2.2.2.2.2.2.1 (fun _ => rfl) hi ei (by show _ * 1 ≤ _; omega) hc1 hc2 hd (fun q cA H1 hK1 hP1 hD1 hS1 => ?_)
      have e := xv_ty_same (j := 1) (by intro C h; cases h) C.2.2.2.2.2.1 rfl hK1
      subst e
      refine kk q _ H1 (fun as => ?_) hP1 hD1 hS1
      have hrk := xv_row_k 2 x.2.1.toNat (0, 0, 0)
      have := xv_hc.irow (t := t) (sb := sb) (as := as) (k := xv_row 2 x.2.1.toNat (0, 0, 0)) (f := fun _ => 0) (Or.inr (Or.inl hrk.1)) (by rw [hrk.2]; exact hn) (fun j _ v hv => by rw [xv_row_ok hv]; exact xv_zi)
      rw [hrk.1, hrk.2] at this
      exact this
    | boolean =>
      refine xs_newrow (N := 0) hk rfl (xv_beq b1) b2 hr (fun ls vst H locs ws Z i hP hD hS ei hi hc1 hc2 kk => ?_)
      refine va_newa (a0 := (x.2.1.toNat, .inl (fun _ => 0))) C.1 C.2.1 (C.2.2.2.2.1 _ hw) rfl C.2.2.2.2.2.1 hP hD hS C.2.2.2.2.2.2.1 (fun _ => rfl) hi ei (by show _ * 1 ≤ _; omega) hc1 hc2 hd (fun q cA H1 hK1 hP1 hD1 hS1 => ?_)
      have e := xv_ty_same (j := 2) (by intro C h; cases h) C.2.2.2.2.2.1 rfl hK1
      subst e
      refine kk q _ H1 (fun as => ?_) hP1 hD1 hS1
      have hrk := xv_row_k 3 x.2.1.toNat (0, 0, 0)
      have := xv_hc.irow (t := t) (sb := sb) (as := as) (k := xv_row 3 x.2.1.toNat (0, 0, 0)) (f := fun _ => 0) (Or.inr (Or.inr hrk.1)) (by rw [hrk.2]; exact hn) (fun j _ v hv => by rw [xv_row_ok hv]; exact xv_zi)
      rw [hrk.1, hrk.2] at this
      exact this
    | long =>
      refine xs_newrow (N := 0) hk rfl (xv_beq b1) b2 hr (fun ls vst H locs ws Z i hP hD hS ei hi hc1 hc2 kk => ?_)
      refine va_newa (a0 := (x.2.1.toNat, .inr (.inl (fun _ => 0)))) C.1 C.2.1 (C.2.2.2.2.1 _ hw) rfl C.2.2.2.2.2.1 hP hD hS C.2.2.2.2.2.2.1 (fun _ => rfl) hi ei (by show _ * 8 ≤ _; omega) hc1 hc2 hd (fun q cA H1 hK1 hP1 hD1 hS1 => ?_)
      have e := xv_ty_same (j := 3) (by intro C h; cases h) C.2.2.2.2.2.1 rfl hK1
      subst e
      refine kk q _ H1 (fun as => ?_) hP1 hD1 hS1
      have hrk := xv_row_k 4 x.2.1.toNat (1, 0, 0)
      have := xv_hc.lrow (t := t) (sb := sb) (as := as) (k := xv_row 4 x.2.1.toNat (1, 0, 0)) (f := fun _ => 0) hrk.1 (by rw [hrk.2]; exact hn) (fun j _ v hv => by rw [xv_row_ok hv]; exact xv_zl)
      rw [hrk.1, hrk.2] at this
      exact this
    | char => cases hr
    | float => cases hr
    | double => cases hr
    | short => cases hr
theorem xs_anewarray {index : Nat} (C : xv_Cx p s m args c cc own nL D t A sb scr) (hk : xv_G p l e R s m args below meth c D t A as0 sb nL Q k) (hd : decode cc pc = .ok (.anewarray index, 3)) (hw : Cond.classLink own index "PassedPenance$Image" ∈ xv_tb)
    (hr : (match st with
    | x :: r => bif Nat.beq x.1 0 && (xv_isOne x && xv_le x.2.1 65536) then k (pc + 3) L ((2, Int.ofNat S.2.1, 0) :: r) (xv_upd 14 S.1 S.2.1 (xv_row 7 x.2.1.toNat (3, 0, 0)), S.2.1 + 1, S.2.2.1 + 1, S.2.2.2 + x.2.1.toNat) else none
    | _ => none) = some r) : xv_T p l e R s m args below meth c D t A as0 sb nL Q pc L st S r := by
  match st, hr with
  | [], hr => cases hr
  | x :: z, hr =>
    obtain ⟨b1, hr⟩ := xv_bt hr
    obtain ⟨b1, b2⟩ := xv_and_t b1
    obtain ⟨b2, b3⟩ := xv_and_t b2
    have b3 := xv_le_iff.mp b3
    have hn : x.2.1.toNat ≤ 65536 := by omega
    refine xs_newrow (N := 0) hk rfl (xv_beq b1) b2 hr (fun ls vst H locs ws Z i hP hD hS ei hi hc1 hc2 kk => ?_)
    refine va_newq C.1 C.2.1 C.2.2.2.1 (C.2.2.2.2.1 _ hw) C.2.2.2.2.2.2.2.2.2.1 C.2.2.2.2.2.1 hP hD hS C.2.2.2.2.2.2.1 hi ei (by omega) hc1 hc2 hd (fun q cA H1 hK1 hP1 hD1 hS1 => ?_)
    have e := xv_ty_sameO (j := 6) C.2.2.2.2.2.1 rfl hK1
    subst e
    refine kk q _ H1 (fun as => ?_) hP1 hD1 hS1
    have hrk := xv_row_k 7 x.2.1.toNat (3, 0, 0)
    have := xv_hc.arow (t := t) (sb := sb) (as := as) (k := xv_row 7 x.2.1.toNat (3, 0, 0)) (f := fun _ => none) (Or.inr (Or.inr hrk.1)) (by rw [hrk.2]; exact hn) (fun j _ v hv => by rw [xv_row_ok hv]; exact xv_zn)
    rw [hrk.1, hrk.2] at this
    exact this
end XV4
end
section
/-! rows are read and written -/
theorem xv_hc.row {t : Nat → ClassId} {sb : Nat} {as : List Nat} {k : xv_C} {x : va_E} (h : xv_hc t sb as k x) (h1 : 1 ≤ k.1) (h7 : k.1 ≤ 7) : ∃ (y : vp_A) (ty : FieldType), x = .inl (t k.1, y) ∧ y.1 = k.2.1 ∧ (xv_tys t)[k.1 - 1]? = some (t k.1, ty) := by
  have hk : k.1 = 1 ∨ k.1 = 2 ∨ k.1 = 3 ∨ k.1 = 4 ∨ k.1 = 5 ∨ k.1 = 6 ∨ k.1 = 7 := by omega
  rcases hk with e | e | e | e | e | e | e
  · obtain ⟨f, rfl, -⟩ := h.2.1 (by omega); exact ⟨_, .int, rfl, rfl, by rw [e]; rfl⟩
  · obtain ⟨f, rfl, -⟩ := h.2.1 (by omega); exact ⟨_, .byte, rfl, rfl, by rw [e]; rfl⟩
  · obtain ⟨f, rfl, -⟩ := h.2.1 (by omega); exact ⟨_, .boolean, rfl, rfl, by rw [e]; rfl⟩
  · obtain ⟨f, rfl, -⟩ := h.2.2.1 (by omega); exact ⟨_, .long, rfl, rfl, by rw [e]; rfl⟩
  · obtain ⟨f, rfl, -⟩ := h.2.2.2.1 (by omega); exact ⟨_, .array .int, rfl, rfl, by rw [e]; rfl⟩
  · obtain ⟨f, rfl, -⟩ := h.2.2.2.1 (by omega); exact ⟨_, .array .long, rfl, rfl, by rw [e]; rfl⟩
  · obtain ⟨f, rfl, -⟩ := h.2.2.2.1 (by omega); exact ⟨_, .object "PassedPenance$Image", rfl, rfl, by rw [e]; rfl⟩
theorem xv_ofNat {n : Nat} (h : n ≤ 65536) : (Int32.ofNat n).toInt = Int.ofNat n := by
  have := nI_toInt (n := n) (by omega)
  exact this
section XV5
variable {p : Program} {l : Launch} {e : Env} {R : Room} {s : State} {m : MethodId} {args : Array Value} {below : List Frame} {meth : Method} {c : Code}
variable {cc : ByteArray} {own : String} {nL : Nat} {D : va_G} {t : Nat → ClassId} {A : Nat → Prop} {as0 : List Nat} {sb : Nat} {scr : List xv_V} {Q : xv_R → State → Prop} {k : xv_K} {pc : Nat} {L st : List xv_V} {S : xv_S} {r : xv_R}
theorem xs_alen (C : xv_Cx p s m args c cc own nL D t A sb scr) (hk : xv_G p l e R s m args below meth c D t A as0 sb nL Q k) (hd : decode cc pc = .ok (.arraylength, 1))
    (hr : (match st with
    | o :: r => bif Nat.beq o.1 5 then (bif !scr.isEmpty then k (pc + 1) L ((0, Int.ofNat scr.length, Int.ofNat scr.length) :: r) S else none) else (match xv_cell S.1 o with
      | some c => bif Nat.ble 1 c.1 && Nat.ble c.1 7 then k (pc + 1) L ((0, Int.ofNat c.2.1, Int.ofNat c.2.1) :: r) S else none
      | none => none)
    | _ => none) = some r) : xv_T p l e R s m args below meth c D t A as0 sb nL Q pc L st S r := by
  match st, hr with
  | [], hr => cases hr
  | o :: z, hr =>
    dsimp only at hr
    cases hb : Nat.beq o.1 5 with
    | true =>
      rw [hb] at hr
      simp only [cond_true] at hr
      obtain ⟨hne0, hr⟩ := xv_bt hr
      have hne : scr ≠ [] := fun q => by rw [q] at hne0; cases hne0
      obtain ⟨h1, h2, h3⟩ := hk _ _ _ _ _ hr
      refine ⟨h1, h2, fun hcc hz ls vst H locs ws hR => ?_⟩
      obtain ⟨x0, vst, rfl, hx, hst⟩ := hR.2.1.un
      have e := hx.2.2.2.2 (xv_beq hb)
      subst e
      rcases C.2.2.2.2.2.2.2.1 with e | ⟨xs, hX, hbl, hbA, hlt, hxs⟩
      · exact absurd e hne
      · refine va_slen C.1 C.2.1 hX hbl hbA hR.2.2.2.2.1 hd (h3 hcc hz ls _ H locs ws ⟨hR.1, xv_sm.cons ?_ hst, hR.2.2⟩)
        have e : (Int32.ofNat scr.length).toInt = Int.ofNat scr.length := nI_toInt hlt
        exact xv_hv.i ⟨rfl, by rw [e]; exact Int.le_refl _, by rw [e]; exact Int.le_refl _⟩
    | false =>
      rw [hb] at hr
      simp only [cond_false] at hr
      cases hc : xv_cell S.1 o with
      | none => rw [hc] at hr; cases hr
      | some x =>
        rw [hc] at hr
        obtain ⟨b1, hr⟩ := xv_bt hr
        obtain ⟨b1, b2⟩ := xv_and_t b1
        have b1 := xv_ble b1
        have b2 := xv_ble b2
        obtain ⟨h1, h2, h3⟩ := hk _ _ _ _ _ hr
        refine ⟨h1, h2, fun hcc hz ls vst H locs ws hR => ?_⟩
        obtain ⟨x0, vst, rfl, hx, hst⟩ := hR.2.1.un
        obtain ⟨ad, en, rfl, hen, hce⟩ := hR.2.2.2.2.2.1.cell hc (by omega) hx
        obtain ⟨y, ty, rfl, hy, hty⟩ := hce.row b1 b2
        refine va_alen C.1 C.2.1 C.2.2.2.2.2.1 hR.2.2.1 _ _ hen hty rfl hd (h3 hcc hz ls _ H locs ws ⟨hR.1, xv_sm.cons ?_ hst, hR.2.2⟩)
        have e := xv_ofNat (hce.2.2.2.2 (by omega))
        rw [← hy] at e ⊢
        exact xv_hv.i ⟨rfl, by rw [e]; exact Int.le_refl _, by rw [e]; exact Int.le_refl _⟩
theorem xv_vpin {i : xv_V} {x : Int32} {n : Nat} (h : x.toInt = i.2.1) (h0 : 0 ≤ i.2.1) (hn : i.2.1.toNat < n) : vp_in x n := by
  rw [vp_in_iff]; omega
/-- a place of a row is read -/
theorem xs_ald {kd pc' : Nat} (hk : xv_G p l e R s m args below meth c D t A as0 sb nL Q k) (hr : xv_ald k kd pc' L st S = some r) (hkd : kd ≠ 99)
    (hs : ∀ (ls : Array Slot) (vst : List Value) (H : Heap) (locs : List Loc) (a b : Nat) (Z : State → Prop) (ws : va_W) (q ad : Nat) (en : va_E) (x : Int32) (cl : xv_C) (v : xv_V), va_P D vwCl ws H → ws[q]? = some (ad, en) → xv_hc t sb (ws.map Prod.fst) cl en → cl.1 = kd → vp_in x cl.2.1 → x.toNatClampNeg < cl.2.1 → xv_get 8 cl.2.2.2 (x.toNatClampNeg % cl.2.2.1) = some v →
      ∃ y, xv_hv sb (ws.map Prod.fst) v y ∧ (W p l e R s m args below meth c H locs a b Z (F0 m pc' ls (y :: vst)) → W p l e R s m args below meth c H locs a b Z (F0 m pc ls (.int x :: .ref ad :: vst)))) : xv_T p l e R s m args below meth c D t A as0 sb nL Q pc L st S r := by
  unfold xv_ald at hr
  match st, hr with
  | [], hr => cases hr
  | [_], hr => cases hr
  | i :: o :: z, hr =>
    dsimp only at hr
    cases hc : xv_cell S.1 o with
    | none => rw [hc] at hr; cases hr
    | some cl =>
      rw [hc] at hr
      obtain ⟨b1, hr⟩ := xv_bt hr
      obtain ⟨b1, b2⟩ := xv_and_t b1
      have b1 := xv_beq b1
      have b2 := xv_beq b2
      obtain ⟨v, hv, hr⟩ := xs_ldk hr
      obtain ⟨r1, r2, r3, r4⟩ := xv_read_eq hv
      obtain ⟨h1, h2, h3⟩ := hk _ _ _ _ _ hr
      refine ⟨h1, h2, fun hcc hz ls vst H locs ws hR => ?_⟩
      obtain ⟨i0, vst, rfl, hi, hst⟩ := hR.2.1.un
      obtain ⟨x0, vst, rfl, hx, hst2⟩ := hst.un
      obtain ⟨ad, en, rfl, hen, hce⟩ := hR.2.2.2.2.2.1.cell hc (by omega) hx
      obtain ⟨x, rfl, x1, x2⟩ := hi.1 b1
      obtain ⟨e1, e2, e3⟩ := xv_idx r1 r2 x1 x2
      obtain ⟨y, hy, hw⟩ := hs ls vst H locs S.2.2.1 S.2.2.2 (Q r) ws _ ad en x cl v hR.2.2.1 hen hce b2 (xv_vpin e1 r2 r3) (by rw [e2]; exact r3) (by rw [e2]; exact r4)
      exact hw (h3 hcc hz ls _ H locs ws ⟨hR.1, xv_sm.cons hy hst2, hR.2.2⟩)
theorem xs_iald (C : xv_Cx p s m args c cc own nL D t A sb scr) (hk : xv_G p l e R s m args below meth c D t A as0 sb nL Q k) (hd : decode cc pc = .ok (.iaload, 1)) (hr : xv_ald k 1 (pc + 1) L st S = some r) : xv_T p l e R s m args below meth c D t A as0 sb nL Q pc L st S r :=
  xs_ald hk hr (by decide) fun ls vst H locs a b Z ws q ad en x cl v hP hen hce hkd hin hlt hg => by
    obtain ⟨f, rfl, hf⟩ := hce.2.1 (by omega)
    rw [hkd] at hen
    exact ⟨_, hf _ hlt v hg, fun w => va_iald C.1 C.2.1 C.2.2.2.2.2.1 hP _ 0 hen rfl hin hd w⟩
theorem xs_bald (C : xv_Cx p s m args c cc own nL D t A sb scr) (hk : xv_G p l e R s m args below meth c D t A as0 sb nL Q k) (hd : decode cc pc = .ok (.baload, 1)) (hr : xv_ald k 2 (pc + 1) L st S = some r) : xv_T p l e R s m args below meth c D t A as0 sb nL Q pc L st S r :=
  xs_ald hk hr (by decide) fun ls vst H locs a b Z ws q ad en x cl v hP hen hce hkd hin hlt hg => by
    obtain ⟨f, rfl, hf⟩ := hce.2.1 (by omega)
    rw [hkd] at hen
    exact ⟨_, hf _ hlt v hg, fun w => va_bald C.1 C.2.1 C.2.2.2.2.2.1 hP _ 1 hen rfl hin hd w⟩
theorem xs_zald (C : xv_Cx p s m args c cc own nL D t A sb scr) (hk : xv_G p l e R s m args below meth c D t A as0 sb nL Q k) (hd : decode cc pc = .ok (.baload, 1)) (hr : xv_ald k 3 (pc + 1) L st S = some r) : xv_T p l e R s m args below meth c D t A as0 sb nL Q pc L st S r :=
  xs_ald hk hr (by decide) fun ls vst H locs a b Z ws q ad en x cl v hP hen hce hkd hin hlt hg => by
    obtain ⟨f, rfl, hf⟩ := hce.2.1 (by omega)
    rw [hkd] at hen
    exact ⟨_, hf _ hlt v hg, fun w => va_zald C.1 C.2.1 C.2.2.2.2.2.1 hP _ 2 hen rfl hin hd w⟩
theorem xs_lald (C : xv_Cx p s m args c cc own nL D t A sb scr) (hk : xv_G p l e R s m args below meth c D t A as0 sb nL Q k) (hd : decode cc pc = .ok (.laload, 1)) (hr : xv_ald k 4 (pc + 1) L st S = some r) : xv_T p l e R s m args below meth c D t A as0 sb nL Q pc L st S r :=
  xs_ald hk hr (by decide) fun ls vst H locs a b Z ws q ad en x cl v hP hen hce hkd hin hlt hg => by
    obtain ⟨f, rfl, hf⟩ := hce.2.2.1 (by omega)
    rw [hkd] at hen
    exact ⟨_, hf _ hlt v hg, fun w => va_lald C.1 C.2.1 C.2.2.2.2.2.1 hP _ 3 hen rfl hin hd w⟩
/-- a row of rows -/
theorem xv_aald {H : Heap} {locs : List Loc} {a b : Nat} {Z : State → Prop} {ws : va_W} {q ad n : Nat} {tys : List (ClassId × FieldType)} {t0 : Nat} {cA : ClassId} {ty : FieldType} {f : Nat → Option Nat} {x : Int32} {ls : Array Slot} {rest : List Value} (hty : ty.isReference = true) (hexec : p.tables.exec = Jvm.exec) (hb : c.code = cc) (hK : va_K D vwCl tys s) (hP : va_P D vwCl ws H) (ha : ws[q]? = some (ad, .inl (cA, n, .inr (.inr (.inr (.inr f)))))) (ht : tys[t0]? = some (cA, ty)) (hin : vp_in x n) (hdg : decode cc pc = .ok (.aaload, 1))
    (kk : W p l e R s m args below meth c H locs a b Z (F0 m (pc + 1) ls (va_rf (f x.toNatClampNeg) :: rest))) : W p l e R s m args below meth c H locs a b Z (F0 m pc ls (.int x :: .ref ad :: rest)) := by
  have hlt : x.toNatClampNeg < n := Nat.not_le.mp fun q => hin (Or.inr q)
  exact W.aald (v := va_rf (f x.toNatClampNeg)) (ty := ty) hexec hb (hP q _ ha) ((hK.2 t0 _ ht).1 n (fun j => va_rf (f j))) hty (fun q => by cases q) (by show ¬ (x < 0 ∨ (arrV _ _ _).slots.size ≤ _); rw [arrV_size]; exact hin) (by show (arrV _ _ _).slots[_]? = _; rw [arrV_read _ _ hlt]) rfl rfl hdg kk
theorem xs_aald {kd : Nat} (h5 : kd = 5 ∨ kd = 6 ∨ kd = 7) (C : xv_Cx p s m args c cc own nL D t A sb scr) (hk : xv_G p l e R s m args below meth c D t A as0 sb nL Q k) (hd : decode cc pc = .ok (.aaload, 1)) (hr : xv_ald k kd (pc + 1) L st S = some r) : xv_T p l e R s m args below meth c D t A as0 sb nL Q pc L st S r :=
  xs_ald hk hr (by omega) fun ls vst H locs a b Z ws q ad en x cl v hP hen hce hkd hin hlt hg => by
    obtain ⟨f, rfl, hf⟩ := hce.2.2.2.1 (by omega)
    rw [hkd] at hen
    refine ⟨_, hf _ hlt v hg, fun w => ?_⟩
    rcases h5 with rfl | rfl | rfl
    · exact xv_aald (ty := .array .int) (t0 := 4) rfl C.1 C.2.1 C.2.2.2.2.2.1 hP hen rfl hin hd w
    · exact xv_aald (ty := .array .long) (t0 := 5) rfl C.1 C.2.1 C.2.2.2.2.2.1 hP hen rfl hin hd w
    · exact xv_aald (ty := .object "PassedPenance$Image") (t0 := 6) rfl C.1 C.2.1 C.2.2.2.2.2.1 hP hen rfl hin hd w
/-- a place of the script is read -/
theorem xs_sld {z : List xv_V} {i o : xv_V} (C : xv_Cx p s m args c cc own nL D t A sb scr) (hk : xv_G p l e R s m args below meth c D t A as0 sb nL Q k) (hd : decode cc pc = .ok (.iaload, 1)) (hst : st = i :: o :: z) (ho : o.1 = 5) (hr : (bif Nat.beq i.1 0 && xv_isOne i then xv_ldk k (pc + 1) L z S (xv_nth scr i.2.1.toNat) else none) = some r) : xv_T p l e R s m args below meth c D t A as0 sb nL Q pc L st S r := by
  subst hst
  obtain ⟨b1, hr⟩ := xv_bt hr
  obtain ⟨b1, b2⟩ := xv_and_t b1
  have b1 := xv_beq b1
  obtain ⟨q1, q2⟩ := xv_isOne_eq b2
  obtain ⟨v, hv, hr⟩ := xs_ldk hr
  rw [xv_nth_eq] at hv
  obtain ⟨h1, h2, h3⟩ := hk _ _ _ _ _ hr
  refine ⟨h1, h2, fun hcc hz ls vst H locs ws hR => ?_⟩
  obtain ⟨i0, vst, rfl, hi, hst⟩ := hR.2.1.un
  obtain ⟨x0, vst, rfl, hx, hst2⟩ := hst.un
  have e := hx.2.2.2.2 ho
  subst e
  obtain ⟨x, rfl, x1, x2⟩ := hi.1 b1
  obtain ⟨e1, e2, e3⟩ := xv_idx q1 q2 x1 x2
  have hlt : i.2.1.toNat < scr.length := (List.getElem?_eq_some_iff.mp hv).1
  rcases C.2.2.2.2.2.2.2.1 with e | ⟨xs, hX, hbl, hbA, hlt2, hxs⟩
  · rw [e] at hlt; exact absurd hlt (Nat.not_lt_zero _)
  · refine va_sld C.1 C.2.1 hX hbl hbA hR.2.2.2.2.1 (xv_vpin e1 q2 hlt) hd (h3 hcc hz ls _ H locs ws ⟨hR.1, xv_sm.cons ?_ hst2, hR.2.2⟩)
    rw [e2]
    exact xv_hv.i (hxs _ v hv)
/-- a place of a row is written -/
theorem xs_ast {kd pc' : Nat} {ok : xv_V → Bool} (hk : xv_G p l e R s m args below meth c D t A as0 sb nL Q k) (hr : xv_ast k kd pc' L st S ok = some r) (hkd : kd ≠ 99 ∧ kd ≠ 0)
    (hs : ∀ (ls : Array Slot) (vst : List Value) (H : Heap) (locs : List Loc) (a b : Nat) (Z : State → Prop) (ws : va_W) (q ad : Nat) (en : va_E) (x : Int32) (cl : xv_C) (v : xv_V) (y : Value), va_P D vwCl ws H → va_D A ws → va_S A s.heap H locs → xv_H t sb S.1 S.2.1 ws → ws[q]? = some (ad, en) → xv_hc t sb (ws.map Prod.fst) cl en → cl.1 = kd → vp_in x cl.2.1 → xv_hv sb (ws.map Prod.fst) v y → ok v = true →
      ∃ (en' : va_E) (g g' : Nat → Value), (∀ j : Nat, j < cl.2.1 → ∀ u : xv_V, xv_get 8 cl.2.2.2 (j % cl.2.2.1) = some u → xv_hv sb (ws.map Prod.fst) u (g j)) ∧ xv_hv sb (ws.map Prod.fst) v (g' x.toNatClampNeg) ∧ (∀ j : Nat, j ≠ x.toNatClampNeg → g' j = g j) ∧
        (∀ c' : xv_C, c'.1 = cl.1 → c'.2.1 = cl.2.1 → (∀ j : Nat, j < cl.2.1 → ∀ u : xv_V, xv_get 8 c'.2.2.2 (j % c'.2.2.1) = some u → xv_hv sb (ws.map Prod.fst) u (g' j)) → xv_hc t sb (ws.map Prod.fst) c' en') ∧
        ((∀ (H1 : Heap) (locs1 : List Loc), va_P D vwCl (ws.set q (ad, en')) H1 → va_D A (ws.set q (ad, en')) → va_S A s.heap H1 locs1 → W p l e R s m args below meth c H1 locs1 a b Z (F0 m pc' ls vst)) → W p l e R s m args below meth c H locs a b Z (F0 m pc ls (y :: .int x :: .ref ad :: vst)))) : xv_T p l e R s m args below meth c D t A as0 sb nL Q pc L st S r := by
  unfold xv_ast at hr
  match st, hr with
  | [], hr => cases hr
  | [_], hr => cases hr
  | [_, _], hr => cases hr
  | v :: i :: o :: z, hr =>
    dsimp only at hr
    cases hc : xv_cell S.1 o with
    | none => rw [hc] at hr; cases hr
    | some cl =>
      rw [hc] at hr
      obtain ⟨b1, hr⟩ := xv_bt hr
      obtain ⟨b1, b3⟩ := xv_and_t b1
      obtain ⟨b1, b2⟩ := xv_and_t b1
      have b1 := xv_beq b1
      have b2 := xv_beq b2
      cases hwr : xv_write cl i v with
      | none => rw [hwr] at hr; cases hr
      | some c' =>
        rw [hwr] at hr
        obtain ⟨h1, h2, h3⟩ := hk _ _ _ _ _ hr
        refine ⟨h1, h2, fun hcc hz ls vst H locs ws hR => ?_⟩
        obtain ⟨y, vst, rfl, hy, hst⟩ := hR.2.1.un
        obtain ⟨i0, vst, rfl, hi, hst2⟩ := hst.un
        obtain ⟨x0, vst, rfl, hx, hst3⟩ := hst2.un
        have hH := hR.2.2.2.2.2.1
        obtain ⟨ad, en, rfl, hen, hce⟩ := hH.cell hc (by omega) hx
        obtain ⟨x, rfl, x1, x2⟩ := hi.1 b1
        have hone : i.2.2 ≤ i.2.1 ∧ 0 ≤ i.2.1 ∧ i.2.1.toNat < cl.2.1 := by
          have hw2 := hwr
          unfold xv_write at hw2
          obtain ⟨b, -⟩ := xv_bt hw2
          obtain ⟨b4, b5⟩ := xv_and_t b
          exact ⟨(xv_isOne_eq b4).1, (xv_isOne_eq b4).2, xv_ble b5⟩
        obtain ⟨e1, e2, e3⟩ := xv_idx hone.1 hone.2.1 x1 x2
        obtain ⟨en', g, g', g1, g2, g3, g4, g5⟩ := hs ls vst H locs S.2.2.1 S.2.2.2 (Q r) ws _ ad en x cl v y hR.2.2.1 hR.2.2.2.1 hR.2.2.2.2.1 hH hen hce b2 (xv_vpin e1 hone.2.1 hone.2.2) hy b3
        rw [e2] at g2 g3
        obtain ⟨-, -, -, w1, w2, w3⟩ := xv_write_ok hwr g1 g2 g3
        refine g5 (fun H1 locs1 hP1 hD1 hS1 => ?_)
        refine h3 hcc hz ls vst H1 locs1 _ (hR.new ⟨[], ?_⟩ ?_ hP1 hD1 hS1 ?_)
        · rw [xv_fst_set hen, List.append_nil]
        · rw [xv_fst_set hen]; exact hst3
        · exact hH.set hen (g4 c' w1 w2 w3)
theorem xs_iast (C : xv_Cx p s m args c cc own nL D t A sb scr) (hk : xv_G p l e R s m args below meth c D t A as0 sb nL Q k) (hd : decode cc pc = .ok (.iastore, 1)) (hr : xv_ast k 1 (pc + 1) L st S (fun v => Nat.beq v.1 0) = some r) : xv_T p l e R s m args below meth c D t A as0 sb nL Q pc L st S r :=
  xs_ast hk hr (by decide) fun ls vst H locs a b Z ws q ad en x cl v y hP hD hS hH hen hce hkd hin hy hok => by
    obtain ⟨f, rfl, hf⟩ := hce.2.1 (by omega)
    have h6 := hce.2.2.2.2 (by omega)
    obtain ⟨i, rfl, i1, i2⟩ := hy.1 (xv_beq hok)
    refine ⟨.inl (t 1, cl.2.1, .inl (upd f x.toNatClampNeg i)), fun j => .int (f j), fun j => .int (upd f x.toNatClampNeg i j), hf, ?_, fun j hj => by simp [upd, hj], fun c' w1 w2 w3 => ?_, fun kk => ?_⟩
    · dsimp only; rw [show upd f x.toNatClampNeg i x.toNatClampNeg = i by simp [upd]]; exact hy
    · have := xv_hc.irow (t := t) (k := c') (by omega) (by omega) (fun j hj => w3 j (by omega))
      rw [w1, hkd, w2] at this
      exact this
    · rw [hkd] at hen
      exact va_iast C.1 C.2.1 C.2.2.2.2.2.1 hP hD hS _ 0 hen rfl hin hd kk
theorem xv_nar_b {x : Int32} (h1 : -128 ≤ x.toInt) (h2 : x.toInt ≤ 127) : vp_nar .byte x = x := by
  rw [vp_nar_byte]
  apply Int32.toInt_inj.mp
  rw [Int8.toInt_toInt32, Int32.toInt_toInt8]
  exact Int.bmod_eq_of_le (by omega) (by omega)
theorem xv_nar_z {x : Int32} (h1 : 0 ≤ x.toInt) (h2 : x.toInt ≤ 1) : vp_nar .boolean x = x ∧ narrow .boolean (.int x) = .int x := by
  have h : x = 0 ∨ x = 1 := by
    rcases (show x.toInt = 0 ∨ x.toInt = 1 by omega) with e | e
    · left; apply Int32.toInt_inj.mp; rw [e]; decide
    · right; apply Int32.toInt_inj.mp; rw [e]; decide
  rcases h with rfl | rfl
  · exact ⟨by decide, by decide⟩
  · exact ⟨by decide, by decide⟩
theorem xs_bast (C : xv_Cx p s m args c cc own nL D t A sb scr) (hk : xv_G p l e R s m args below meth c D t A as0 sb nL Q k) (hd : decode cc pc = .ok (.bastore, 1)) (hr : xv_ast k 2 (pc + 1) L st S (fun v => Nat.beq v.1 0 && (xv_le (-128) v.2.1 && xv_le v.2.2 127)) = some r) : xv_T p l e R s m args below meth c D t A as0 sb nL Q pc L st S r :=
  xs_ast hk hr (by decide) fun ls vst H locs a b Z ws q ad en x cl v y hP hD hS hH hen hce hkd hin hy hok => by
    obtain ⟨f, rfl, hf⟩ := hce.2.1 (by omega)
    have h6 := hce.2.2.2.2 (by omega)
    obtain ⟨o1, o2⟩ := xv_and_t hok
    obtain ⟨o2, o3⟩ := xv_and_t o2
    have o2 := xv_le_iff.mp o2
    have o3 := xv_le_iff.mp o3
    obtain ⟨i, rfl, i1, i2⟩ := hy.1 (xv_beq o1)
    refine ⟨.inl (t 2, cl.2.1, .inl (upd f x.toNatClampNeg i)), fun j => .int (f j), fun j => .int (upd f x.toNatClampNeg i j), hf, ?_, fun j hj => by simp [upd, hj], fun c' w1 w2 w3 => ?_, fun kk => ?_⟩
    · dsimp only; rw [show upd f x.toNatClampNeg i x.toNatClampNeg = i by simp [upd]]; exact hy
    · have := xv_hc.irow (t := t) (k := c') (by omega) (by omega) (fun j hj => w3 j (by omega))
      rw [w1, hkd, w2] at this
      exact this
    · rw [hkd] at hen
      refine va_bast C.1 C.2.1 C.2.2.2.2.2.1 hP hD hS _ 1 hen rfl hin hd ?_
      rw [xv_nar_b (by omega) (by omega)]
      exact kk
theorem xs_zast (C : xv_Cx p s m args c cc own nL D t A sb scr) (hk : xv_G p l e R s m args below meth c D t A as0 sb nL Q k) (hd : decode cc pc = .ok (.bastore, 1)) (hr : xv_ast k 3 (pc + 1) L st S (fun v => Nat.beq v.1 0 && (xv_le 0 v.2.1 && xv_le v.2.2 1)) = some r) : xv_T p l e R s m args below meth c D t A as0 sb nL Q pc L st S r :=
  xs_ast hk hr (by decide) fun ls vst H locs a b Z ws q ad en x cl v y hP hD hS hH hen hce hkd hin hy hok => by
    obtain ⟨f, rfl, hf⟩ := hce.2.1 (by omega)
    have h6 := hce.2.2.2.2 (by omega)
    obtain ⟨o1, o2⟩ := xv_and_t hok
    obtain ⟨o2, o3⟩ := xv_and_t o2
    have o2 := xv_le_iff.mp o2
    have o3 := xv_le_iff.mp o3
    obtain ⟨i, rfl, i1, i2⟩ := hy.1 (xv_beq o1)
    refine ⟨.inl (t 3, cl.2.1, .inl (upd f x.toNatClampNeg i)), fun j => .int (f j), fun j => .int (upd f x.toNatClampNeg i j), hf, ?_, fun j hj => by simp [upd, hj], fun c' w1 w2 w3 => ?_, fun kk => ?_⟩
    · dsimp only; rw [show upd f x.toNatClampNeg i x.toNatClampNeg = i by simp [upd]]; exact hy
    · have := xv_hc.irow (t := t) (k := c') (by omega) (by omega) (fun j hj => w3 j (by omega))
      rw [w1, hkd, w2] at this
      exact this
    · rw [hkd] at hen
      refine va_zast C.1 C.2.1 C.2.2.2.2.2.1 hP hD hS _ 2 hen rfl hin hd ?_
      rw [(xv_nar_z (by omega) (by omega)).1]
      exact kk
theorem xs_last (C : xv_Cx p s m args c cc own nL D t A sb scr) (hk : xv_G p l e R s m args below meth c D t A as0 sb nL Q k) (hd : decode cc pc = .ok (.lastore, 1)) (hr : xv_ast k 4 (pc + 1) L st S (fun v => Nat.beq v.1 1) = some r) : xv_T p l e R s m args below meth c D t A as0 sb nL Q pc L st S r :=
  xs_ast hk hr (by decide) fun ls vst H locs a b Z ws q ad en x cl v y hP hD hS hH hen hce hkd hin hy hok => by
    obtain ⟨f, rfl, hf⟩ := hce.2.2.1 (by omega)
    have h6 := hce.2.2.2.2 (by omega)
    obtain ⟨i, rfl, i1, i2⟩ := hy.2.1 (xv_beq hok)
    refine ⟨.inl (t 4, cl.2.1, .inr (.inl (vp_updL f x.toNatClampNeg i))), fun j => .long (f j), fun j => .long (vp_updL f x.toNatClampNeg i j), hf, ?_, fun j hj => by simp [vp_updL, hj], fun c' w1 w2 w3 => ?_, fun kk => ?_⟩
    · dsimp only; rw [show vp_updL f x.toNatClampNeg i x.toNatClampNeg = i by simp [vp_updL]]; exact hy
    · have := xv_hc.lrow (t := t) (k := c') (by omega) (by omega) (fun j hj => w3 j (by omega))
      rw [w1, hkd, w2] at this
      exact this
    · rw [hkd] at hen
      exact va_last C.1 C.2.1 C.2.2.2.2.2.1 hP hD hS _ 3 hen rfl hin hd kk
theorem xs_aast (C : xv_Cx p s m args c cc own nL D t A sb scr) (hk : xv_G p l e R s m args below meth c D t A as0 sb nL Q k) (hd : decode cc pc = .ok (.aastore, 1)) (hr : xv_ast k 7 (pc + 1) L st S (fun v => Nat.beq v.1 2 && (match xv_cell S.1 v with | some c => Nat.beq c.1 0 && Nat.beq c.2.1 4 | none => false)) = some r) : xv_T p l e R s m args below meth c D t A as0 sb nL Q pc L st S r :=
  xs_ast hk hr (by decide) fun ls vst H locs a b Z ws q ad en x cl v y hP hD hS hH hen hce hkd hin hy hok => by
    obtain ⟨f, rfl, hf⟩ := hce.2.2.2.1 (by omega)
    have h6 := hce.2.2.2.2 (by omega)
    obtain ⟨o1, o2⟩ := xv_and_t hok
    cases hc : xv_cell S.1 v with
    | none => rw [hc] at o2; cases o2
    | some cv =>
      rw [hc] at o2
      obtain ⟨o2, o3⟩ := xv_and_t o2
      have o2 := xv_beq o2
      have o3 := xv_beq o3
      obtain ⟨av, ev, rfl, hev, hcv⟩ := hH.cell hc (by omega) hy
      obtain ⟨fs, rfl, -, -⟩ := hcv.1 o2
      rw [o3] at hev
      refine ⟨.inl (t 7, cl.2.1, .inr (.inr (.inr (.inr (va_up f x.toNatClampNeg (some av)))))), fun j => va_rf (f j), fun j => va_rf (va_up f x.toNatClampNeg (some av) j), hf, ?_, fun j hj => by simp [va_up, hj], fun c' w1 w2 w3 => ?_, fun kk => ?_⟩
      · dsimp only; rw [show va_up f x.toNatClampNeg (some av) x.toNatClampNeg = some av by simp [va_up]]; exact hy
      · have := xv_hc.arow (t := t) (k := c') (by omega) (by omega) (fun j hj => w3 j (by omega))
        rw [w1, hkd, w2] at this
        exact this
      · rw [hkd] at hen
        exact va_astq (r := (RX4, TX4, 2)) C.1 C.2.1 C.2.2.2.2.2.1 hP hD hS _ 6 _ 4 hen rfl hev rfl hin hd kk
end XV5
end
section
/-! new T[n][m] in one instruction: the outer row, then row by row, each put into its place as soon as it is made -/
/-- the outer row when i of its rows are made -/
def xm_out (cO : ClassId) (N h0 i : Nat) : Cell := arrV cO N (fun j => va_rf (if j < i then some (h0 + 1 + j) else none))
def xm_in (cI : ClassId) (M : Nat) (dv : Value) : Cell := { cls := cI, slots := Array.replicate M dv, vm := .none }
/-- the state when i rows are made -/
def xm_st (s : State) (cO cI : ClassId) (N M : Nat) (dv : Value) : Nat → State
  | 0 => s.pushCell (xm_out cO N s.heap.size 0)
  | i + 1 => ((xm_st s cO cI N M dv i).pushCell (xm_in cI M dv)).setCell s.heap.size (xm_out cO N s.heap.size (i + 1))
theorem xm_out_next (cO : ClassId) (N h0 i : Nat) : (xm_out cO N h0 i).setSlot i (.ref (h0 + 1 + i)) = xm_out cO N h0 (i + 1) := by
  unfold xm_out
  rw [arrV_store]
  refine congrArg (arrV cO N) (funext fun j => ?_)
  by_cases e : j = i
  · subst e; simp [updV, va_rf]
  · by_cases h : j < i
    · simp [updV, e, h, Nat.lt_succ_of_lt h]
    · simp [updV, e, h, show ¬ j < i + 1 by omega]
theorem xm_size (s : State) (cO cI : ClassId) (N M : Nat) (dv : Value) : ∀ i, (xm_st s cO cI N M dv i).heap.size = s.heap.size + 1 + i
  | 0 => size_pushCell _ _
  | i + 1 => by
    have := xm_size s cO cI N M dv i
    simp only [xm_st]
    rw [size_setCell, size_pushCell, this]
    omega
theorem xm_head (s : State) (cO cI : ClassId) (N M : Nat) (dv : Value) (i : Nat) : (xm_st s cO cI N M dv i).heap[s.heap.size]? = some (xm_out cO N s.heap.size i) := by
  cases i with
  | zero => exact State.heap_pushCell_size _ _
  | succ i =>
    have h := xm_size s cO cI N M dv i
    have hlt : s.heap.size < ((xm_st s cO cI N M dv i).pushCell (xm_in cI M dv)).heap.size := by rw [size_pushCell, h]; omega
    exact heapAt_setCell_self _ hlt
theorem xm_vm (s : State) (cO cI : ClassId) (N M : Nat) (dv : Value) : ∀ i, (xm_st s cO cI N M dv i).vm = s.vm
  | 0 => rfl
  | i + 1 => xm_vm s cO cI N M dv i
theorem xm_used (s : State) (cO cI : ClassId) (N M : Nat) (dv : Value) : ∀ i, (xm_st s cO cI N M dv i).slotsUsed = s.slotsUsed + N + i * M
  | 0 => by
    show s.slotsUsed + (xm_out cO N s.heap.size 0).slots.size = _
    rw [xm_out, arrV_size]; omega
  | i + 1 => by
    have := xm_used s cO cI N M dv i
    show (xm_st s cO cI N M dv i).slotsUsed + (xm_in cI M dv).slots.size = _
    rw [this, Nat.succ_mul]
    simp [xm_in]; omega
theorem xm_top (s : State) (f : JFrame) (cO cI : ClassId) (N M : Nat) (dv : Value) : ∀ i, xm_st (s.setTop f) cO cI N M dv i = (xm_st s cO cI N M dv i).setTop f
  | 0 => rfl
  | i + 1 => by
    have := xm_top s f cO cI N M dv i
    simp only [xm_st, this]
    rfl
theorem xm_old (s : State) (cO cI : ClassId) (N M : Nat) (dv : Value) {a : Nat} (ha : a < s.heap.size) : ∀ i, (xm_st s cO cI N M dv i).heap[a]? = s.heap[a]?
  | 0 => State.heap_pushCell_of_lt _ _ ha
  | i + 1 => by
    have h := xm_size s cO cI N M dv i
    have hlt : a < (xm_st s cO cI N M dv i).heap.size := by omega
    show (((xm_st s cO cI N M dv i).pushCell (xm_in cI M dv)).setCell s.heap.size _).heap[a]? = _
    rw [heapAt_setCell_ne _ (show s.heap.size ≠ a by omega), State.heap_pushCell_of_lt _ _ hlt]
    exact xm_old s cO cI N M dv ha i
theorem xm_row (s : State) (cO cI : ClassId) (N M : Nat) (dv : Value) : ∀ i j, j < i → (xm_st s cO cI N M dv i).heap[s.heap.size + 1 + j]? = some (xm_in cI M dv)
  | 0, _, h => absurd h (Nat.not_lt_zero _)
  | i + 1, j, h => by
    have hz := xm_size s cO cI N M dv i
    show (((xm_st s cO cI N M dv i).pushCell (xm_in cI M dv)).setCell s.heap.size _).heap[s.heap.size + 1 + j]? = _
    rw [heapAt_setCell_ne _ (show s.heap.size ≠ s.heap.size + 1 + j by omega)]
    by_cases hj : j < i
    · rw [State.heap_pushCell_of_lt _ _ (show s.heap.size + 1 + j < (xm_st s cO cI N M dv i).heap.size by omega)]
      exact xm_row s cO cI N M dv i j hj
    · have e : s.heap.size + 1 + j = (xm_st s cO cI N M dv i).heap.size := by omega
      rw [e]
      exact State.heap_pushCell_size _ _
section XM0
variable {E : CtlPost} {e : Env} {d : Bool} {acts : List Action} {s : State}
theorem xm_new {cO comp : ClassId} {k : Class} {ty : FieldType} {len : Nat} {z : Value} (hk : s.vm.classes[cO]? = some k) (hkind : k.kind = .array comp ty) (hl : ¬ len > e.platform.arrayLengthLimit) (hh : ¬ len * componentBytes ty > e.platform.maxHeapBytes) (hf : fits ty z = true) (hz : z.isDefault = true)
    (h1 : s.heap.size < e.platform.maxCells) (h2 : s.slotsUsed + len ≤ e.platform.maxSlots) {Q : Addr → Pre} (hq : Q s.heap.size d acts (s.pushCell { cls := cO, slots := Array.replicate len z, vm := .none })) : wp (Jvm.newArray cO len z) Q E e d acts s := by
  have a1 : ∀ i v, (Array.replicate len z)[i]? = some v → s.fitsSlot cO .none i v = true := fun i v hv => by
    rw [Array.getElem?_replicate] at hv
    by_cases hi : i < len
    · rw [if_pos hi] at hv
      cases hv
      simp [State.fitsSlot, State.slotType?, hk, hkind, hf]
    · rw [if_neg hi] at hv; cases hv
  have a2 : allocActs (Array.replicate len z) s.heap.size acts = acts := by
    have : ((Array.replicate len z).all (·.isDefault)) = true := by
      rw [Array.all_replicate]; split <;> simp [hz]
    unfold allocActs
    rw [if_pos this]
  simp only [Jvm.newArray, Jvm.arrayFits, wp_bind', W.ask, W.ite, hl, if_false, wp_pure', W.theClass, hk, hkind, hh, W.alloc, W.stop, Option.some.injEq, exists_eq_left', Array.size_replicate, a2]
  rw [if_neg (by omega)]
  exact ⟨h1, h2, a1, hq⟩
theorem xm_make1 {cI comp : ClassId} {k : Class} {ty : FieldType} {m : Int32} (hk : s.vm.classes[cI]? = some k) (hkind : k.kind = .array comp ty) (hm : ¬ m < 0) (hl : ¬ m.toNatClampNeg > e.platform.arrayLengthLimit) (hh : ¬ m.toNatClampNeg * componentBytes ty > e.platform.maxHeapBytes) (hf : fits ty (defaultValue ty) = true) (hz : (defaultValue ty).isDefault = true)
    (h1 : s.heap.size < e.platform.maxCells) (h2 : s.slotsUsed + m.toNatClampNeg ≤ e.platform.maxSlots) {Q : Addr → Pre} (hq : Q s.heap.size d acts (s.pushCell (xm_in cI m.toNatClampNeg (defaultValue ty)))) : wp (multianewarray.make cI [m]) Q E e d acts s := by
  rw [multianewarray.make]
  simp only [wp_bind', W.ite, hm, if_false, wp_pure', W.theClass, hk, hkind, Option.some.injEq, exists_eq_left']
  exact xm_new hk hkind hl hh hf hz h1 h2 hq
theorem xm_make2 {cO cI comp : ClassId} {k kI : Class} {ty : FieldType} {n m : Int32} (hk : s.vm.classes[cO]? = some k) (hkind : k.kind = .array cI (.array ty)) (hkI : s.vm.classes[cI]? = some kI) (hkindI : kI.kind = .array comp ty) (hn : ¬ n < 0) (hm : ¬ m < 0)
    (hl1 : ¬ n.toNatClampNeg > e.platform.arrayLengthLimit) (hh1 : ¬ n.toNatClampNeg * componentBytes (.array ty) > e.platform.maxHeapBytes) (hl2 : ¬ m.toNatClampNeg > e.platform.arrayLengthLimit) (hh2 : ¬ m.toNatClampNeg * componentBytes ty > e.platform.maxHeapBytes)
    (hf : fits ty (defaultValue ty) = true) (hz : (defaultValue ty).isDefault = true) (hc : s.heap.size + 1 + n.toNatClampNeg ≤ e.platform.maxCells) (hs : s.slotsUsed + n.toNatClampNeg + n.toNatClampNeg * m.toNatClampNeg ≤ e.platform.maxSlots)
    {Q : Addr → Pre} (hq : ∀ d' acts', Q s.heap.size d' acts' (xm_st s cO cI n.toNatClampNeg m.toNatClampNeg (defaultValue ty) n.toNatClampNeg)) : wp (multianewarray.make cO [n, m]) Q E e d acts s := by
  generalize hN : n.toNatClampNeg = N at *
  generalize hM : m.toNatClampNeg = M at *
  have hfind : ([m].find? (· < 0)) = none := by simp [hm]
  rw [multianewarray.make]
  simp only [wp_bind', W.ite, hn, if_false, wp_pure', W.theClass, hk, hkind, Option.some.injEq, exists_eq_left', hN]
  have hNM : 0 ≤ N * M := Nat.zero_le _
  refine xm_new hk hkind hl1 hh1 rfl rfl (by omega) (by omega) ?_
  have hstart : s.pushCell ({ cls := cO, slots := Array.replicate N .null, vm := .none } : Cell) = xm_st s cO cI N M (defaultValue ty) 0 := by
    show _ = s.pushCell _
    refine congrArg s.pushCell ?_
    rw [arrV_new, xm_out]
    refine congrArg (arrV cO N) (funext fun j => ?_)
    simp [va_rf]
  rw [hstart]
  simp only [hfind]
  rw [ite_self, wp_bind', Std.Legacy.Range.forIn_eq_forIn_range']
  have hsz : ([:N] : Std.Legacy.Range).size = N := by simp [Std.Legacy.Range.size]
  rw [hsz]
  show wp (forIn (List.range' 0 N 1) PUnit.unit _) _ E e d acts _
  refine wp_forIn_inv (fun rest s' => ∃ i, i ≤ N ∧ rest = List.range' i (N - i) ∧ s' = xm_st s cO cI N M (defaultValue ty) i) _ _ ⟨0, Nat.zero_le _, rfl, rfl⟩ ?_ ?_
  · rintro x rest s' d' acts' Q' ⟨i, hi, hl, rfl⟩ hnext
    obtain ⟨w, hw⟩ : ∃ w, N - i = w + 1 := by
      cases hw : N - i with
      | zero => rw [hw] at hl; simp at hl
      | succ w => exact ⟨w, rfl⟩
    rw [hw, List.range'_succ] at hl
    obtain ⟨rfl, hrest⟩ := List.cons.inj hl
    have z1 := xm_size s cO cI N M (defaultValue ty) x
    have z2 := xm_head s cO cI N M (defaultValue ty) x
    have z3 := xm_vm s cO cI N M (defaultValue ty) x
    have z4 := xm_used s cO cI N M (defaultValue ty) x
    have hmul : x * M + M ≤ N * M := by
      have := Nat.mul_le_mul_right M (show x + 1 ≤ N by omega)
      rw [Nat.succ_mul] at this
      exact this
    simp only [wp_bind']
    refine xm_make1 (by rw [z3]; exact hkI) hkindI hm (by rw [hM]; exact hl2) (by rw [hM]; exact hh2) hf hz (by rw [z1]; omega) (by rw [z4, hM]; omega) ?_
    have hlt : s.heap.size < (xm_st s cO cI N M (defaultValue ty) x).heap.size := by rw [z1]; omega
    simp only [wp_bind', W.writeLoc, wp_pure', hM]
    refine ⟨xm_out cO N s.heap.size x, by rw [State.heap_pushCell_of_lt _ _ hlt]; exact z2, (fun q => by cases q), by rw [xm_out, arrV_size]; omega, ?_, hnext _ _ _ ⟨x + 1, by omega, by rw [hrest, show N - (x + 1) = w by omega], ?_⟩⟩
    · show State.fitsSlot _ cO .none x _ = true
      simp [State.fitsSlot, State.slotType?, z3, hk, hkind]
      rfl
    · show _ = ((xm_st s cO cI N M (defaultValue ty) x).pushCell _).setCell s.heap.size _
      rw [← xm_out_next, z1]
  · rintro s' d' acts' ⟨i, hi, hl, rfl⟩
    have hiN : i = N := by
      cases hw : N - i with
      | zero => omega
      | succ w => rw [hw, List.range'_succ] at hl; cases hl
    subst hiN
    simp only [wp_pure']
    exact hq _ _
end XM0
theorem xm_over {args : Array Value} {s : State} {ty : FieldType} (h : (Cond.arrayOver (.array ty)).before args s = true) : xv_AOA ty s := by
  have h : (Cond.arrayOver (.array ty)).holds args s none s [] = true := h
  simp only [Cond.holds, Cond.value, beq_iff_eq] at h
  cases hc : s.vm.findClass (FieldType.array ty).toString with
  | none => simp [hc] at h
  | some cI =>
    simp only [hc, Option.bind_some, Option.bind_eq_some_iff, Option.map_eq_some_iff] at h
    obtain ⟨cO, hi, k, hk, hb⟩ := h
    obtain ⟨hlt, hp, -⟩ := Array.findIdx?_eq_some_iff_getElem.mp hi
    rw [(Array.getElem?_eq_some_iff.mp hk).2] at hp
    cases hkind : k.kind with
    | array comp ty2 =>
      rw [hkind] at hb hp
      simp at hb hp
      exact ⟨cI, cO, k, hc, hk, by rw [hkind, hp, hb.1], hb.2⟩
    | _ => rw [hkind] at hb; simp at hb
section XM1
variable {p : Program} {l : Launch} {e : Env} {R : Room} {s : State} {m : MethodId} {args : Array Value} {below : List Frame} {meth : Method} {c : Code} {T : State} {locs : List Loc} {cells slots : Nat}
theorem xm_stand (X : Stand p l e R s m args below meth c T locs cells slots) (hb : s.heap.size ≤ T.heap.size) (cO cI : ClassId) (N M : Nat) (dv : Value) : ∀ i, Stand p l e R s m args below meth c (xm_st T cO cI N M dv i) (locs ++ (List.range i).map fun j => ⟨T.heap.size, j⟩) (cells + 1 + i) (slots + N + i * M)
  | 0 => by
    have h := X.pushed (xm_out cO N T.heap.size 0)
    rw [show (xm_out cO N T.heap.size 0).slots.size = N by rw [xm_out, arrV_size]] at h
    simpa [xm_st] using h
  | i + 1 => by
    have Xi := xm_stand X hb cO cI N M dv i
    have z1 := xm_size T cO cI N M dv i
    have hcell : ((xm_st T cO cI N M dv i).pushCell (xm_in cI M dv)).heap[T.heap.size]? = some (xm_out cO N T.heap.size i) := by
      rw [State.heap_pushCell_of_lt _ _ (show T.heap.size < (xm_st T cO cI N M dv i).heap.size by rw [z1]; omega)]; exact xm_head T cO cI N M dv i
    have h := (Xi.pushed (xm_in cI M dv)).stored hcell i (.ref (T.heap.size + 1 + i))
    rw [show (xm_in cI M dv).slots.size = M by simp [xm_in], xm_out_next] at h
    rw [show slots + N + (i + 1) * M = slots + N + i * M + M by rw [Nat.succ_mul]; omega, List.range_succ, List.map_append, ← List.append_assoc]
    exact h
theorem xm_go (X : Stand p l e R s m args below meth c T locs cells slots) (hexec : p.tables.exec = Jvm.exec) {own : String} {index : Nat} {ty : FieldType} (hown : s.vm.findClass own = some m.cls) (hcl : (Cond.classLink own index ("[" ++ (FieldType.array ty).toString)).before args s = true) (hov : xv_AOA ty s) (har : (Cond.arrayClass ty).before args s = true)
    {g : JFrame} (hg : g.method = m) (hdg : decode c.code g.pc = .ok (.multianewarray index 2, 4)) {n k : Int32} {rest : List Value} (hstack : g.stack = .int k :: .int n :: rest) (hn : ¬ n < 0) (hk : ¬ k < 0) (hb1 : n.toNatClampNeg * 4 ≤ 536870912) (hb2 : k.toNatClampNeg * componentBytes ty ≤ 536870912) (hb3 : k.toNatClampNeg ≤ 536870912)
    (hf : fits ty (defaultValue ty) = true) (hz : (defaultValue ty).isDefault = true) (hcells : cells + (1 + n.toNatClampNeg) ≤ R.cells) (hslots : slots + (n.toNatClampNeg + n.toNatClampNeg * k.toNatClampNeg) ≤ R.slots) (hsz : s.heap.size ≤ T.heap.size) :
    ∃ (vm₁ : Vm) (cO cI : ClassId), s.vm.findClass ("[" ++ (FieldType.array ty).toString) = some cO ∧ s.vm.findClass (FieldType.array ty).toString = some cI ∧ Stand p l e R s m args below meth c (xm_st (T.setVm vm₁) cO cI n.toNatClampNeg k.toNatClampNeg (defaultValue ty) n.toNatClampNeg) locs (cells + 1 + n.toNatClampNeg) (slots + n.toNatClampNeg + n.toNatClampNeg * k.toNatClampNeg) ∧
      ∀ target, Steps p.tables e below ((xm_st (T.setVm vm₁) cO cI n.toNatClampNeg k.toNatClampNeg (defaultValue ty) n.toNatClampNeg).setTop { g with pc := g.pc + 4, stack := .ref T.heap.size :: rest }) target → Steps p.tables e below (T.setTop g) target := by
  subst hg
  have hpl : e.platform.magicAccessors = ({} : Platform).magicAccessors := by rw [X.admits.platform]
  obtain ⟨cI, cO, kO, fI, hkO, hkindO, fO⟩ := hov
  obtain ⟨cI', kI, comp, fI', hkI, hkindI⟩ := Cond.arrayClass_spec har
  cases Option.some.inj (fI'.symm.trans fI)
  obtain ⟨c0, f0, hlink⟩ := Cond.classLink_spec hown hcl e.platform hpl
  cases Option.some.inj (fO.symm.trans f0)
  obtain ⟨hg1, hwarm, hready⟩ := State.classEntry (e := e) X.warmed hlink
  generalize T.vm.noted g.method.cls index (.cls cO) = vm₁ at hg1 hwarm hready
  obtain ⟨kO1, hkO1, eO⟩ := hwarm.alike.2.2 _ _ hkO
  obtain ⟨kI1, hkI1, eI⟩ := hwarm.alike.2.2 _ _ hkI
  have X1 := X.noted hwarm
  obtain ⟨hr1, hr2⟩ := X.roomAbove hcells hslots
  have XF := xm_stand X1 hsz cO cI n.toNatClampNeg k.toNatClampNeg (defaultValue ty) n.toNatClampNeg
  have XG : Stand p l e R s g.method args below meth c (xm_st (T.setVm vm₁) cO cI n.toNatClampNeg k.toNatClampNeg (defaultValue ty) n.toNatClampNeg) locs (cells + 1 + n.toNatClampNeg) (slots + n.toNatClampNeg + n.toNatClampNeg * k.toNatClampNeg) := by
    refine Stand.forget XF (fun q hq => ?_)
    obtain ⟨j, -, rfl⟩ := List.mem_map.mp hq
    exact hsz
  refine ⟨vm₁, cO, cI, fO, fI, XG, fun target hrest => ?_⟩
  have hl1 : ¬ n.toNatClampNeg > e.platform.arrayLengthLimit := by rw [Launch.admits_arrayLengthLimit X.admits]; omega
  have hh1 : ¬ n.toNatClampNeg * componentBytes (.array ty) > e.platform.maxHeapBytes := by
    rw [Launch.admits_maxHeapBytes X.admits]; show ¬ n.toNatClampNeg * 4 > 536870912; omega
  have hl2 : ¬ k.toNatClampNeg > e.platform.arrayLengthLimit := by rw [Launch.admits_arrayLengthLimit X.admits]; omega
  have hh2 : ¬ k.toNatClampNeg * componentBytes ty > e.platform.maxHeapBytes := by rw [Launch.admits_maxHeapBytes X.admits]; omega
  jvm_step X.here [hexec, hdg]
  simp only [multianewarray.sem, wp_bind', W.resolveClassAt_links (State.method?_setTop g X.here.top) hg1]
  rw [W.popN, if_neg (by decide)]
  refine ⟨g, State.topJava?_setTop' (s := T.setVm vm₁) g X.here.top, [.int n, .int k], rest, rfl, hstack, ?_⟩
  simp only [List.mapM_cons, List.mapM_nil, wp_bind', wp_pure']
  refine xm_make2 (k := kO1) (kI := kI1) (cI := cI) (comp := comp) (ty := ty) hkO1 (by rw [eO]; exact hkindO) hkI1 (by rw [eI]; exact hkindI) hn hk hl1 hh1 hl2 hh2 hf hz (by show T.heap.size + 1 + _ ≤ _; omega) (by show T.slotsUsed + _ + _ ≤ _; omega) (fun d' acts' => ?_)
  have eS : ((T.setTop g).setVm vm₁).setTop { g with stack := rest } = (T.setVm vm₁).setTop { g with stack := rest } := by
    show ((T.setVm vm₁).setTop g).setTop _ = _
    rw [State.setTop_setTop]
  rw [eS, xm_top]
  simp only [wp_bind', W.mark, W.pushRef, State.topJava?_setTop' _ XG.here.top, Option.some.injEq, exists_eq_left', State.setTop_setTop, State.heap_setTop]
  intro acts
  simp [jvm, XG.here.top]
  exact hrest
end XM1
end
section
/-! rows of rows; a copy; Object's constructor -/
def xm_num (n : Nat) : List va_E → va_W
  | [] => []
  | e :: es => (n, e) :: xm_num (n + 1) es
theorem xm_num_get : ∀ (es : List va_E) (n j : Nat), (xm_num n es)[j]? = (es[j]?).map (fun e => (n + j, e))
  | [], _, _ => by simp [xm_num]
  | e :: es, n, 0 => by simp [xm_num]
  | e :: es, n, j + 1 => by
    have h := xm_num_get es (n + 1) j
    show (xm_num (n + 1) es)[j]? = _
    rw [h, List.getElem?_cons_succ, show n + 1 + j = n + (j + 1) by omega]
theorem xm_num_len (es : List va_E) : ∀ n : Nat, (xm_num n es).length = es.length := by
  induction es with
  | nil => intro n; rfl
  | cons e es ih => intro n; simp [xm_num, ih]
theorem xm_D {A : Nat → Prop} : ∀ (es : List va_E) (ws : va_W) (n : Nat), va_D A ws → (∀ (k : Nat) (q : Nat × va_E), ws[k]? = some q → q.1 < n) → (∀ a : Nat, n ≤ a → A a) → va_D A (ws ++ xm_num n es)
  | [], ws, _, hD, _, _ => by rw [xm_num, List.append_nil]; exact hD
  | e :: es, ws, n, hD, hlt, hA => by
    rw [show ws ++ xm_num n (e :: es) = (ws ++ [(n, e)]) ++ xm_num (n + 1) es by simp [xm_num]]
    have hlt1 : ∀ (k : Nat) (q : Nat × va_E), (ws ++ [(n, e)])[k]? = some q → (k < ws.length ∧ ws[k]? = some q) ∨ (k = ws.length ∧ q = (n, e)) := fun k q hk => by
      by_cases h : k < ws.length
      · rw [List.getElem?_append_left h] at hk; exact Or.inl ⟨h, hk⟩
      · rw [List.getElem?_append_right (by omega)] at hk
        have h0 : k - ws.length < 1 := (List.getElem?_eq_some_iff.mp hk).1
        rw [show k - ws.length = 0 by omega] at hk
        cases hk
        exact Or.inr ⟨by omega, rfl⟩
    refine xm_D es _ (n + 1) ⟨fun i j x y hi hj hxy => ?_, fun k q hk => ?_⟩ (fun k q hk => ?_) (fun a ha => hA a (by omega))
    · rcases hlt1 i x hi with ⟨i1, i2⟩ | ⟨i1, rfl⟩ <;> rcases hlt1 j y hj with ⟨j1, j2⟩ | ⟨j1, rfl⟩
      · exact hD.1 i j x y i2 j2 hxy
      · have := hlt _ _ i2; simp at hxy; omega
      · have := hlt _ _ j2; simp at hxy; omega
      · omega
    · rcases hlt1 k q hk with ⟨_, h2⟩ | ⟨_, rfl⟩
      · exact hD.2 k q h2
      · exact hA n (Nat.le_refl n)
    · rcases hlt1 k q hk with ⟨_, h2⟩ | ⟨_, rfl⟩
      · have := hlt _ _ h2; omega
      · exact Nat.lt_succ_self n
theorem xv_fills_get {row k : xv_C} : ∀ (N : Nat) (h : xv_A) (q r : Nat), xv_get 14 (xv_fills h row N q) r = some k → (q ≤ r ∧ r < q + N ∧ k = row) ∨ (¬ (q ≤ r ∧ r < q + N) ∧ xv_get 14 h r = some k)
  | 0, h, q, r, e => Or.inr ⟨by omega, e⟩
  | N + 1, h, q, r, e => by
    have e : xv_get 14 (xv_fills (xv_upd 14 h q row) row N (q + 1)) r = some k := e
    rcases xv_fills_get N _ _ _ e with ⟨h1, h2, h3⟩ | ⟨h1, h2⟩
    · exact Or.inl ⟨by omega, by omega, h3⟩
    · rcases xv_get_upd h2 with ⟨rfl, rfl⟩ | ⟨hne, h2⟩
      · exact Or.inl ⟨Nat.le_refl _, by omega, rfl⟩
      · exact Or.inr ⟨by omega, h2⟩
theorem xv_refs_get : ∀ (n q i : Nat) (v : xv_V), (xv_refs q n)[i]? = some v → i < n ∧ v = (2, Int.ofNat (q + i), 0)
  | 0, _, _, _, h => by cases h
  | n + 1, q, 0, v, h => by
    have h : some ((2, Int.ofNat q, 0) : xv_V) = some v := h
    cases h
    exact ⟨Nat.succ_pos n, rfl⟩
  | n + 1, q, i + 1, v, h => by
    have h : (xv_refs (q + 1) n)[i]? = some v := h
    obtain ⟨h1, h2⟩ := xv_refs_get n (q + 1) i v h
    exact ⟨by omega, by rw [h2, show q + 1 + i = q + (i + 1) by omega]⟩
section XV6
variable {p : Program} {l : Launch} {e : Env} {R : Room} {s : State} {m : MethodId} {args : Array Value} {below : List Frame} {meth : Method} {c : Code}
variable {cc : ByteArray} {own : String} {nL : Nat} {D : va_G} {t : Nat → ClassId} {A : Nat → Prop} {as0 : List Nat} {sb : Nat} {scr : List xv_V} {Q : xv_R → State → Prop} {k : xv_K} {pc : Nat} {L st : List xv_V} {S : xv_S} {r : xv_R}
theorem xs_multi {index a b : Nat} {v : Int} {ty : FieldType} (C : xv_Cx p s m args c cc own nL D t A sb scr) (hk : xv_G p l e R s m args below meth c D t A as0 sb nL Q k) (hd : decode cc pc = .ok (.multianewarray index 2, 4)) (hw : Cond.classLink own index ("[" ++ (FieldType.array ty).toString) ∈ xv_tb) (hw3 : Cond.arrayClass ty ∈ xv_tb)
    (hty : (ty = .int ∧ a = 1 ∧ b = 1 ∧ v = 0) ∨ (ty = .long ∧ a = 2 ∧ b = 4 ∧ v = 1))
    (hr : (match st with
    | y :: x :: r => bif Nat.beq x.1 0 && (Nat.beq y.1 0 && (xv_isOne x && (xv_isOne y && (xv_le x.2.1 8 && xv_le y.2.1 64)))) then
        k (pc + 4) L ((2, Int.ofNat S.2.1, 0) :: r) (xv_fills (xv_upd 14 S.1 S.2.1 (a + 4, x.2.1.toNat, x.2.1.toNat, [xv_refs (S.2.1 + 1) x.2.1.toNat])) (xv_row b y.2.1.toNat (v.toNat, 0, 0)) x.2.1.toNat (S.2.1 + 1), S.2.1 + 1 + x.2.1.toNat, S.2.2.1 + 1 + x.2.1.toNat, S.2.2.2 + x.2.1.toNat + x.2.1.toNat * y.2.1.toNat) else none
    | _ => none) = some r) : xv_T p l e R s m args below meth c D t A as0 sb nL Q pc L st S r := by
  match st, hr with
  | [], hr => cases hr
  | [_], hr => cases hr
  | y :: x :: z, hr =>
    obtain ⟨b1, hr⟩ := xv_bt hr
    obtain ⟨b1, b2⟩ := xv_and_t b1
    obtain ⟨b2, b3⟩ := xv_and_t b2
    obtain ⟨b3, b4⟩ := xv_and_t b3
    obtain ⟨b4, b5⟩ := xv_and_t b4
    obtain ⟨b5, b6⟩ := xv_and_t b5
    have b1 := xv_beq b1
    have b2 := xv_beq b2
    obtain ⟨o1, o2⟩ := xv_isOne_eq b3
    obtain ⟨o3, o4⟩ := xv_isOne_eq b4
    have b5 := xv_le_iff.mp b5
    have b6 := xv_le_iff.mp b6
    generalize hN : x.2.1.toNat = N at hr
    generalize hM : y.2.1.toNat = M at hr
    have hN8 : N ≤ 8 := by omega
    have hM64 : M ≤ 64 := by omega
    obtain ⟨h1, h2, h3⟩ := hk _ _ _ _ _ hr
    dsimp only at h1 h2 h3
    have hNM : 0 ≤ N * M := Nat.zero_le _
    refine ⟨by omega, by omega, fun hcc hz ls vst H locs ws hR => ?_⟩
    obtain ⟨y0, vst, rfl, hy, hst⟩ := hR.2.1.un
    obtain ⟨x0, vst, rfl, hx, hst2⟩ := hst.un
    obtain ⟨yi, rfl, y1, y2⟩ := hy.1 b2
    obtain ⟨xi, rfl, x1, x2⟩ := hx.1 b1
    obtain ⟨ex1, ex2, ex3⟩ := xv_idx o1 o2 x1 x2
    obtain ⟨ey1, ey2, ey3⟩ := xv_idx o3 o4 y1 y2
    rw [hN] at ex2
    rw [hM] at ey2
    have hH := hR.2.2.2.2.2.1
    have hP := hR.2.2.1
    have hD := hR.2.2.2.1
    have hS := hR.2.2.2.2.1
    intro T hT X
    have hcb : componentBytes ty ≤ 8 := by rcases hty with ⟨rfl, -⟩ | ⟨rfl, -⟩ <;> decide
    have hsz : s.heap.size ≤ T.heap.size := by rw [hT]; exact hS.1
    have hAO : xv_AOA ty s := by
      rcases hty with ⟨rfl, -⟩ | ⟨rfl, -⟩
      · exact C.2.2.2.2.2.2.2.2.2.2.1
      · exact C.2.2.2.2.2.2.2.2.2.2.2
    obtain ⟨vm₁, cO, cI, fO, fI, XF, hstep⟩ := xm_go X C.1 C.2.2.2.1 (C.2.2.2.2.1 _ hw) hAO (C.2.2.2.2.1 _ hw3) (g := F0 m pc ls (.int yi :: .int xi :: vst)) rfl (by rw [C.2.1]; exact hd) rfl ex3 ey3 (by rw [ex2]; omega) (by rw [ey2]; exact Nat.le_trans (Nat.mul_le_mul hM64 hcb) (by decide)) (by rw [ey2]; omega)
      (by rcases hty with ⟨rfl, -⟩ | ⟨rfl, -⟩ <;> rfl) (by rcases hty with ⟨rfl, -⟩ | ⟨rfl, -⟩ <;> rfl) (by rw [ex2]; omega) (by rw [ex2, ey2]; omega) hsz
    rw [ex2, ey2] at XF hstep
    generalize hF : xm_st (T.setVm vm₁) cO cI N M (defaultValue ty) N = F at XF hstep
    have hTh : (T.setVm vm₁).heap = H := hT
    have hold : ∀ q : Nat, q < H.size → F.heap[q]? = H[q]? := fun q hq => by
      rw [← hF, xm_old _ _ _ _ _ _ (by rw [hTh]; exact hq), hTh]
    have hrow : ∀ j : Nat, j < N → F.heap[H.size + 1 + j]? = some (xm_in cI M (defaultValue ty)) := fun j hj => by
      have := xm_row (T.setVm vm₁) cO cI N M (defaultValue ty) N j hj
      rw [hF, hTh] at this
      exact this
    have hhd : F.heap[H.size]? = some (xm_out cO N H.size N) := by
      have := xm_head (T.setVm vm₁) cO cI N M (defaultValue ty) N
      rw [hF, hTh] at this
      exact this
    have hFs : F.heap.size = H.size + 1 + N := by
      have := xm_size (T.setVm vm₁) cO cI N M (defaultValue ty) N
      rw [hF, hTh] at this
      exact this
    -- the inner rows' entry, and their classes
    obtain ⟨ez, hez, hcO, hcI, hrowc⟩ : ∃ ez : vp_A, (∀ c9 : ClassId, xm_in c9 M (defaultValue ty) = vp_cell c9 ez) ∧ cO = t (a + 4) ∧ cI = t b ∧ ∀ as : List Nat, xv_hc t sb as (xv_row b M (v.toNat, 0, 0)) (.inl (t b, ez)) := by
      have hK := C.2.2.2.2.2.1
      rcases hty with ⟨rfl, rfl, rfl, rfl⟩ | ⟨rfl, rfl, rfl, rfl⟩
      · refine ⟨(M, .inl (fun _ => 0)), fun c9 => arrV_new _ _ _, ?_, ?_, fun as => ?_⟩
        · exact Option.some.inj (fO.symm.trans (hK.2 4 _ rfl).2)
        · exact Option.some.inj (fI.symm.trans (hK.2 0 _ rfl).2)
        · have hrk := xv_row_k 1 M (Int.toNat 0, 0, 0)
          have := xv_hc.irow (t := t) (sb := sb) (as := as) (k := xv_row 1 M (Int.toNat 0, 0, 0)) (f := fun _ => 0) (Or.inl hrk.1) (by rw [hrk.2]; omega) (fun j _ v hv => by rw [xv_row_ok hv]; exact xv_zi)
          rw [hrk.1, hrk.2] at this
          exact this
      · refine ⟨(M, .inr (.inl (fun _ => 0))), fun c9 => arrV_new _ _ _, ?_, ?_, fun as => ?_⟩
        · exact Option.some.inj (fO.symm.trans (hK.2 5 _ rfl).2)
        · exact Option.some.inj (fI.symm.trans (hK.2 3 _ rfl).2)
        · have hrk := xv_row_k 4 M (Int.toNat 1, 0, 0)
          have := xv_hc.lrow (t := t) (sb := sb) (as := as) (k := xv_row 4 M (Int.toNat 1, 0, 0)) (f := fun _ => 0) hrk.1 (by rw [hrk.2]; omega) (fun j _ v hv => by rw [xv_row_ok hv]; exact xv_zl)
          rw [hrk.1, hrk.2] at this
          exact this
    have ha5 : a + 4 = 5 ∨ a + 4 = 6 := by rcases hty with ⟨-, h, -⟩ | ⟨-, h, -⟩ <;> omega
    let es : List va_E := .inl (cO, N, .inr (.inr (.inr (.inr (fun j => if j < N then some (H.size + 1 + j) else none))))) :: List.replicate N (.inl (cI, ez))
    have hes0 : es[0]? = some (.inl (cO, N, .inr (.inr (.inr (.inr (fun j => if j < N then some (H.size + 1 + j) else none)))))) := rfl
    have hesj : ∀ j : Nat, j < N → es[j + 1]? = some (.inl (cI, ez)) := fun j hj => by
      show (List.replicate N _)[j]? = _
      rw [List.getElem?_replicate, if_pos hj]
    have hesl : es.length = N + 1 := by show (_ :: List.replicate N _).length = _; simp
    have hlt : ∀ (k : Nat) (q : Nat × va_E), ws[k]? = some q → q.1 < H.size := fun k q hq => (hP k q hq).lt
    have hP1 : va_P D vwCl (ws ++ xm_num H.size es) F.heap := by
      refine va_P.app (hP.kept (fun k q hq => hold _ (hlt k q hq))) (fun k q hq => ?_)
      rw [xm_num_get] at hq
      obtain ⟨en, hen, rfl⟩ := Option.map_eq_some_iff.mp hq
      have hk9 : k < N + 1 := by rw [← hesl]; exact (List.getElem?_eq_some_iff.mp hen).1
      cases k with
      | zero =>
        rw [hes0] at hen
        cases hen
        exact hhd
      | succ j =>
        rw [hesj j (by omega)] at hen
        cases hen
        show F.heap[H.size + (j + 1)]? = some (vp_cell cI ez)
        rw [show H.size + (j + 1) = H.size + 1 + j by omega, hrow j (by omega), hez]
    have hD1 : va_D A (ws ++ xm_num H.size es) := xm_D es ws H.size hD hlt (fun q hq => C.2.2.2.2.2.2.1 q (Nat.le_trans hS.1 hq))
    have hS1 : va_S A s.heap F.heap locs := ⟨by rw [hFs]; have := hS.1; omega, fun q h1 h2 => (hold q (Nat.lt_of_lt_of_le h1 hS.1)).trans (hS.2.1 q h1 h2), hS.2.2⟩
    have hm : (ws ++ xm_num H.size es).map Prod.fst = ws.map Prod.fst ++ (xm_num H.size es).map Prod.fst := List.map_append
    have has : ∀ j : Nat, j < N + 1 → ((ws ++ xm_num H.size es).map Prod.fst)[S.2.1 + j]? = some (H.size + j) := fun j hj => by
      rw [hm, ← hH.1, List.getElem?_append_right (by rw [List.length_map]; omega), List.length_map, show ws.length + j - ws.length = j by omega, List.getElem?_map, xm_num_get]
      obtain ⟨en, hen⟩ : ∃ en, es[j]? = some en := ⟨_, List.getElem?_eq_getElem (by omega)⟩
      rw [hen]
      rfl
    have hws : ∀ j : Nat, j < N + 1 → ∀ en, es[j]? = some en → (ws ++ xm_num H.size es)[S.2.1 + j]? = some (H.size + j, en) := fun j hj en hen => by
      rw [← hH.1, List.getElem?_append_right (by omega), show ws.length + j - ws.length = j by omega, xm_num_get, hen]
      rfl
    have hH1 : xv_H t sb (xv_fills (xv_upd 14 S.1 S.2.1 (a + 4, N, N, [xv_refs (S.2.1 + 1) N])) (xv_row b M (v.toNat, 0, 0)) N (S.2.1 + 1)) (S.2.1 + 1 + N) (ws ++ xm_num H.size es) := by
      refine ⟨by rw [List.length_append, xm_num_len, hesl, hH.1]; omega, fun q k9 hq h9 => ?_⟩
      rcases xv_fills_get N _ _ _ hq with ⟨q1, q2, rfl⟩ | ⟨q1, hq⟩
      · obtain ⟨j, rfl⟩ : ∃ j, q = S.2.1 + (j + 1) := ⟨q - S.2.1 - 1, by omega⟩
        exact ⟨_, _, hws (j + 1) (by omega) _ (hesj j (by omega)), by rw [hcI]; exact hrowc _⟩
      · rcases xv_get_upd hq with ⟨rfl, rfl⟩ | ⟨hne, hq⟩
        · refine ⟨_, _, hws 0 (by omega) _ hes0, ?_⟩
          rw [hcO]
          refine xv_hc.arow (k := (a + 4, N, N, [xv_refs (S.2.1 + 1) N])) (by show a + 4 = 5 ∨ a + 4 = 6 ∨ a + 4 = 7; omega) (by show N ≤ 65536; omega) (fun i hi u hu => ?_)
          have hi : i < N := hi
          dsimp only at hu
          rw [Nat.mod_eq_of_lt hi, xv_get_eq, show i / 8 = 0 by omega, show i % 8 = i by omega] at hu
          obtain ⟨-, rfl⟩ := xv_refs_get N _ i u hu
          rw [if_pos hi]
          exact xv_hv.r (by have := has (i + 1) (by omega); rw [show S.2.1 + 1 + i = S.2.1 + (i + 1) by omega, show H.size + 1 + i = H.size + (i + 1) by omega]; exact this)
        · obtain ⟨a', x', e1, e2⟩ := hH.2 q k9 hq h9
          refine ⟨a', x', by rw [List.getElem?_append_left (List.getElem?_eq_some_iff.mp e1).1]; exact e1, e2.more ?_⟩
          rw [hm]; exact xv_pre_app
    have hW := h3 hcc hz ls (.ref H.size :: vst) F.heap locs _ (hR.new ⟨_, hm⟩ (xv_sm.cons (xv_hv.r (has 0 (by omega))) (hst2.more (by rw [hm]; exact xv_pre_app))) hP1 hD1 hS1 hH1)
    obtain ⟨tt, c1, c2⟩ := hW F rfl XF
    refine ⟨tt, hstep tt ?_, c2⟩
    have eT : T.heap.size = H.size := by rw [hT]
    rw [eT]
    exact c1
end XV6
end
section
/-! copies, calls -/
theorem xv_good : xv_tb.all goodWord = true := List.all_eq_true.mpr fun w hw => (List.mem_filter.mp hw).2
theorem xv_goodIn {y : MethodName} {cc : ByteArray} {mL : Nat} {ret : Option FieldType} (h : Cond.code y cc mL ret ∈ xv_tb) : GoodIn xv_tb (Cond.code y cc mL ret :: xv_tb) := fun w hw => by
  have hm : w ∈ xv_tb := (List.mem_cons.mp hw).elim (fun e => e ▸ h) id
  exact ⟨hm, good_of_word (List.all_eq_true.mp xv_good w hm)⟩
theorem xv_cats_ok {sb : Nat} {as : List Nat} : ∀ {st : List xv_V} {vst : List Value}, xv_sm sb as st vst → xv_cats st ≤ 8 → (vst.map fun v => v.category).sum ≤ xv_cats st
  | [], [], _, _ => Nat.le_refl _
  | [], _ :: _, h, _ => False.elim h
  | _ :: _, [], h, _ => False.elim h
  | v :: st, x :: vst, h, h8 => by
    have e : xv_cats (v :: st) = xv_cat v + xv_cats st := rfl
    rw [e] at h8 ⊢
    have ih := xv_cats_ok h.2 (by omega)
    have hc : x.category ≤ xv_cat v := by
      unfold xv_cat at h8 ⊢
      cases hb : Nat.beq v.1 1 with
      | true =>
        simp only [cond_true]
        rcases lv_cat x with q | q <;> rw [q] <;> omega
      | false =>
        rw [hb] at h8
        simp only [cond_false] at h8 ⊢
        cases hb2 : (Nat.ble v.1 3 || Nat.beq v.1 5) with
        | false => rw [hb2] at h8; simp only [cond_false] at h8; omega
        | true =>
          simp only [cond_true]
          have hne : v.1 ≠ 1 := fun q => by rw [q] at hb; cases hb
          have hkn : xv_known v := by
            rcases (Bool.or_eq_true _ _).mp hb2 with q | q
            · have := xv_ble q
              unfold xv_known; omega
            · exact Or.inr (Or.inr (Or.inr (Or.inr (xv_beq q))))
          rw [xv_cat1 h.1 hkn hne]
          exact Nat.le_refl 1
    simp only [List.map_cons, List.sum_cons]
    omega
theorem xv_sm.app {sb : Nat} {as : List Nat} : ∀ {a b : List xv_V} {x y : List Value}, xv_sm sb as a x → xv_sm sb as b y → xv_sm sb as (a ++ b) (x ++ y)
  | [], _, [], _, _, h => h
  | [], _, _ :: _, _, h, _ => False.elim h
  | _ :: _, _, [], _, h, _ => False.elim h
  | _ :: _, _, _ :: _, _, h, h2 => And.intro h.1 (xv_sm.app h.2 h2)
theorem xv_take_ok {sb : Nat} {as : List Nat} : ∀ (k : Nat) (acc st : List xv_V) (vacc vst : List Value) (a b : List xv_V), xv_take k acc st = some (a, b) → xv_sm sb as acc vacc → xv_sm sb as st vst → ∃ P vr, vst = P ++ vr ∧ P.length = k ∧ xv_sm sb as a (P.reverse ++ vacc) ∧ xv_sm sb as b vr
  | 0, acc, st, vacc, vst, a, b, h, h1, h2 => by
    cases h
    exact ⟨[], vst, rfl, rfl, h1, h2⟩
  | k + 1, acc, [], vacc, vst, a, b, h, h1, h2 => by cases h
  | k + 1, acc, v :: st, vacc, vst, a, b, h, h1, h2 => by
    obtain ⟨x, xs, rfl, hx, hxs⟩ := h2.un
    obtain ⟨P, vr, rfl, hP, ha, hb⟩ := xv_take_ok k (v :: acc) st (x :: vacc) xs a b h (xv_sm.cons hx h1) hxs
    exact ⟨x :: P, vr, rfl, by simp [hP], by simpa using ha, hb⟩
theorem xv_copy_ok {sb : Nat} {as : List Nat} {e e' : List (List xv_V)} {sp dp n0 n1 : Nat} {f : Nat → Int32} : ∀ (n : Nat) (g : List (List xv_V)) (h : Nat → Int32), xv_copy e sp dp n g = some e' → (∀ i : Nat, i < n0 → ∀ v : xv_V, xv_get 8 e i = some v → xv_hv sb as v (.int (f i))) → (∀ i : Nat, i < n1 → ∀ v : xv_V, xv_get 8 g i = some v → xv_hv sb as v (.int (h i))) → sp + n ≤ n0 → dp + n ≤ n1 →
    ∀ i : Nat, i < n1 → ∀ v : xv_V, xv_get 8 e' i = some v → xv_hv sb as v (.int (va_cpy f h sp dp n i))
  | 0, g, h, hc, hf, hg, h1, h2 => by
    cases hc
    intro i hi v hv
    rw [show va_cpy f h sp dp 0 i = h i by unfold va_cpy; rw [if_neg (by omega)]]
    exact hg i hi v hv
  | n + 1, g, h, hc, hf, hg, h1, h2 => by
    have hc : (match xv_get 8 e (sp + n) with | some v => xv_copy e sp dp n (xv_upd 8 g (dp + n) v) | none => none) = some e' := hc
    cases hq : xv_get 8 e (sp + n) with
    | none => rw [hq] at hc; cases hc
    | some w =>
      rw [hq] at hc
      have ih := xv_copy_ok n (xv_upd 8 g (dp + n) w) (upd h (dp + n) (f (sp + n))) hc hf (fun i hi v hv => by
        rcases xv_get_upd hv with ⟨rfl, rfl⟩ | ⟨hne, hv⟩
        · rw [show upd h (dp + n) (f (sp + n)) (dp + n) = f (sp + n) by simp [upd]]
          exact hf _ (by omega) _ hq
        · rw [show upd h (dp + n) (f (sp + n)) i = h i by simp [upd, hne]]
          exact hg i hi v hv) (by omega) (by omega)
      intro i hi v hv
      have := ih i hi v hv
      rw [show va_cpy f h sp dp (n + 1) i = va_cpy f (upd h (dp + n) (f (sp + n))) sp dp n i from ?_]
      · exact this
      · unfold va_cpy upd
        by_cases q1 : dp ≤ i ∧ i < dp + n
        · rw [if_pos q1, if_pos (by omega)]
        · rw [if_neg q1]
          by_cases q2 : i = dp + n
          · rw [if_pos (by omega), if_pos q2, show sp + (i - dp) = sp + n by omega]
          · rw [if_neg (by omega), if_neg q2]
section XV7
variable {p : Program} {l : Launch} {e : Env} {R : Room} {s : State} {m : MethodId} {args : Array Value} {below : List Frame} {meth : Method} {c : Code}
variable {cc : ByteArray} {own : String} {nL : Nat} {D : va_G} {t : Nat → ClassId} {A : Nat → Prop} {as0 : List Nat} {sb : Nat} {scr : List xv_V} {Q : xv_R → State → Prop} {k : xv_K} {pc : Nat} {L st : List xv_V} {S : xv_S} {r : xv_R}
theorem xs_copy {index : Nat} (C : xv_Cx p s m args c cc own nL D t A sb scr) (hk : xv_G p l e R s m args below meth c D t A as0 sb nL Q k) (hd : decode cc pc = .ok (.invokestatic index, 3)) (hRm : 1 ≤ R.frames ∧ 26 ≤ R.locals) (hw : Cond.methodLink own index arraycopyName ∈ xv_tb) (hw2 : Cond.native arraycopyName ∈ xv_tb) (hw3 : Cond.static arraycopyName ∈ xv_tb) (hw4 : Cond.initialized "java/lang/System" ∈ xv_tb)
    (hr : (match st with
      | n :: dp :: d :: sp :: o :: r => (match xv_cell S.1 o, xv_cell S.1 d with
        | some c, some g => bif Nat.beq n.1 0 && (Nat.beq dp.1 0 && (Nat.beq sp.1 0 && (xv_isOne n && (xv_isOne dp && (xv_isOne sp && (Nat.beq c.1 1 && (Nat.beq g.1 1 && (Nat.ble (sp.2.1.toNat + n.2.1.toNat) c.2.1 && (Nat.ble (dp.2.1.toNat + n.2.1.toNat) g.2.1 && (Nat.beq c.2.1 c.2.2.1 && (Nat.beq g.2.1 g.2.2.1 && (Nat.ble (xv_cats r) 8 && !(Nat.beq o.2.1.toNat d.2.1.toNat))))))))))))) then
            (match xv_copy c.2.2.2 sp.2.1.toNat dp.2.1.toNat n.2.1.toNat g.2.2.2 with
            | some e => k (pc + 3) L r (xv_upd 14 S.1 d.2.1.toNat (g.1, g.2.1, g.2.2.1, e), S.2)
            | none => none) else none
        | _, _ => none)
      | _ => none) = some r) : xv_T p l e R s m args below meth c D t A as0 sb nL Q pc L st S r := by
  match st, hr with
  | [], hr => cases hr
  | [_], hr => cases hr
  | [_, _], hr => cases hr
  | [_, _, _], hr => cases hr
  | [_, _, _, _], hr => cases hr
  | n :: dp :: d :: sp :: o :: z, hr =>
    dsimp only at hr
    cases hc1 : xv_cell S.1 o with
    | none => rw [hc1] at hr; cases hr
    | some ca =>
      cases hc2 : xv_cell S.1 d with
      | none => rw [hc1, hc2] at hr; cases hr
      | some cb =>
        rw [hc1, hc2] at hr
        obtain ⟨b1, hr⟩ := xv_bt hr
        simp only [Bool.and_eq_true] at b1
        obtain ⟨b1, b2, b3, b4, b5, b6, b7, b8, b9, b10, b11, b12, b13, -⟩ := b1
        have b1 := xv_beq b1
        have b2 := xv_beq b2
        have b3 := xv_beq b3
        have b7 := xv_beq b7
        have b8 := xv_beq b8
        have b9 := xv_ble b9
        have b10 := xv_ble b10
        have b11 := xv_beq b11
        have b12 := xv_beq b12
        have b13 := xv_ble b13
        obtain ⟨n1, n2⟩ := xv_isOne_eq b4
        obtain ⟨d1, d2⟩ := xv_isOne_eq b5
        obtain ⟨s1, s2⟩ := xv_isOne_eq b6
        cases hcp : xv_copy ca.2.2.2 sp.2.1.toNat dp.2.1.toNat n.2.1.toNat cb.2.2.2 with
        | none => rw [hcp] at hr; cases hr
        | some e' =>
          rw [hcp] at hr
          obtain ⟨h1, h2, h3⟩ := hk _ _ _ _ _ hr
          refine ⟨h1, h2, fun hcc hz ls vst H locs ws hR => ?_⟩
          obtain ⟨n0, vst, rfl, hn, hst1⟩ := hR.2.1.un
          obtain ⟨dp0, vst, rfl, hdp, hst2⟩ := hst1.un
          obtain ⟨d0, vst, rfl, hdd, hst3⟩ := hst2.un
          obtain ⟨sp0, vst, rfl, hsp, hst4⟩ := hst3.un
          obtain ⟨o0, vst, rfl, ho, hst5⟩ := hst4.un
          have hH := hR.2.2.2.2.2.1
          obtain ⟨ad1, en1, rfl, hen1, hce1⟩ := hH.cell hc1 (by omega) ho
          obtain ⟨ad2, en2, rfl, hen2, hce2⟩ := hH.cell hc2 (by omega) hdd
          obtain ⟨f, rfl, hf⟩ := hce1.2.1 (by omega)
          obtain ⟨g, rfl, hg⟩ := hce2.2.1 (by omega)
          have h65 := hce2.2.2.2.2 (by omega)
          obtain ⟨ni, rfl, q1, q2⟩ := hn.1 b1
          obtain ⟨di, rfl, q3, q4⟩ := hdp.1 b2
          obtain ⟨si, rfl, q5, q6⟩ := hsp.1 b3
          obtain ⟨en1', en2', en3'⟩ := xv_idx n1 n2 q1 q2
          obtain ⟨ed1, ed2, ed3⟩ := xv_idx d1 d2 q3 q4
          obtain ⟨es1, es2, es3⟩ := xv_idx s1 s2 q5 q6
          have hcat := xv_cats_ok hst5 b13
          rw [b7] at hen1
          rw [b8] at hen2
          refine va_copyi C.1 C.2.1 (by rw [C.2.2.1]; exact hR.1.2.elim fun lv h => h.1.1.symm) C.2.2.2.1 (C.2.2.2.2.1 _ hw) (C.2.2.2.2.1 _ hw2) (C.2.2.2.2.1 _ hw3) (C.2.2.2.2.1 _ hw4) C.2.2.2.2.2.1 hR.2.2.1 hR.2.2.2.1 hR.2.2.2.2.1 _ _ 0 0 hen1 hen2 rfl rfl rfl es3 ed3 en3' (by rw [es2, en2']; exact b9) (by rw [ed2, en2']; exact b10) (fun _ _ => rfl) hRm.1 (by rw [show nativeFrameWords "java/lang/System" "arraycopy" 5 = 7 by decide]; omega) hd (fun H1 locs1 hP1 hD1 hS1 => ?_)
          rw [es2, ed2, en2'] at hP1 hD1
          refine h3 hcc hz ls vst H1 locs1 _ (hR.new ⟨[], ?_⟩ ?_ hP1 hD1 hS1 ?_)
          · rw [xv_fst_set hen2, List.append_nil]
          · rw [xv_fst_set hen2]; exact hst5
          · refine hH.set hen2 ?_
            have key := xv_copy_ok (sb := sb) (as := ws.map Prod.fst) (f := f) (n0 := ca.2.1) (n1 := cb.2.1) n.2.1.toNat cb.2.2.2 g hcp (fun i hi v hv => hf i hi v (by rw [← b11, Nat.mod_eq_of_lt hi]; exact hv)) (fun i hi v hv => hg i hi v (by rw [← b12, Nat.mod_eq_of_lt hi]; exact hv)) b9 b10
            have := xv_hc.irow (t := t) (sb := sb) (as := ws.map Prod.fst) (k := (cb.1, cb.2.1, cb.2.2.1, e')) (f := va_cpy f g sp.2.1.toNat dp.2.1.toNat n.2.1.toNat) (by show cb.1 = 1 ∨ _; omega) h65 (fun i hi v hv => key i hi v (by dsimp only at hv; rw [← b12, Nat.mod_eq_of_lt hi] at hv; exact hv))
            dsimp only at this
            rw [b8] at this ⊢
            exact this
theorem xs_obj {index : Nat} (C : xv_Cx p s m args c cc own nL D t A sb scr) (hk : xv_G p l e R s m args below meth c D t A as0 sb nL Q k) (hd : decode cc pc = .ok (.invokespecial index, 3)) (hRm : 1 ≤ R.frames ∧ 26 ≤ R.locals) (hw : Cond.methodLink own index objectInit ∈ xv_tb) (hw2 : Cond.instanceMethod objectInit ∈ xv_tb) (hw3 : Cond.code objectInit ⟨#[0xb1]⟩ 1 none ∈ xv_tb)
    (hr : (match st with
      | o :: r => bif Nat.beq o.1 2 && Nat.ble (xv_cats r) 8 then k (pc + 3) L r S else none
      | _ => none) = some r) : xv_T p l e R s m args below meth c D t A as0 sb nL Q pc L st S r := by
  match st, hr with
  | [], hr => cases hr
  | o :: z, hr =>
    obtain ⟨b1, hr⟩ := xv_bt hr
    obtain ⟨b1, b2⟩ := xv_and_t b1
    refine xs_pure hk hr fun ls vst H locs as a b Z hl hst => ?_
    obtain ⟨x0, vst, rfl, hx, hst2⟩ := hst.un
    obtain ⟨ad, -, rfl⟩ := hx.2.2.1 (xv_beq b1)
    have hcat := xv_cats_ok hst2 (xv_ble b2)
    have := xv_ble b2
    refine ⟨vst, hst2, fun w => W.objInit C.1 C.2.1 C.2.2.2.1 (C.2.2.2.2.1 _ hw) (C.2.2.2.2.1 _ hw2) (C.2.2.2.2.1 _ hw3) rfl (by rw [C.2.2.1]; exact hl.2.elim fun lv h => h.1.1) rfl hd hRm.1 ?_ w⟩
    show 2 * 0 + _ + 12 ≤ _
    omega
def xv_P (D : va_G) (t : Nat → ClassId) (ws : va_W) (vs : List Value) (sz : Nat) : Array Value → State → Prop := va_Pc vs (fun U => U.heap.size = sz ∧ va_P D vwCl ws U.heap ∧ va_K D vwCl (xv_tys t) U ∧ xv_Ex U)
def xv_Qc (D : va_G) (t : Nat → ClassId) (sb : Nat) (ws : va_W) (sz : Nat) (r : xv_R) : Array Value → State → Outcome → State → Prop := fun _ st oc tt => (∃ (rv : Option Value) (ws' : va_W), oc = .returned rv ∧ va_P D vwCl ws' tt.heap ∧ va_D (va_A ws sz) ws' ∧ xv_H t sb r.2.2.1 r.2.2.2.1 ws' ∧ (∃ more, ws'.map Prod.fst = ws.map Prod.fst ++ more) ∧ xv_sm sb (ws'.map Prod.fst) r.1 rv.toList) ∧ va_F (va_A ws sz) st tt
abbrev xv_I : Type := MethodName × ByteArray × Nat × Option FieldType
/-- what a table of calls promises -/
def xv_CG (l : Launch) (dF : Nat) (I : Nat → Option xv_I) (call : Nat → List xv_V → xv_A → Nat → Option xv_R) : Prop :=
  ∀ (id : Nat) (av : List xv_V) (h : xv_A) (n : Nat) (r : xv_R), call id av h n = some r → ∃ i : xv_I, I id = some i ∧ ∀ (D : va_G) (t : Nat → ClassId) (sb : Nat) (ws : va_W) (vs : List Value) (sz : Nat), xv_H t sb h n ws → xv_sm sb (ws.map Prod.fst) av vs → va_D (fun _ => True) ws →
    Met l i.1 (Cond.code i.1 i.2.1 i.2.2.1 i.2.2.2 :: xv_tb) { frames := dF, cells := r.2.2.2.2.1, slots := r.2.2.2.2.2, locals := 60 * dF } (xv_P D t ws vs sz) (xv_Qc D t sb ws sz r) r.2.2.2.2.1 r.2.2.2.2.2 (va_A ws sz)
theorem xv_blind {ws : va_W} {vs : List Value} {sz : Nat} : FrameBlind (xv_P D t ws vs sz) := fun a U g mk q => by
  obtain ⟨q0, q1, q2, q3, q4⟩ := q
  exact ⟨q0, q1, q2, va_K.moved (u := U) (U := U.calling g mk a) (Vm.Alike.refl U.vm) q3, xv_Ex.same (u := U) (U := U.calling g mk a) rfl q4⟩
/-- behind a call -/
theorem xs_behind {r0 : xv_R} {pc' : Nat} {rest : List xv_V} {vrest : List Value} {ls : Array Slot} {H : Heap} {locs : List Loc} {ws : va_W} {vst : List Value} {aa : Array Value} (C : xv_Cx p s m args c cc own nL D t A sb scr) (hR : xv_Rl D t A s.heap as0 sb nL L st S ls vst H locs ws) (hrest : xv_sm sb (ws.map Prod.fst) rest vrest)
    (hrun : va_Run p l e R s m args below meth c H locs S.2.2.1 S.2.2.2 r0.2.2.2.2.1 r0.2.2.2.2.2 (F0 m pc ls vst) vrest (xv_Qc D t sb ws H.size r0 aa) (va_A ws H.size)) {Z : State → Prop}
    (kk : ∀ (vst' : List Value) (H' : Heap) (locs' : List Loc) (ws' : va_W), xv_Rl D t A s.heap as0 sb nL L (r0.1 ++ rest) (r0.2.2.1, r0.2.2.2.1, S.2.2.1 + r0.2.2.2.2.1, S.2.2.2 + r0.2.2.2.2.2) ls vst' H' locs' ws' → W p l e R s m args below meth c H' locs' (S.2.2.1 + r0.2.2.2.2.1) (S.2.2.2 + r0.2.2.2.2.2) Z (F0 m (pc + 3) ls vst')) : W p l e R s m args below meth c H locs S.2.2.1 S.2.2.2 Z (F0 m pc ls vst) := by
  intro T hT X
  obtain ⟨v, st₀, t1, T', L', h0, X', hL, e1, e2, ⟨⟨rv, ws', hrv, hP', hD', hH', hmore, hsm⟩, hF⟩, hgo⟩ := hrun T hT X
  cases hrv
  have hin : ∀ q : Nat, va_A ws H.size q → A q := fun q hq => by
    rcases hq with ⟨k9, e9, h9⟩ | hq
    · exact hR.2.2.2.1.2 k9 _ h9
    · exact C.2.2.2.2.2.2.1 q (Nat.le_trans hR.2.2.2.2.1.1 hq)
  have hS := hR.2.2.2.2.1
  have hF1 := hF.1
  rw [h0] at hF1
  have hS' : va_S A s.heap T'.heap (locs ++ L') := ⟨by rw [e1]; exact Nat.le_trans hS.1 hF1, fun q h1 h2 => by
    rw [e1, hF.2 q (by rw [h0]; exact Nat.lt_of_lt_of_le h1 hS.1) (fun hq => h2 (hin q hq)), h0]
    exact hS.2.1 q h1 h2, fun q hq => (List.mem_append.mp hq).elim (hS.2.2 q) (fun hq => hin _ (hL q hq))⟩
  obtain ⟨mr, hmr⟩ := hmore
  obtain ⟨tt, a1, b1⟩ := kk (v.toList ++ vrest) T'.heap (locs ++ L') ws' (hR.new ⟨mr, hmr⟩ (xv_sm.app hsm (hrest.more (by rw [hmr]; exact xv_pre_app))) (by rw [e1]; exact hP') (hD'.weaken (fun _ _ _ hq => hin _ hq)) hS' hH') T' rfl X'
  exact ⟨tt, hgo tt a1, b1⟩
/-- what is asked of a method that is called -/
def xv_callee (i : xv_I) (n : Nat) : Prop := Cond.code i.1 i.2.1 i.2.2.1 i.2.2.2 ∈ xv_tb ∧ Cond.initialized i.1.cls ∈ xv_tb ∧ (i.1.cls ≠ "java/lang/invoke/MethodHandle" ∧ i.1.cls ≠ "java/lang/invoke/VarHandle" ∧ (parseMethodDescriptor i.1.desc).map (fun d => d.parameters.length) = some n) ∧ i.2.2.1 ≤ 41
theorem xs_call {call : Nat → List xv_V → xv_A → Nat → Option xv_R} {id pc' : Nat} {av rest : List xv_V} (hr : xv_call k call id pc' av L rest S = some r) : xv_cats rest ≤ 8 ∧ ∃ r0, call id av S.1 S.2.1 = some r0 ∧ k pc' L (r0.1 ++ rest) (r0.2.2.1, r0.2.2.2.1, S.2.2.1 + r0.2.2.2.2.1, S.2.2.2 + r0.2.2.2.2.2) = some r := by
  unfold xv_call at hr
  obtain ⟨b, hr⟩ := xv_bt hr
  refine ⟨xv_ble b, ?_⟩
  cases hc : call id av S.1 S.2.1 with
  | none => rw [hc] at hr; cases hr
  | some r0 => rw [hc] at hr; exact ⟨r0, rfl, hr⟩
theorem xs_invS {index id n dF : Nat} {call : Nat → List xv_V → xv_A → Nat → Option xv_R} {I : Nat → Option xv_I} {i : xv_I} (C : xv_Cx p s m args c cc own nL D t A sb scr) (hk : xv_G p l e R s m args below meth c D t A as0 sb nL Q k) (hCG : xv_CG l dF I call) (hd : decode cc pc = .ok (.invokestatic index, 3)) (hRm : dF + 1 ≤ R.frames ∧ 60 * dF + 60 ≤ R.locals) (hi : I id = some i) (hcal : xv_callee i n) (hw : Cond.methodLink own index i.1 ∈ xv_tb) (hw2 : Cond.static i.1 ∈ xv_tb)
    (hr : (match xv_take n [] st with | some (as, r) => xv_call k call id (pc + 3) as L r S | none => none) = some r) : xv_T p l e R s m args below meth c D t A as0 sb nL Q pc L st S r := by
  cases htk : xv_take n [] st with
  | none => rw [htk] at hr; cases hr
  | some q =>
    obtain ⟨av, rest⟩ := q
    rw [htk] at hr
    obtain ⟨h8, r0, hc0, hr⟩ := xs_call hr
    obtain ⟨i', hi', hM⟩ := hCG _ _ _ _ _ hc0
    cases hi.symm.trans hi'
    obtain ⟨h1, h2, h3⟩ := hk _ _ _ _ _ hr
    dsimp only at h1 h2 h3
    refine ⟨by omega, by omega, fun hcc hz ls vst H locs ws hR => ?_⟩
    obtain ⟨P, vr, rfl, hPl, hav, hrest⟩ := xv_take_ok n [] st [] vst av rest htk True.intro hR.2.1
    rw [List.append_nil] at hav
    have hcat := xv_cats_ok hrest h8
    refine xs_behind C hR hrest (va_runS (As := P.reverse) (n := n) (own := own) (Ts := xv_tb) (nL := nL) (index := index) ⟨C.1, C.2.1, C.2.2.1, C.2.2.2.1, C.2.2.2.2.1⟩ (hM D t sb ws P.reverse H.size hR.2.2.2.2.2.1 hav (hR.2.2.2.1.weaken fun _ _ _ _ => trivial)) ⟨callB_of n C.2.2.2.2.1 (xv_goodIn hcal.1) rfl rfl rfl (C.2.2.2.2.1 _ hcal.2.1) (C.2.2.2.2.1 _ hw) hcal.2.2.1 ⟨hRm.1, by have := hcal.2.2.2; show 8 + (_ + 11) + 60 * dF ≤ _; omega⟩, C.2.2.2.2.1 _ hw2⟩ ⟨xv_blind, fun U hU hW => ⟨rfl, by rw [hU], by rw [hU]; exact hR.2.2.1, va_K.moved hW.alike C.2.2.2.2.2.1, C.2.2.2.2.2.2.2.2.warm hW⟩⟩ rfl (by rw [List.length_reverse]; exact hPl) (hR.1.2.elim fun lv h => h.1.1) (by rw [List.reverse_reverse]) (lv_room (by omega)) hd ⟨by omega, by omega⟩) (pc' := pc + 3) (fun vst' H' locs' ws' hR' => h3 hcc hz ls vst' H' locs' ws' hR')
theorem xs_invV {index id n dF ci : Nat} {call : Nat → List xv_V → xv_A → Nat → Option xv_R} {I : Nat → Option xv_I} {i : xv_I} {q : vw_C} (C : xv_Cx p s m args c cc own nL D t A sb scr) (hk : xv_G p l e R s m args below meth c D t A as0 sb nL Q k) (hCG : xv_CG l dF I call) (hd : decode cc pc = .ok (.invokevirtual index, 3)) (hRm : dF + 1 ≤ R.frames ∧ 60 * dF + 60 ≤ R.locals) (hi : I id = some i) (hcal : xv_callee i n) (hw : Cond.methodLink own index i.1 ∈ xv_tb) (hw2 : Cond.instanceMethod i.1 ∈ xv_tb) (hw3 : Cond.selects i.1.cls i.1 i.1 ∈ xv_tb) (hq : vwCl[ci]? = some q) (hqc : q.1 = i.1.cls)
    (hr : (match xv_take n [] st with | some (as, o :: r) => (match xv_cell S.1 o with | some c => bif Nat.beq c.1 0 && Nat.beq c.2.1 ci then xv_call k call id (pc + 3) (o :: as) L r S else none | none => none) | _ => none) = some r) : xv_T p l e R s m args below meth c D t A as0 sb nL Q pc L st S r := by
  cases htk : xv_take n [] st with
  | none => rw [htk] at hr; cases hr
  | some q9 =>
    obtain ⟨av, rest0⟩ := q9
    rw [htk] at hr
    match rest0, hr with
    | [], hr => cases hr
    | o :: rest, hr =>
      dsimp only at hr
      cases hc : xv_cell S.1 o with
      | none => rw [hc] at hr; cases hr
      | some cl =>
        rw [hc] at hr
        obtain ⟨b1, hr⟩ := xv_bt hr
        obtain ⟨b1, b2⟩ := xv_and_t b1
        have b1 := xv_beq b1
        have b2 := xv_beq b2
        obtain ⟨h8, r0, hc0, hr⟩ := xs_call hr
        obtain ⟨i', hi', hM⟩ := hCG _ _ _ _ _ hc0
        cases hi.symm.trans hi'
        obtain ⟨h1, h2, h3⟩ := hk _ _ _ _ _ hr
        dsimp only at h1 h2 h3
        refine ⟨by omega, by omega, fun hcc hz ls vst H locs ws hR => ?_⟩
        obtain ⟨P, vr, rfl, hPl, hav, hrest0⟩ := xv_take_ok n [] st [] vst av (o :: rest) htk True.intro hR.2.1
        rw [List.append_nil] at hav
        obtain ⟨x0, vr, rfl, hx, hrest⟩ := hrest0.un
        have hcat := xv_cats_ok hrest h8
        obtain ⟨ad, en, rfl, hen, hce⟩ := hR.2.2.2.2.2.1.cell hc (by omega) hx
        obtain ⟨fs, rfl, -, -⟩ := hce.1 b1
        rw [b2] at hen
        have hrecv := va_recv C.2.2.2.2.2.1 hR.2.2.1 hq hen
        rw [hqc] at hrecv
        refine xs_behind C hR hrest (va_runV (C := i.1.cls) (As := P.reverse) (n := n) (own := own) (Ts := xv_tb) (nL := nL) (index := index) ⟨C.1, C.2.1, C.2.2.1, C.2.2.2.1, C.2.2.2.2.1⟩ (hM D t sb ws (.ref ad :: P.reverse) H.size hR.2.2.2.2.2.1 (xv_sm.cons hx hav) (hR.2.2.2.1.weaken fun _ _ _ _ => trivial)) ⟨callB_of n C.2.2.2.2.1 (xv_goodIn hcal.1) rfl rfl rfl (C.2.2.2.2.1 _ hcal.2.1) (C.2.2.2.2.1 _ hw) hcal.2.2.1 ⟨hRm.1, by have := hcal.2.2.2; show 8 + (_ + 11) + 60 * dF ≤ _; omega⟩, C.2.2.2.2.1 _ hw2, C.2.2.2.2.1 _ hw3⟩ ⟨xv_blind, hrecv, fun U hU hW => ⟨rfl, by rw [hU], by rw [hU]; exact hR.2.2.1, va_K.moved hW.alike C.2.2.2.2.2.1, C.2.2.2.2.2.2.2.2.warm hW⟩⟩ rfl (by rw [List.length_reverse]; exact hPl) (hR.1.2.elim fun lv h => h.1.1) (by rw [List.reverse_reverse]) (lv_room (by omega)) hd ⟨by omega, by omega⟩) (pc' := pc + 3) (fun vst' H' locs' ws' hR' => h3 hcc hz ls vst' H' locs' ws' hR')
theorem xs_invI {index id n dF : Nat} {call : Nat → List xv_V → xv_A → Nat → Option xv_R} {I : Nat → Option xv_I} {i : xv_I} {host : String} (C : xv_Cx p s m args c cc own nL D t A sb scr) (hk : xv_G p l e R s m args below meth c D t A as0 sb nL Q k) (hCG : xv_CG l dF I call) (hd : decode cc pc = .ok (.invokespecial index, 3)) (hRm : dF + 1 ≤ R.frames ∧ 60 * dF + 60 ≤ R.locals) (hi : I id = some i) (hcal : xv_callee i n) (hret : i.2.2.2 = none) (hnm : i.1.name = "<init>") (hw : Cond.methodLink own index i.1 ∈ xv_tb ∨ (own, index, i.1, host) ∈ xv_nest) (hw2 : Cond.instanceMethod i.1 ∈ xv_tb)
    (hr : (match xv_take n [] st with | some (as, o :: r) => bif Nat.beq o.1 2 then xv_call k call id (pc + 3) (o :: as) L r S else none | _ => none) = some r) : xv_T p l e R s m args below meth c D t A as0 sb nL Q pc L st S r := by
  cases htk : xv_take n [] st with
  | none => rw [htk] at hr; cases hr
  | some q9 =>
    obtain ⟨av, rest0⟩ := q9
    rw [htk] at hr
    match rest0, hr with
    | [], hr => cases hr
    | o :: rest, hr =>
      obtain ⟨b1, hr⟩ := xv_bt hr
      have b1 := xv_beq b1
      obtain ⟨h8, r0, hc0, hr⟩ := xs_call hr
      obtain ⟨i', hi', hM⟩ := hCG _ _ _ _ _ hc0
      cases hi.symm.trans hi'
      obtain ⟨h1, h2, h3⟩ := hk _ _ _ _ _ hr
      dsimp only at h1 h2 h3
      refine ⟨by omega, by omega, fun hcc hz ls vst H locs ws hR => ?_⟩
      obtain ⟨P, vr, rfl, hPl, hav, hrest0⟩ := xv_take_ok n [] st [] vst av (o :: rest) htk True.intro hR.2.1
      rw [List.append_nil] at hav
      obtain ⟨x0, vr, rfl, hx, hrest⟩ := hrest0.un
      have hcat := xv_cats_ok hrest h8
      obtain ⟨ad, -, rfl⟩ := hx.2.2.1 b1
      have hM0 := hM D t sb ws (.ref ad :: P.reverse) H.size hR.2.2.2.2.2.1 (xv_sm.cons hx hav) (hR.2.2.2.1.weaken fun _ _ _ _ => trivial)
      have hcode := hcal.1
      rw [hret] at hM0 hcode
      have hroom : ({ frames := dF, cells := r0.2.2.2.2.1, slots := r0.2.2.2.2.2, locals := 60 * dF } : Room).frames + 1 ≤ R.frames ∧ 8 + (i.2.2.1 + 11) + ({ frames := dF, cells := r0.2.2.2.2.1, slots := r0.2.2.2.2.2, locals := 60 * dF } : Room).locals ≤ R.locals := ⟨hRm.1, by have := hcal.2.2.2; show 8 + (_ + 11) + 60 * dF ≤ _; omega⟩
      rcases hw with hw | hw
      · exact xs_behind C hR hrest (va_runI (As := P.reverse) (n := n) (own := own) (Ts := xv_tb) (nL := nL) (index := index) ⟨C.1, C.2.1, C.2.2.1, C.2.2.2.1, C.2.2.2.2.1⟩ hM0 ⟨callB_of n C.2.2.2.2.1 (xv_goodIn hcode) rfl rfl rfl (C.2.2.2.2.1 _ hcal.2.1) (C.2.2.2.2.1 _ hw) hcal.2.2.1 hroom, hnm, C.2.2.2.2.1 _ hw2⟩ ⟨xv_blind, fun U hU hW => ⟨rfl, by rw [hU], by rw [hU]; exact hR.2.2.1, va_K.moved hW.alike C.2.2.2.2.2.1, C.2.2.2.2.2.2.2.2.warm hW⟩⟩ rfl (by rw [List.length_reverse]; exact hPl) (hR.1.2.elim fun lv h => h.1.1) (by rw [List.reverse_reverse]) (lv_room (by omega)) hd ⟨by omega, by omega⟩) (pc' := pc + 3) (fun vst' H' locs' ws' hR' => h3 hcc hz ls vst' H' locs' ws' hR')
      · exact xs_behind C hR hrest (va_runIN (As := P.reverse) (n := n) (own := own) (host := host) (Ts := xv_tb) (nL := nL) (index := index) ⟨C.1, C.2.1, C.2.2.1, C.2.2.2.1, C.2.2.2.2.1⟩ hM0 ⟨va_cnB n C.2.2.2.2.1 (xv_goodIn hcode) rfl rfl rfl (C.2.2.2.2.2.2.2.2.1 _ hw) (C.2.2.2.2.1 _ hcal.2.1) hcal.2.2.1 hroom, hnm, C.2.2.2.2.1 _ hw2⟩ ⟨xv_blind, fun U hU hW => ⟨rfl, by rw [hU], by rw [hU]; exact hR.2.2.1, va_K.moved hW.alike C.2.2.2.2.2.1, C.2.2.2.2.2.2.2.2.warm hW⟩⟩ rfl (by rw [List.length_reverse]; exact hPl) (hR.1.2.elim fun lv h => h.1.1) (by rw [List.reverse_reverse]) (lv_room (by omega)) hd ⟨by omega, by omega⟩) (pc' := pc + 3) (fun vst' H' locs' ws' hR' => h3 hcc hz ls vst' H' locs' ws' hR')
end XV7
end
section
/-! a step; a run; a method -/
def xv_len : Instr → Nat
  | .bipush _ => 2
  | .sipush _ => 3
  | .iload _ => 2
  | .lload _ => 2
  | .istore _ => 2
  | .iinc _ _ => 3
  | .goto _ => 3
  | .ifCond _ _ => 3
  | .if_icmp _ _ => 3
  | .ifnonnull _ => 3
  | .tableswitch _ _ _ _ => 0
  | .ldc_w _ => 3
  | .ldc2_w _ => 3
  | .getfield _ => 3
  | .putfield _ => 3
  | .new _ => 3
  | .newarray _ => 2
  | .anewarray _ => 3
  | .multianewarray _ _ => 4
  | .invokevirtual _ => 3
  | .invokestatic _ => 3
  | .invokespecial _ => 3
  | .iconst _ => 1
  | .lconst _ => 1
  | .iload_n _ => 1
  | .lload_n _ => 1
  | .aload_n _ => 1
  | .istore_n _ => 1
  | .astore_n _ => 1
  | .iadd => 1
  | .isub => 1
  | .imul => 1
  | .iand => 1
  | .iushr => 1
  | .ishr => 1
  | .lsub => 1
  | .land => 1
  | .lor => 1
  | .lshl => 1
  | .lcmp => 1
  | .i2l => 1
  | .i2b => 1
  | .dup => 1
  | .arraylength => 1
  | .iaload => 1
  | .baload => 1
  | .laload => 1
  | .aaload => 1
  | .iastore => 1
  | .bastore => 1
  | .lastore => 1
  | .aastore => 1
  | .ireturn => 1
  | .lreturn => 1
  | .return_ => 1
  | _ => 0
/-- what an instruction's three numbers must be -/
def xv_lk (own name : String) (ret : Option FieldType) (I : Nat → Option xv_I) (ins : Instr) (a b : Nat) (v : Int) : Prop := match ins with
  | .getfield idx => ∃ q, vwCl[a]? = some q ∧ b < q.2.2 ∧ Cond.fieldLink own idx (q.2.1 b).1 (q.2.1 b).2.1 (q.2.1 b).2.2.1 ∈ xv_tb
  | .putfield idx => ∃ q, vwCl[a]? = some q ∧ b < q.2.2 ∧ Cond.fieldLink own idx (q.2.1 b).1 (q.2.1 b).2.1 (q.2.1 b).2.2.1 ∈ xv_tb ∧ xv_ftk (q.2.1 b).2.2.1 v.toNat = true ∧ ((q.2.1 b).2.2.2 = false ∨ ((q.2.1 b).2.2.2 = true ∧ name = "<init>" ∧ (q.2.1 b).1 = own))
  | .new idx => ∃ q, vwCl[a]? = some q ∧ Cond.classLink own idx q.1 ∈ xv_tb
  | .newarray ty => Cond.arrayClass (newarray.typeOf ty) ∈ xv_tb
  | .anewarray idx => Cond.classLink own idx "PassedPenance$Image" ∈ xv_tb
  | .multianewarray idx n => n = 2 ∧ ∃ ty, ((ty = .int ∧ a = 1 ∧ b = 1 ∧ v = 0) ∨ (ty = .long ∧ a = 2 ∧ b = 4 ∧ v = 1)) ∧ Cond.classLink own idx ("[" ++ (FieldType.array ty).toString) ∈ xv_tb ∧ Cond.arrayClass ty ∈ xv_tb
  | .ldc_w idx => Cond.constant own idx (Int32.ofInt v) ∈ xv_tb
  | .ldc2_w idx => Cond.constantLong own idx (Int64.ofInt v) ∈ xv_tb
  | .invokestatic idx => (a = 9999 ∧ Cond.methodLink own idx arraycopyName ∈ xv_tb ∧ Cond.native arraycopyName ∈ xv_tb ∧ Cond.static arraycopyName ∈ xv_tb ∧ Cond.initialized "java/lang/System" ∈ xv_tb) ∨ (a ≠ 9999 ∧ ∀ i, I a = some i → xv_callee i b ∧ Cond.methodLink own idx i.1 ∈ xv_tb ∧ Cond.static i.1 ∈ xv_tb)
  | .invokevirtual idx => ∀ i, I a = some i → xv_callee i b ∧ Cond.methodLink own idx i.1 ∈ xv_tb ∧ Cond.instanceMethod i.1 ∈ xv_tb ∧ Cond.selects i.1.cls i.1 i.1 ∈ xv_tb ∧ ∃ q, vwCl[v.toNat]? = some q ∧ q.1 = i.1.cls
  | .invokespecial idx => (a = 9998 ∧ Cond.methodLink own idx objectInit ∈ xv_tb ∧ Cond.instanceMethod objectInit ∈ xv_tb ∧ Cond.code objectInit ⟨#[0xb1]⟩ 1 none ∈ xv_tb) ∨ (a ≠ 9998 ∧ ∀ i, I a = some i → xv_callee i b ∧ i.2.2.2 = none ∧ i.1.name = "<init>" ∧ (Cond.methodLink own idx i.1 ∈ xv_tb ∨ ∃ host, (own, idx, i.1, host) ∈ xv_nest) ∧ Cond.instanceMethod i.1 ∈ xv_tb)
  | .ireturn => (a = 0 ∧ ret = some .int) ∨ (a = 1 ∧ ret = some .boolean)
  | .lreturn => ret = some .long
  | .return_ => ret = none
  | _ => True
section XV8
variable {p : Program} {l : Launch} {e : Env} {R : Room} {s : State} {m : MethodId} {args : Array Value} {below : List Frame} {meth : Method} {c : Code}
variable {cc : ByteArray} {own : String} {nL : Nat} {D : va_G} {t : Nat → ClassId} {A : Nat → Prop} {as0 : List Nat} {sb : Nat} {scr : List xv_V} {Q : xv_R → State → Prop} {k : xv_K} {pc : Nat} {L st : List xv_V} {S : xv_S} {r : xv_R}
theorem xs_bad {β : Prop} (h : (none : Option xv_R) = some r) : β := by cases h
/-- the ends of a method -/
def xv_Ends (p : Program) (l : Launch) (e : Env) (R : Room) (s : State) (m : MethodId) (args : Array Value) (below : List Frame) (meth : Method) (c : Code) (D : va_G) (t : Nat → ClassId) (A : Nat → Prop) (as0 : List Nat) (sb nL : Nat) (Q : xv_R → State → Prop) (cc : ByteArray) (ret : Option FieldType) : Prop :=
  ∀ (pc : Nat) (L st : List xv_V) (S : xv_S), (decode cc pc = .ok (.ireturn, 1) ∧ (∃ x : xv_V, st = [x] ∧ x.1 = 0 ∧ (ret = some .int ∨ (ret = some .boolean ∧ 0 ≤ x.2.1 ∧ x.2.2 ≤ 1)))) ∨ (decode cc pc = .ok (.lreturn, 1) ∧ ret = some .long ∧ ∃ x : xv_V, st = [x] ∧ x.1 = 1) ∨ (decode cc pc = .ok (.return_, 1) ∧ ret = none ∧ st = []) → xv_T p l e R s m args below meth c D t A as0 sb nL Q pc L st S (st, L, S.1, S.2.1, S.2.2.1, S.2.2.2)
theorem xs_step {name : String} {ret : Option FieldType} {I : Nat → Option xv_I} {call : Nat → List xv_V → xv_A → Nat → Option xv_R} {dF len a b : Nat} {v : Int} {ins : Instr} (C : xv_Cx p s m args c cc own nL D t A sb scr) (hk : xv_G p l e R s m args below meth c D t A as0 sb nL Q k) (hCG : xv_CG l dF I call) (hRm : dF + 1 ≤ R.frames ∧ 60 * dF + 60 ≤ R.locals) (hname : name = meth.name) (hE : xv_Ends p l e R s m args below meth c D t A as0 sb nL Q cc ret) (hcr : ∀ id av h n r, call id av h n = some r → ∃ i, I id = some i)
    (hd : decode cc pc = .ok (ins, len)) (hlen : xv_len ins = 0 ∨ xv_len ins = len) (hok : xv_lk own name ret I ins a b v) (hr : xv_step call scr k ins a b v pc L st S = some r) : xv_T p l e R s m args below meth c D t A as0 sb nL Q pc L st S r := by
  have hRm2 : 1 ≤ R.frames ∧ 26 ≤ R.locals := ⟨by omega, by omega⟩
  cases ins
  case tableswitch d lo hi offs => exact xs_tableswitch C hk hd hr
  all_goals first | (have hl := hlen.resolve_left (fun h0 => Nat.succ_ne_zero _ h0); subst hl) | exact xs_bad hr
  case iconst i => exact xs_iconst C hk hd hr
  case bipush i => exact xs_bipush C hk hd hr
  case sipush i => exact xs_sipush C hk hd hr
  case lconst i => exact xs_lconst C hk hd hr
  case iload i => exact xs_iload C hk hd hr
  case iload_n i => exact xs_iload_n C hk hd hr
  case lload i => exact xs_lload C hk hd hr
  case lload_n i => exact xs_lload_n C hk hd hr
  case aload_n i => exact xs_aload_n C hk hd hr
  case istore i => exact xs_istore_i C hk hd hr
  case istore_n i => exact xs_istore_n C hk hd hr
  case astore_n i => exact xs_astore_n C hk hd hr
  case iinc i n => exact xs_iinc C hk hd hr
  case iadd => exact xs_iadd C hk hd hr
  case isub => exact xs_isub C hk hd hr
  case imul => exact xs_imul C hk hd hr
  case iand => exact xs_iand C hk hd hr
  case iushr => exact xs_iushr C hk hd hr
  case ishr => exact xs_ishr C hk hd hr
  case lsub => exact xs_lsub C hk hd hr
  case land => exact xs_land C hk hd hr
  case lor => exact xs_lor C hk hd hr
  case lshl => exact xs_lshl C hk hd hr
  case lcmp => exact xs_lcmp C hk hd hr
  case i2l => exact xs_i2l C hk hd hr
  case i2b => exact xs_i2b C hk hd hr
  case dup => exact xs_dup C hk hd hr
  case goto off => exact xs_goto C hk hd hr
  case ifCond q off => exact xs_ifCond C hk hd hr
  case if_icmp q off => exact xs_if_icmp C hk hd hr
  case ifnonnull off => exact xs_ifnonnull C hk hd hr
  case ldc_w i => exact xs_ldcw C hk hd hok hr
  case ldc2_w i => exact xs_ldc2 C hk hd hok hr
  case getfield i =>
    obtain ⟨q, h1, h2, h3⟩ := hok
    exact xs_getfield C hk hd h1 h2 h3 hr
  case putfield i =>
    obtain ⟨q, h1, h2, h3, h4, h5⟩ := hok
    rw [hname] at h5
    exact xs_putfield C hk hd h1 h2 h3 h4 h5 hr
  case new i =>
    obtain ⟨q, h1, h2⟩ := hok
    exact xs_new C hk hd h1 h2 hr
  case newarray ty => exact xs_newarray C hk hr hd hok
  case anewarray i => exact xs_anewarray C hk hd hok hr
  case multianewarray i n =>
    obtain ⟨rfl, ty, h1, h2, h4⟩ := hok
    exact xs_multi C hk hd h2 h4 h1 hr
  case arraylength => exact xs_alen C hk hd hr
  case iaload =>
    match st, hr with
    | [], hr => exact xs_bad hr
    | [_], hr => exact xs_bad hr
    | i :: o :: z, hr =>
      have hr : (bif Nat.beq o.1 5 then (bif Nat.beq i.1 0 && xv_isOne i then xv_ldk k (pc + 1) L z S (xv_nth scr i.2.1.toNat) else none) else xv_ald k 1 (pc + 1) L (i :: o :: z) S) = some r := hr
      cases hb : Nat.beq o.1 5 with
      | true => rw [hb] at hr; exact xs_sld C hk hd rfl (xv_beq hb) hr
      | false => rw [hb] at hr; exact xs_iald C hk hd hr
  case baload =>
    match st, hr with
    | [], hr => exact xs_bad hr
    | [_], hr => exact xs_bad hr
    | i :: o :: z, hr =>
      have hr : (match xv_cell S.1 o with | some c => bif Nat.beq c.1 2 then xv_ald k 2 (pc + 1) L (i :: o :: z) S else xv_ald k 3 (pc + 1) L (i :: o :: z) S | none => none) = some r := hr
      cases hc : xv_cell S.1 o with
      | none => rw [hc] at hr; exact xs_bad hr
      | some q =>
        rw [hc] at hr
        dsimp only at hr
        cases hb : Nat.beq q.1 2 with
        | true => rw [hb] at hr; exact xs_bald C hk hd hr
        | false => rw [hb] at hr; exact xs_zald C hk hd hr
  case laload => exact xs_lald C hk hd hr
  case aaload =>
    match st, hr with
    | [], hr => exact xs_bad hr
    | [_], hr => exact xs_bad hr
    | i :: o :: z, hr =>
      have hr : (match xv_cell S.1 o with | some c => bif Nat.beq c.1 5 then xv_ald k 5 (pc + 1) L (i :: o :: z) S else bif Nat.beq c.1 6 then xv_ald k 6 (pc + 1) L (i :: o :: z) S else xv_ald k 7 (pc + 1) L (i :: o :: z) S | none => none) = some r := hr
      cases hc : xv_cell S.1 o with
      | none => rw [hc] at hr; exact xs_bad hr
      | some q =>
        rw [hc] at hr
        dsimp only at hr
        cases hb : Nat.beq q.1 5 with
        | true => rw [hb] at hr; exact xs_aald (by omega) C hk hd hr
        | false =>
          rw [hb] at hr
          simp only [cond_false] at hr
          cases hb : Nat.beq q.1 6 with
          | true => rw [hb] at hr; exact xs_aald (by omega) C hk hd hr
          | false => rw [hb] at hr; exact xs_aald (by omega) C hk hd hr
  case iastore => exact xs_iast C hk hd hr
  case bastore =>
    match st, hr with
    | [], hr => exact xs_bad hr
    | [_], hr => exact xs_bad hr
    | [_, _], hr => exact xs_bad hr
    | x :: i :: o :: z, hr =>
      have hr : (match xv_cell S.1 o with
      | some c => bif Nat.beq c.1 2 then xv_ast k 2 (pc + 1) L (x :: i :: o :: z) S (fun v => Nat.beq v.1 0 && (xv_le (-128) v.2.1 && xv_le v.2.2 127)) else xv_ast k 3 (pc + 1) L (x :: i :: o :: z) S (fun v => Nat.beq v.1 0 && (xv_le 0 v.2.1 && xv_le v.2.2 1))
      | none => none) = some r := hr
      cases hc : xv_cell S.1 o with
      | none => rw [hc] at hr; exact xs_bad hr
      | some q =>
        rw [hc] at hr
        dsimp only at hr
        cases hb : Nat.beq q.1 2 with
        | true => rw [hb] at hr; exact xs_bast C hk hd hr
        | false => rw [hb] at hr; exact xs_zast C hk hd hr
  case lastore => exact xs_last C hk hd hr
  case aastore => exact xs_aast C hk hd hr
  case invokevirtual i =>
    have hr : (match xv_take b [] st with | some (as, o :: r) => (match xv_cell S.1 o with | some c => bif Nat.beq c.1 0 && Nat.beq c.2.1 v.toNat then xv_call k call a (pc + 3) (o :: as) L r S else none | none => none) | _ => none) = some r := hr
    have hex : ∃ i, I a = some i := by
      cases htk : xv_take b [] st with
      | none => rw [htk] at hr; exact xs_bad hr
      | some q9 =>
        obtain ⟨av, rest0⟩ := q9
        rw [htk] at hr
        match rest0, hr with
        | [], hr => exact xs_bad hr
        | o :: rest, hr =>
          dsimp only at hr
          cases hc : xv_cell S.1 o with
          | none => rw [hc] at hr; exact xs_bad hr
          | some cl =>
            rw [hc] at hr
            obtain ⟨-, r0, hc0, -⟩ := xs_call (xv_bt hr).2
            exact hcr _ _ _ _ _ hc0
    obtain ⟨ii, hi⟩ := hex
    obtain ⟨h1, h2, h3, h4, q, h5, h6⟩ := hok ii hi
    exact xs_invV C hk hCG hd hRm hi h1 h2 h3 h4 h5 h6 hr
  case invokestatic i =>
    rcases hok with ⟨rfl, h1, h2, h3, h4⟩ | ⟨hne, hok⟩
    · exact xs_copy C hk hd hRm2 h1 h2 h3 h4 hr
    · have hb : Nat.beq a 9999 = false := by
        cases hb : Nat.beq a 9999 with
        | true => exact absurd (xv_beq hb) hne
        | false => rfl
      unfold xv_step at hr
      dsimp only at hr
      rw [hb] at hr
      simp only [cond_false] at hr
      have hr : (match xv_take b [] st with | some (as, r) => xv_call k call a (pc + 3) as L r S | none => none) = some r := hr
      have hex : ∃ i, I a = some i := by
        cases htk : xv_take b [] st with
        | none => rw [htk] at hr; exact xs_bad hr
        | some q9 =>
          obtain ⟨av, rest0⟩ := q9
          rw [htk] at hr
          obtain ⟨-, r0, hc0, -⟩ := xs_call hr
          exact hcr _ _ _ _ _ hc0
      obtain ⟨ii, hi⟩ := hex
      obtain ⟨h1, h2, h3⟩ := hok ii hi
      exact xs_invS C hk hCG hd hRm hi h1 h2 h3 hr
  case invokespecial i =>
    rcases hok with ⟨rfl, h1, h2, h3⟩ | ⟨hne, hok⟩
    · exact xs_obj C hk hd hRm2 h1 h2 h3 hr
    · have hb : Nat.beq a 9998 = false := by
        cases hb : Nat.beq a 9998 with
        | true => exact absurd (xv_beq hb) hne
        | false => rfl
      unfold xv_step at hr
      dsimp only at hr
      rw [hb] at hr
      simp only [cond_false] at hr
      have hr : (match xv_take b [] st with | some (as, o :: r) => bif Nat.beq o.1 2 then xv_call k call a (pc + 3) (o :: as) L r S else none | _ => none) = some r := hr
      have hex : ∃ i, I a = some i := by
        cases htk : xv_take b [] st with
        | none => rw [htk] at hr; exact xs_bad hr
        | some q9 =>
          obtain ⟨av, rest0⟩ := q9
          rw [htk] at hr
          match rest0, hr with
          | [], hr => exact xs_bad hr
          | o :: rest, hr =>
            obtain ⟨-, r0, hc0, -⟩ := xs_call (xv_bt hr).2
            exact hcr _ _ _ _ _ hc0
      obtain ⟨ii, hi⟩ := hex
      obtain ⟨h1, h2, h3, h4, h5⟩ := hok ii hi
      rcases h4 with h4 | ⟨host, h4⟩
      · exact xs_invI (host := "") C hk hCG hd hRm hi h1 h2 h3 (Or.inl h4) h5 hr
      · exact xs_invI C hk hCG hd hRm hi h1 h2 h3 (Or.inr h4) h5 hr
  case ireturn =>
    match st, hr with
    | [], hr => exact xs_bad hr
    | _ :: _ :: _, hr => exact xs_bad hr
    | [x], hr =>
      have hr : (bif Nat.beq x.1 0 && (Nat.beq a 0 || (xv_le 0 x.2.1 && xv_le x.2.2 1)) then xv_ret [x] L S else none) = some r := hr
      obtain ⟨b1, hr⟩ := xv_bt hr
      obtain ⟨b1, b2⟩ := xv_and_t b1
      cases hr
      refine hE pc L [x] S (Or.inl ⟨hd, x, rfl, xv_beq b1, ?_⟩)
      rcases hok with ⟨-, h⟩ | ⟨h0, h⟩
      · exact Or.inl h
      · right
        rw [h0] at b2
        simp only [show Nat.beq 1 0 = false from rfl, Bool.false_or, Bool.and_eq_true, xv_le_iff] at b2
        exact ⟨h, b2⟩
  case lreturn =>
    match st, hr with
    | [], hr => exact xs_bad hr
    | _ :: _ :: _, hr => exact xs_bad hr
    | [x], hr =>
      have hr : (bif Nat.beq x.1 1 then xv_ret [x] L S else none) = some r := hr
      obtain ⟨b1, hr⟩ := xv_bt hr
      cases hr
      exact hE pc L [x] S (Or.inr (Or.inl ⟨hd, hok, x, rfl, xv_beq b1⟩))
  case return_ =>
    match st, hr with
    | _ :: _, hr => exact xs_bad hr
    | [], hr =>
      have hr : xv_ret [] L S = some r := hr
      cases hr
      exact hE pc L [] S (Or.inr (Or.inr ⟨hd, hok, rfl⟩))
/-- a row of a method's table -/
def xv_okE (cc : ByteArray) (own name : String) (ret : Option FieldType) (I : Nat → Option xv_I) (e : xv_E) : Prop := decode cc e.1 = .ok (e.2.1, e.2.2.1) ∧ (xv_len e.2.1 = 0 ∨ xv_len e.2.1 = e.2.2.1) ∧ xv_lk own name ret I e.2.1 e.2.2.2.1 e.2.2.2.2.1 e.2.2.2.2.2.2
theorem xv_find_ok : ∀ (full : List xv_E) (pc : Nat) (e : xv_E) (u : List xv_E), xv_find full pc = some (e, u) → e ∈ full ∧ e.1 = pc ∧ ∀ x ∈ u, x ∈ full
  | [], _, _, _, h => by cases h
  | f :: full, pc, e, u, h => by
    have h : (bif Nat.beq f.1 pc then some (f, full) else xv_find full pc) = some (e, u) := h
    cases hb : Nat.beq f.1 pc with
    | true =>
      rw [hb] at h
      cases h
      exact ⟨List.mem_cons_self, xv_beq hb, fun x hx => List.mem_cons_of_mem _ hx⟩
    | false =>
      rw [hb] at h
      obtain ⟨h1, h2, h3⟩ := xv_find_ok full pc e u h
      exact ⟨List.mem_cons_of_mem _ h1, h2, fun x hx => List.mem_cons_of_mem _ (h3 x hx)⟩
theorem xv_fetch_ok {full rest u : List xv_E} {pc : Nat} {e : xv_E} (hsub : ∀ x ∈ rest, x ∈ full) (h : xv_fetch full rest pc = some (e, u)) : e ∈ full ∧ e.1 = pc ∧ ∀ x ∈ u, x ∈ full := by
  unfold xv_fetch at h
  match rest, h, hsub with
  | [], h, _ => exact xv_find_ok _ _ _ _ h
  | f :: rest, h, hsub =>
    dsimp only at h
    cases hb : Nat.beq f.1 pc with
    | true =>
      rw [hb] at h
      cases h
      exact ⟨hsub _ List.mem_cons_self, xv_beq hb, fun x hx => hsub _ (List.mem_cons_of_mem _ hx)⟩
    | false =>
      rw [hb] at h
      exact xv_find_ok _ _ _ _ h
theorem xs_run {name : String} {ret : Option FieldType} {I : Nat → Option xv_I} {call : Nat → List xv_V → xv_A → Nat → Option xv_R} {dF stop : Nat} {full : List xv_E} (C : xv_Cx p s m args c cc own nL D t A sb scr) (hCG : xv_CG l dF I call) (hcr : ∀ id av h n r, call id av h n = some r → ∃ i, I id = some i) (hRm : dF + 1 ≤ R.frames ∧ 60 * dF + 60 ≤ R.locals) (hname : name = meth.name) (hE : xv_Ends p l e R s m args below meth c D t A as0 sb nL Q cc ret)
    (hst : ∀ pc : Nat, pc + 1 = stop → ∀ (L st : List xv_V) (S : xv_S), xv_T p l e R s m args below meth c D t A as0 sb nL Q pc L st S (st, L, S.1, S.2.1, S.2.2.1, S.2.2.2)) (hfull : ∀ x ∈ full, xv_okE cc own name ret I x) :
    ∀ (F : Nat) (rest : List xv_E), (∀ x ∈ rest, x ∈ full) → xv_G p l e R s m args below meth c D t A as0 sb nL Q (xv_run call scr stop full F rest)
  | 0, _, _ => fun _ _ _ _ _ h => by cases h
  | F + 1, rest, hsub => fun pc L st S r h => by
    have h : (bif Nat.beq (pc + 1) stop then xv_ret st L S else match xv_fetch full rest pc with | some (e, t) => xv_step call scr (xv_run call scr stop full F t) e.2.1 e.2.2.2.1 e.2.2.2.2.1 e.2.2.2.2.2.2 pc L st S | none => none) = some r := h
    cases hb : Nat.beq (pc + 1) stop with
    | true =>
      rw [hb] at h
      cases h
      exact hst pc (xv_beq hb) L st S
    | false =>
      rw [hb] at h
      simp only [cond_false] at h
      cases hf : xv_fetch full rest pc with
      | none => rw [hf] at h; cases h
      | some q =>
        obtain ⟨en, u⟩ := q
        rw [hf] at h
        obtain ⟨h1, h2, h3⟩ := xv_fetch_ok hsub hf
        obtain ⟨d1, d2, d3⟩ := hfull en h1
        rw [h2] at d1
        exact xs_step C (xs_run C hCG hcr hRm hname hE hst hfull F u h3) hCG hRm hname hE hcr d1 d2 d3 h
end XV8
end
section
/-! a method's contract out of a run of it -/
theorem xv_rep_len {α : Type} (n : Nat) (v : α) : (xv_rep n v).length = n := by
  induction n with
  | zero => rfl
  | succ n ih => show (v :: xv_rep n v).length = _; simp [ih]
theorem xv_sm.cats {sb : Nat} {as : List Nat} {v : xv_V} {x : Value} (h : xv_hv sb as v x) (hc : xv_cat v < 100) : xv_known v ∧ x.category = xv_cat v := by
  unfold xv_cat at hc ⊢
  cases hb : Nat.beq v.1 1 with
  | true =>
    obtain ⟨i, rfl, -⟩ := h.2.1 (xv_beq hb)
    exact ⟨Or.inr (Or.inl (xv_beq hb)), rfl⟩
  | false =>
    rw [hb] at hc
    simp only [cond_false] at hc ⊢
    cases hb2 : (Nat.ble v.1 3 || Nat.beq v.1 5) with
    | false => rw [hb2] at hc; simp only [cond_false] at hc; omega
    | true =>
      simp only [cond_true]
      have hne : v.1 ≠ 1 := fun q => by rw [q] at hb; cases hb
      have hkn : xv_known v := by
        rcases (Bool.or_eq_true _ _).mp hb2 with q | q
        · have := xv_ble q
          unfold xv_known; omega
        · exact Or.inr (Or.inr (Or.inr (Or.inr (xv_beq q))))
      exact ⟨hkn, xv_cat1 h hkn hne⟩
theorem xv_locs_ok {sb : Nat} {as : List Nat} : ∀ (av : List xv_V) (vs : List Value) (n i0 : Nat), xv_sm sb as av vs → xv_cats av ≤ n → n < 100 → (lg_sl vs).length ≤ n ∧ (xv_locs av n).length = n ∧ ∀ (i : Nat) (v : xv_V), (xv_locs av n)[i]? = some v → xv_known v → ∃ x, (i0 + i, x) ∈ lv_args i0 vs ∧ xv_hv sb as v x
  | [], [], n, i0, _, _, _ => by
    refine ⟨Nat.zero_le _, xv_rep_len n _, fun i v hi hk => ?_⟩
    have hm : v ∈ xv_rep n xv_un := List.mem_of_getElem? hi
    rw [xv_rep_mem hm] at hk
    rcases hk with q | q | q | q | q <;> cases q
  | [], _ :: _, _, _, h, _, _ => False.elim h
  | _ :: _, [], _, _, h, _, _ => False.elim h
  | v :: av, x :: vs, n, i0, h, hc, hn => by
    have ec : xv_cats (v :: av) = xv_cat v + xv_cats av := rfl
    rw [ec] at hc
    obtain ⟨hkn, hcat⟩ := xv_sm.cats h.1 (by omega)
    have esl : lg_sl (x :: vs) = (if x.category = 2 then [.val x, .second] else [.val x]) ++ lg_sl vs := rfl
    have eargs : lv_args i0 (x :: vs) = (i0, x) :: lv_args (if x.category = 2 then i0 + 2 else i0 + 1) vs := rfl
    have elo : xv_locs (v :: av) n = bif Nat.beq v.1 1 then v :: xv_un :: xv_locs av (n - 2) else v :: xv_locs av (n - 1) := rfl
    rw [esl, eargs, elo]
    cases hb : Nat.beq v.1 1 with
    | true =>
      have e2 : xv_cat v = 2 := by unfold xv_cat; rw [hb]; rfl
      rw [e2] at hcat hc
      simp only [cond_true, hcat, if_true]
      obtain ⟨h1, h2, h3⟩ := xv_locs_ok av vs (n - 2) (i0 + 2) h.2 (by omega) (by omega)
      refine ⟨by simp; omega, by simp; omega, fun i w hi hk => ?_⟩
      match i, hi with
      | 0, hi => cases hi; exact ⟨x, List.mem_cons_self, h.1⟩
      | 1, hi => cases hi; rcases hk with q | q | q | q | q <;> cases q
      | i + 2, hi =>
        obtain ⟨y, hy, hv⟩ := h3 i w hi hk
        exact ⟨y, List.mem_cons_of_mem _ (by rw [show i0 + (i + 2) = i0 + 2 + i by omega]; exact hy), hv⟩
    | false =>
      have hne : v.1 ≠ 1 := fun q => by rw [q] at hb; cases hb
      have e1 : x.category = 1 := xv_cat1 h.1 hkn hne
      have e2 : xv_cat v = 1 := hcat.symm.trans e1
      rw [e2] at hc
      simp only [cond_false, e1]
      rw [if_neg (by decide), if_neg (by decide)]
      obtain ⟨h1, h2, h3⟩ := xv_locs_ok av vs (n - 1) (i0 + 1) h.2 (by omega) (by omega)
      refine ⟨by simp; omega, by simp; omega, fun i w hi hk => ?_⟩
      match i, hi with
      | 0, hi => cases hi; exact ⟨x, List.mem_cons_self, h.1⟩
      | i + 1, hi =>
        obtain ⟨y, hy, hv⟩ := h3 i w hi hk
        exact ⟨y, List.mem_cons_of_mem _ (by rw [show i0 + (i + 1) = i0 + 1 + i by omega]; exact hy), hv⟩
/-- a table of methods is as the class files have it -/
def xv_MOK (M : xv_M) (I : Nat → Option xv_I) : Prop := ∀ (id : Nat) (q : List xv_E × Nat), xv_get 20 M id = some q → ∃ i : xv_I, I id = some i ∧ q.2 = i.2.2.1 ∧ i.2.2.1 ≤ 41 ∧ plainName i.1.cls = true ∧ ∀ x ∈ q.1, xv_okE i.2.1 i.1.cls i.1.name i.2.2.2 I x
set_option maxHeartbeats 4000000 in
theorem xv_meth {M : xv_M} {I : Nat → Option xv_I} (hM : xv_MOK M I) (l : Launch) (F : Nat) : ∀ d : Nat, xv_CG l d I (xv_calls M F d) ∧ ∀ id av h n r, xv_calls M F d id av h n = some r → ∃ i, I id = some i
  | 0 => ⟨fun _ _ _ _ _ h => (by cases h), fun _ _ _ _ _ h => (by cases h)⟩
  | d + 1 => by
    obtain ⟨ih, ihr⟩ := xv_meth hM l F d
    have key : ∀ id av h n r, xv_calls M F (d + 1) id av h n = some r → ∃ q : List xv_E × Nat, xv_get 20 M id = some q ∧ xv_cats av ≤ q.2 ∧ xv_run (xv_calls M F d) [] 0 q.1 F q.1 0 (xv_locs av q.2) [] (h, n, 0, 0) = some r := by
      intro id av h n r hr
      have hr : (match xv_get 20 M id with | some q => bif Nat.ble (xv_cats av) q.2 then xv_run (xv_calls M F d) [] 0 q.1 F q.1 0 (xv_locs av q.2) [] (h, n, 0, 0) else none | none => none) = some r := hr
      cases hq : xv_get 20 M id with
      | none => rw [hq] at hr; cases hr
      | some q =>
        rw [hq] at hr
        obtain ⟨b, hr⟩ := xv_bt hr
        exact ⟨q, rfl, xv_ble b, hr⟩
    refine ⟨fun id av h n r hr => ?_, fun id av h n r hr => ?_⟩
    · obtain ⟨q, hq, hcats, hr⟩ := key id av h n r hr
      obtain ⟨⟨y, cc, mL, ret⟩, hi, e1, hmL, hpn, hok⟩ := hM id q hq
      dsimp only at e1 hmL hpn hok
      refine ⟨(y, cc, mL, ret), hi, fun D t sb ws vs sz hH hsm hD0 => ?_⟩
      dsimp only
      refine Met.ofW (cc := cc) (maxL := mL) (ret := ret) hpn rfl ?_
      intro p e s m args below meth c s₁ B hml hv
      obtain ⟨hargs, hsz, hP, hK, hEx⟩ := hv
      subst hargs
      subst hsz
      have hts := atoms_spec (ws := Cond.code y cc mL ret :: xv_tb) B.pre
      have hown : s.vm.findClass y.cls = some m.cls := findClass_of_methodNamed B.named
      have hlocks := B.notSynchronized
      have hnm : meth.name = y.name := (name_of_methodNamed B.named B.method).1
      have hret := B.returns
      rw [e1] at hr hcats
      have hA : ∀ w : Nat, s.heap.size ≤ w → va_A ws s.heap.size w := fun w hw => Or.inr hw
      have C : xv_Cx p s m vs.toArray c cc y.cls mL D t (va_A ws s.heap.size) sb [] := ⟨B.exec, B.bytes, hml, hown, fun w hw => hts w (List.mem_cons_of_mem _ hw), hK, hA, Or.inl rfl, hEx⟩
      obtain ⟨l1, l2, l3⟩ := xv_locs_ok av vs mL 0 hsm hcats (by omega)
      have hE : xv_Ends p l e (headSpec (Cond.code y cc mL ret :: xv_tb) { frames := d + 1, cells := r.2.2.2.2.1, slots := r.2.2.2.2.2, locals := 60 * (d + 1) }).room s m vs.toArray below meth c D t (va_A ws s.heap.size) (ws.map Prod.fst) sb mL (fun r' => MQ below (xv_Qc D t sb ws s.heap.size r') vs.toArray s r'.2.2.2.2.1 r'.2.2.2.2.2 (va_A ws s.heap.size)) cc ret := by
        intro pc L st S hcase
        refine ⟨Nat.le_refl _, Nat.le_refl _, fun hc9 hz9 ls vst H locs ws' hR => ?_⟩
        have hfree : ∀ w ∈ locs, va_A ws s.heap.size w.base := hR.2.2.2.2.1.2.2
        have hq : ∀ rv : Option Value, xv_sm sb (ws'.map Prod.fst) st rv.toList → ∀ tt : State, tt.heap = H → s.WarmedH tt.vm → xv_Qc D t sb ws s.heap.size (st, L, S.1, S.2.1, S.2.2.1, S.2.2.2) vs.toArray s (.returned rv) tt := fun rv hrv tt htt hW =>
          ⟨⟨rv, ws', rfl, by rw [htt]; exact hR.2.2.1, hR.2.2.2.1, hR.2.2.2.2.2.1, hR.2.2.2.2.2.2, hrv⟩, hR.2.2.2.2.1.F htt⟩
        rcases hcase with ⟨hd, x, rfl, hx0, hcase⟩ | ⟨hd, hrt, x, rfl, hx1⟩ | ⟨hd, hrt, rfl⟩
        · obtain ⟨y0, vst, rfl, hy, hst⟩ := hR.2.1.un
          have e := hst.nil
          subst e
          obtain ⟨i, rfl, i1, i2⟩ := hy.1 hx0
          rcases hcase with hrt | ⟨hrt, j1, j2⟩
          · exact W.iret B.exec B.bytes (by rw [hret, hrt]) (hq (some (.int i)) (xv_sm.cons hy True.intro)) hfree hd
          · exact W.zret B.exec B.bytes (by rw [hret, hrt]) (xv_nar_z (by omega) (by omega)).2 (hq (some (.int i)) (xv_sm.cons hy True.intro)) hfree hd
        · obtain ⟨y0, vst, rfl, hy, hst⟩ := hR.2.1.un
          have e := hst.nil
          subst e
          obtain ⟨i, rfl, i1, i2⟩ := hy.2.1 hx1
          exact W.lret B.exec B.bytes (by rw [hret, hrt]) (hq (some (.long i)) (xv_sm.cons hy True.intro)) hfree hd
        · have e := hR.2.1.nil
          subst e
          exact W.vret B.exec B.bytes (by rw [hret, hrt]) (hq none True.intro) hfree hd
      have hT := xs_run (scr := []) (name := y.name) (ret := ret) (I := I) (full := q.1) (stop := 0) (dF := d) C ih ihr ⟨Nat.le_refl _, by show 60 * d + 60 ≤ 60 * (d + 1); omega⟩ hnm.symm hE (fun _ h => by cases h) hok F q.1 (fun _ h => h) 0 (xv_locs av mL) [] (h, n, 0, 0) r hr
      obtain ⟨t1, t2, t3⟩ := hT
      rw [lg_entry_eq]
      have hl := lv_entry vs (n := mL) l1
      refine t3 (Nat.le_refl _) (Nat.le_refl _) _ [] s.heap [] ws ⟨⟨l2, _, hl, fun i v hi hk => ?_⟩, True.intro, hP, hD0.self, va_S.rf, hH, [], by rw [List.append_nil]⟩
      obtain ⟨x, hx, hv⟩ := l3 i v hi hk
      rw [Nat.zero_add] at hx
      exact ⟨x, hx, hv⟩
    · obtain ⟨q, hq, -, -⟩ := key id av h n r hr
      obtain ⟨i, hi, -⟩ := hM id q hq
      exact ⟨i, hi⟩
end
section
/-! tables are checked by program -/
abbrev xv_J : Type := xv_I × Nat × Nat × Nat × Nat × Nat × Nat
/-- the word w stands at place p of the tables -/
def xv_at (p : Nat) (w : Cond) : Bool := decide (lw_tbl[p]? = some w) && goodWord w
theorem xv_at_ok {p : Nat} {w : Cond} (h : xv_at p w = true) : w ∈ xv_tb := by
  obtain ⟨h1, h2⟩ := xv_and_t h
  exact xv_tbm (List.mem_of_getElem? (of_decide_eq_true h1)) h2
/-- a method that is called: how many numbers, its kind (0 static, 1 virtual, 2 a constructor), the places of its words -/
def xv_ceeB (j : xv_J) : Bool := xv_at j.2.2.2.1 (.code j.1.1 j.1.2.1 j.1.2.2.1 j.1.2.2.2) && (xv_at j.2.2.2.2.1 (.initialized j.1.1.cls) && (decide (j.1.1.cls ≠ "java/lang/invoke/MethodHandle") && (decide (j.1.1.cls ≠ "java/lang/invoke/VarHandle") && (decide ((parseMethodDescriptor j.1.1.desc).map (fun d => d.parameters.length) = some j.2.1) && (Nat.ble j.1.2.2.1 41 && (plainName j.1.1.cls &&
  (match j.2.2.1 with
  | 0 => xv_at j.2.2.2.2.2.1 (.static j.1.1)
  | 1 => xv_at j.2.2.2.2.2.1 (.instanceMethod j.1.1) && xv_at j.2.2.2.2.2.2 (.selects j.1.1.cls j.1.1 j.1.1)
  | _ => xv_at j.2.2.2.2.2.1 (.instanceMethod j.1.1) && (decide (j.1.2.2.2 = none) && decide (j.1.1.name = "<init>")))))))))
def xv_lkB (own name : String) (ret : Option FieldType) (J : Nat → Option xv_J) (ins : Instr) (a b p : Nat) (v : Int) : Bool := match ins with
  | .getfield idx => (match vwCl[a]? with
    | some q => Nat.ble (b + 1) q.2.2 && xv_at p (.fieldLink own idx (q.2.1 b).1 (q.2.1 b).2.1 (q.2.1 b).2.2.1)
    | none => false)
  | .putfield idx => (match vwCl[a]? with
    | some q => Nat.ble (b + 1) q.2.2 && (xv_at p (.fieldLink own idx (q.2.1 b).1 (q.2.1 b).2.1 (q.2.1 b).2.2.1) && (xv_ftk (q.2.1 b).2.2.1 v.toNat && (decide ((q.2.1 b).2.2.2 = false) || (decide ((q.2.1 b).2.2.2 = true) && (decide (name = "<init>") && decide ((q.2.1 b).1 = own))))))
    | none => false)
  | .new idx => (match vwCl[a]? with
    | some q => xv_at p (.classLink own idx q.1)
    | none => false)
  | .newarray ty => xv_at 221 (.arrayClass .int) && (match ty with
    | .int => true
    | .byte => xv_at 688 (.arrayClass .byte)
    | .boolean => xv_at 1477 (.arrayClass .boolean)
    | .long => xv_at 312 (.arrayClass .long)
    | _ => false)
  | .anewarray idx => xv_at p (.classLink own idx "PassedPenance$Image")
  | .multianewarray idx n => decide (n = 2) && ((decide (a = 1) && (decide (b = 1) && (decide (v = 0) && (xv_at p (.classLink own idx ("[" ++ (FieldType.array .int).toString)) && xv_at 221 (.arrayClass .int))))) || (decide (a = 2) && (decide (b = 4) && (decide (v = 1) && (xv_at p (.classLink own idx ("[" ++ (FieldType.array .long).toString)) && xv_at 312 (.arrayClass .long))))))
  | .ldc_w idx => xv_at p (.constant own idx (Int32.ofInt v))
  | .ldc2_w idx => xv_at p (.constantLong own idx (Int64.ofInt v))
  | .invokestatic idx => bif Nat.beq a 9999 then xv_at p (.methodLink own idx arraycopyName) && (xv_at 681 (.native arraycopyName) && (xv_at 680 (.static arraycopyName) && xv_at 118 (.initialized "java/lang/System"))) else (match J a with
    | some j => Nat.beq b j.2.1 && (Nat.beq j.2.2.1 0 && xv_at p (.methodLink own idx j.1.1))
    | none => true)
  | .invokevirtual idx => (match J a with
    | some j => Nat.beq b j.2.1 && (Nat.beq j.2.2.1 1 && (xv_at p (.methodLink own idx j.1.1) && (match vwCl[v.toNat]? with
      | some q => decide (q.1 = j.1.1.cls)
      | none => false)))
    | none => true)
  | .invokespecial idx => bif Nat.beq a 9998 then xv_at p (.methodLink own idx objectInit) && (xv_at 127 (.instanceMethod objectInit) && xv_at 128 (.code objectInit ⟨#[0xb1]⟩ 1 none)) else (match J a with
    | some j => Nat.beq b j.2.1 && (Nat.beq j.2.2.1 2 && (xv_at p (.methodLink own idx j.1.1) || decide ((own, idx, j.1.1, "PassedPenance") ∈ xv_nest)))
    | none => true)
  | .ireturn => (Nat.beq a 0 && decide (ret = some .int)) || (Nat.beq a 1 && decide (ret = some .boolean))
  | .lreturn => decide (ret = some .long)
  | .return_ => decide (ret = none)
  | _ => true
def xv_eB (cc : ByteArray) (own name : String) (ret : Option FieldType) (J : Nat → Option xv_J) (e : xv_E) : Bool := decide (decode cc e.1 = .ok (e.2.1, e.2.2.1)) && (decide (xv_len e.2.1 = 0 ∨ xv_len e.2.1 = e.2.2.1) && xv_lkB own name ret J e.2.1 e.2.2.2.1 e.2.2.2.2.1 e.2.2.2.2.2.1 e.2.2.2.2.2.2)
def xv_JI (J : Nat → Option xv_J) : Nat → Option xv_I := fun id => (J id).map (fun j => j.1)
def xv_JOK (J : Nat → Option xv_J) : Prop := ∀ (id : Nat) (j : xv_J), J id = some j → xv_ceeB j = true
theorem xv_cee_ok {j : xv_J} (h : xv_ceeB j = true) : xv_callee j.1 j.2.1 ∧ j.1.2.2.1 ≤ 41 ∧ plainName j.1.1.cls = true ∧ (j.2.2.1 = 0 → Cond.static j.1.1 ∈ xv_tb) ∧ (j.2.2.1 = 1 → Cond.instanceMethod j.1.1 ∈ xv_tb ∧ Cond.selects j.1.1.cls j.1.1 j.1.1 ∈ xv_tb) ∧ (j.2.2.1 = 2 → Cond.instanceMethod j.1.1 ∈ xv_tb ∧ j.1.2.2.2 = none ∧ j.1.1.name = "<init>") := by
  unfold xv_ceeB at h
  obtain ⟨h1, h⟩ := xv_and_t h
  obtain ⟨h2, h⟩ := xv_and_t h
  obtain ⟨h3, h⟩ := xv_and_t h
  obtain ⟨h4, h⟩ := xv_and_t h
  obtain ⟨h5, h⟩ := xv_and_t h
  obtain ⟨h6, h⟩ := xv_and_t h
  obtain ⟨h7, h⟩ := xv_and_t h
  refine ⟨⟨xv_at_ok h1, xv_at_ok h2, ⟨of_decide_eq_true h3, of_decide_eq_true h4, of_decide_eq_true h5⟩, xv_ble h6⟩, xv_ble h6, h7, fun e => ?_, fun e => ?_, fun e => ?_⟩
  · rw [e] at h; exact xv_at_ok h
  · rw [e] at h
    obtain ⟨a, b⟩ := xv_and_t h
    exact ⟨xv_at_ok a, xv_at_ok b⟩
  · rw [e] at h
    obtain ⟨a, b⟩ := xv_and_t h
    obtain ⟨b, c⟩ := xv_and_t b
    exact ⟨xv_at_ok a, of_decide_eq_true b, of_decide_eq_true c⟩
theorem xv_JI_eq {J : Nat → Option xv_J} {id : Nat} {i : xv_I} (h : xv_JI J id = some i) : ∃ j, J id = some j ∧ j.1 = i := by
  unfold xv_JI at h
  obtain ⟨j, h1, h2⟩ := Option.map_eq_some_iff.mp h
  exact ⟨j, h1, h2⟩
theorem xv_nw {own name : String} {ret : Option FieldType} {J : Nat → Option xv_J} {a b p : Nat} {v : Int} {ty : ArrayType} (h : xv_lkB own name ret J (.newarray ty) a b p v = true) : Cond.arrayClass (newarray.typeOf ty) ∈ xv_tb := by
  unfold xv_lkB at h
  dsimp only at h
  obtain ⟨c1, c2⟩ := xv_and_t h
  cases ty with
  | int => exact xv_at_ok c1
  | byte => exact xv_at_ok c2
  | boolean => exact xv_at_ok c2
  | long => exact xv_at_ok c2
  | char => cases c2
  | float => cases c2
  | double => cases c2
  | short => cases c2
theorem xv_e_ok {cc : ByteArray} {own name : String} {ret : Option FieldType} {J : Nat → Option xv_J} {e : xv_E} (hJ : xv_JOK J) (h : xv_eB cc own name ret J e = true) : xv_okE cc own name ret (xv_JI J) e := by
  unfold xv_eB at h
  obtain ⟨h1, h⟩ := xv_and_t h
  obtain ⟨h2, h⟩ := xv_and_t h
  refine ⟨of_decide_eq_true h1, of_decide_eq_true h2, ?_⟩
  obtain ⟨pc, ins, len, a, b, p, v⟩ := e
  dsimp only at h ⊢
  unfold xv_lkB at h
  unfold xv_lk
  cases ins
  case getfield i =>
    dsimp only at h ⊢
    cases hq : vwCl[a]? with
    | none => rw [hq] at h; cases h
    | some q =>
      rw [hq] at h
      obtain ⟨c1, c2⟩ := xv_and_t h
      exact ⟨q, rfl, xv_ble c1, xv_at_ok c2⟩
  case putfield i =>
    dsimp only at h ⊢
    cases hq : vwCl[a]? with
    | none => rw [hq] at h; cases h
    | some q =>
      rw [hq] at h
      obtain ⟨c1, c2⟩ := xv_and_t h
      obtain ⟨c2, c3⟩ := xv_and_t c2
      obtain ⟨c3, c4⟩ := xv_and_t c3
      refine ⟨q, rfl, xv_ble c1, xv_at_ok c2, c3, ?_⟩
      rcases (Bool.or_eq_true _ _).mp c4 with c4 | c4
      · exact Or.inl (of_decide_eq_true c4)
      · obtain ⟨c4, c5⟩ := xv_and_t c4
        obtain ⟨c5, c6⟩ := xv_and_t c5
        exact Or.inr ⟨of_decide_eq_true c4, of_decide_eq_true c5, of_decide_eq_true c6⟩
  case new i =>
    dsimp only at h ⊢
    cases hq : vwCl[a]? with
    | none => rw [hq] at h; cases h
    | some q => rw [hq] at h; exact ⟨q, rfl, xv_at_ok h⟩
  case newarray => exact xv_nw (own := own) (name := name) (ret := ret) (J := J) (a := a) (b := b) (p := p) (v := v) h
  case anewarray i =>
    exact xv_at_ok h
  case multianewarray i n =>
    obtain ⟨c1, c2⟩ := xv_and_t h
    refine ⟨of_decide_eq_true c1, ?_⟩
    rcases (Bool.or_eq_true _ _).mp c2 with c2 | c2
    · obtain ⟨d1, c2⟩ := xv_and_t c2
      obtain ⟨d2, c2⟩ := xv_and_t c2
      obtain ⟨d3, c2⟩ := xv_and_t c2
      obtain ⟨d4, d5⟩ := xv_and_t c2
      exact ⟨.int, Or.inl ⟨rfl, of_decide_eq_true d1, of_decide_eq_true d2, of_decide_eq_true d3⟩, xv_at_ok d4, xv_at_ok d5⟩
    · obtain ⟨d1, c2⟩ := xv_and_t c2
      obtain ⟨d2, c2⟩ := xv_and_t c2
      obtain ⟨d3, c2⟩ := xv_and_t c2
      obtain ⟨d4, d5⟩ := xv_and_t c2
      exact ⟨.long, Or.inr ⟨rfl, of_decide_eq_true d1, of_decide_eq_true d2, of_decide_eq_true d3⟩, xv_at_ok d4, xv_at_ok d5⟩
  case ldc_w i => exact xv_at_ok h
  case ldc2_w i => exact xv_at_ok h
  case invokestatic i =>
    dsimp only at h ⊢
    cases hb : Nat.beq a 9999 with
    | true =>
      rw [hb] at h
      simp only [cond_true] at h
      obtain ⟨c1, c2⟩ := xv_and_t h
      obtain ⟨c2, c3⟩ := xv_and_t c2
      obtain ⟨c3, c4⟩ := xv_and_t c3
      exact Or.inl ⟨xv_beq hb, xv_at_ok c1, xv_at_ok c2, xv_at_ok c3, xv_at_ok c4⟩
    | false =>
      rw [hb] at h
      simp only [cond_false] at h
      refine Or.inr ⟨fun e => (by rw [e] at hb; cases hb), fun ii hi => ?_⟩
      obtain ⟨j, hj, rfl⟩ := xv_JI_eq hi
      rw [hj] at h
      obtain ⟨c1, c2⟩ := xv_and_t h
      obtain ⟨c2, c3⟩ := xv_and_t c2
      obtain ⟨k1, -, -, k2, -, -⟩ := xv_cee_ok (hJ a j hj)
      rw [xv_beq c1]
      exact ⟨k1, xv_at_ok c3, k2 (xv_beq c2)⟩
  case invokevirtual i =>
    intro ii hi
    obtain ⟨j, hj, rfl⟩ := xv_JI_eq hi
    dsimp only at h
    rw [hj] at h
    obtain ⟨c1, c2⟩ := xv_and_t h
    obtain ⟨c2, c3⟩ := xv_and_t c2
    obtain ⟨c3, c4⟩ := xv_and_t c3
    obtain ⟨k1, -, -, -, k2, -⟩ := xv_cee_ok (hJ a j hj)
    rw [xv_beq c1]
    refine ⟨k1, xv_at_ok c3, (k2 (xv_beq c2)).1, (k2 (xv_beq c2)).2, ?_⟩
    cases hq : vwCl[v.toNat]? with
    | none => rw [hq] at c4; cases c4
    | some q => rw [hq] at c4; exact ⟨q, rfl, of_decide_eq_true c4⟩
  case invokespecial i =>
    dsimp only at h ⊢
    cases hb : Nat.beq a 9998 with
    | true =>
      rw [hb] at h
      simp only [cond_true] at h
      obtain ⟨c1, c2⟩ := xv_and_t h
      obtain ⟨c2, c3⟩ := xv_and_t c2
      exact Or.inl ⟨xv_beq hb, xv_at_ok c1, xv_at_ok c2, xv_at_ok c3⟩
    | false =>
      rw [hb] at h
      simp only [cond_false] at h
      refine Or.inr ⟨fun e => (by rw [e] at hb; cases hb), fun ii hi => ?_⟩
      obtain ⟨j, hj, rfl⟩ := xv_JI_eq hi
      rw [hj] at h
      obtain ⟨c1, c2⟩ := xv_and_t h
      obtain ⟨c2, c3⟩ := xv_and_t c2
      obtain ⟨k1, -, -, -, -, k2⟩ := xv_cee_ok (hJ a j hj)
      have k2 := k2 (xv_beq c2)
      rw [xv_beq c1]
      refine ⟨k1, k2.2.1, k2.2.2, ?_, k2.1⟩
      rcases (Bool.or_eq_true _ _).mp c3 with c3 | c3
      · exact Or.inl (xv_at_ok c3)
      · exact Or.inr ⟨_, of_decide_eq_true c3⟩
  case ireturn =>
    rcases (Bool.or_eq_true _ _).mp h with h | h
    · obtain ⟨c1, c2⟩ := xv_and_t h
      exact Or.inl ⟨xv_beq c1, of_decide_eq_true c2⟩
    · obtain ⟨c1, c2⟩ := xv_and_t h
      exact Or.inr ⟨xv_beq c1, of_decide_eq_true c2⟩
  case lreturn => exact of_decide_eq_true h
  case return_ => exact of_decide_eq_true h
  all_goals exact True.intro
/-- a method's table, checked -/
noncomputable def xv_mB (M : xv_M) (J : Nat → Option xv_J) (id : Nat) : Bool := match xv_get 20 M id, J id with
  | some q, some j => xv_ceeB j && (Nat.beq q.2 j.1.2.2.1 && q.1.all (fun e => xv_eB j.1.2.1 j.1.1.cls j.1.1.name j.1.2.2.2 J e))
  | none, none => true
  | _, _ => false
theorem xv_mB_ok {M : xv_M} {J : Nat → Option xv_J} (h : ∀ id, xv_mB M J id = true) : xv_JOK J ∧ xv_MOK M (xv_JI J) := by
  have hJ : xv_JOK J := fun id j hj => by
    have := h id
    unfold xv_mB at this
    rw [hj] at this
    cases hq : xv_get 20 M id with
    | none => rw [hq] at this; cases this
    | some q => rw [hq] at this; exact (xv_and_t this).1
  refine ⟨hJ, fun id q hq => ?_⟩
  have := h id
  unfold xv_mB at this
  rw [hq] at this
  cases hj : J id with
  | none => rw [hj] at this; cases this
  | some j =>
    rw [hj] at this
    obtain ⟨c1, c2⟩ := xv_and_t this
    obtain ⟨c2, c3⟩ := xv_and_t c2
    obtain ⟨-, k1, k2, -⟩ := xv_cee_ok c1
    exact ⟨j.1, by unfold xv_JI; rw [hj]; rfl, xv_beq c2, k1, k2, fun x hx => xv_e_ok hJ (List.all_eq_true.mp c3 x hx)⟩
end
section
/-- the texts that the class names: class, place -/
def xw_strs : List (String × Nat) := [("PassedPenance$Reader", 57), ("PassedPenance$Reader", 66), ("PassedPenance$Reader", 74), ("PassedPenance$Reader", 83), ("PassedPenance$Reader", 88), ("PassedPenance$Reader", 100), ("PassedPenance$Reader", 104), ("PassedPenance$Reader", 111), ("PassedPenance$Reader", 118), ("PassedPenance$Reader", 122), ("PassedPenance$Reader", 130), ("PassedPenance$Reader", 132), ("PassedPenance$Reader", 137)]
end
section
/-! E2, the executor's second form: numbers are forms over variables; variables have intervals; facts are forms that are not below 0; what lies in cells is known by a memo and by the types of the cells -/
abbrev xw_L : Type := Int × List (Nat × Int)
/-- a value: 0 an int, 1 a long, 2 the cell that the form names, 3 null, 4 one of the cells from the form's on (how many: its variable), 5 the script (the form: its length), 6 a text, 7 how a long form stands to 0, 9 nothing is known -/
abbrev xw_V : Type := Nat × xw_L
abbrev xw_N : Type := List (List (Int × Int))
abbrev xw_M : Type := Nat × xw_L × xw_V
/-- a stretch of a row: cell, from where, how far, step, the numbers' bounds -/
abbrev xw_G : Type := Nat × xw_L × xw_L × Int × Int × Int
/-- a record: 0 two to the power, 1 a shift, 2 a bit, 3 a product -/
abbrev xw_R : Type := Nat × Nat × xw_L × xw_L
abbrev xw_D : Type := List (Nat × Nat)
/-- intervals, how many variables, facts, memo, stretches, records, what was written -/
abbrev xw_S : Type := xw_N × Nat × List xw_L × List xw_M × List xw_G × List xw_R × xw_D
def xw_ieq (a b : Int) : Bool := match a - b with
  | .ofNat n => Nat.beq n 0
  | .negSucc _ => false
noncomputable def xw_orl {α : Type} (p : α → Bool) (l : List α) : Bool := List.rec (motive := fun _ => Bool) false (fun a _ ih => p a || ih) l
noncomputable def xw_anl {α : Type} (p : α → Bool) (l : List α) : Bool := List.rec (motive := fun _ => Bool) true (fun a _ ih => p a && ih) l
noncomputable def xw_fil {α : Type} (p : α → Bool) (l : List α) : List α := List.rec (motive := fun _ => List α) [] (fun a _ ih => bif p a then a :: ih else ih) l
noncomputable def xw_ins (t : Nat × Int) (l : List (Nat × Int)) : List (Nat × Int) := List.rec (motive := fun _ => List (Nat × Int)) [t] (fun h tl ih => bif Nat.beq h.1 t.1 then (bif xw_ieq (h.2 + t.2) 0 then tl else (h.1, h.2 + t.2) :: tl) else bif Nat.ble t.1 h.1 then t :: h :: tl else h :: ih) l
noncomputable def xw_add (a b : xw_L) : xw_L := (a.1 + b.1, List.rec (motive := fun _ => List (Nat × Int)) a.2 (fun t _ ih => xw_ins t ih) b.2)
noncomputable def xw_scl (k : Int) (a : xw_L) : xw_L := bif xw_ieq k 0 then (0, []) else (k * a.1, List.rec (motive := fun _ => List (Nat × Int)) [] (fun t _ ih => (t.1, k * t.2) :: ih) a.2)
noncomputable def xw_neg (a : xw_L) : xw_L := xw_scl (-1) a
noncomputable def xw_sub (a b : xw_L) : xw_L := xw_add a (xw_neg b)
def xw_k (a : xw_L) (c : Int) : xw_L := (a.1 + c, a.2)
noncomputable def xw_eqt (l : List (Nat × Int)) : List (Nat × Int) → Bool := List.rec (motive := fun _ => List (Nat × Int) → Bool) (fun m => match m with
  | [] => true
  | _ :: _ => false) (fun t _ ih m => match m with
  | [] => false
  | u :: m' => Nat.beq t.1 u.1 && (xw_ieq t.2 u.2 && ih m')) l
noncomputable def xw_eqL (a b : xw_L) : Bool := xw_ieq a.1 b.1 && xw_eqt a.2 b.2
noncomputable def xw_eqV (a b : xw_V) : Bool := Nat.beq a.1 b.1 && xw_eqL a.2 b.2
noncomputable def xw_e (E : xw_N) (v : Nat) : Int × Int := match xv_get 16 E v with
  | some p => p
  | none => (0, 0)
noncomputable def xw_lo (E : xw_N) (a : xw_L) : Int := List.rec (motive := fun _ => Int) a.1 (fun t _ ih => ih + (bif xv_le 0 t.2 then t.2 * (xw_e E t.1).1 else t.2 * (xw_e E t.1).2)) a.2
noncomputable def xw_hi (E : xw_N) (a : xw_L) : Int := List.rec (motive := fun _ => Int) a.1 (fun t _ ih => ih + (bif xv_le 0 t.2 then t.2 * (xw_e E t.1).2 else t.2 * (xw_e E t.1).1)) a.2
noncomputable def xw_cf (l : List (Nat × Int)) (v : Nat) : Int := List.rec (motive := fun _ => Int) 0 (fun t _ ih => bif Nat.beq t.1 v then t.2 else ih) l
/-- how often a fact goes into a number of another form -/
def xw_q (c k : Int) : Int := bif xw_ieq k 0 then 0 else bif xw_ieq (c / k * k) c then c / k else 0
noncomputable def xw_rev (l : List (Nat × Int)) : List (Nat × Int) := List.rec (motive := fun _ => List (Nat × Int) → List (Nat × Int)) (fun acc => acc) (fun t _ ih acc => ih (t :: acc)) l []
/-- 0 ≤ g, by intervals and by facts, one behind the other -/
noncomputable def xw_chain (E : xw_N) (F : List xw_L) : Nat → xw_L → Bool := Nat.rec (motive := fun _ => xw_L → Bool) (fun g => xv_le 0 (xw_lo E g)) (fun _ ih g => xv_le 0 (xw_lo E g) ||
  List.rec (motive := fun _ => Bool) false (fun t _ more => bif xw_orl (fun f => xv_le 1 (xw_q t.2 (xw_cf f.2 t.1))) F then
      xw_orl (fun f => xv_le 1 (xw_q t.2 (xw_cf f.2 t.1)) && ih (xw_sub g (xw_scl (xw_q t.2 (xw_cf f.2 t.1)) f))) F
    else more) (xw_rev g.2))
noncomputable def xw_prove (S : xw_S) (g : xw_L) : Bool := xw_chain S.1 S.2.2.1 9 g
def xw_max (a b : Int) : Int := bif xv_le a b then b else a
def xw_min (a b : Int) : Int := bif xv_le a b then a else b
/-- a variable's interval by a form that is not below 0 and not above h -/
noncomputable def xw_rf1 (h : Int) (E : xw_N) (t : Nat × Int) : xw_N := bif xv_le 1 t.2 then xv_upd 16 E t.1 (xw_max (xw_e E t.1).1 ((xw_e E t.1).2 - h / t.2), (xw_e E t.1).2) else bif xv_le t.2 (-1) then xv_upd 16 E t.1 ((xw_e E t.1).1, xw_min (xw_e E t.1).2 ((xw_e E t.1).1 + h / (-t.2))) else E
noncomputable def xw_rfs (h : Int) (l : List (Nat × Int)) (E : xw_N) : xw_N := List.rec (motive := fun _ => xw_N → xw_N) (fun E => E) (fun t _ ih E => ih (xw_rf1 h E t)) l E
def xw_two {α : Type} (l : List α) : Bool := match l with
  | _ :: _ :: _ => true
  | _ => false
/-- g is not below 0: k goes on, if that can be -/
noncomputable def xw_asm (S : xw_S) (g : xw_L) (k : xw_S → Bool) : Bool := bif xv_le 0 (xw_lo S.1 g) then k S else bif xv_le (xw_hi S.1 g) (-1) then true else bif xw_two g.2 && xw_prove S (xw_k (xw_neg g) (-1)) then true else
  k (xw_rfs (xw_hi S.1 g) g.2 S.1, S.2.1, bif xw_two g.2 && !(xw_orl (fun f => xw_eqL f g) S.2.2.1) then g :: S.2.2.1 else S.2.2.1, S.2.2.2)
/-- a new variable -/
noncomputable def xw_fr (S : xw_S) (lo hi : Int) (k : xw_L → xw_S → Bool) : Bool := bif xv_le hi lo then k (lo, []) S else bif Nat.ble (S.2.1 + 1) 256 then k (0, [(S.2.1, 1)]) (xv_upd 16 S.1 S.2.1 (lo, hi), S.2.1 + 1, S.2.2) else false
noncomputable def xw_nm (E : xw_N) (a : xw_L) : xw_L := match a.2 with
  | [] => a
  | _ :: _ => bif xv_le (xw_hi E a) (xw_lo E a) then (xw_lo E a, []) else a
/-! cells -/
noncomputable def xw_rst (w : Int) (a : xw_L) : xw_L := (a.1, xw_fil (fun t => !(xw_ieq (t.2 % w) 0)) a.2)
/-- which places of the pattern an index can have: from, how many -/
noncomputable def xw_rr (E : xw_N) (w : Nat) (i : xw_L) : Nat × Nat := bif Nat.beq w 1 then (0, 1) else match (xw_rst (Int.ofNat w) i).2 with
  | [] => ((i.1 % Int.ofNat w).toNat, 1)
  | _ :: _ => bif xv_le (xw_hi E (xw_rst (Int.ofNat w) i) - xw_lo E (xw_rst (Int.ofNat w) i) + 1) (Int.ofNat w) && xv_le (xw_lo E (xw_rst (Int.ofNat w) i) % Int.ofNat w) (xw_hi E (xw_rst (Int.ofNat w) i) % Int.ofNat w) then ((xw_lo E (xw_rst (Int.ofNat w) i) % Int.ofNat w).toNat, (xw_hi E (xw_rst (Int.ofNat w) i) - xw_lo E (xw_rst (Int.ofNat w) i)).toNat + 1) else (0, w)
/-- the places' ranges in one -/
noncomputable def xw_jn (els : List (List xv_V)) (s cnt : Nat) : Option xv_V := Nat.rec (motive := fun _ => Option xv_V) none (fun m _ => Nat.rec (motive := fun _ => Option xv_V) (xv_get 8 els s) (fun j acc => match acc with
  | none => none
  | some v => match xv_get 8 els (s + j + 1) with
    | none => none
    | some u => bif Nat.beq v.1 u.1 && Nat.ble u.1 1 then some (xv_join v u) else none) m) cnt
noncomputable def xw_len (c : xv_C) : Nat := bif Nat.beq c.1 0 then c.2.2.1 else c.2.1
noncomputable def xw_inb (S : xw_S) (n : Nat) (i : xw_L) : Bool := xw_prove S i && xw_prove S (xw_k (xw_neg i) (Int.ofNat n - 1))
noncomputable def xw_mem (M : List xw_M) (r : Nat) (i : xw_L) : Option xw_V := List.rec (motive := fun _ => Option xw_V) none (fun m _ ih => bif Nat.beq m.1 r && xw_eqL m.2.1 i then some m.2.2 else ih) M
noncomputable def xw_dvs (s : Int) (a : xw_L) : Bool := xw_ieq (a.1 % s) 0 && xw_anl (fun t => xw_ieq (t.2 % s) 0) a.2
/-- the bounds at a place: the stretch's in which it lies, or those given -/
noncomputable def xw_sgr (S : xw_S) (r : Nat) (i : xw_L) (d : Int × Int) : Int × Int := List.rec (motive := fun _ => Int × Int) d (fun g _ ih => bif Nat.beq g.1 r && (xv_le 1 g.2.2.2.1 && (xw_dvs g.2.2.2.1 (xw_sub i g.2.1) && (xw_prove S (xw_sub i g.2.1) && xw_prove S (xw_k (xw_sub g.2.2.1 (xw_sub i g.2.1)) (-1))))) then (g.2.2.2.2.1, g.2.2.2.2.2) else ih) S.2.2.2.2.1
/-- a place of a cell is read; hl: the cell with a number that never stands in it -/
noncomputable def xw_rd (hl : Nat × Int) (A : xv_A) (S : xw_S) (r : Nat) (i : xw_L) (k : xw_V → xw_S → Bool) : Bool := match xv_get 14 A r with
  | none => false
  | some c => bif Nat.ble 1 c.2.2.1 && (Nat.ble c.1 6 && xw_inb S (xw_len c) i) then
      (match xw_mem S.2.2.2.1 r (xw_nm S.1 i) with
      | some v => k v S
      | none => (match xw_jn c.2.2.2 (xw_rr S.1 c.2.2.1 (xw_nm S.1 i)).1 (xw_rr S.1 c.2.2.1 (xw_nm S.1 i)).2 with
        | none => false
        | some u => bif Nat.ble u.1 1 then
            xw_fr S (xw_sgr S r (xw_nm S.1 i) (u.2.1, u.2.2)).1 (xw_sgr S r (xw_nm S.1 i) (u.2.1, u.2.2)).2 (fun l S' =>
              bif Nat.beq r hl.1 then
                xw_asm S' (xw_k l (-hl.2 - 1)) (fun S'' => k (u.1, l) (S''.1, S''.2.1, S''.2.2.1, (r, xw_nm S.1 i, (u.1, l)) :: S''.2.2.2.1, S''.2.2.2.2)) && xw_asm S' (xw_k (xw_neg l) (hl.2 - 1)) (fun S'' => k (u.1, l) (S''.1, S''.2.1, S''.2.2.1, (r, xw_nm S.1 i, (u.1, l)) :: S''.2.2.2.1, S''.2.2.2.2))
              else k (u.1, l) (S'.1, S'.2.1, S'.2.2.1, (r, xw_nm S.1 i, (u.1, l)) :: S'.2.2.2.1, S'.2.2.2.2))
          else bif Nat.beq u.1 2 || Nat.beq u.1 3 then k (u.1, (u.2.1, [])) S else false)) else false
noncomputable def xw_apart (E : xw_N) (i j : xw_L) : Bool := xv_le 1 (xw_lo E (xw_sub i j)) || xv_le (xw_hi E (xw_sub i j)) (-1)
noncomputable def xw_killM (E : xw_N) (M : List xw_M) (r : Nat) (i : xw_L) : List xw_M := xw_fil (fun m => !(Nat.beq m.1 r) || xw_apart E m.2.1 i) M
noncomputable def xw_killG (G : List xw_G) (r : Nat) : List xw_G := xw_fil (fun g => !(Nat.beq g.1 r)) G
noncomputable def xw_isin (D : xw_D) (r c : Nat) : Bool := xw_orl (fun e => Nat.beq e.1 r && (Nat.beq e.2 0 || Nat.beq e.2 c)) D
noncomputable def xw_dadd (D : xw_D) (r c : Nat) : xw_D := bif xw_isin D r c then D else (r, c) :: D
noncomputable def xw_dcode (i : xw_L) : Nat := match i.2 with
  | [] => i.1.toNat + 1
  | _ :: _ => 0
/-- a value is within the ranges of the places -/
noncomputable def xw_wok (S : xw_S) (els : List (List xv_V)) (s : Nat) (v : xw_V) : Nat → Bool := Nat.rec (motive := fun _ => Bool) true (fun j ih => ih && match xv_get 8 els (s + j) with
  | some u => Nat.beq u.1 v.1 && (Nat.ble u.1 1 && (xw_prove S (xw_k v.2 (-u.2.1)) && xw_prove S (xw_k (xw_neg v.2) u.2.2)))
  | none => false)
noncomputable def xw_cpy (S : xw_S) (r w n : Nat) (i : xw_L) (v : xw_V) : Bool := xw_orl (fun m => Nat.beq m.1 r && (xw_eqV m.2.2 v && (Nat.ble v.1 1 && (xw_dvs (Int.ofNat w) (xw_sub i m.2.1) && xw_inb S n m.2.1)))) S.2.2.2.1
noncomputable def xw_wr (hl : Nat × Int) (A : xv_A) (S : xw_S) (r : Nat) (i : xw_L) (v : xw_V) (k : xw_S → Bool) : Bool := match xv_get 14 A r with
  | none => false
  | some c => bif Nat.ble 1 c.2.2.1 && (Nat.ble c.1 4 && (xw_inb S (xw_len c) i && ((xw_wok S c.2.2.2 (xw_rr S.1 c.2.2.1 (xw_nm S.1 i)).1 v (xw_rr S.1 c.2.2.1 (xw_nm S.1 i)).2 || xw_cpy S r c.2.2.1 (xw_len c) (xw_nm S.1 i) v) && (!(Nat.beq r hl.1) || (xw_prove S (xw_k v.2 (-hl.2 - 1)) || xw_prove S (xw_k (xw_neg v.2) (hl.2 - 1))))))) then
      k (S.1, S.2.1, S.2.2.1, (r, xw_nm S.1 i, (v.1, xw_nm S.1 v.2)) :: xw_killM S.1 S.2.2.2.1 r (xw_nm S.1 i), xw_killG S.2.2.2.2.1 r, S.2.2.2.2.2.1, xw_dadd S.2.2.2.2.2.2 r (xw_dcode (xw_nm S.1 i))) else false
/-- places are forgotten -/
noncomputable def xw_kill1 (S : xw_S) (e : Nat × Nat) : xw_S := (S.1, S.2.1, S.2.2.1, bif Nat.beq e.2 0 then xw_fil (fun m => !(Nat.beq m.1 e.1)) S.2.2.2.1 else xw_killM S.1 S.2.2.2.1 e.1 (Int.ofNat e.2 - 1, []), xw_killG S.2.2.2.2.1 e.1, S.2.2.2.2.2.1, xw_dadd S.2.2.2.2.2.2 e.1 e.2)
noncomputable def xw_kills (D : xw_D) (S : xw_S) : xw_S := List.rec (motive := fun _ => xw_S → xw_S) (fun S => S) (fun e _ ih S => ih (xw_kill1 S e)) D S
end
section
/-! numbers -/
def xw_L0 (kd : Nat) : Int := bif Nat.beq kd 0 then -2147483648 else -9223372036854775808
def xw_H0 (kd : Nat) : Int := bif Nat.beq kd 0 then 2147483647 else 9223372036854775807
noncomputable def xw_top (kd : Nat) (S : xw_S) (k : xw_L → xw_S → Bool) : Bool := xw_fr S (xw_L0 kd) (xw_H0 kd) k
noncomputable def xw_inr (kd : Nat) (S : xw_S) (a : xw_L) (k : xw_L → xw_S → Bool) : Bool := bif xv_le (xw_L0 kd) (xw_lo S.1 a) && xv_le (xw_hi S.1 a) (xw_H0 kd) then k a S else xw_top kd S k
/-- a new variable with a record -/
noncomputable def xw_frr (S : xw_S) (lo hi : Int) (f : Nat → xw_R) (k : xw_L → xw_S → Bool) : Bool := xw_fr S lo hi (fun l S' => match l.2 with
  | [] => k l S'
  | t :: _ => k l (S'.1, S'.2.1, S'.2.2.1, S'.2.2.2.1, S'.2.2.2.2.1, f t.1 :: S'.2.2.2.2.2.1, S'.2.2.2.2.2.2))
noncomputable def xw_rec (R : List xw_R) (p : xw_R → Bool) : Option xw_R := List.rec (motive := fun _ => Option xw_R) none (fun a _ ih => bif p a then some a else ih) R
noncomputable def xw_mul2 (kd : Nat) (S : xw_S) (x y : xw_L) (a b c d : Int) (k : xw_L → xw_S → Bool) : Bool := bif xv_le (xw_L0 kd) (xw_min (xw_min (a * c) (a * d)) (xw_min (b * c) (b * d))) && xv_le (xw_max (xw_max (a * c) (a * d)) (xw_max (b * c) (b * d))) (xw_H0 kd) then xw_frr S (xw_min (xw_min (a * c) (a * d)) (xw_min (b * c) (b * d))) (xw_max (xw_max (a * c) (a * d)) (xw_max (b * c) (b * d))) (fun v => (3, v, x, y)) k else xw_top kd S k
noncomputable def xw_lo1 (S : xw_S) (x : xw_L) : Int := bif xv_le 1 (xw_lo S.1 x) then xw_lo S.1 x else bif xw_prove S (xw_k x (-1)) then 1 else xw_lo S.1 x
noncomputable def xw_mul (kd : Nat) (S : xw_S) (x y : xw_L) (k : xw_L → xw_S → Bool) : Bool := match x.2 with
  | [] => xw_inr kd S (xw_scl x.1 y) k
  | _ :: _ => match y.2 with
    | [] => xw_inr kd S (xw_scl y.1 x) k
    | _ :: _ => match xw_rec S.2.2.2.2.2.1 (fun q => Nat.beq q.1 3 && (xw_eqL q.2.2.1 x && xw_eqL q.2.2.2 y)) with
      | some q => xw_inr kd S (0, [(q.2.1, 1)]) k
      | none => xw_mul2 kd S x y (xw_lo1 S x) (xw_hi S.1 x) (xw_lo1 S y) (xw_hi S.1 y) k
/-- the variable of a form that is one -/
def xw_sv (a : xw_L) : Option Nat := match a.2 with
  | [t] => bif xw_ieq a.1 0 && xw_ieq t.2 1 then some t.1 else none
  | _ => none
/-- the variable t of -1 - t -/
def xw_cv (a : xw_L) : Option Nat := match a.2 with
  | [t] => bif xw_ieq a.1 (-1) && xw_ieq t.2 (-1) then some t.1 else none
  | _ => none
/-- t is two to the power q, and bit q of x is known: b -/
noncomputable def xw_bit (S : xw_S) (x : xw_L) (t : Nat) (b : Int) : Bool := match xw_rec S.2.2.2.2.2.1 (fun q => Nat.beq q.1 0 && Nat.beq q.2.1 t) with
  | none => false
  | some p => (match xw_rec S.2.2.2.2.2.1 (fun q => Nat.beq q.1 2 && (xw_eqL q.2.2.1 x && (xw_eqL q.2.2.2 p.2.2.1 && (xv_le b (xw_e S.1 q.2.1).1 && xv_le (xw_e S.1 q.2.1).2 b)))) with
    | none => false
    | some _ => true)
noncomputable def xw_and2 (S : xw_S) (x y : xw_L) (k : xw_L → xw_S → Bool) : Bool := bif xv_le 0 (xw_lo S.1 y) then (bif xv_le 0 (xw_lo S.1 x) then xw_frr S 0 (xw_min (xw_hi S.1 x) (xw_hi S.1 y)) (fun v => (4, v, x, y)) k else xw_frr S 0 (xw_hi S.1 y) (fun v => (4, v, x, y)) k) else bif xv_le 0 (xw_lo S.1 x) then xw_frr S 0 (xw_hi S.1 x) (fun v => (4, v, x, y)) k else xw_top 0 S k
noncomputable def xw_and (S : xw_S) (x y : xw_L) (k : xw_L → xw_S → Bool) : Bool := match xw_cv y with
  | some t => bif xv_le 0 (xw_lo S.1 x) && xw_bit S x t 1 then xw_asm S (xw_sub x (0, [(t, 1)])) (fun S' => k (xw_sub x (0, [(t, 1)])) S') else xw_and2 S x y k
  | none => bif xw_eqL y (1, []) then (match xw_sv x with
      | some u => (match xw_rec S.2.2.2.2.2.1 (fun q => Nat.beq q.1 1 && Nat.beq q.2.1 u) with
        | some q => xw_frr S 0 1 (fun v => (2, v, q.2.2.1, q.2.2.2)) k
        | none => xw_and2 S x y k)
      | none => xw_and2 S x y k) else xw_and2 S x y k
/-- the least number of ones only that is not below n -/
def xw_bits (n : Int) : Int := match n with
  | .ofNat m => bif Nat.beq m 0 then 0 else Int.ofNat (2 ^ (Nat.log2 m + 1) - 1)
  | .negSucc _ => 0
noncomputable def xw_or2 (S : xw_S) (x y : xw_L) (k : xw_L → xw_S → Bool) : Bool := bif xv_le 0 (xw_lo S.1 x) && xv_le 0 (xw_lo S.1 y) then xw_frr S (xw_max (xw_lo S.1 x) (xw_lo S.1 y)) (xw_bits (xw_max (xw_hi S.1 x) (xw_hi S.1 y))) (fun v => (5, v, x, y)) k else xw_top 0 S k
noncomputable def xw_or (S : xw_S) (x y : xw_L) (k : xw_L → xw_S → Bool) : Bool := match xw_sv y with
  | some t => bif xv_le 0 (xw_lo S.1 x) && (xv_le 0 (xw_lo S.1 y) && xw_bit S x t 0) then xw_asm S (xw_k (xw_neg (xw_add x y)) (xw_bits (xw_max (xw_hi S.1 x) (xw_hi S.1 y)))) (fun S' => k (xw_add x y) S') else xw_or2 S x y k
  | none => xw_or2 S x y k
noncomputable def xw_xor (S : xw_S) (x y : xw_L) (k : xw_L → xw_S → Bool) : Bool := bif xw_eqL y (-1, []) then k (xw_k (xw_neg x) (-1)) S else bif xv_le 0 (xw_lo S.1 x) && xv_le 0 (xw_lo S.1 y) then xw_fr S 0 (xw_bits (xw_max (xw_hi S.1 x) (xw_hi S.1 y))) k else xw_top 0 S k
noncomputable def xw_shl (S : xw_S) (x y : xw_L) (k : xw_L → xw_S → Bool) : Bool := bif xv_le 0 (xw_lo S.1 x) && (xv_le 0 (xw_lo S.1 y) && (xv_le (xw_hi S.1 y) 31 && xv_le (xw_hi S.1 x * 2 ^ (xw_hi S.1 y).toNat) 2147483647)) then
    (bif xw_eqL x (1, []) then xw_frr S (xw_lo S.1 x * 2 ^ (xw_lo S.1 y).toNat) (xw_hi S.1 x * 2 ^ (xw_hi S.1 y).toNat) (fun v => (0, v, y, y)) k else xw_fr S (xw_lo S.1 x * 2 ^ (xw_lo S.1 y).toNat) (xw_hi S.1 x * 2 ^ (xw_hi S.1 y).toNat) k) else xw_top 0 S k
noncomputable def xw_shr (S : xw_S) (x y : xw_L) (k : xw_L → xw_S → Bool) : Bool := bif xv_le 0 (xw_lo S.1 x) && (xv_le 0 (xw_lo S.1 y) && xv_le (xw_hi S.1 y) 31) then xw_frr S 0 (xw_hi S.1 x) (fun v => (1, v, x, y)) k else xw_top 0 S k
noncomputable def xw_ushr (S : xw_S) (x : xw_L) (k : xw_L → xw_S → Bool) : Bool := bif xv_le 0 (xw_lo S.1 x) then xw_fr S 0 (xw_hi S.1 x) k else xw_top 0 S k
noncomputable def xw_nz (S : xw_S) (y : xw_L) : Bool := xw_prove S (xw_k y (-1)) || xw_prove S (xw_k (xw_neg y) (-1))
noncomputable def xw_div (kd : Nat) (S : xw_S) (x y : xw_L) (k : xw_L → xw_S → Bool) : Bool := xw_nz S y && (bif xw_prove S x && xw_prove S (xw_k y (-1)) then xw_fr S 0 (xw_max 0 (xw_hi S.1 x)) k else xw_top kd S k)
noncomputable def xw_rem (kd : Nat) (S : xw_S) (x y : xw_L) (k : xw_L → xw_S → Bool) : Bool := xw_nz S y && (bif xw_prove S x && xw_prove S (xw_k y (-1)) then
    xw_fr S 0 (bif xw_prove S (xw_sub x y) then xw_min (xw_min (xw_hi S.1 x) (xw_hi S.1 y - 1)) ((xw_hi S.1 x - 1) / 2) else xw_min (xw_hi S.1 x) (xw_hi S.1 y - 1)) (fun l S' => match y.2 with
      | [] => k l S'
      | _ :: _ => xw_asm S' (xw_k (xw_sub y l) (-1)) (fun S'' => k l S'')) else xw_top kd S k)
/-- a condition of d against 0; sp: what is not 0 is parted -/
noncomputable def xw_eqs (S : xw_S) (d : xw_L) (k : xw_S → Bool) : Bool := xw_asm S d (fun S' => xw_asm S' (xw_neg d) k)
noncomputable def xw_nes (sp : Bool) (S : xw_S) (d : xw_L) (k : xw_S → Bool) : Bool := bif xw_prove S d then xw_asm S (xw_k d (-1)) k else bif xw_prove S (xw_neg d) then xw_asm S (xw_k (xw_neg d) (-1)) k else bif sp then xw_asm S (xw_k d (-1)) k && xw_asm S (xw_k (xw_neg d) (-1)) k else k S
noncomputable def xw_br (c : ClassFile.Cond) (sp : Bool) (S : xw_S) (d : xw_L) (kt kf : xw_S → Bool) : Bool := match c with
  | .eq => xw_eqs S d kt && xw_nes sp S d kf
  | .ne => xw_nes sp S d kt && xw_eqs S d kf
  | .lt => xw_asm S (xw_k (xw_neg d) (-1)) kt && xw_asm S d kf
  | .ge => xw_asm S d kt && xw_asm S (xw_k (xw_neg d) (-1)) kf
  | .gt => xw_asm S (xw_k d (-1)) kt && xw_asm S (xw_neg d) kf
  | .le => xw_asm S (xw_neg d) kt && xw_asm S (xw_k d (-1)) kf
end
section
/-! templates: numbers told by the names of places -/
/-- a name: 0 the local a, 1 the cell a at an index over locals, 2 the ghost a -/
abbrev xw_Nm : Type := Nat × Nat × Int × List (Nat × Int)
abbrev xw_T : Type := Int × List (Int × xw_Nm)
noncomputable def xw_lv (L : List xw_V) (i : Nat) : Option xw_L := match xv_nth L i with
  | some v => bif Nat.ble v.1 1 then some v.2 else none
  | none => none
noncomputable def xw_ix (L : List xw_V) (c : Int) (ts : List (Nat × Int)) : Option xw_L := List.rec (motive := fun _ => Option xw_L) (some (c, [])) (fun t _ ih => match ih with
  | none => none
  | some a => match xw_lv L t.1 with
    | none => none
    | some l => some (xw_add a (xw_scl t.2 l))) ts
noncomputable def xw_tev (hl : Nat × Int) (A : xv_A) (gh : List xw_L) (L : List xw_V) (ts : List (Int × xw_Nm)) : xw_L → xw_S → (xw_L → xw_S → Bool) → Bool := List.rec (motive := fun _ => xw_L → xw_S → (xw_L → xw_S → Bool) → Bool) (fun acc S k => k acc S) (fun q _ ih acc S k => match q.2.1 with
  | 0 => (match xw_lv L q.2.2.1 with
    | some l => ih (xw_add acc (xw_scl q.1 l)) S k
    | none => false)
  | 1 => (match xw_ix L q.2.2.2.1 q.2.2.2.2 with
    | some i => xw_rd hl A S q.2.2.1 i (fun v S' => bif Nat.ble v.1 1 then ih (xw_add acc (xw_scl q.1 v.2)) S' k else false)
    | none => false)
  | _ => (match xv_nth gh q.2.2.1 with
    | some l => ih (xw_add acc (xw_scl q.1 l)) S k
    | none => false)) ts
noncomputable def xw_tv (hl : Nat × Int) (A : xv_A) (gh : List xw_L) (L : List xw_V) (t : xw_T) (S : xw_S) (k : xw_L → xw_S → Bool) : Bool := xw_tev hl A gh L t.2 (t.1, []) S k
/-- all of them are not below 0 -/
noncomputable def xw_tpr (hl : Nat × Int) (A : xv_A) (gh : List xw_L) (L : List xw_V) (ts : List xw_T) : xw_S → (xw_S → Bool) → Bool := List.rec (motive := fun _ => xw_S → (xw_S → Bool) → Bool) (fun S k => k S) (fun t _ ih S k => xw_tv hl A gh L t S (fun l S' => xw_prove S' l && ih S' k)) ts
/-- all of them are taken as not below 0 -/
noncomputable def xw_tas (hl : Nat × Int) (A : xv_A) (gh : List xw_L) (L : List xw_V) (ts : List xw_T) : xw_S → (xw_S → Bool) → Bool := List.rec (motive := fun _ => xw_S → (xw_S → Bool) → Bool) (fun S k => k S) (fun t _ ih S k => xw_tv hl A gh L t S (fun l S' => xw_asm S' l (fun S'' => ih S'' k))) ts
/-- their forms -/
noncomputable def xw_tgs (hl : Nat × Int) (A : xv_A) (L : List xw_V) (ts : List xw_T) : List xw_L → xw_S → (List xw_L → xw_S → Bool) → Bool := List.rec (motive := fun _ => List xw_L → xw_S → (List xw_L → xw_S → Bool) → Bool) (fun acc S k => k acc S) (fun t _ ih acc S k => xw_tv hl A [] L t S (fun l S' => ih (acc ++ [l]) S' k)) ts
/-! heads of loops -/
abbrev xw_Sg : Type := Nat × xw_T × xw_T × Int × Int × Int
abbrev xw_Al : Type := List (Int × Int) × List xw_T × xw_T
/-- what a loop changes: locals (which, kind, step), places; stretches; alternatives (ranges, facts, measure); whether it is run through at first -/
abbrev xw_H : Type := List (Nat × Nat × Nat) × xw_D × List xw_Sg × List xw_Al × Bool
/-- a head that stands open: its place, its measure, the locals, the state -/
abbrev xw_A : Type := Nat × xw_L × List xw_V × xw_S
noncomputable def xw_hav (hv : List (Nat × Nat × Nat)) : List (Int × Int) → List xw_V → xw_S → (List xw_V → xw_S → Bool) → Bool := List.rec (motive := fun _ => List (Int × Int) → List xw_V → xw_S → (List xw_V → xw_S → Bool) → Bool) (fun _ L S k => k L S) (fun h _ ih rs L S k => match rs with
  | [] => false
  | r :: rs' => bif Nat.beq h.2.1 9 then ih rs' (xv_put (9, (0, [])) L h.1) S k else bif Nat.ble h.2.1 1 then xw_fr S r.1 r.2 (fun l S' => ih rs' (xv_put (h.2.1, xw_scl (Int.ofNat h.2.2) l) L h.1) S' k) else false) hv
noncomputable def xw_rok (S : xw_S) (L : List xw_V) (hv : List (Nat × Nat × Nat)) : List (Int × Int) → Bool := List.rec (motive := fun _ => List (Int × Int) → Bool) (fun _ => true) (fun h _ ih rs => match rs with
  | [] => false
  | r :: rs' => (bif Nat.beq h.2.1 9 then true else match xv_nth L h.1 with
    | some v => Nat.beq v.1 h.2.1 && (Nat.ble h.2.1 1 && (Nat.ble 1 h.2.2 && ((bif Nat.beq h.2.2 1 then true else xw_dvs (Int.ofNat h.2.2) v.2) && (xw_prove S (xw_k v.2 (-(Int.ofNat h.2.2 * r.1))) && xw_prove S (xw_k (xw_neg v.2) (Int.ofNat h.2.2 * r.2))))))
    | none => false) && ih rs') hv
noncomputable def xw_sok (S : xw_S) (r : Nat) (b sp : xw_L) (s lo hi : Int) : Bool := xw_prove S (xw_neg sp) || xw_orl (fun g => Nat.beq g.1 r && (xw_eqL g.2.1 b && (xw_ieq g.2.2.2.1 s && (xv_le 1 s && (xv_le lo g.2.2.2.2.1 && (xv_le g.2.2.2.2.2 hi && (xw_prove S (xw_sub g.2.2.1 sp) || (xw_dvs s g.2.2.1 && (xw_prove S (xw_k (xw_sub g.2.2.1 sp) s) && (match xw_mem S.2.2.2.1 r (xw_nm S.1 (xw_add b g.2.2.1)) with
  | some v => Nat.ble v.1 1 && (xw_prove S (xw_k v.2 (-lo)) && xw_prove S (xw_k (xw_neg v.2) hi))
  | none => false)))))))))) S.2.2.2.2.1
noncomputable def xw_soks (hl : Nat × Int) (A : xv_A) (gh : List xw_L) (L : List xw_V) (sg : List xw_Sg) : xw_S → (xw_S → Bool) → Bool := List.rec (motive := fun _ => xw_S → (xw_S → Bool) → Bool) (fun S k => k S) (fun g _ ih S k => xw_tv hl A gh L g.2.1 S (fun b S1 => xw_tv hl A gh L g.2.2.1 S1 (fun sp S2 => xw_sok S2 g.1 b sp g.2.2.2.1 g.2.2.2.2.1 g.2.2.2.2.2 && ih S2 k))) sg
noncomputable def xw_sadd (hl : Nat × Int) (A : xv_A) (gh : List xw_L) (L : List xw_V) (sg : List xw_Sg) : xw_S → (xw_S → Bool) → Bool := List.rec (motive := fun _ => xw_S → (xw_S → Bool) → Bool) (fun S k => k S) (fun g _ ih S k => xw_tv hl A gh L g.2.1 S (fun b S1 => xw_tv hl A gh L g.2.2.1 S1 (fun sp S2 => ih (S2.1, S2.2.1, S2.2.2.1, S2.2.2.2.1, (g.1, b, sp, g.2.2.2) :: S2.2.2.2.2.1, S2.2.2.2.2.2) k))) sg
/-- an alternative holds -/
noncomputable def xw_chk (hl : Nat × Int) (A : xv_A) (gh : List xw_L) (h : xw_H) (al : xw_Al) (L : List xw_V) (S : xw_S) (fin : xw_S → Bool) : Bool := xw_rok S L h.1 al.1 && xw_soks hl A gh L h.2.2.1 S (fun S1 => xw_tpr hl A gh L al.2.1 S1 fin)
noncomputable def xw_sub1 {α : Type} (eq : α → α → Bool) (cur : List α) : List α → Bool := List.rec (motive := fun _ => List α → Bool) (fun kept => match kept with
  | [] => true
  | _ :: _ => false) (fun a _ ih kept => match kept with
  | [] => true
  | b :: t => bif eq a b then ih t else ih kept) cur
noncomputable def xw_eqM (a b : xw_M) : Bool := Nat.beq a.1 b.1 && (xw_eqL a.2.1 b.2.1 && xw_eqV a.2.2 b.2.2)
noncomputable def xw_eqG (a b : xw_G) : Bool := Nat.beq a.1 b.1 && (xw_eqL a.2.1 b.2.1 && (xw_eqL a.2.2.1 b.2.2.1 && (xw_ieq a.2.2.2.1 b.2.2.2.1 && (xw_ieq a.2.2.2.2.1 b.2.2.2.2.1 && xw_ieq a.2.2.2.2.2 b.2.2.2.2.2))))
noncomputable def xw_leq (hv : List (Nat × Nat × Nat)) (L : List xw_V) : List xw_V → Nat → Bool := List.rec (motive := fun _ => List xw_V → Nat → Bool) (fun K _ => match K with
  | [] => true
  | _ :: _ => false) (fun a _ ih K i => match K with
  | [] => false
  | b :: K' => (xw_orl (fun h => Nat.beq h.1 i) hv || xw_eqV a b) && ih K' (i + 1)) L
/-- a head is come back to -/
noncomputable def xw_back (hl : Nat × Int) (A : xv_A) (gh : List xw_L) (h : xw_H) (a : xw_A) (L : List xw_V) (S : xw_S) : Bool := xw_leq h.1 L a.2.2.1 0 && (xw_sub1 xw_eqM S.2.2.2.1 a.2.2.2.2.2.2.1 && (xw_sub1 xw_eqG S.2.2.2.2.1 a.2.2.2.2.2.2.2.1 && (xw_anl (fun e => xw_isin a.2.2.2.2.2.2.2.2.2 e.1 e.2) S.2.2.2.2.2.2 &&
  xw_orl (fun al => xw_chk hl A gh h al L S (fun S1 => xw_tv hl A gh L al.2.2 S1 (fun l S2 => xw_prove S2 (xw_k (xw_sub a.2.1 l) (-1)) && xw_prove S2 a.2.1))) h.2.2.2.1)))
/-- the state at a head, by an alternative -/
noncomputable def xw_gen (hl : Nat × Int) (A : xv_A) (gh : List xw_L) (h : xw_H) (al : xw_Al) (L : List xw_V) (S : xw_S) (k : xw_L → List xw_V → xw_S → Bool) : Bool := xw_hav h.1 al.1 L S (fun L1 S1 => xw_sadd hl A gh L1 h.2.2.1 S1 (fun S2 => xw_tas hl A gh L1 al.2.1 S2 (fun S3 => xw_tv hl A gh L1 al.2.2 S3 (fun l S4 => k l L1 S4))))
noncomputable def xw_ent (hl : Nat × Int) (A : xv_A) (gh : List xw_L) (h : xw_H) (pc : Nat) (L : List xw_V) (S : xw_S) (k : xw_A → List xw_V → xw_S → Bool) : Bool := xw_orl (fun al => xw_chk hl A gh h al L S (fun S1 => xw_tv hl A gh L al.2.2 S1 (fun _ _ => true))) h.2.2.2.1 && xw_anl (fun al => xw_gen hl A gh h al L (xw_kills h.2.1 S) (fun l L1 S1 => k (pc, l, L, xw_kills h.2.1 S) L1 S1)) h.2.2.2.1
/-- a number is parted into those from c on, n of them -/
noncomputable def xw_part (l : xw_L) (S : xw_S) (k : xw_S → Bool) (c : Int) (n : Nat) : Bool := Nat.rec (motive := fun _ => Int → Bool) (fun _ => true) (fun _ ih c => xw_asm S (xw_k l (-c)) (fun S1 => xw_asm S1 (xw_k (xw_neg l) c) k) && ih (c + 1)) n c
abbrev xw_F : Type := xw_T × Int × Nat
/-- what is told of a run: heads, forks, calls by contract -/
abbrev xw_Q : Type := List (Nat × Nat × xw_H) × List (Nat × Nat × xw_F) × List (Nat × Nat × List Nat)
noncomputable def xw_find {α : Type} (l : List (Nat × Nat × α)) (i p : Nat) : Option α := List.rec (motive := fun _ => Option α) none (fun a _ ih => bif Nat.beq a.1 i && Nat.beq a.2.1 p then some a.2.2 else ih) l
noncomputable def xw_act (l : List xw_A) (p : Nat) : Option xw_A := List.rec (motive := fun _ => Option xw_A) none (fun a _ ih => bif Nat.beq a.1 p then some a else ih) l
abbrev xw_Kr : Type := Option xw_V → xw_S → Bool
abbrev xw_K : Type := Nat → List xw_V → List xw_V → xw_S → Bool
abbrev xw_Cl : Type := Nat → Nat → Nat → List xw_V → xw_S → xw_Kr → Bool
/-! the steps -/
def xw_un : xw_V := (9, (0, []))
noncomputable def xw_cl1 (L : List xw_V) (i : Nat) : List xw_V := match i with
  | 0 => L
  | j + 1 => match xv_nth L j with
    | some v => bif Nat.beq v.1 1 then xv_put xw_un L j else L
    | none => L
noncomputable def xw_st1 (L : List xw_V) (i : Nat) (v : xw_V) : List xw_V := xv_put v (xw_cl1 L i) i
noncomputable def xw_st2 (L : List xw_V) (i : Nat) (v : xw_V) : List xw_V := xv_put xw_un (xv_put v (xw_cl1 L i) i) (i + 1)
noncomputable def xw_ld (kd : Nat) (L : List xw_V) (i : Nat) (k : xw_V → Bool) : Bool := match xv_nth L i with
  | some v => bif Nat.beq v.1 kd then k v else false
  | none => false
def xw_isr (v : xw_V) : Bool := Nat.beq v.1 2 || (Nat.beq v.1 3 || (Nat.beq v.1 4 || (Nat.beq v.1 5 || Nat.beq v.1 6)))
noncomputable def xw_lda (L : List xw_V) (i : Nat) (k : xw_V → Bool) : Bool := match xv_nth L i with
  | some v => bif xw_isr v then k v else false
  | none => false
noncomputable def xw_sto (kd i : Nat) (L st : List xw_V) (k : List xw_V → List xw_V → Bool) : Bool := match st with
  | v :: r => bif Nat.beq v.1 kd && Nat.ble (i + 1) L.length then k (xw_st1 L i v) r else false
  | [] => false
noncomputable def xw_stoa (i : Nat) (L st : List xw_V) (k : List xw_V → List xw_V → Bool) : Bool := match st with
  | v :: r => bif (Nat.beq v.1 2 || Nat.beq v.1 3) && Nat.ble (i + 1) L.length then k (xw_st1 L i v) r else false
  | [] => false
noncomputable def xw_stol (i : Nat) (L st : List xw_V) (k : List xw_V → List xw_V → Bool) : Bool := match st with
  | v :: r => bif Nat.beq v.1 1 && Nat.ble (i + 2) L.length then k (xw_st2 L i v) r else false
  | [] => false
noncomputable def xw_bin (kd ky : Nat) (st : List xw_V) (f : xw_L → xw_L → List xw_V → Bool) : Bool := match st with
  | y :: x :: r => bif Nat.beq x.1 kd && Nat.beq y.1 ky then f x.2 y.2 r else false
  | _ => false
def xw_cat (v : xw_V) : Nat := bif Nat.beq v.1 1 then 2 else bif Nat.ble v.1 7 then 1 else 100
noncomputable def xw_cats (st : List xw_V) : Nat := List.rec (motive := fun _ => Nat) 0 (fun v _ n => xw_cat v + n) st
noncomputable def xw_take (k : Nat) : List xw_V → List xw_V → Option (List xw_V × List xw_V) := Nat.rec (motive := fun _ => List xw_V → List xw_V → Option (List xw_V × List xw_V)) (fun acc st => some (acc, st)) (fun _ ih acc st => match st with
  | v :: r => ih (v :: acc) r
  | [] => none) k
noncomputable def xw_call (call : xw_Cl) (id pc callee : Nat) (args L rest : List xw_V) (S : xw_S) (k : xw_K) : Bool := bif Nat.ble (xw_cats rest) 8 then call id pc callee args S (fun r S' => match r with
  | some v => k (pc + 3) L (v :: rest) S'
  | none => k (pc + 3) L rest S') else false
/-- rows of one kind: the cells from q on, n of them, are like the first -/
noncomputable def xw_like (A : xv_A) (c : xv_C) (q : Nat) (n : Nat) : Bool := Nat.rec (motive := fun _ => Bool) true (fun j ih => ih && match xv_get 14 A (q + j) with
  | some d => Nat.beq d.1 c.1 && (Nat.beq d.2.1 c.2.1 && (Nat.beq d.2.2.1 1 && (match xv_get 8 d.2.2.2 0, xv_get 8 c.2.2.2 0 with
    | some u, some v => Nat.beq u.1 v.1 && (Nat.ble u.1 1 && (xw_ieq u.2.1 v.2.1 && xw_ieq u.2.2 v.2.2))
    | _, _ => false)))
  | none => false) n
def xw_cnt (v : xw_V) : Nat := match v.2.2 with
  | [t] => t.1
  | _ => 0
noncomputable def xw_scrip (S : xw_S) (len i : xw_L) (k : xw_V → xw_S → Bool) : Bool := bif xw_prove S i && xw_prove S (xw_k (xw_sub len i) (-1)) then (match xw_mem S.2.2.2.1 9999 (xw_nm S.1 i) with
  | some v => k v S
  | none => xw_fr S (-2147483648) 2147483647 (fun l S' => k (0, l) (S'.1, S'.2.1, S'.2.2.1, (9999, xw_nm S.1 i, (0, l)) :: S'.2.2.2.1, S'.2.2.2.2))) else false
/-- a row's place is read: kd the kind of row -/
noncomputable def xw_ald (hl : Nat × Int) (A : xv_A) (kd : Nat) (st : List xw_V) (S : xw_S) (k : xw_V → List xw_V → xw_S → Bool) : Bool := match st with
  | i :: o :: r => bif Nat.beq i.1 0 then
      (bif Nat.beq o.1 5 then (bif Nat.beq kd 1 then xw_scrip S o.2 i.2 (fun v S' => k v r S') else false) else
      bif Nat.beq o.1 2 && xv_le 0 o.2.1 then (match xv_get 14 A o.2.1.toNat with
        | some c => bif Nat.beq c.1 kd then xw_rd hl A S o.2.1.toNat i.2 (fun v S' => k v r S') else false
        | none => false) else
      bif Nat.beq o.1 4 && xv_le 0 o.2.1 then (match xv_get 14 A o.2.1.toNat with
        | some c => bif Nat.beq c.1 kd && (Nat.ble 1 (xw_cnt o) && (xw_like A c o.2.1.toNat (xw_cnt o) && xw_inb S c.2.1 i.2)) then (match xv_get 8 c.2.2.2 0 with
          | some u => xw_fr S u.2.1 u.2.2 (fun l S' => k (u.1, l) r S')
          | none => false) else false
        | none => false) else false) else false
  | _ => false
noncomputable def xw_many (q n : Nat) : xw_D := Nat.rec (motive := fun _ => xw_D) [] (fun j l => (q + j, 0) :: l) n
noncomputable def xw_ast (hl : Nat × Int) (A : xv_A) (kd ke : Nat) (st : List xw_V) (S : xw_S) (k : List xw_V → xw_S → Bool) : Bool := match st with
  | v :: i :: o :: r => bif Nat.beq i.1 0 && Nat.beq v.1 ke then
      (bif Nat.beq o.1 2 && xv_le 0 o.2.1 then (match xv_get 14 A o.2.1.toNat with
        | some c => bif Nat.beq c.1 kd then xw_wr hl A S o.2.1.toNat i.2 v (fun S' => k r S') else false
        | none => false) else
      bif Nat.beq o.1 4 && xv_le 0 o.2.1 then (match xv_get 14 A o.2.1.toNat with
        | some c => bif Nat.beq c.1 kd && (Nat.ble 1 (xw_cnt o) && (xw_like A c o.2.1.toNat (xw_cnt o) && (xw_inb S c.2.1 i.2 && (xw_wok S c.2.2.2 0 v 1 && !(Nat.ble o.2.1.toNat hl.1 && Nat.ble (hl.1 + 1) (o.2.1.toNat + xw_cnt o)))))) then k r (xw_kills (xw_many o.2.1.toNat (xw_cnt o)) S) else false
        | none => false) else false) else false
  | _ => false
end
section
/-- the cells of a row of rows stand one behind the other -/
noncomputable def xw_seq (els : List (List xv_V)) (q : Int) (n : Nat) : Bool := Nat.rec (motive := fun _ => Bool) true (fun j ih => ih && match xv_get 8 els j with
  | some u => Nat.beq u.1 2 && xw_ieq u.2.1 (q + Int.ofNat j)
  | none => false) n
/-- a row's cells: the first, how many -/
noncomputable def xw_rows (A : xv_A) (o : xw_V) : Option (Nat × Nat × xv_C) := bif xv_le 0 o.2.1 then (match xv_get 14 A o.2.1.toNat with
  | some c => bif Nat.beq o.1 2 && Nat.beq c.2.2.1 1 then some (o.2.1.toNat, 1, c) else bif Nat.beq o.1 4 && (Nat.ble 1 (xw_cnt o) && xw_like A c o.2.1.toNat (xw_cnt o)) then some (o.2.1.toNat, xw_cnt o, c) else none
  | none => none) else none
noncomputable def xw_copy (hl : Nat × Int) (A : xv_A) (S : xw_S) (n dp d sp o : xw_V) (k : xw_S → Bool) : Bool := match xw_rows A o, xw_rows A d with
  | some p, some q => (match xv_get 8 p.2.2.2.2.2 0, xv_get 8 q.2.2.2.2.2 0 with
    | some u, some v => bif Nat.beq n.1 0 && (Nat.beq dp.1 0 && (Nat.beq sp.1 0 && (Nat.beq p.2.2.1 q.2.2.1 && ((Nat.beq p.2.2.1 1 || Nat.beq p.2.2.1 4) && (Nat.beq u.1 v.1 && (Nat.ble u.1 1 && (xv_le v.2.1 u.2.1 && (xv_le u.2.2 v.2.2 && (xw_prove S n.2 && (xw_prove S sp.2 && (xw_prove S dp.2 && (xw_prove S (xw_k (xw_neg (xw_add sp.2 n.2)) (Int.ofNat p.2.2.2.1)) && (xw_prove S (xw_k (xw_neg (xw_add dp.2 n.2)) (Int.ofNat q.2.2.2.1)) && !(Nat.ble q.1 hl.1 && Nat.ble (hl.1 + 1) (q.1 + q.2.1))))))))))))))) then k (xw_kills (xw_many q.1 q.2.1) S) else false
    | _, _ => false)
  | _, _ => false
noncomputable def xw_go (k : xw_K) (pc : Nat) (off : Int) (L st : List xw_V) (S : xw_S) : Bool := bif xv_le 0 (Int.ofNat pc + off) then k (xv_tgt pc off) L st S else false
/-- a table's jumps: from the number c on -/
noncomputable def xw_tab (k : xw_K) (pc : Nat) (L r : List xw_V) (S : xw_S) (x : xw_L) (offs : List Int) : Int → Bool := List.rec (motive := fun _ => Int → Bool) (fun _ => true) (fun off _ ih c => xw_asm S (xw_k x (-c)) (fun S1 => xw_asm S1 (xw_k (xw_neg x) c) (fun S2 => xw_go k pc off L r S2)) && ih (c + 1)) offs
noncomputable def xw_step (hl : Nat × Int) (A : xv_A) (call : xw_Cl) (id : Nat) (k : xw_K) (kr : xw_Kr) (ins : Instr) (a b : Nat) (v : Int) (pc : Nat) (L st : List xw_V) (S : xw_S) : Bool :=
  match ins with
  | .iconst i => bif xv_le (-2147483648) i && xv_le i 2147483647 then k (pc + 1) L ((0, (i, [])) :: st) S else false
  | .bipush i => bif xv_le (-128) i && xv_le i 127 then k (pc + 2) L ((0, (i, [])) :: st) S else false
  | .sipush i => bif xv_le (-32768) i && xv_le i 32767 then k (pc + 3) L ((0, (i, [])) :: st) S else false
  | .lconst i => k (pc + 1) L ((1, (Int.ofNat i.val, [])) :: st) S
  | .iload i => xw_ld 0 L i (fun v => k (pc + 2) L (v :: st) S)
  | .iload_n i => xw_ld 0 L i.val (fun v => k (pc + 1) L (v :: st) S)
  | .lload i => xw_ld 1 L i (fun v => k (pc + 2) L (v :: st) S)
  | .lload_n i => xw_ld 1 L i.val (fun v => k (pc + 1) L (v :: st) S)
  | .aload_n i => xw_lda L i.val (fun v => k (pc + 1) L (v :: st) S)
  | .istore i => xw_sto 0 i L st (fun L' st' => k (pc + 2) L' st' S)
  | .istore_n i => xw_sto 0 i.val L st (fun L' st' => k (pc + 1) L' st' S)
  | .lstore i => xw_stol i L st (fun L' st' => k (pc + 2) L' st' S)
  | .lstore_n i => xw_stol i.val L st (fun L' st' => k (pc + 1) L' st' S)
  | .astore_n i => xw_stoa i.val L st (fun L' st' => k (pc + 1) L' st' S)
  | .iinc i c => xw_ld 0 L i (fun v => xw_inr 0 S (xw_k v.2 c) (fun l S' => k (pc + 3) (xw_st1 L i (0, l)) st S'))
  | .iadd => xw_bin 0 0 st (fun x y r => xw_inr 0 S (xw_add x y) (fun l S' => k (pc + 1) L ((0, l) :: r) S'))
  | .isub => xw_bin 0 0 st (fun x y r => xw_inr 0 S (xw_sub x y) (fun l S' => k (pc + 1) L ((0, l) :: r) S'))
  | .imul => xw_bin 0 0 st (fun x y r => xw_mul 0 S (xw_nm S.1 x) (xw_nm S.1 y) (fun l S' => k (pc + 1) L ((0, l) :: r) S'))
  | .iand => xw_bin 0 0 st (fun x y r => xw_and S (xw_nm S.1 x) (xw_nm S.1 y) (fun l S' => k (pc + 1) L ((0, l) :: r) S'))
  | .ior => xw_bin 0 0 st (fun x y r => xw_or S (xw_nm S.1 x) (xw_nm S.1 y) (fun l S' => k (pc + 1) L ((0, l) :: r) S'))
  | .ixor => xw_bin 0 0 st (fun x y r => xw_xor S (xw_nm S.1 x) (xw_nm S.1 y) (fun l S' => k (pc + 1) L ((0, l) :: r) S'))
  | .ishl => xw_bin 0 0 st (fun x y r => xw_shl S (xw_nm S.1 x) (xw_nm S.1 y) (fun l S' => k (pc + 1) L ((0, l) :: r) S'))
  | .ishr => xw_bin 0 0 st (fun x y r => xw_shr S (xw_nm S.1 x) (xw_nm S.1 y) (fun l S' => k (pc + 1) L ((0, l) :: r) S'))
  | .iushr => xw_bin 0 0 st (fun x _ r => xw_ushr S (xw_nm S.1 x) (fun l S' => k (pc + 1) L ((0, l) :: r) S'))
  | .irem => xw_bin 0 0 st (fun x y r => xw_rem 0 S (xw_nm S.1 x) (xw_nm S.1 y) (fun l S' => k (pc + 1) L ((0, l) :: r) S'))
  | .ladd => xw_bin 1 1 st (fun x y r => xw_inr 1 S (xw_add x y) (fun l S' => k (pc + 1) L ((1, l) :: r) S'))
  | .lsub => xw_bin 1 1 st (fun x y r => xw_inr 1 S (xw_sub x y) (fun l S' => k (pc + 1) L ((1, l) :: r) S'))
  | .lmul => xw_bin 1 1 st (fun x y r => xw_mul 1 S (xw_nm S.1 x) (xw_nm S.1 y) (fun l S' => k (pc + 1) L ((1, l) :: r) S'))
  | .ldiv => xw_bin 1 1 st (fun x y r => xw_div 1 S (xw_nm S.1 x) (xw_nm S.1 y) (fun l S' => k (pc + 1) L ((1, l) :: r) S'))
  | .lrem => xw_bin 1 1 st (fun x y r => xw_rem 1 S (xw_nm S.1 x) (xw_nm S.1 y) (fun l S' => k (pc + 1) L ((1, l) :: r) S'))
  | .land => xw_bin 1 1 st (fun _ _ r => xw_top 1 S (fun l S' => k (pc + 1) L ((1, l) :: r) S'))
  | .lor => xw_bin 1 1 st (fun _ _ r => xw_top 1 S (fun l S' => k (pc + 1) L ((1, l) :: r) S'))
  | .lshl => xw_bin 1 0 st (fun _ _ r => xw_top 1 S (fun l S' => k (pc + 1) L ((1, l) :: r) S'))
  | .lcmp => xw_bin 1 1 st (fun x y r => k (pc + 1) L ((7, xw_sub x y) :: r) S)
  | .i2l => (match st with
    | x :: r => bif Nat.beq x.1 0 then k (pc + 1) L ((1, x.2) :: r) S else false
    | _ => false)
  | .l2i => (match st with
    | x :: r => bif Nat.beq x.1 1 then xw_inr 0 S x.2 (fun l S' => k (pc + 1) L ((0, l) :: r) S') else false
    | _ => false)
  | .i2b => (match st with
    | x :: r => bif Nat.beq x.1 0 then xw_fr S (-128) 127 (fun l S' => k (pc + 1) L ((0, l) :: r) S') else false
    | _ => false)
  | .i2s => (match st with
    | x :: r => bif Nat.beq x.1 0 then xw_fr S (-32768) 32767 (fun l S' => k (pc + 1) L ((0, l) :: r) S') else false
    | _ => false)
  | .dup => (match st with
    | x :: r => bif Nat.ble x.1 6 && !(Nat.beq x.1 1) then k (pc + 1) L (x :: x :: r) S else false
    | _ => false)
  | .dup2 => (match st with
    | y :: x :: r => bif Nat.ble x.1 6 && (!(Nat.beq x.1 1) && (Nat.ble y.1 6 && !(Nat.beq y.1 1))) then k (pc + 1) L (y :: x :: y :: x :: r) S else false
    | _ => false)
  | .pop => (match st with
    | x :: r => bif Nat.ble x.1 7 && !(Nat.beq x.1 1) then k (pc + 1) L r S else false
    | _ => false)
  | .pop2 => (match st with
    | x :: r => bif Nat.beq x.1 1 then k (pc + 1) L r S else false
    | _ => false)
  | .goto off => xw_go k pc off L st S
  | .ifCond c off => (match st with
    | x :: r => bif (Nat.beq x.1 0 || Nat.beq x.1 7) && xv_le 0 (Int.ofNat pc + off) then xw_br c (Nat.beq x.1 7) S (xw_nm S.1 x.2) (fun S' => xw_go k pc off L r S') (fun S' => k (pc + 3) L r S') else false
    | _ => false)
  | .if_icmp c off => (match st with
    | y :: x :: r => bif (Nat.beq x.1 0 && Nat.beq y.1 0) && xv_le 0 (Int.ofNat pc + off) then xw_br c false S (xw_nm S.1 (xw_sub x.2 y.2)) (fun S' => xw_go k pc off L r S') (fun S' => k (pc + 3) L r S') else false
    | _ => false)
  | .tableswitch d lo hi offs => (match st with
    | x :: r => bif Nat.beq x.1 0 && xw_ieq (lo + Int.ofNat offs.toList.length) (hi + 1) then xw_tab k pc L r S x.2 offs.toList lo && (xw_asm S (xw_k (xw_neg x.2) (lo - 1)) (fun S1 => xw_go k pc d L r S1) && xw_asm S (xw_k x.2 (-hi - 1)) (fun S1 => xw_go k pc d L r S1)) else false
    | _ => false)
  | .ldc _ => bif Nat.beq b 6 then k (pc + 2) L ((6, (0, [])) :: st) S else bif xv_le (-2147483648) v && xv_le v 2147483647 then k (pc + 2) L ((0, (v, [])) :: st) S else false
  | .ldc_w _ => bif xv_le (-2147483648) v && xv_le v 2147483647 then k (pc + 3) L ((0, (v, [])) :: st) S else false
  | .ldc2_w _ => bif xv_le (-9223372036854775808) v && xv_le v 9223372036854775807 then k (pc + 3) L ((1, (v, [])) :: st) S else false
  | .getfield _ => (match st with
    | o :: r => bif Nat.beq o.1 2 && xv_le 0 o.2.1 then (match xv_get 14 A o.2.1.toNat with
      | some c => bif Nat.beq c.1 0 && Nat.beq c.2.1 a then xw_rd hl A S o.2.1.toNat (Int.ofNat b, []) (fun v S' => k (pc + 3) L (v :: r) S') else false
      | none => false) else false
    | _ => false)
  | .putfield _ => (match st with
    | x :: o :: r => bif Nat.beq o.1 2 && xv_le 0 o.2.1 then (match xv_get 14 A o.2.1.toNat with
      | some c => bif Nat.beq c.1 0 && (Nat.beq c.2.1 a && (Nat.ble (b + 1) c.2.2.1 && Nat.beq x.1 v.toNat)) then xw_wr hl A S o.2.1.toNat (Int.ofNat b, []) x (fun S' => k (pc + 3) L r S') else false
      | none => false) else false
    | _ => false)
  | .arraylength => (match st with
    | o :: r => bif Nat.beq o.1 5 then k (pc + 1) L ((0, o.2) :: r) S else bif (Nat.beq o.1 2 || Nat.beq o.1 4) && xv_le 0 o.2.1 then (match xv_get 14 A o.2.1.toNat with
      | some c => bif Nat.ble 1 c.1 && (Nat.ble c.1 7 && (Nat.beq o.1 2 || (Nat.ble 1 (xw_cnt o) && xw_like A c o.2.1.toNat (xw_cnt o)))) then k (pc + 1) L ((0, (Int.ofNat c.2.1, [])) :: r) S else false
      | none => false) else false
    | _ => false)
  | .iaload => xw_ald hl A 1 st S (fun v r S' => k (pc + 1) L (v :: r) S')
  | .baload => (match st with
    | _ :: o :: _ => (match xv_get 14 A o.2.1.toNat with
      | some c => bif Nat.beq c.1 2 then xw_ald hl A 2 st S (fun v r S' => k (pc + 1) L (v :: r) S') else xw_ald hl A 3 st S (fun v r S' => k (pc + 1) L (v :: r) S')
      | none => false)
    | _ => false)
  | .laload => xw_ald hl A 4 st S (fun v r S' => k (pc + 1) L (v :: r) S')
  | .aaload => (match st with
    | i :: o :: r => bif Nat.beq i.1 0 && (Nat.beq o.1 2 && xv_le 0 o.2.1) then (match xv_get 14 A o.2.1.toNat with
      | some c => bif (Nat.beq c.1 5 || Nat.beq c.1 6) && (xw_inb S c.2.1 i.2 && Nat.beq c.2.1 c.2.2.1) then (match xv_get 8 c.2.2.2 0 with
        | some u => bif Nat.beq u.1 2 && (xv_le 0 u.2.1 && xw_seq c.2.2.2 u.2.1 c.2.1) then (match (xw_nm S.1 i.2).2 with
            | [] => k (pc + 1) L ((2, (u.2.1 + (xw_nm S.1 i.2).1, [])) :: r) S
            | _ :: _ => k (pc + 1) L ((4, (u.2.1, [(c.2.1, 0)])) :: r) S) else false
        | none => false) else false
      | none => false) else false
    | _ => false)
  | .iastore => xw_ast hl A 1 0 st S (fun r S' => k (pc + 1) L r S')
  | .bastore => (match st with
    | _ :: _ :: o :: _ => (match xv_get 14 A o.2.1.toNat with
      | some c => bif Nat.beq c.1 2 then xw_ast hl A 2 0 st S (fun r S' => k (pc + 1) L r S') else xw_ast hl A 3 0 st S (fun r S' => k (pc + 1) L r S')
      | none => false)
    | _ => false)
  | .lastore => xw_ast hl A 4 1 st S (fun r S' => k (pc + 1) L r S')
  | .invokevirtual _ => (match xw_take b [] st with
    | some (as, o :: r) => bif Nat.beq o.1 2 && xv_le 0 o.2.1 then (match xv_get 14 A o.2.1.toNat with
      | some c => bif Nat.beq c.1 0 && Nat.beq c.2.1 v.toNat then xw_call call id pc a (o :: as) L r S k else false
      | none => false) else false
    | _ => false)
  | .invokestatic _ => bif Nat.beq a 9999 then (match st with
      | n :: dp :: d :: sp :: o :: r => bif Nat.ble (xw_cats r) 8 then xw_copy hl A S n dp d sp o (fun S' => k (pc + 3) L r S') else false
      | _ => false) else (match xw_take b [] st with
    | some (as, r) => xw_call call id pc a as L r S k
    | none => false)
  | .ireturn => (match st with
    | [x] => bif Nat.beq x.1 0 && (Nat.beq a 0 || (xw_prove S x.2 && xw_prove S (xw_k (xw_neg x.2) 1))) then kr (some x) S else false
    | _ => false)
  | .lreturn => (match st with
    | [x] => bif Nat.beq x.1 1 then kr (some x) S else false
    | _ => false)
  | .return_ => (match st with
    | [] => kr none S
    | _ => false)
  | _ => false
/-! the run of a method -/
noncomputable def xw_run (hl : Nat × Int) (A : xv_A) (gh : List xw_L) (Q : xw_Q) (call : xw_Cl) (id : Nat) (hs : List Nat) (full : List xv_E) (kr : xw_Kr) : Nat → List xv_E → Nat → List xw_A → xw_K := Nat.rec (motive := fun _ => List xv_E → Nat → List xw_A → xw_K) (fun _ _ _ _ _ _ _ => false) (fun _ ih rest pv act pc L st S =>
  bif xw_orl (fun h => Nat.beq h pc) hs then
    (match xw_find Q.1 id pc with
    | some h => (match st with
      | [] => (match (bif Nat.ble (pc + 1) pv then xw_act act pc else none) with
        | some a => xw_back hl A gh h a L S
        | none => bif h.2.2.2.2 && Nat.ble pv pc then (match xv_fetch full rest pc with
            | some (e, t) => xw_step hl A call id (fun pc' L' st' S' => ih t (pc + 1) (xw_fil (fun a => !(Nat.beq a.1 pc)) act) pc' L' st' S') kr e.2.1 e.2.2.2.1 e.2.2.2.2.1 e.2.2.2.2.2.2 pc L [] S
            | none => false) else xw_ent hl A gh h pc L S (fun a L1 S1 => match xv_fetch full rest pc with
            | some (e, t) => xw_step hl A call id (fun pc' L' st' S' => ih t (pc + 1) (a :: act) pc' L' st' S') kr e.2.1 e.2.2.2.1 e.2.2.2.2.1 e.2.2.2.2.2.2 pc L1 [] S1
            | none => false))
      | _ :: _ => false)
    | none => (match xw_find Q.2.1 id pc with
      | some f => xw_tv hl A gh L f.1 S (fun l S1 => xw_prove S1 (xw_k l (-f.2.1)) && (xw_prove S1 (xw_k (xw_neg l) (f.2.1 + Int.ofNat f.2.2 - 1)) && xw_part l S1 (fun S2 => match xv_fetch full rest pc with
          | some (e, t) => xw_step hl A call id (fun pc' L' st' S' => ih t (pc + 1) act pc' L' st' S') kr e.2.1 e.2.2.2.1 e.2.2.2.2.1 e.2.2.2.2.2.2 pc L st S2
          | none => false) f.2.1 f.2.2))
      | none => (match xv_fetch full rest pc with
        | some (e, t) => xw_step hl A call id (fun pc' L' st' S' => ih t (pc + 1) act pc' L' st' S') kr e.2.1 e.2.2.2.1 e.2.2.2.2.1 e.2.2.2.2.2.2 pc L st S
        | none => false)))
  else (match xv_fetch full rest pc with
    | some (e, t) => xw_step hl A call id (fun pc' L' st' S' => ih t (pc + 1) act pc' L' st' S') kr e.2.1 e.2.2.2.1 e.2.2.2.2.1 e.2.2.2.2.2.2 pc L st S
    | none => false))
/-! contracts -/
/-- an end: kind of the answer (9: none), its range, facts -/
abbrev xw_P : Type := Nat × Int × Int × List xw_T
/-- a contract: method, arguments, what is asked, ghosts, ends, what is written, frames -/
abbrev xw_C : Type := Nat × List (Nat × Int × Int) × List xw_T × List xw_T × List xw_P × xw_D × Nat
noncomputable def xw_locs (args : List xw_V) : Nat → List xw_V := List.rec (motive := fun _ => Nat → List xw_V) (fun n => xv_rep n xw_un) (fun v _ ih n => bif Nat.beq v.1 1 then v :: xw_un :: ih (n - 2) else v :: ih (n - 1)) args
noncomputable def xw_sig (S : xw_S) (sg : List (Nat × Int × Int)) : List xw_V → Bool := List.rec (motive := fun _ => List xw_V → Bool) (fun as => match as with
  | [] => true
  | _ :: _ => false) (fun a _ ih as => match as with
  | [] => false
  | v :: as' => Nat.beq v.1 a.1 && ((bif Nat.ble a.1 1 then xw_prove S (xw_k v.2 (-a.2.1)) && xw_prove S (xw_k (xw_neg v.2) a.2.2) else bif Nat.beq a.1 2 then xw_eqL v.2 (a.2.1, []) else bif Nat.beq a.1 4 then xw_eqL v.2 (a.2.1, [(a.2.2.toNat, 0)]) else Nat.beq a.1 6) && ih as')) sg
/-- a call by contract -/
noncomputable def xw_cc (hl : Nat × Int) (A : xv_A) (c : xw_C) (args : List xw_V) (S : xw_S) (kr : xw_Kr) : Bool := xw_sig S c.2.1 args && xw_tpr hl A [] (xw_locs args 0) c.2.2.1 S (fun S1 => xw_tgs hl A (xw_locs args 0) c.2.2.2.1 [] S1 (fun gs S2 => xw_anl (fun p => bif Nat.beq p.1 9 then xw_tas hl A gs (xw_locs args 0) p.2.2.2 (xw_kills c.2.2.2.2.2.1 S2) (fun S3 => kr none S3) else bif Nat.ble p.1 1 then xw_fr (xw_kills c.2.2.2.2.2.1 S2) p.2.1 p.2.2.1 (fun l S3 => xw_tas hl A gs (xw_locs args 0 ++ [(p.1, l)]) p.2.2.2 S3 (fun S4 => kr (some (p.1, l)) S4)) else false) c.2.2.2.2.1))
noncomputable def xw_calls (hl : Nat × Int) (A : xv_A) (M : xv_M) (HS : List (List (List Nat))) (CT : List (List xw_C)) (F : Nat) (gh : List xw_L) (Q : xw_Q) : Nat → xw_Cl := Nat.rec (motive := fun _ => xw_Cl) (fun _ _ _ _ _ _ => false) (fun d ih caller pc id args S kr => (match xw_find Q.2.2 caller pc with
  | some cs => xw_orl (fun j => match xv_get 20 CT j with
    | some c => Nat.beq c.1 id && (Nat.ble c.2.2.2.2.2.2 (d + 1) && xw_cc hl A c args S kr)
    | none => false) cs
  | none => false) || (match xv_get 20 M id with
    | some q => (match xv_get 20 HS id with
      | some hs => bif Nat.ble (xw_cats args) q.2 then xw_run hl A gh Q ih id hs q.1 kr F q.1 0 [] 0 (xw_locs args q.2) [] S else false
      | none => false)
    | none => false))
noncomputable def xw_mka (sg : List (Nat × Int × Int)) : xw_S → List xw_V → (List xw_V → xw_S → Bool) → Bool := List.rec (motive := fun _ => xw_S → List xw_V → (List xw_V → xw_S → Bool) → Bool) (fun S acc k => k acc S) (fun a _ ih S acc k => bif Nat.ble a.1 1 then xw_fr S a.2.1 a.2.2 (fun l S' => ih S' (acc ++ [(a.1, l)]) k) else bif Nat.beq a.1 2 then ih S (acc ++ [(2, (a.2.1, []))]) k else bif Nat.beq a.1 4 then ih S (acc ++ [(4, (a.2.1, [(a.2.2.toNat, 0)]))]) k else bif Nat.beq a.1 6 then ih S (acc ++ [(6, (0, []))]) k else false) sg
def xw_S0 : xw_S := (xv_rep 16 (xv_rep 16 (0, 0)), 0, [], [], [], [], [])
/-- an end is one of the contract's -/
noncomputable def xw_end (hl : Nat × Int) (A : xv_A) (c : xw_C) (args : List xw_V) (gs : List xw_L) (r : Option xw_V) (S : xw_S) : Bool := xw_anl (fun e => xw_isin c.2.2.2.2.2.1 e.1 e.2) S.2.2.2.2.2.2 && xw_orl (fun p => match r with
  | none => Nat.beq p.1 9 && xw_tpr hl A gs (xw_locs args 0) p.2.2.2 S (fun _ => true)
  | some v => Nat.beq p.1 v.1 && (Nat.ble v.1 1 && (xw_prove S (xw_k v.2 (-p.2.1)) && (xw_prove S (xw_k (xw_neg v.2) p.2.2.1) && xw_tpr hl A gs (xw_locs args 0 ++ [v]) p.2.2.2 S (fun _ => true))))) c.2.2.2.2.1
/-- a contract, checked -/
noncomputable def xw_con (hl : Nat × Int) (A : xv_A) (M : xv_M) (HS : List (List (List Nat))) (CT : List (List xw_C)) (F : Nat) (Q : xw_Q) (c : xw_C) : Bool := match xv_get 20 M c.1, xv_get 20 HS c.1 with
  | some q, some hs => xw_mka c.2.1 xw_S0 [] (fun args S1 => xw_tas hl A [] (xw_locs args 0) c.2.2.1 S1 (fun S2 => xw_tgs hl A (xw_locs args 0) c.2.2.2.1 [] S2 (fun gs S3 => bif Nat.ble (xw_cats args) q.2 then xw_run hl A gs Q (xw_calls hl A M HS CT F gs Q (c.2.2.2.2.2.2 - 1)) c.1 hs q.1 (fun r S => xw_end hl A c args gs r S) F q.1 0 [] 0 (xw_locs args q.2) [] S3 else false)))
  | _, _ => false
end
section
/-! what forms are -/
def xw_evl (ρ : Nat → Int) : List (Nat × Int) → Int
  | [] => 0
  | t :: l => t.2 * ρ t.1 + xw_evl ρ l
def xw_ev (ρ : Nat → Int) (a : xw_L) : Int := a.1 + xw_evl ρ a.2
def xw_wfl (n : Nat) : List (Nat × Int) → Prop
  | [] => True
  | t :: l => t.1 < n ∧ xw_wfl n l
def xw_is (ρ : Nat → Int) (n : Nat) (a : xw_L) (z : Int) : Prop := xw_wfl n a.2 ∧ xw_ev ρ a = z
theorem xw_ieq_iff {a b : Int} : xw_ieq a b = true ↔ a = b := by
  unfold xw_ieq
  constructor
  · intro h
    cases hs : a - b with
    | ofNat n =>
      rw [hs] at h
      have := xv_beq h
      subst this
      have e : a - b = 0 := hs
      omega
    | negSucc n => rw [hs] at h; cases h
  · intro h
    subst h
    rw [Int.sub_self]
    rfl
theorem xw_ieq_f {a b : Int} (h : xw_ieq a b = false) : a ≠ b := fun e => by
  rw [xw_ieq_iff.mpr e] at h; cases h
theorem xw_orl_ok {α : Type} {p : α → Bool} : ∀ {l : List α}, xw_orl p l = true → ∃ a ∈ l, p a = true
  | [], h => by cases h
  | a :: l, h => by
    have h : (p a || xw_orl p l) = true := h
    rcases (Bool.or_eq_true _ _).mp h with h | h
    · exact ⟨a, List.mem_cons_self, h⟩
    · obtain ⟨b, hb, hp⟩ := xw_orl_ok h
      exact ⟨b, List.mem_cons_of_mem _ hb, hp⟩
theorem xw_anl_ok {α : Type} {p : α → Bool} : ∀ {l : List α}, xw_anl p l = true → ∀ a ∈ l, p a = true
  | [], _, a, ha => by cases ha
  | b :: l, h, a, ha => by
    have h : (p b && xw_anl p l) = true := h
    obtain ⟨h1, h2⟩ := xv_and_t h
    rcases List.mem_cons.mp ha with e | ha
    · rw [e]; exact h1
    · exact xw_anl_ok h2 a ha
theorem xw_fil_mem {α : Type} {p : α → Bool} : ∀ {l : List α} {a : α}, a ∈ xw_fil p l → a ∈ l ∧ p a = true
  | [], a, h => by cases h
  | b :: l, a, h => by
    have h : a ∈ (bif p b then b :: xw_fil p l else xw_fil p l) := h
    cases hb : p b with
    | true =>
      rw [hb] at h
      rcases List.mem_cons.mp h with e | h
      · rw [e]; exact ⟨List.mem_cons_self, hb⟩
      · exact ⟨List.mem_cons_of_mem _ (xw_fil_mem h).1, (xw_fil_mem h).2⟩
    | false =>
      rw [hb] at h
      exact ⟨List.mem_cons_of_mem _ (xw_fil_mem h).1, (xw_fil_mem h).2⟩
theorem xw_ins_ok (ρ : Nat → Int) (n : Nat) (t : Nat × Int) : ∀ l : List (Nat × Int), xw_evl ρ (xw_ins t l) = t.2 * ρ t.1 + xw_evl ρ l ∧ (t.1 < n → xw_wfl n l → xw_wfl n (xw_ins t l))
  | [] => ⟨rfl, fun h _ => ⟨h, True.intro⟩⟩
  | h :: l => by
    obtain ⟨ih1, ih2⟩ := xw_ins_ok ρ n t l
    have e : xw_ins t (h :: l) = bif Nat.beq h.1 t.1 then (bif xw_ieq (h.2 + t.2) 0 then l else (h.1, h.2 + t.2) :: l) else bif Nat.ble t.1 h.1 then t :: h :: l else h :: xw_ins t l := rfl
    rw [e]
    cases hb : Nat.beq h.1 t.1 with
    | true =>
      have hb := xv_beq hb
      simp only [cond_true]
      cases hz : xw_ieq (h.2 + t.2) 0 with
      | true =>
        have hz := xw_ieq_iff.mp hz
        simp only [cond_true]
        refine ⟨?_, fun _ h2 => h2.2⟩
        show _ = t.2 * ρ t.1 + (h.2 * ρ h.1 + xw_evl ρ l)
        have : h.2 * ρ t.1 + t.2 * ρ t.1 = 0 := by rw [← Int.add_mul, hz, Int.zero_mul]
        rw [hb]
        omega
      | false =>
        simp only [cond_false]
        refine ⟨?_, fun h1 h2 => ⟨by show h.1 < n; omega, h2.2⟩⟩
        show (h.2 + t.2) * ρ h.1 + xw_evl ρ l = t.2 * ρ t.1 + (h.2 * ρ h.1 + xw_evl ρ l)
        rw [hb, Int.add_mul]
        omega
    | false =>
      simp only [cond_false]
      cases hc : Nat.ble t.1 h.1 with
      | true => exact ⟨rfl, fun h1 h2 => ⟨h1, h2⟩⟩
      | false =>
        simp only [cond_false]
        refine ⟨?_, fun h1 h2 => ⟨h2.1, ih2 h1 h2.2⟩⟩
        show h.2 * ρ h.1 + xw_evl ρ (xw_ins t l) = t.2 * ρ t.1 + (h.2 * ρ h.1 + xw_evl ρ l)
        rw [ih1]
        omega
theorem xw_addl_ok (ρ : Nat → Int) (n : Nat) (l : List (Nat × Int)) : ∀ m : List (Nat × Int), xw_evl ρ (List.rec (motive := fun _ => List (Nat × Int)) l (fun t _ ih => xw_ins t ih) m) = xw_evl ρ l + xw_evl ρ m ∧ (xw_wfl n l → xw_wfl n m → xw_wfl n (List.rec (motive := fun _ => List (Nat × Int)) l (fun t _ ih => xw_ins t ih) m))
  | [] => ⟨(Int.add_zero _).symm, fun h _ => h⟩
  | t :: m => by
    obtain ⟨h1, h2⟩ := xw_addl_ok ρ n l m
    refine ⟨?_, fun h3 h4 => (xw_ins_ok ρ n t _).2 h4.1 (h2 h3 h4.2)⟩
    show xw_evl ρ (xw_ins t _) = xw_evl ρ l + (t.2 * ρ t.1 + xw_evl ρ m)
    rw [(xw_ins_ok ρ n t _).1, h1]
    omega
theorem xw_is.add {ρ : Nat → Int} {n : Nat} {a b : xw_L} {x y : Int} (h1 : xw_is ρ n a x) (h2 : xw_is ρ n b y) : xw_is ρ n (xw_add a b) (x + y) := by
  obtain ⟨e, w⟩ := xw_addl_ok ρ n a.2 b.2
  refine ⟨w h1.1 h2.1, ?_⟩
  have e : xw_evl ρ (xw_add a b).2 = xw_evl ρ a.2 + xw_evl ρ b.2 := e
  have e1 : a.1 + xw_evl ρ a.2 = x := h1.2
  have e2 : b.1 + xw_evl ρ b.2 = y := h2.2
  show a.1 + b.1 + xw_evl ρ (xw_add a b).2 = _
  omega
theorem xw_scll_ok (ρ : Nat → Int) (n : Nat) (k : Int) : ∀ l : List (Nat × Int), xw_evl ρ (List.rec (motive := fun _ => List (Nat × Int)) [] (fun t _ ih => (t.1, k * t.2) :: ih) l) = k * xw_evl ρ l ∧ (xw_wfl n l → xw_wfl n (List.rec (motive := fun _ => List (Nat × Int)) [] (fun t _ ih => (t.1, k * t.2) :: ih) l))
  | [] => ⟨(Int.mul_zero k).symm, fun h => h⟩
  | t :: l => by
    obtain ⟨h1, h2⟩ := xw_scll_ok ρ n k l
    refine ⟨?_, fun h => ⟨h.1, h2 h.2⟩⟩
    show k * t.2 * ρ t.1 + xw_evl ρ _ = k * (t.2 * ρ t.1 + xw_evl ρ l)
    rw [h1, Int.mul_add, Int.mul_assoc]
theorem xw_is.scl {ρ : Nat → Int} {n : Nat} {a : xw_L} {x : Int} (k : Int) (h : xw_is ρ n a x) : xw_is ρ n (xw_scl k a) (k * x) := by
  unfold xw_scl
  cases hz : xw_ieq k 0 with
  | true =>
    have hz := xw_ieq_iff.mp hz
    subst hz
    simp only [cond_true, Int.zero_mul]
    exact ⟨True.intro, rfl⟩
  | false =>
    simp only [cond_false]
    obtain ⟨e, w⟩ := xw_scll_ok ρ n k a.2
    refine ⟨w h.1, ?_⟩
    unfold xw_ev
    dsimp only
    rw [e, ← h.2]
    unfold xw_ev
    rw [Int.mul_add]
theorem xw_is.neg {ρ : Nat → Int} {n : Nat} {a : xw_L} {x : Int} (h : xw_is ρ n a x) : xw_is ρ n (xw_neg a) (-x) := by
  have := h.scl (-1)
  rw [show (-1 : Int) * x = -x by omega] at this
  exact this
theorem xw_is.sub {ρ : Nat → Int} {n : Nat} {a b : xw_L} {x y : Int} (h1 : xw_is ρ n a x) (h2 : xw_is ρ n b y) : xw_is ρ n (xw_sub a b) (x - y) := by
  have := h1.add h2.neg
  rw [show x + -y = x - y by omega] at this
  exact this
theorem xw_is.k {ρ : Nat → Int} {n : Nat} {a : xw_L} {x : Int} (c : Int) (h : xw_is ρ n a x) : xw_is ρ n (xw_k a c) (x + c) := by
  refine ⟨h.1, ?_⟩
  show a.1 + c + xw_evl ρ a.2 = _
  rw [← h.2]
  unfold xw_ev
  omega
theorem xw_is.c {ρ : Nat → Int} {n : Nat} (c : Int) : xw_is ρ n (c, []) c := ⟨True.intro, Int.add_zero c⟩
theorem xw_is.v {ρ : Nat → Int} {n v : Nat} (h : v < n) : xw_is ρ n (0, [(v, 1)]) (ρ v) := ⟨⟨h, True.intro⟩, by show (0 : Int) + (1 * ρ v + 0) = ρ v; omega⟩
theorem xw_is.one {ρ : Nat → Int} {n : Nat} {a : xw_L} {x y : Int} (h1 : xw_is ρ n a x) (h2 : xw_is ρ n a y) : x = y := h1.2.symm.trans h2.2
theorem xw_evl_more {ρ ρ' : Nat → Int} {n : Nat} (hu : ∀ v, v < n → ρ' v = ρ v) : ∀ {l : List (Nat × Int)}, xw_wfl n l → xw_evl ρ' l = xw_evl ρ l
  | [], _ => rfl
  | t :: l, h => by
    show t.2 * ρ' t.1 + xw_evl ρ' l = _
    rw [hu t.1 h.1, xw_evl_more hu h.2]
    rfl
theorem xw_wfl_more {n n' : Nat} (hn : n ≤ n') : ∀ {l : List (Nat × Int)}, xw_wfl n l → xw_wfl n' l
  | [], _ => True.intro
  | _ :: _, h => ⟨Nat.lt_of_lt_of_le h.1 hn, xw_wfl_more hn h.2⟩
def xw_Up (ρ : Nat → Int) (n : Nat) (ρ' : Nat → Int) (n' : Nat) : Prop := n ≤ n' ∧ ∀ v, v < n → ρ' v = ρ v
theorem xw_Up.rf {ρ : Nat → Int} {n : Nat} : xw_Up ρ n ρ n := ⟨Nat.le_refl _, fun _ _ => rfl⟩
theorem xw_Up.tr {ρ ρ' ρ'' : Nat → Int} {n n' n'' : Nat} (h1 : xw_Up ρ n ρ' n') (h2 : xw_Up ρ' n' ρ'' n'') : xw_Up ρ n ρ'' n'' := ⟨Nat.le_trans h1.1 h2.1, fun v hv => (h2.2 v (Nat.lt_of_lt_of_le hv h1.1)).trans (h1.2 v hv)⟩
theorem xw_is.more {ρ ρ' : Nat → Int} {n n' : Nat} {a : xw_L} {z : Int} (hu : xw_Up ρ n ρ' n') (h : xw_is ρ n a z) : xw_is ρ' n' a z := by
  refine ⟨xw_wfl_more hu.1 h.1, ?_⟩
  rw [← h.2]
  unfold xw_ev
  rw [xw_evl_more hu.2 h.1]
theorem xw_eqt_ok : ∀ {l m : List (Nat × Int)}, xw_eqt l m = true → l = m
  | [], [], _ => rfl
  | [], _ :: _, h => by cases h
  | _ :: _, [], h => by cases h
  | t :: l, u :: m, h => by
    have h : (Nat.beq t.1 u.1 && (xw_ieq t.2 u.2 && xw_eqt l m)) = true := h
    obtain ⟨h1, h⟩ := xv_and_t h
    obtain ⟨h2, h3⟩ := xv_and_t h
    rw [xw_eqt_ok h3, show t = u from Prod.ext (xv_beq h1) (xw_ieq_iff.mp h2)]
theorem xw_eqL_ok {a b : xw_L} (h : xw_eqL a b = true) : a = b := by
  obtain ⟨h1, h2⟩ := xv_and_t h
  exact Prod.ext (xw_ieq_iff.mp h1) (xw_eqt_ok h2)
theorem xw_eqV_ok {a b : xw_V} (h : xw_eqV a b = true) : a = b := by
  obtain ⟨h1, h2⟩ := xv_and_t h
  exact Prod.ext (xv_beq h1) (xw_eqL_ok h2)
/-! intervals -/
def xw_En (ρ : Nat → Int) (n : Nat) (E : xw_N) : Prop := ∀ v, v < n → (xw_e E v).1 ≤ ρ v ∧ ρ v ≤ (xw_e E v).2
theorem xw_lol_ok {ρ : Nat → Int} {n : Nat} {E : xw_N} (hE : xw_En ρ n E) (c : Int) : ∀ {l : List (Nat × Int)}, xw_wfl n l → List.rec (motive := fun _ => Int) c (fun t _ ih => ih + (bif xv_le 0 t.2 then t.2 * (xw_e E t.1).1 else t.2 * (xw_e E t.1).2)) l ≤ c + xw_evl ρ l
  | [], _ => Int.le_of_eq (Int.add_zero c).symm
  | t :: l, h => by
    have ih := xw_lol_ok hE c h.2
    obtain ⟨h1, h2⟩ := hE t.1 h.1
    show _ + (bif xv_le 0 t.2 then t.2 * (xw_e E t.1).1 else t.2 * (xw_e E t.1).2) ≤ c + (t.2 * ρ t.1 + xw_evl ρ l)
    cases hb : xv_le 0 t.2 with
    | true =>
      have := Int.mul_le_mul_of_nonneg_left h1 (xv_le_iff.mp hb)
      simp only [cond_true]
      omega
    | false =>
      have := Int.mul_le_mul_of_nonpos_left (Int.le_of_lt (xv_le_f hb)) h2
      simp only [cond_false]
      omega
theorem xw_hil_ok {ρ : Nat → Int} {n : Nat} {E : xw_N} (hE : xw_En ρ n E) (c : Int) : ∀ {l : List (Nat × Int)}, xw_wfl n l → c + xw_evl ρ l ≤ List.rec (motive := fun _ => Int) c (fun t _ ih => ih + (bif xv_le 0 t.2 then t.2 * (xw_e E t.1).2 else t.2 * (xw_e E t.1).1)) l
  | [], _ => Int.le_of_eq (Int.add_zero c)
  | t :: l, h => by
    have ih := xw_hil_ok hE c h.2
    obtain ⟨h1, h2⟩ := hE t.1 h.1
    show c + (t.2 * ρ t.1 + xw_evl ρ l) ≤ _ + (bif xv_le 0 t.2 then t.2 * (xw_e E t.1).2 else t.2 * (xw_e E t.1).1)
    cases hb : xv_le 0 t.2 with
    | true =>
      have := Int.mul_le_mul_of_nonneg_left h2 (xv_le_iff.mp hb)
      simp only [cond_true]
      omega
    | false =>
      have := Int.mul_le_mul_of_nonpos_left (Int.le_of_lt (xv_le_f hb)) h1
      simp only [cond_false]
      omega
theorem xw_lo_ok {ρ : Nat → Int} {n : Nat} {E : xw_N} {a : xw_L} {z : Int} (hE : xw_En ρ n E) (h : xw_is ρ n a z) : xw_lo E a ≤ z := by
  rw [← h.2]; exact xw_lol_ok hE a.1 h.1
theorem xw_hi_ok {ρ : Nat → Int} {n : Nat} {E : xw_N} {a : xw_L} {z : Int} (hE : xw_En ρ n E) (h : xw_is ρ n a z) : z ≤ xw_hi E a := by
  rw [← h.2]; exact xw_hil_ok hE a.1 h.1
def xw_Fk (ρ : Nat → Int) (n : Nat) (F : List xw_L) : Prop := ∀ f ∈ F, ∃ z, xw_is ρ n f z ∧ 0 ≤ z
theorem xw_chain_ok {ρ : Nat → Int} {n : Nat} {E : xw_N} {F : List xw_L} (hE : xw_En ρ n E) (hF : xw_Fk ρ n F) : ∀ (d : Nat) {g : xw_L} {z : Int}, xw_chain E F d g = true → xw_is ρ n g z → 0 ≤ z
  | 0, g, z, h, hg => by
    have h : xv_le 0 (xw_lo E g) = true := h
    have := xv_le_iff.mp h
    have := xw_lo_ok hE hg
    omega
  | d + 1, g, z, h, hg => by
    have h : (xv_le 0 (xw_lo E g) || List.rec (motive := fun _ => Bool) false (fun t _ more => bif xw_orl (fun f => xv_le 1 (xw_q t.2 (xw_cf f.2 t.1))) F then
      xw_orl (fun f => xv_le 1 (xw_q t.2 (xw_cf f.2 t.1)) && xw_chain E F d (xw_sub g (xw_scl (xw_q t.2 (xw_cf f.2 t.1)) f))) F else more) (xw_rev g.2)) = true := h
    rcases (Bool.or_eq_true _ _).mp h with h | h
    · have := xv_le_iff.mp h
      have := xw_lo_ok hE hg
      omega
    · generalize xw_rev g.2 = l at h
      induction l with
      | nil => cases h
      | cons t l ih =>
        dsimp only at h
        cases hc : xw_orl (fun f => xv_le 1 (xw_q t.2 (xw_cf f.2 t.1))) F with
        | false => rw [hc] at h; exact ih h
        | true =>
          rw [hc] at h
          obtain ⟨f, hf, hp⟩ := xw_orl_ok h
          obtain ⟨hq, hp⟩ := xv_and_t hp
          have hq := xv_le_iff.mp hq
          obtain ⟨y, hy, h0⟩ := hF f hf
          have := xw_chain_ok hE hF d hp (hg.sub (hy.scl _))
          have hm := Int.mul_nonneg (show (0 : Int) ≤ xw_q t.2 (xw_cf f.2 t.1) by omega) h0
          omega
end
section
/-! what a state tells -/
/-- besides the cells: the script's cell, its length, what is a text, whether there is a script, what holds of the texts -/
abbrev xw_X : Type := Nat × Nat × (Nat → Prop) × Prop × ((Nat → Prop) → State → Prop)
def xw_hv (X : xw_X) (as : List Nat) (ρ : Nat → Int) (n : Nat) (v : xw_V) (x : Value) : Prop :=
  (v.1 = 0 → ∃ i : Int32, x = .int i ∧ xw_is ρ n v.2 i.toInt) ∧ (v.1 = 1 → ∃ i : Int64, x = .long i ∧ xw_is ρ n v.2 i.toInt) ∧ (v.1 = 2 → ∃ a, as[v.2.1.toNat]? = some a ∧ x = .ref a) ∧ (v.1 = 3 → x = .null) ∧ (v.1 = 4 → ∃ j a, j < xw_cnt v ∧ as[v.2.1.toNat + j]? = some a ∧ x = .ref a) ∧ (v.1 = 5 → x = .ref X.1 ∧ xw_is ρ n v.2 (X.2.1 : Int) ∧ X.2.2.2.1) ∧ (v.1 = 6 → ∃ a, x = .ref a ∧ X.2.2.1 a) ∧ (v.1 = 7 → ∃ (i : Int32) (d : Int), x = .int i ∧ xw_is ρ n v.2 d ∧ i.toInt = d.sign)
theorem xw_hv.i {X : xw_X} {as : List Nat} {ρ : Nat → Int} {n : Nat} {l : xw_L} {x : Int32} (h : xw_is ρ n l x.toInt) : xw_hv X as ρ n (0, l) (.int x) :=
  ⟨fun _ => ⟨x, rfl, h⟩, fun q => (by cases q), fun q => (by cases q), fun q => (by cases q), fun q => (by cases q), fun q => (by cases q), fun q => (by cases q), fun q => (by cases q)⟩
theorem xw_hv.l {X : xw_X} {as : List Nat} {ρ : Nat → Int} {n : Nat} {l : xw_L} {x : Int64} (h : xw_is ρ n l x.toInt) : xw_hv X as ρ n (1, l) (.long x) :=
  ⟨fun q => (by cases q), fun _ => ⟨x, rfl, h⟩, fun q => (by cases q), fun q => (by cases q), fun q => (by cases q), fun q => (by cases q), fun q => (by cases q), fun q => (by cases q)⟩
theorem xw_hv.more {X : xw_X} {as : List Nat} {ρ ρ' : Nat → Int} {n n' : Nat} {v : xw_V} {x : Value} (hu : xw_Up ρ n ρ' n') (h : xw_hv X as ρ n v x) : xw_hv X as ρ' n' v x := by
  obtain ⟨h0, h1, h2, h3, h4, h5, h6, h7⟩ := h
  refine ⟨fun q => ?_, fun q => ?_, h2, h3, h4, fun q => ?_, h6, fun q => ?_⟩
  · obtain ⟨i, e, h⟩ := h0 q; exact ⟨i, e, h.more hu⟩
  · obtain ⟨i, e, h⟩ := h1 q; exact ⟨i, e, h.more hu⟩
  · obtain ⟨e, h, g⟩ := h5 q; exact ⟨e, h.more hu, g⟩
  · obtain ⟨i, d, e, h, g⟩ := h7 q; exact ⟨i, d, e, h.more hu, g⟩
def xw_num : Value → Option Int
  | .int i => some i.toInt
  | .long i => some i.toInt
  | _ => none
theorem xw_hv.num {X : xw_X} {as : List Nat} {ρ : Nat → Int} {n : Nat} {v : xw_V} {x : Value} (h : xw_hv X as ρ n v x) (hk : v.1 ≤ 1) : ∃ z, xw_num x = some z ∧ xw_is ρ n v.2 z := by
  rcases Nat.le_one_iff_eq_zero_or_eq_one.mp hk with q | q
  · obtain ⟨i, rfl, h'⟩ := h.1 q; exact ⟨_, rfl, h'⟩
  · obtain ⟨i, rfl, h'⟩ := h.2.1 q; exact ⟨_, rfl, h'⟩
/-- what a record says -/
def xw_Rk (ρ : Nat → Int) (n : Nat) (q : xw_R) : Prop := q.2.1 < n ∧ ∃ x y, xw_is ρ n q.2.2.1 x ∧ xw_is ρ n q.2.2.2 y ∧ (q.1 = 0 → 0 ≤ x ∧ ρ q.2.1 = 2 ^ x.toNat) ∧ (q.1 = 1 → 0 ≤ x ∧ 0 ≤ y ∧ ρ q.2.1 = x / 2 ^ y.toNat) ∧ (q.1 = 2 → 0 ≤ x ∧ 0 ≤ y ∧ ρ q.2.1 = x / 2 ^ y.toNat % 2) ∧ (q.1 = 3 → ρ q.2.1 = x * y) ∧ (q.1 = 4 → ∃ a b : Int32, a.toInt = x ∧ b.toInt = y ∧ ρ q.2.1 = (a &&& b).toInt) ∧ (q.1 = 5 → ∃ a b : Int32, a.toInt = x ∧ b.toInt = y ∧ ρ q.2.1 = (a ||| b).toInt)
theorem xw_Rk.more {ρ ρ' : Nat → Int} {n n' : Nat} {q : xw_R} (hu : xw_Up ρ n ρ' n') (h : xw_Rk ρ n q) : xw_Rk ρ' n' q := by
  obtain ⟨h0, x, y, hx, hy, h1, h2, h3, h4⟩ := h
  refine ⟨Nat.lt_of_lt_of_le h0 hu.1, x, y, hx.more hu, hy.more hu, ?_⟩
  rw [hu.2 _ h0]
  exact ⟨h1, h2, h3, h4⟩
def xw_Sh (E : xw_N) : Prop := ∀ v, v < 256 → ∃ p, xv_get 16 E v = some p
def xw_St (ρ : Nat → Int) (S : xw_S) : Prop := xw_En ρ S.2.1 S.1 ∧ xw_Fk ρ S.2.1 S.2.2.1 ∧ (∀ q ∈ S.2.2.2.2.2.1, xw_Rk ρ S.2.1 q) ∧ xw_Sh S.1
/-- the cells are as memo and stretches say -/
def xw_Mk (X : xw_X) (as : List Nat) (μ : Nat → Nat → Value) (ρ : Nat → Int) (n : Nat) (M : List xw_M) : Prop := ∀ m ∈ M, ∃ z : Int, xw_is ρ n m.2.1 z ∧ 0 ≤ z ∧ xw_hv X as ρ n m.2.2 (μ m.1 z.toNat) ∧ m.2.2.1 ≤ 1
def xw_Gk (μ : Nat → Nat → Value) (ρ : Nat → Int) (n : Nat) (G : List xw_G) : Prop := ∀ g ∈ G, ∃ b sp : Int, xw_is ρ n g.2.1 b ∧ xw_is ρ n g.2.2.1 sp ∧ ∀ d : Int, 0 ≤ d → d < sp → d % g.2.2.2.1 = 0 → ∀ z, xw_num (μ g.1 (b + d).toNat) = some z → g.2.2.2.2.1 ≤ z ∧ z ≤ g.2.2.2.2.2
def xw_Me (X : xw_X) (as : List Nat) (μ : Nat → Nat → Value) (ρ : Nat → Int) (S : xw_S) : Prop := xw_Mk X as μ ρ S.2.1 S.2.2.2.1 ∧ xw_Gk μ ρ S.2.1 S.2.2.2.2.1
def xw_OK (X : xw_X) (as : List Nat) (μ : Nat → Nat → Value) (ρ : Nat → Int) (S : xw_S) : Prop := xw_St ρ S ∧ xw_Me X as μ ρ S
theorem xw_Mk.more {X : xw_X} {as : List Nat} {μ : Nat → Nat → Value} {ρ ρ' : Nat → Int} {n n' : Nat} {M : List xw_M} (hu : xw_Up ρ n ρ' n') (h : xw_Mk X as μ ρ n M) : xw_Mk X as μ ρ' n' M := fun m hm => by
  obtain ⟨z, h1, h2, h3, h4⟩ := h m hm
  exact ⟨z, h1.more hu, h2, h3.more hu, h4⟩
theorem xw_Gk.more {μ : Nat → Nat → Value} {ρ ρ' : Nat → Int} {n n' : Nat} {G : List xw_G} (hu : xw_Up ρ n ρ' n') (h : xw_Gk μ ρ n G) : xw_Gk μ ρ' n' G := fun g hg => by
  obtain ⟨b, sp, h1, h2, h3⟩ := h g hg
  exact ⟨b, sp, h1.more hu, h2.more hu, h3⟩
theorem xw_Fk.more {ρ ρ' : Nat → Int} {n n' : Nat} {F : List xw_L} (hu : xw_Up ρ n ρ' n') (h : xw_Fk ρ n F) : xw_Fk ρ' n' F := fun f hf => by
  obtain ⟨z, h1, h2⟩ := h f hf
  exact ⟨z, h1.more hu, h2⟩
theorem xw_prove_ok {ρ : Nat → Int} {S : xw_S} {g : xw_L} {z : Int} (hS : xw_St ρ S) (h : xw_prove S g = true) (hg : xw_is ρ S.2.1 g z) : 0 ≤ z := xw_chain_ok hS.1 hS.2.1 9 h hg
theorem xw_max_ok (a b : Int) : a ≤ xw_max a b ∧ b ≤ xw_max a b ∧ (xw_max a b = a ∨ xw_max a b = b) := by
  unfold xw_max
  cases hb : xv_le a b with
  | true => exact ⟨xv_le_iff.mp hb, Int.le_refl _, Or.inr rfl⟩
  | false => exact ⟨Int.le_refl _, Int.le_of_lt (xv_le_f hb), Or.inl rfl⟩
theorem xw_min_ok (a b : Int) : xw_min a b ≤ a ∧ xw_min a b ≤ b ∧ (xw_min a b = a ∨ xw_min a b = b) := by
  unfold xw_min
  cases hb : xv_le a b with
  | true => exact ⟨Int.le_refl _, xv_le_iff.mp hb, Or.inl rfl⟩
  | false => exact ⟨Int.le_of_lt (xv_le_f hb), Int.le_refl _, Or.inr rfl⟩
theorem xv_get_upd2 {α : Type} {R : Nat} {ll : List (List α)} {i j : Nat} {v : α} : xv_get R (xv_upd R ll i v) j = (if j = i then (xv_get R ll i).map (fun _ => v) else xv_get R ll j) := by
  by_cases hji : j = i
  · subst hji
    rw [if_pos rfl]
    rw [xv_get_eq, xv_get_eq]
    unfold xv_upd
    rw [xv_nth_eq]
    cases hl : ll[j / R]? with
    | none => rw [hl]; rfl
    | some l =>
      dsimp only
      rw [xv_put_eq, xv_put_eq]
      have hlt : j / R < ll.length := (List.getElem?_eq_some_iff.mp hl).1
      rw [List.getElem?_set_self hlt]
      simp only [Option.bind_some]
      cases hm : l[j % R]? with
      | none =>
        have : ¬ j % R < l.length := fun h => by rw [List.getElem?_eq_getElem h] at hm; cases hm
        rw [List.set_eq_of_length_le (by omega), hm]; rfl
      | some u =>
        have : j % R < l.length := (List.getElem?_eq_some_iff.mp hm).1
        rw [List.getElem?_set_self this]; rfl
  · rw [if_neg hji]
    cases h : xv_get R (xv_upd R ll i v) j with
    | some c =>
      rcases xv_get_upd h with ⟨e, -⟩ | ⟨-, h2⟩
      · exact absurd e hji
      · exact h2.symm
    | none =>
      cases h3 : xv_get R ll j with
      | none => rfl
      | some c =>
        rw [xv_get_eq] at h h3
        unfold xv_upd at h
        rw [xv_nth_eq] at h
        cases hl : ll[i / R]? with
        | none => rw [hl] at h; dsimp only at h; rw [h3] at h; cases h
        | some l =>
          rw [hl] at h
          dsimp only at h
          rw [xv_put_eq, xv_put_eq] at h
          by_cases hd : i / R = j / R
          · have hm : i % R ≠ j % R := fun hm => hji (by rw [← Nat.div_add_mod i R, ← Nat.div_add_mod j R, hd, hm])
            have hlt : i / R < ll.length := (List.getElem?_eq_some_iff.mp hl).1
            rw [← hd, List.getElem?_set_self hlt] at h
            simp only [Option.bind_some] at h
            rw [List.getElem?_set_ne hm] at h
            rw [← hd, hl] at h3
            simp only [Option.bind_some] at h3
            rw [h3] at h; cases h
          · rw [List.getElem?_set_ne hd, h3] at h; cases h
theorem xw_e_upd {E : xw_N} {v j : Nat} {p : Int × Int} : xw_e (xv_upd 16 E v p) j = xw_e E j ∨ (j = v ∧ xw_e (xv_upd 16 E v p) j = p) := by
  unfold xw_e
  rw [xv_get_upd2]
  by_cases h : j = v
  · subst h
    rw [if_pos rfl]
    cases xv_get 16 E j with
    | none => exact Or.inl rfl
    | some q => exact Or.inr ⟨rfl, rfl⟩
  · rw [if_neg h]; exact Or.inl rfl
theorem xw_Sh.upd {E : xw_N} {v : Nat} {p : Int × Int} (h : xw_Sh E) : xw_Sh (xv_upd 16 E v p) := fun j hj => by
  rw [xv_get_upd2]
  by_cases e : j = v
  · subst e
    obtain ⟨q, hq⟩ := h j hj
    rw [if_pos rfl, hq]; exact ⟨p, rfl⟩
  · rw [if_neg e]; exact h j hj
theorem xw_e_set {E : xw_N} {v : Nat} {p : Int × Int} (h : xw_Sh E) (hv : v < 256) : xw_e (xv_upd 16 E v p) v = p := by
  unfold xw_e
  obtain ⟨q, hq⟩ := h v hv
  rw [xv_get_upd2, if_pos rfl, hq]; rfl
theorem xw_En.upd {ρ : Nat → Int} {n v : Nat} {E : xw_N} {p : Int × Int} (hE : xw_En ρ n E) (hp : v < n → p.1 ≤ ρ v ∧ ρ v ≤ p.2) : xw_En ρ n (xv_upd 16 E v p) := fun j hj => by
  rcases xw_e_upd (E := E) (v := v) (j := j) (p := p) with e | ⟨rfl, e⟩
  · rw [e]; exact hE j hj
  · rw [e]; exact hp hj
/-- what is left of a form's upper bound -/
theorem xw_hil_mem {ρ : Nat → Int} {n : Nat} {E : xw_N} (hE : xw_En ρ n E) (c : Int) {t : Nat × Int} : ∀ {l : List (Nat × Int)}, xw_wfl n l → t ∈ l → (bif xv_le 0 t.2 then t.2 * (xw_e E t.1).2 else t.2 * (xw_e E t.1).1) - t.2 * ρ t.1 ≤ List.rec (motive := fun _ => Int) c (fun t _ ih => ih + (bif xv_le 0 t.2 then t.2 * (xw_e E t.1).2 else t.2 * (xw_e E t.1).1)) l - (c + xw_evl ρ l)
  | [], _, h => by cases h
  | u :: l, hw, h => by
    show _ ≤ (_ + (bif xv_le 0 u.2 then u.2 * (xw_e E u.1).2 else u.2 * (xw_e E u.1).1)) - (c + (u.2 * ρ u.1 + xw_evl ρ l))
    rcases List.mem_cons.mp h with e | h
    · subst e
      have := xw_hil_ok hE c hw.2
      omega
    · have ih := xw_hil_mem hE c hw.2 h
      obtain ⟨h1, h2⟩ := hE u.1 hw.1
      have : u.2 * ρ u.1 ≤ (bif xv_le 0 u.2 then u.2 * (xw_e E u.1).2 else u.2 * (xw_e E u.1).1) := by
        cases hb : xv_le 0 u.2 with
        | true => exact Int.mul_le_mul_of_nonneg_left h2 (xv_le_iff.mp hb)
        | false => exact Int.mul_le_mul_of_nonpos_left (Int.le_of_lt (xv_le_f hb)) h1
      omega
theorem xw_wfl_mem {n : Nat} {t : Nat × Int} : ∀ {l : List (Nat × Int)}, xw_wfl n l → t ∈ l → t.1 < n
  | [], _, h => by cases h
  | u :: l, hw, h => by
    rcases List.mem_cons.mp h with e | h
    · rw [e]; exact hw.1
    · exact xw_wfl_mem hw.2 h
theorem xw_rf1_ok {ρ : Nat → Int} {n : Nat} {E E0 : xw_N} {h : Int} {t : Nat × Int} (hE : xw_En ρ n E) (ht : t.1 < n) (hle : (xw_e E t.1).2 ≤ (xw_e E0 t.1).2) (hge : (xw_e E0 t.1).1 ≤ (xw_e E t.1).1) (hb : (bif xv_le 0 t.2 then t.2 * (xw_e E0 t.1).2 else t.2 * (xw_e E0 t.1).1) - t.2 * ρ t.1 ≤ h) : xw_En ρ n (xw_rf1 h E t) := by
  unfold xw_rf1
  obtain ⟨h1, h2⟩ := hE t.1 ht
  cases hc : xv_le 1 t.2 with
  | true =>
    have hc := xv_le_iff.mp hc
    simp only [cond_true]
    refine hE.upd fun _ => ⟨?_, h2⟩
    rw [xv_le_iff.mpr (show (0 : Int) ≤ t.2 by omega)] at hb
    simp only [cond_true] at hb
    have h3 : t.2 * ((xw_e E t.1).2 - ρ t.1) ≤ h := by
      have := Int.mul_le_mul_of_nonneg_left hle (show (0 : Int) ≤ t.2 by omega)
      rw [Int.mul_sub]
      omega
    have h4 : (xw_e E t.1).2 - ρ t.1 ≤ h / t.2 := by
      rw [Int.le_ediv_iff_mul_le (by omega), Int.mul_comm]
      exact h3
    obtain ⟨-, -, m⟩ := xw_max_ok (xw_e E t.1).1 ((xw_e E t.1).2 - h / t.2)
    dsimp only
    omega
  | false =>
    simp only [cond_false]
    cases hd : xv_le t.2 (-1) with
    | true =>
      have hd := xv_le_iff.mp hd
      simp only [cond_true]
      refine hE.upd fun _ => ⟨h1, ?_⟩
      have hf : xv_le 0 t.2 = false := by
        cases hq : xv_le 0 t.2 with
        | false => rfl
        | true => have := xv_le_iff.mp hq; omega
      rw [hf] at hb
      simp only [cond_false] at hb
      have h3 : (-t.2) * (ρ t.1 - (xw_e E t.1).1) ≤ h := by
        have := Int.mul_le_mul_of_nonneg_left hge (show (0 : Int) ≤ -t.2 by omega)
        rw [Int.mul_sub, Int.neg_mul, Int.neg_mul]
        rw [Int.neg_mul, Int.neg_mul] at this
        omega
      have h4 : ρ t.1 - (xw_e E t.1).1 ≤ h / (-t.2) := by
        rw [Int.le_ediv_iff_mul_le (by omega), Int.mul_comm]
        exact h3
      obtain ⟨-, -, m⟩ := xw_min_ok (xw_e E t.1).2 ((xw_e E t.1).1 + h / (-t.2))
      dsimp only
      omega
    | false => exact hE
theorem xw_rf1_in {E : xw_N} {h : Int} {t : Nat × Int} (v : Nat) : (xw_e (xw_rf1 h E t) v).2 ≤ (xw_e E v).2 ∧ (xw_e E v).1 ≤ (xw_e (xw_rf1 h E t) v).1 := by
  unfold xw_rf1
  cases hc : xv_le 1 t.2 with
  | true =>
    simp only [cond_true]
    rcases xw_e_upd (E := E) (v := t.1) (j := v) (p := (xw_max (xw_e E t.1).1 ((xw_e E t.1).2 - h / t.2), (xw_e E t.1).2)) with e | ⟨e0, e⟩
    · rw [e]; omega
    · rw [e, e0]
      have := (xw_max_ok (xw_e E t.1).1 ((xw_e E t.1).2 - h / t.2)).1
      dsimp only
      omega
  | false =>
    simp only [cond_false]
    cases hd : xv_le t.2 (-1) with
    | true =>
      simp only [cond_true]
      rcases xw_e_upd (E := E) (v := t.1) (j := v) (p := ((xw_e E t.1).1, xw_min (xw_e E t.1).2 ((xw_e E t.1).1 + h / (-t.2)))) with e | ⟨e0, e⟩
      · rw [e]; omega
      · rw [e, e0]
        have := (xw_min_ok (xw_e E t.1).2 ((xw_e E t.1).1 + h / (-t.2))).1
        dsimp only
        omega
    | false => simp only [cond_false]; omega
theorem xw_rfs_ok {ρ : Nat → Int} {n : Nat} {E0 : xw_N} {h : Int} : ∀ (l : List (Nat × Int)) {E : xw_N}, xw_En ρ n E → xw_wfl n l → (∀ v, (xw_e E v).2 ≤ (xw_e E0 v).2 ∧ (xw_e E0 v).1 ≤ (xw_e E v).1) → (∀ t ∈ l, (bif xv_le 0 t.2 then t.2 * (xw_e E0 t.1).2 else t.2 * (xw_e E0 t.1).1) - t.2 * ρ t.1 ≤ h) → xw_En ρ n (xw_rfs h l E)
  | [], _, hE, _, _, _ => hE
  | t :: l, E, hE, hw, hin, hb => by
    refine xw_rfs_ok l (E := xw_rf1 h E t) (xw_rf1_ok hE hw.1 (hin t.1).1 (hin t.1).2 (hb t List.mem_cons_self)) hw.2 (fun v => ?_) (fun u hu => hb u (List.mem_cons_of_mem _ hu))
    have h1 := xw_rf1_in (E := E) (h := h) (t := t) v
    have h2 := hin v
    omega
theorem xw_rf1_sh {E : xw_N} {h : Int} {t : Nat × Int} (hE : xw_Sh E) : xw_Sh (xw_rf1 h E t) := by
  unfold xw_rf1
  cases xv_le 1 t.2 with
  | true => exact hE.upd
  | false =>
    cases xv_le t.2 (-1) with
    | true => exact hE.upd
    | false => exact hE
theorem xw_rfs_sh {h : Int} : ∀ (l : List (Nat × Int)) {E : xw_N}, xw_Sh E → xw_Sh (xw_rfs h l E)
  | [], _, hE => hE
  | t :: l, E, hE => xw_rfs_sh l (E := xw_rf1 h E t) (xw_rf1_sh hE)
/-- a fact is taken -/
theorem xw_asm_ok {ρ : Nat → Int} {S : xw_S} {g : xw_L} {z : Int} {k : xw_S → Bool} (hS : xw_St ρ S) (h : xw_asm S g k = true) (hg : xw_is ρ S.2.1 g z) (hz : 0 ≤ z) : ∃ S', k S' = true ∧ xw_St ρ S' ∧ S'.2.1 = S.2.1 ∧ S'.2.2.2 = S.2.2.2 := by
  unfold xw_asm at h
  cases h1 : xv_le 0 (xw_lo S.1 g) with
  | true => rw [h1] at h; exact ⟨S, h, hS, rfl, rfl⟩
  | false =>
    rw [h1] at h
    simp only [cond_false] at h
    have hh := xw_hi_ok hS.1 hg
    cases h2 : xv_le (xw_hi S.1 g) (-1) with
    | true => have := xv_le_iff.mp h2; omega
    | false =>
      rw [h2] at h
      simp only [cond_false] at h
      cases h3 : (xw_two g.2 && xw_prove S (xw_k (xw_neg g) (-1))) with
      | true =>
        have := xw_prove_ok hS (xv_and_t h3).2 (hg.neg.k (-1))
        omega
      | false =>
        rw [h3] at h
        simp only [cond_false] at h
        refine ⟨_, h, ⟨?_, ?_, hS.2.2.1, xw_rfs_sh g.2 hS.2.2.2⟩, rfl, rfl⟩
        · refine xw_rfs_ok (E0 := S.1) g.2 hS.1 hg.1 (fun v => by omega) (fun t ht => ?_)
          have := xw_hil_mem hS.1 g.1 hg.1 ht
          have e : g.1 + xw_evl ρ g.2 = z := hg.2
          have e2 : xw_hi S.1 g = List.rec (motive := fun _ => Int) g.1 (fun t _ ih => ih + (bif xv_le 0 t.2 then t.2 * (xw_e S.1 t.1).2 else t.2 * (xw_e S.1 t.1).1)) g.2 := rfl
          rw [← e2] at this
          omega
        · dsimp only
          cases (xw_two g.2 && !(xw_orl (fun f => xw_eqL f g) S.2.2.1)) with
          | false => exact hS.2.1
          | true =>
            intro f hf
            rcases List.mem_cons.mp hf with e | hf
            · rw [e]; exact ⟨z, hg, hz⟩
            · exact hS.2.1 f hf
def xw_set (ρ : Nat → Int) (n : Nat) (z : Int) : Nat → Int := fun v => if v = n then z else ρ v
theorem xw_set_up (ρ : Nat → Int) (n : Nat) (z : Int) : xw_Up ρ n (xw_set ρ n z) (n + 1) := ⟨Nat.le_succ n, fun v hv => by unfold xw_set; rw [if_neg (by omega)]⟩
theorem xw_OK.up {X : xw_X} {as : List Nat} {μ : Nat → Nat → Value} {ρ ρ' : Nat → Int} {S S' : xw_S} (h : xw_Me X as μ ρ S) (hu : xw_Up ρ S.2.1 ρ' S'.2.1) (e : S'.2.2.2 = S.2.2.2) : xw_Me X as μ ρ' S' := by
  obtain ⟨h1, h2⟩ := h
  unfold xw_Me
  rw [e]
  exact ⟨h1.more hu, h2.more hu⟩
/-- a new variable -/
theorem xw_fr_ok {ρ : Nat → Int} {S : xw_S} {lo hi z : Int} {k : xw_L → xw_S → Bool} (hS : xw_St ρ S) (h : xw_fr S lo hi k = true) (h1 : lo ≤ z) (h2 : z ≤ hi) : ∃ ρ' l S', k l S' = true ∧ xw_Up ρ S.2.1 ρ' S'.2.1 ∧ xw_St ρ' S' ∧ xw_is ρ' S'.2.1 l z ∧ S'.2.2 = S.2.2 ∧ (l.2 = [] ∨ ∃ v, l = (0, [(v, 1)]) ∧ v < S'.2.1 ∧ ρ' v = z) := by
  unfold xw_fr at h
  cases hb : xv_le hi lo with
  | true =>
    rw [hb] at h
    have hb := xv_le_iff.mp hb
    exact ⟨ρ, _, S, h, xw_Up.rf, hS, by rw [show z = lo by omega]; exact xw_is.c lo, rfl, Or.inl rfl⟩
  | false =>
    rw [hb] at h
    simp only [cond_false] at h
    cases hc : Nat.ble (S.2.1 + 1) 256 with
    | false => rw [hc] at h; cases h
    | true =>
      rw [hc] at h
      simp only [cond_true] at h
      have hc := xv_ble hc
      have hu := xw_set_up ρ S.2.1 z
      have hv : xw_set ρ S.2.1 z S.2.1 = z := by unfold xw_set; rw [if_pos rfl]
      refine ⟨xw_set ρ S.2.1 z, _, _, h, hu, ⟨?_, hS.2.1.more hu, fun q hq => (hS.2.2.1 q hq).more hu, hS.2.2.2.upd⟩, ?_, rfl, Or.inr ⟨S.2.1, rfl, Nat.lt_succ_self _, hv⟩⟩
      · intro v hv'
        dsimp only at hv' ⊢
        by_cases e : v = S.2.1
        · subst e
          rw [hv]
          rw [xw_e_set hS.2.2.2 (by omega)]
          exact ⟨h1, h2⟩
        · rcases xw_e_upd (E := S.1) (v := S.2.1) (j := v) (p := (lo, hi)) with e2 | ⟨e2, -⟩
          · rw [e2, hu.2 v (by omega)]; exact hS.1 v (by omega)
          · exact absurd e2 e
      · have := xw_is.v (ρ := xw_set ρ S.2.1 z) (n := S.2.1 + 1) (v := S.2.1) (Nat.lt_succ_self _)
        rw [hv] at this
        exact this
end
section
/-! cells are read -/
def xw_cx (x : va_E) (i : Nat) : Value := match x with
  | .inr (_, fs) => fs.getD i .null
  | .inl (_, _, .inl f) => .int (f i)
  | .inl (_, _, .inr (.inl f)) => .long (f i)
  | .inl (_, _, .inr (.inr (.inr (.inr f)))) => va_rf (f i)
  | _ => .null
def xw_ct (ws : va_W) (r i : Nat) : Value := match ws[r]? with
  | some q => xw_cx q.2 i
  | none => .null
/-- the cells are of their types, and the one number never stands in the one cell -/
def xw_Wd (hl : Nat × Int) (A : xv_A) (t : Nat → ClassId) (X : xw_X) (μ : Nat → Nat → Value) (ws : va_W) : Prop := xv_H t X.1 A ws.length ws ∧ (∀ c, xv_get 14 A hl.1 = some c → ∀ j, j < xw_len c → xw_num (xw_ct ws hl.1 j) ≠ some hl.2) ∧ ∀ r c, xv_get 14 A r = some c → ∀ i, μ r i = xw_ct ws r i
theorem xw_nm_ok {ρ : Nat → Int} {n : Nat} {E : xw_N} {a : xw_L} {z : Int} (hE : xw_En ρ n E) (h : xw_is ρ n a z) : xw_is ρ n (xw_nm E a) z := by
  unfold xw_nm
  match ha : a.2 with
  | [] => exact h
  | t :: l =>
    dsimp only
    cases hb : xv_le (xw_hi E a) (xw_lo E a) with
    | false => exact h
    | true =>
      have := xv_le_iff.mp hb
      have := xw_lo_ok hE h
      have := xw_hi_ok hE h
      simp only [cond_true]
      rw [show z = xw_lo E a by omega]
      exact xw_is.c _
theorem xw_inb_ok {ρ : Nat → Int} {S : xw_S} {n : Nat} {i : xw_L} {z : Int} (hS : xw_St ρ S) (h : xw_inb S n i = true) (hi : xw_is ρ S.2.1 i z) : 0 ≤ z ∧ z.toNat < n := by
  obtain ⟨h1, h2⟩ := xv_and_t h
  have h1 := xw_prove_ok hS h1 hi
  have h2 := xw_prove_ok hS h2 (hi.neg.k _)
  have : (Int.ofNat n) = (n : Int) := rfl
  omega
theorem xw_fil_split (ρ : Nat → Int) (n : Nat) (w : Int) : ∀ l : List (Nat × Int), xw_wfl n l → xw_wfl n (xw_fil (fun t => !(xw_ieq (t.2 % w) 0)) l) ∧ ∃ q, xw_evl ρ l = xw_evl ρ (xw_fil (fun t => !(xw_ieq (t.2 % w) 0)) l) + w * q
  | [], h => ⟨h, 0, by show (0 : Int) = 0 + w * 0; omega⟩
  | t :: l, h => by
    obtain ⟨h1, q, h2⟩ := xw_fil_split ρ n w l h.2
    have e : xw_fil (fun t => !(xw_ieq (t.2 % w) 0)) (t :: l) = bif !(xw_ieq (t.2 % w) 0) then t :: xw_fil (fun t => !(xw_ieq (t.2 % w) 0)) l else xw_fil (fun t => !(xw_ieq (t.2 % w) 0)) l := rfl
    rw [e]
    cases hb : xw_ieq (t.2 % w) 0 with
    | true =>
      simp only [Bool.not_true, cond_false]
      refine ⟨h1, q + t.2 / w * ρ t.1, ?_⟩
      show t.2 * ρ t.1 + xw_evl ρ l = _
      have hz := xw_ieq_iff.mp hb
      have hd : t.2 = w * (t.2 / w) := by have := Int.mul_ediv_add_emod t.2 w; omega
      have : t.2 * ρ t.1 = w * (t.2 / w * ρ t.1) := by rw [← Int.mul_assoc, ← hd]
      rw [h2, this, Int.mul_add]
      omega
    | false =>
      simp only [Bool.not_false, cond_true]
      refine ⟨⟨h.1, h1⟩, q, ?_⟩
      show t.2 * ρ t.1 + xw_evl ρ l = t.2 * ρ t.1 + xw_evl ρ _ + w * q
      omega
theorem xw_rst_ok {ρ : Nat → Int} {n : Nat} {w : Int} {a : xw_L} {z : Int} (h : xw_is ρ n a z) : ∃ y, xw_is ρ n (xw_rst w a) y ∧ z % w = y % w := by
  obtain ⟨h1, q, h2⟩ := xw_fil_split ρ n w a.2 h.1
  refine ⟨xw_ev ρ (xw_rst w a), ⟨h1, rfl⟩, ?_⟩
  have : z = xw_ev ρ (xw_rst w a) + w * q := by
    rw [← h.2]
    unfold xw_ev xw_rst
    dsimp only
    omega
  rw [this, Int.add_mul_emod_self_left]
theorem xw_rr_ok {ρ : Nat → Int} {n : Nat} {E : xw_N} {w : Nat} {i : xw_L} {z : Int} (hE : xw_En ρ n E) (hw : 1 ≤ w) (h : xw_is ρ n i z) (hz : 0 ≤ z) : ∃ j, j < (xw_rr E w i).2 ∧ z.toNat % w = (xw_rr E w i).1 + j := by
  unfold xw_rr
  cases hb : Nat.beq w 1 with
  | true =>
    have hb := xv_beq hb
    subst hb
    exact ⟨0, Nat.lt_succ_self 0, by show z.toNat % 1 = 0 + 0; omega⟩
  | false =>
    simp only [cond_false]
    obtain ⟨y, hy, e⟩ := xw_rst_ok (w := Int.ofNat w) h
    have hw0 : (0 : Int) < Int.ofNat w := by show (0 : Int) < (w : Int); omega
    have hzm : ((z.toNat % w : Nat) : Int) = y % Int.ofNat w := by
      rw [← e]
      show ((z.toNat % w : Nat) : Int) = z % (w : Int)
      rw [Int.natCast_emod, Int.toNat_of_nonneg hz]
    match hr : (xw_rst (Int.ofNat w) i).2 with
    | [] =>
      dsimp only
      have ey : y = i.1 := by
        rw [← hy.2]
        unfold xw_ev
        rw [hr]
        show (xw_rst (Int.ofNat w) i).1 + 0 = i.1
        rw [Int.add_zero]; rfl
      refine ⟨0, Nat.lt_succ_self 0, ?_⟩
      rw [ey] at hzm
      have := Int.emod_nonneg i.1 (show Int.ofNat w ≠ 0 by omega)
      omega
    | t :: l =>
      dsimp only
      have h1 := xw_lo_ok hE hy
      have h2 := xw_hi_ok hE hy
      generalize hlo : xw_lo E (xw_rst (Int.ofNat w) i) = a at *
      generalize hhi : xw_hi E (xw_rst (Int.ofNat w) i) = b at *
      cases hc : (xv_le (b - a + 1) (Int.ofNat w) && xv_le (a % Int.ofNat w) (b % Int.ofNat w)) with
      | false =>
        simp only [cond_false]
        exact ⟨z.toNat % w, Nat.mod_lt _ (by omega), by omega⟩
      | true =>
        simp only [cond_true]
        obtain ⟨c1, c2⟩ := xv_and_t hc
        have c1 := xv_le_iff.mp c1
        have c2 := xv_le_iff.mp c2
        have a0 := Int.emod_nonneg a (show Int.ofNat w ≠ 0 by omega)
        have aw := Int.emod_lt_of_pos a hw0
        have b0 := Int.emod_nonneg b (show Int.ofNat w ≠ 0 by omega)
        have bw := Int.emod_lt_of_pos b hw0
        have da := Int.mul_ediv_add_emod a (Int.ofNat w)
        have db := Int.mul_ediv_add_emod b (Int.ofNat w)
        have hlt : a % Int.ofNat w + (b - a) < Int.ofNat w := by
          have hq : b / Int.ofNat w ≤ a / Int.ofNat w := by
            rcases Int.lt_or_le (a / Int.ofNat w) (b / Int.ofNat w) with q | q
            · have := Int.mul_le_mul_of_nonneg_left (show a / Int.ofNat w + 1 ≤ b / Int.ofNat w by omega) (show (0 : Int) ≤ Int.ofNat w by omega)
              rw [Int.mul_add, Int.mul_one] at this
              omega
            · exact q
          have := Int.mul_le_mul_of_nonneg_left hq (show (0 : Int) ≤ Int.ofNat w by omega)
          omega
        have hym : y % Int.ofNat w = a % Int.ofNat w + (y - a) := by
          have e1 : y = (a % Int.ofNat w + (y - a)) + Int.ofNat w * (a / Int.ofNat w) := by omega
          have e2 : y % Int.ofNat w = (a % Int.ofNat w + (y - a)) % Int.ofNat w := by
            conv => lhs; rw [e1]
            rw [Int.add_mul_emod_self_left]
          rw [e2, Int.emod_eq_of_lt (by omega) (by omega)]
        refine ⟨(y - a).toNat, by omega, ?_⟩
        omega
theorem xw_jn_ok {sb : Nat} {as : List Nat} {els : List (List xv_V)} {s : Nat} {v : xv_V} : ∀ {cnt : Nat}, xw_jn els s cnt = some v → ∀ j, j < cnt → ∃ u, xv_get 8 els (s + j) = some u ∧ ∀ x, xv_hv sb as u x → xv_hv sb as v x := by
  intro cnt
  cases cnt with
  | zero => intro h; cases h
  | succ m =>
    show Nat.rec (motive := fun _ => Option xv_V) (xv_get 8 els s) (fun j acc => match acc with
      | none => none
      | some v => match xv_get 8 els (s + j + 1) with
        | none => none
        | some u => bif Nat.beq v.1 u.1 && Nat.ble u.1 1 then some (xv_join v u) else none) m = some v → _
    induction m generalizing v with
    | zero =>
      intro h j hj
      have e : j = 0 := by omega
      subst e
      exact ⟨v, h, fun _ h => h⟩
    | succ m ih =>
      intro h j hj
      dsimp only at h
      generalize hacc : Nat.rec (motive := fun _ => Option xv_V) (xv_get 8 els s) (fun j acc => match acc with
        | none => none
        | some v => match xv_get 8 els (s + j + 1) with
          | none => none
          | some u => bif Nat.beq v.1 u.1 && Nat.ble u.1 1 then some (xv_join v u) else none) m = acc at h
      cases acc with
      | none => cases h
      | some v0 =>
        dsimp only at h
        cases hu : xv_get 8 els (s + m + 1) with
        | none => rw [hu] at h; cases h
        | some u =>
          rw [hu] at h
          obtain ⟨b, e⟩ := xv_bt h
          obtain ⟨b1, b2⟩ := xv_and_t b
          cases e
          rcases Nat.lt_or_ge j (m + 1) with hj2 | hj2
          · obtain ⟨u1, h1, h2⟩ := ih hacc j hj2
            exact ⟨u1, h1, fun x hx => xv_hv.join (xv_beq b1) (xv_ble b2) (Or.inl (h2 x hx))⟩
          · have e : j = m + 1 := by omega
            subst e
            exact ⟨u, hu, fun x hx => xv_hv.join (xv_beq b1) (xv_ble b2) (Or.inr hx)⟩
theorem xw_ty_ok {t : Nat → ClassId} {sb : Nat} {A : xv_A} {n : Nat} {ws : va_W} {r : Nat} {c : xv_C} {i : Nat} {u : xv_V} (hH : xv_H t sb A n ws) (hc : xv_get 14 A r = some c) (h6 : c.1 ≤ 6) (hi : i < xw_len c) (hu : xv_get 8 c.2.2.2 (i % c.2.2.1) = some u) : xv_hv sb (ws.map Prod.fst) u (xw_ct ws r i) := by
  obtain ⟨a, x, e, hx⟩ := hH.2 r c hc (by omega)
  unfold xw_ct
  rw [e]
  dsimp only
  unfold xw_len at hi
  by_cases h0 : c.1 = 0
  · rw [h0] at hi
    simp only [Nat.beq_refl, cond_true] at hi
    obtain ⟨fs, rfl, hl, hf⟩ := hx.1 h0
    rw [Nat.mod_eq_of_lt hi] at hu
    obtain ⟨y, hy, hv⟩ := hf i u hu
    show xv_hv sb _ u (fs.getD i .null)
    rw [List.getD_eq_getElem?_getD, hy]
    exact hv
  · have hb : Nat.beq c.1 0 = false := by
      cases hq : Nat.beq c.1 0 with
      | true => exact absurd (xv_beq hq) h0
      | false => rfl
    rw [hb] at hi
    simp only [cond_false] at hi
    rcases (show (c.1 = 1 ∨ c.1 = 2 ∨ c.1 = 3) ∨ c.1 = 4 ∨ (c.1 = 5 ∨ c.1 = 6 ∨ c.1 = 7) by omega) with q | q | q
    · obtain ⟨f, rfl, hf⟩ := hx.2.1 q; exact hf i hi u hu
    · obtain ⟨f, rfl, hf⟩ := hx.2.2.1 q; exact hf i hi u hu
    · obtain ⟨f, rfl, hf⟩ := hx.2.2.2.1 q; exact hf i hi u hu
theorem xw_mem_ok {M : List xw_M} {r : Nat} {i : xw_L} {v : xw_V} : xw_mem M r i = some v → (r, i, v) ∈ M := by
  induction M with
  | nil => intro h; cases h
  | cons m M ih =>
    intro h
    have h : (bif Nat.beq m.1 r && xw_eqL m.2.1 i then some m.2.2 else xw_mem M r i) = some v := h
    cases hb : (Nat.beq m.1 r && xw_eqL m.2.1 i) with
    | false => rw [hb] at h; exact List.mem_cons_of_mem _ (ih h)
    | true =>
      rw [hb] at h
      obtain ⟨b1, b2⟩ := xv_and_t hb
      cases h
      have e : (r, i, m.2.2) = m := Prod.ext (xv_beq b1).symm (Prod.ext (xw_eqL_ok b2).symm rfl)
      rw [e]
      exact List.mem_cons_self
theorem xw_dvs_ok {ρ : Nat → Int} {n : Nat} {s : Int} {a : xw_L} {z : Int} (h : xw_dvs s a = true) (ha : xw_is ρ n a z) : z % s = 0 := by
  obtain ⟨h1, h2⟩ := xv_and_t h
  have h1 := xw_ieq_iff.mp h1
  have h2 := xw_anl_ok h2
  have key : ∀ l : List (Nat × Int), (∀ t ∈ l, xw_ieq (t.2 % s) 0 = true) → ∃ q, xw_evl ρ l = s * q := by
    intro l
    induction l with
    | nil => intro _; exact ⟨0, by show (0 : Int) = s * 0; omega⟩
    | cons t l ih =>
      intro h
      obtain ⟨q, hq⟩ := ih (fun u hu => h u (List.mem_cons_of_mem _ hu))
      have hz := xw_ieq_iff.mp (h t List.mem_cons_self)
      have hd : t.2 = s * (t.2 / s) := by have := Int.mul_ediv_add_emod t.2 s; omega
      refine ⟨t.2 / s * ρ t.1 + q, ?_⟩
      show t.2 * ρ t.1 + xw_evl ρ l = _
      have : t.2 * ρ t.1 = s * (t.2 / s * ρ t.1) := by rw [← Int.mul_assoc, ← hd]
      rw [hq, Int.mul_add, this]
  obtain ⟨q, hq⟩ := key a.2 h2
  have hd : a.1 = s * (a.1 / s) := by have := Int.mul_ediv_add_emod a.1 s; omega
  have : z = s * (a.1 / s + q) := by
    rw [← ha.2]
    unfold xw_ev
    rw [hq, Int.mul_add]
    omega
  rw [this]
  exact Int.mul_emod_right s _
theorem xw_sgr_ok {X : xw_X} {as : List Nat} {μ : Nat → Nat → Value} {ρ : Nat → Int} {S : xw_S} {r : Nat} {i : xw_L} {d : Int × Int} {z y : Int} (hS : xw_St ρ S) (hG : xw_Gk μ ρ S.2.1 S.2.2.2.2.1) (hi : xw_is ρ S.2.1 i z) (hd : d.1 ≤ y ∧ y ≤ d.2) (hy : xw_num (μ r z.toNat) = some y) : (xw_sgr S r i d).1 ≤ y ∧ y ≤ (xw_sgr S r i d).2 := by
  unfold xw_sgr
  generalize hl : S.2.2.2.2.1 = l at *
  clear hl
  induction l with
  | nil => exact hd
  | cons g l ih =>
    have ih := ih (fun q hq => hG q (List.mem_cons_of_mem _ hq))
    dsimp only
    cases hb : (Nat.beq g.1 r && (xv_le 1 g.2.2.2.1 && (xw_dvs g.2.2.2.1 (xw_sub i g.2.1) && (xw_prove S (xw_sub i g.2.1) && xw_prove S (xw_k (xw_sub g.2.2.1 (xw_sub i g.2.1)) (-1)))))) with
    | false => exact ih
    | true =>
      simp only [cond_true]
      obtain ⟨b1, hb⟩ := xv_and_t hb
      obtain ⟨-, hb⟩ := xv_and_t hb
      obtain ⟨b3, hb⟩ := xv_and_t hb
      obtain ⟨b4, b5⟩ := xv_and_t hb
      obtain ⟨b, sp, h1, h2, h3⟩ := hG g List.mem_cons_self
      have c3 := xw_dvs_ok b3 (hi.sub h1)
      have c4 := xw_prove_ok hS b4 (hi.sub h1)
      have c5 := xw_prove_ok hS b5 ((h2.sub (hi.sub h1)).k (-1))
      refine h3 (z - b) c4 (by omega) c3 y ?_
      rw [show b + (z - b) = z by omega, xv_beq b1]
      exact hy
theorem xw_rd_ok {hl : Nat × Int} {A : xv_A} {t : Nat → ClassId} {X : xw_X} {μ : Nat → Nat → Value} {ws : va_W} {ρ : Nat → Int} {S : xw_S} {r : Nat} {i : xw_L} {z : Int} {k : xw_V → xw_S → Bool} (hW : xw_Wd hl A t X μ ws) (hS : xw_St ρ S) (hM : xw_Me X (ws.map Prod.fst) μ ρ S) (h : xw_rd hl A S r i k = true) (hi : xw_is ρ S.2.1 i z) : 0 ≤ z ∧ (∃ c, xv_get 14 A r = some c ∧ z.toNat < xw_len c ∧ c.1 ≤ 6) ∧ ∃ ρ' v S', k v S' = true ∧ xw_Up ρ S.2.1 ρ' S'.2.1 ∧ xw_St ρ' S' ∧ xw_Me X (ws.map Prod.fst) μ ρ' S' ∧ xw_hv X (ws.map Prod.fst) ρ' S'.2.1 v (μ r z.toNat) ∧ S'.2.2.2.2.2.2 = S.2.2.2.2.2.2 ∧ v.1 ≤ 3 := by
  unfold xw_rd at h
  cases hc : xv_get 14 A r with
  | none => rw [hc] at h; cases h
  | some c =>
    rw [hc] at h
    dsimp only at h
    cases hb : (Nat.ble 1 c.2.2.1 && (Nat.ble c.1 6 && xw_inb S (xw_len c) i)) with
    | false => rw [hb] at h; cases h
    | true =>
      rw [hb] at h
      simp only [cond_true] at h
      obtain ⟨b1, hb⟩ := xv_and_t hb
      obtain ⟨b2, b3⟩ := xv_and_t hb
      have b1 := xv_ble b1
      have b2 := xv_ble b2
      obtain ⟨z0, zl⟩ := xw_inb_ok hS b3 hi
      have hn := xw_nm_ok hS.1 hi
      have hμ := hW.2.2 r c hc z.toNat
      refine ⟨z0, ⟨c, rfl, zl, b2⟩, ?_⟩
      have hty : ∀ u, xw_jn c.2.2.2 (xw_rr S.1 c.2.2.1 (xw_nm S.1 i)).1 (xw_rr S.1 c.2.2.1 (xw_nm S.1 i)).2 = some u → xv_hv X.1 (ws.map Prod.fst) u (μ r z.toNat) := fun u hu => by
        obtain ⟨j, j1, j2⟩ := xw_rr_ok hS.1 b1 hn z0
        obtain ⟨u0, g1, g2⟩ := xw_jn_ok (sb := X.1) (as := ws.map Prod.fst) hu j j1
        rw [hμ]
        exact g2 _ (xw_ty_ok hW.1 hc b2 zl (by rw [j2]; exact g1))
      cases hm : xw_mem S.2.2.2.1 r (xw_nm S.1 i) with
      | some v =>
        rw [hm] at h
        obtain ⟨z', h1, h2, h3, h4⟩ := hM.1 _ (xw_mem_ok hm)
        have e := h1.one hn
        subst e
        exact ⟨ρ, v, S, h, xw_Up.rf, hS, hM, h3, rfl, Nat.le_trans h4 (by decide)⟩
      | none =>
        rw [hm] at h
        dsimp only at h
        cases hj : xw_jn c.2.2.2 (xw_rr S.1 c.2.2.1 (xw_nm S.1 i)).1 (xw_rr S.1 c.2.2.1 (xw_nm S.1 i)).2 with
        | none => rw [hj] at h; cases h
        | some u =>
          rw [hj] at h
          dsimp only at h
          have hu := hty u hj
          cases h1 : Nat.ble u.1 1 with
          | false =>
            rw [h1] at h
            simp only [cond_false] at h
            cases h2 : (Nat.beq u.1 2 || Nat.beq u.1 3) with
            | false => rw [h2] at h; cases h
            | true =>
              rw [h2] at h
              simp only [cond_true] at h
              refine ⟨ρ, _, S, h, xw_Up.rf, hS, hM, ?_, rfl, ?_⟩
              · rcases (Bool.or_eq_true _ _).mp h2 with q | q
                · have q := xv_beq q
                  refine ⟨fun e => ?_, fun e => ?_, fun _ => hu.2.2.1 q, fun e => ?_, fun e => ?_, fun e => ?_, fun e => ?_, fun e => ?_⟩ <;> (dsimp only at e; omega)
                · have q := xv_beq q
                  refine ⟨fun e => ?_, fun e => ?_, fun e => ?_, fun _ => hu.2.2.2.1 q, fun e => ?_, fun e => ?_, fun e => ?_, fun e => ?_⟩ <;> (dsimp only at e; omega)
              · dsimp only
                rcases (Bool.or_eq_true _ _).mp h2 with q | q
                · have := xv_beq q; omega
                · have := xv_beq q; omega
          | true =>
            rw [h1] at h
            simp only [cond_true] at h
            have h1 := xv_ble h1
            have hnum : ∃ y, xw_num (μ r z.toNat) = some y ∧ u.2.1 ≤ y ∧ y ≤ u.2.2 ∧ (∀ (ρ' : Nat → Int) (n' : Nat) (l : xw_L), xw_is ρ' n' l y → xw_hv X (ws.map Prod.fst) ρ' n' (u.1, l) (μ r z.toNat)) := by
              rcases Nat.le_one_iff_eq_zero_or_eq_one.mp h1 with q | q
              · obtain ⟨x, e, x1, x2⟩ := hu.1 q
                rw [e, q]
                exact ⟨_, rfl, x1, x2, fun ρ' n' l hl => xw_hv.i hl⟩
              · obtain ⟨x, e, x1, x2⟩ := hu.2.1 q
                rw [e, q]
                exact ⟨_, rfl, x1, x2, fun ρ' n' l hl => xw_hv.l hl⟩
            obtain ⟨y, ey, y1, y2, hvy⟩ := hnum
            obtain ⟨q1, q2⟩ := xw_sgr_ok (X := X) (as := ws.map Prod.fst) hS hM.2 hn ⟨y1, y2⟩ ey
            obtain ⟨ρ', l, S', hk, hu', hS', hl', e22, -⟩ := xw_fr_ok hS h q1 q2
            have hM' : xw_Me X (ws.map Prod.fst) μ ρ' S' := xw_OK.up hM hu' (by rw [e22])
            have hfin : ∀ S'' : xw_S, xw_St ρ' S'' → S''.2.1 = S'.2.1 → S''.2.2.2 = S'.2.2.2 → k (u.1, l) (S''.1, S''.2.1, S''.2.2.1, (r, xw_nm S.1 i, (u.1, l)) :: S''.2.2.2.1, S''.2.2.2.2) = true → ∃ ρ' v S', k v S' = true ∧ xw_Up ρ S.2.1 ρ' S'.2.1 ∧ xw_St ρ' S' ∧ xw_Me X (ws.map Prod.fst) μ ρ' S' ∧ xw_hv X (ws.map Prod.fst) ρ' S'.2.1 v (μ r z.toNat) ∧ S'.2.2.2.2.2.2 = S.2.2.2.2.2.2 ∧ v.1 ≤ 3 := by
              intro S'' hS'' en e2 hk2
              have hu2 : xw_Up ρ S.2.1 ρ' S''.2.1 := by rw [en]; exact hu'
              have hhv : xw_hv X (ws.map Prod.fst) ρ' S''.2.1 (u.1, l) (μ r z.toNat) := hvy ρ' _ l (by rw [en]; exact hl')
              refine ⟨ρ', _, _, hk2, hu2, hS'', ⟨?_, ?_⟩, hhv, ?_, ?_⟩
              · intro m hm'
                rcases List.mem_cons.mp hm' with e | hm'
                · rw [e]; exact ⟨z, hn.more hu2, z0, hhv, h1⟩
                · have := hM'.1
                  rw [← e2, ← en] at this
                  exact this m hm'
              · have := hM'.2
                rw [← e2, ← en] at this
                exact this
              · show S''.2.2.2.2.2.2 = _
                rw [e2, e22]
              · dsimp only; omega
            cases hh : Nat.beq r hl.1 with
            | false =>
              rw [hh] at hk
              exact hfin S' hS' rfl rfl hk
            | true =>
              rw [hh] at hk
              simp only [cond_true] at hk
              obtain ⟨k1, k2⟩ := xv_and_t hk
              have hr := xv_beq hh
              have hne : y ≠ hl.2 := fun e => hW.2.1 c (by rw [← hr]; exact hc) z.toNat zl (by rw [← hr, ← hμ, ey, e])
              rcases Int.lt_or_gt_of_ne hne with q | q
              · obtain ⟨S'', g1, g2, g3, g4⟩ := xw_asm_ok hS' k2 (hl'.neg.k _) (by omega)
                exact hfin S'' g2 g3 g4 g1
              · obtain ⟨S'', g1, g2, g3, g4⟩ := xw_asm_ok hS' k1 (hl'.k _) (by omega)
                exact hfin S'' g2 g3 g4 g1
end
section
/-! cells are written -/
def xw_Dt (D : xw_D) (μ0 μ : Nat → Nat → Value) : Prop := ∀ r j, xw_isin D r (j + 1) = false → μ r j = μ0 r j
def xw_Dc (D : xw_D) (ws0 ws : va_W) : Prop := ∀ r, (∀ c, (r, c) ∉ D) → ws[r]? = ws0[r]?
theorem xw_isin_cons {D : xw_D} {e : Nat × Nat} {r c : Nat} : xw_isin (e :: D) r c = ((Nat.beq e.1 r && (Nat.beq e.2 0 || Nat.beq e.2 c)) || xw_isin D r c) := rfl
theorem xw_isin_mem {D : xw_D} {r c : Nat} (h : xw_isin D r c = true) : ∃ c', (r, c') ∈ D ∧ (c' = 0 ∨ c' = c) := by
  obtain ⟨e, he, h⟩ := xw_orl_ok h
  obtain ⟨h1, h2⟩ := xv_and_t h
  have h1 := xv_beq h1
  refine ⟨e.2, ?_, ?_⟩
  · rw [← h1]; exact he
  · rcases (Bool.or_eq_true _ _).mp h2 with q | q
    · exact Or.inl (xv_beq q)
    · exact Or.inr (xv_beq q)
theorem xw_isin_of {c c' r : Nat} (hc : c' = 0 ∨ c' = c) : ∀ {D : xw_D}, (r, c') ∈ D → xw_isin D r c = true
  | [], h => by cases h
  | e :: D, h => by
    rw [xw_isin_cons]
    rcases List.mem_cons.mp h with q | q
    · subst q
      have : (Nat.beq c' 0 || Nat.beq c' c) = true := by
        rcases hc with rfl | rfl
        · rfl
        · rw [Nat.beq_refl, Bool.or_true]
      rw [Nat.beq_refl, this]; rfl
    · rw [xw_isin_of hc q, Bool.or_true]
theorem xw_dadd_old {D : xw_D} {r c r' c' : Nat} (h : xw_isin D r' c' = true) : xw_isin (xw_dadd D r c) r' c' = true := by
  unfold xw_dadd
  cases xw_isin D r c with
  | true => exact h
  | false => simp only [cond_false]; rw [xw_isin_cons, h, Bool.or_true]
theorem xw_dadd_new {D : xw_D} {r c : Nat} : xw_isin (xw_dadd D r c) r c = true := by
  unfold xw_dadd
  cases h : xw_isin D r c with
  | true => exact h
  | false => simp only [cond_false]; rw [xw_isin_cons, Nat.beq_refl, Nat.beq_refl]; simp
theorem xw_dadd_zero {D : xw_D} {r c : Nat} : xw_isin (xw_dadd D r 0) r c = true := by
  obtain ⟨c', h, q⟩ := xw_isin_mem (xw_dadd_new (D := D) (r := r) (c := 0))
  exact xw_isin_of (Or.inl (q.elim id id)) h
theorem xw_dadd_sub {D : xw_D} {r c : Nat} {e : Nat × Nat} (h : e ∈ D) : e ∈ xw_dadd D r c := by
  unfold xw_dadd
  cases xw_isin D r c with
  | true => exact h
  | false => exact List.mem_cons_of_mem _ h
theorem xw_dadd_cell {D : xw_D} {r c : Nat} : ∃ c', (r, c') ∈ xw_dadd D r c := by
  obtain ⟨c', h, -⟩ := xw_isin_mem (xw_dadd_new (D := D) (r := r) (c := c))
  exact ⟨c', h⟩
/-- one place is another -/
def xw_one (μ : Nat → Nat → Value) (r j : Nat) (x : Value) (μ' : Nat → Nat → Value) : Prop := μ' r j = x ∧ ∀ r' j', ¬ (r' = r ∧ j' = j) → μ' r' j' = μ r' j'
theorem xw_apart_ok {ρ : Nat → Int} {n : Nat} {E : xw_N} {i j : xw_L} {x y : Int} (hE : xw_En ρ n E) (h : xw_apart E i j = true) (hi : xw_is ρ n i x) (hj : xw_is ρ n j y) : x ≠ y := by
  rcases (Bool.or_eq_true _ _).mp h with h | h
  · have := xv_le_iff.mp h
    have := xw_lo_ok hE (hi.sub hj)
    omega
  · have := xv_le_iff.mp h
    have := xw_hi_ok hE (hi.sub hj)
    omega
theorem xw_killM_ok {X : xw_X} {as : List Nat} {μ μ' : Nat → Nat → Value} {ρ : Nat → Int} {n : Nat} {E : xw_N} {M : List xw_M} {r : Nat} {i : xw_L} {z : Int} (hE : xw_En ρ n E) (hi : xw_is ρ n i z) (hz : 0 ≤ z) (hM : xw_Mk X as μ ρ n M) (ho : ∀ r' j', ¬ (r' = r ∧ j' = z.toNat) → μ' r' j' = μ r' j') : xw_Mk X as μ' ρ n (xw_killM E M r i) := fun m hm => by
  obtain ⟨h1, h2⟩ := xw_fil_mem hm
  obtain ⟨z', g1, g2, g3, g4⟩ := hM m h1
  refine ⟨z', g1, g2, ?_, g4⟩
  rw [ho]
  · exact g3
  · rintro ⟨e1, e2⟩
    rcases (Bool.or_eq_true _ _).mp h2 with q | q
    · rw [e1, Nat.beq_refl] at q; cases q
    · exact xw_apart_ok hE q g1 hi (by omega)
theorem xw_killG_ok {μ μ' : Nat → Nat → Value} {ρ : Nat → Int} {n : Nat} {G : List xw_G} {r : Nat} (hG : xw_Gk μ ρ n G) (ho : ∀ r' j', r' ≠ r → μ' r' j' = μ r' j') : xw_Gk μ' ρ n (xw_killG G r) := fun g hg => by
  obtain ⟨h1, h2⟩ := xw_fil_mem hg
  obtain ⟨b, sp, g1, g2, g3⟩ := hG g h1
  refine ⟨b, sp, g1, g2, fun d d0 d1 d2 y hy => g3 d d0 d1 d2 y ?_⟩
  rw [← hy, ho]
  intro e
  rw [e, Nat.beq_refl] at h2; cases h2
theorem xw_Dt.one {D : xw_D} {μ0 μ μ' : Nat → Nat → Value} {r c j : Nat} {x : Value} (h : xw_Dt D μ0 μ) (ho : xw_one μ r j x μ') (hc : c = 0 ∨ c = j + 1) : xw_Dt (xw_dadd D r c) μ0 μ' := fun r' j' hin => by
  have h1 : xw_isin D r' (j' + 1) = false := by
    cases hq : xw_isin D r' (j' + 1) with
    | false => rfl
    | true => rw [xw_dadd_old hq] at hin; cases hin
  rw [ho.2, h r' j' h1]
  rintro ⟨e1, e2⟩
  rw [e1, e2] at hin
  rcases hc with rfl | rfl
  · rw [xw_dadd_zero] at hin; cases hin
  · rw [xw_dadd_new] at hin; cases hin
theorem xw_dcode_ok {ρ : Nat → Int} {n : Nat} {i : xw_L} {z : Int} (h : xw_is ρ n i z) : xw_dcode i = 0 ∨ xw_dcode i = z.toNat + 1 := by
  unfold xw_dcode
  match hi : i.2 with
  | [] =>
    right
    have e : i.1 + xw_evl ρ i.2 = z := h.2
    rw [hi] at e
    have e : i.1 + 0 = z := e
    show i.1.toNat + 1 = z.toNat + 1
    rw [← e, Int.add_zero]
  | _ :: _ => exact Or.inl rfl
theorem xw_wok_ok {sb : Nat} {as : List Nat} {X : xw_X} {ρ : Nat → Int} {S : xw_S} {els : List (List xv_V)} {s : Nat} {v : xw_V} {x : Value} (hS : xw_St ρ S) (hv : xw_hv X as ρ S.2.1 v x) : ∀ {n : Nat}, xw_wok S els s v n = true → ∀ j, j < n → ∃ u, xv_get 8 els (s + j) = some u ∧ xv_hv sb as u x ∧ u.1 = v.1 ∧ u.1 ≤ 1
  | 0, _, j, hj => absurd hj (Nat.not_lt_zero _)
  | n + 1, h, j, hj => by
    have h : (xw_wok S els s v n && match xv_get 8 els (s + n) with
      | some u => Nat.beq u.1 v.1 && (Nat.ble u.1 1 && (xw_prove S (xw_k v.2 (-u.2.1)) && xw_prove S (xw_k (xw_neg v.2) u.2.2)))
      | none => false) = true := h
    obtain ⟨h1, h2⟩ := xv_and_t h
    rcases Nat.lt_or_ge j n with hj2 | hj2
    · exact xw_wok_ok hS hv h1 j hj2
    · have e : j = n := by omega
      subst e
      cases hu : xv_get 8 els (s + j) with
      | none => rw [hu] at h2; cases h2
      | some u =>
        rw [hu] at h2
        obtain ⟨b1, h2⟩ := xv_and_t h2
        obtain ⟨b2, h2⟩ := xv_and_t h2
        obtain ⟨b3, b4⟩ := xv_and_t h2
        have b1 := xv_beq b1
        have b2 := xv_ble b2
        refine ⟨u, rfl, ?_, b1, b2⟩
        rcases Nat.le_one_iff_eq_zero_or_eq_one.mp b2 with q | q
        · obtain ⟨y, rfl, hy⟩ := hv.1 (by omega)
          have p1 := xw_prove_ok hS b3 (hy.k _)
          have p2 := xw_prove_ok hS b4 (hy.neg.k _)
          exact xv_hv.i ⟨q, by omega, by omega⟩
        · obtain ⟨y, rfl, hy⟩ := hv.2.1 (by omega)
          have p1 := xw_prove_ok hS b3 (hy.k _)
          have p2 := xw_prove_ok hS b4 (hy.neg.k _)
          exact xv_hv.l ⟨q, by omega, by omega⟩
/-- what a write asks, and what it gives -/
theorem xw_wr_ok {hl : Nat × Int} {A : xv_A} {t : Nat → ClassId} {X : xw_X} {μ : Nat → Nat → Value} {ws : va_W} {ρ : Nat → Int} {S : xw_S} {r : Nat} {i : xw_L} {z : Int} {v : xw_V} {x : Value} {k : xw_S → Bool} (hW : xw_Wd hl A t X μ ws) (hS : xw_St ρ S) (hM : xw_Me X (ws.map Prod.fst) μ ρ S) (h : xw_wr hl A S r i v k = true) (hi : xw_is ρ S.2.1 i z) (hv : xw_hv X (ws.map Prod.fst) ρ S.2.1 v x) : 0 ≤ z ∧ (∃ c, xv_get 14 A r = some c ∧ z.toNat < xw_len c ∧ c.1 ≤ 4 ∧ 1 ≤ c.2.2.1 ∧ ∀ u, xv_get 8 c.2.2.2 (z.toNat % c.2.2.1) = some u → xv_hv X.1 (ws.map Prod.fst) u x) ∧ v.1 ≤ 1 ∧ (r = hl.1 → xw_num x ≠ some hl.2) ∧
    ∀ μ', xw_one μ r z.toNat x μ' → ∃ S', k S' = true ∧ xw_St ρ S' ∧ xw_Me X (ws.map Prod.fst) μ' ρ S' ∧ S'.2.1 = S.2.1 ∧ (∀ μ0, xw_Dt S.2.2.2.2.2.2 μ0 μ → xw_Dt S'.2.2.2.2.2.2 μ0 μ') ∧ (∀ e ∈ S.2.2.2.2.2.2, e ∈ S'.2.2.2.2.2.2) ∧ ∃ c', (r, c') ∈ S'.2.2.2.2.2.2 := by
  unfold xw_wr at h
  cases hc : xv_get 14 A r with
  | none => rw [hc] at h; cases h
  | some c =>
    rw [hc] at h
    dsimp only at h
    cases hb : (Nat.ble 1 c.2.2.1 && (Nat.ble c.1 4 && (xw_inb S (xw_len c) i && ((xw_wok S c.2.2.2 (xw_rr S.1 c.2.2.1 (xw_nm S.1 i)).1 v (xw_rr S.1 c.2.2.1 (xw_nm S.1 i)).2 || xw_cpy S r c.2.2.1 (xw_len c) (xw_nm S.1 i) v) && (!(Nat.beq r hl.1) || (xw_prove S (xw_k v.2 (-hl.2 - 1)) || xw_prove S (xw_k (xw_neg v.2) (hl.2 - 1)))))))) with
    | false => rw [hb] at h; cases h
    | true =>
      rw [hb] at h
      simp only [cond_true] at h
      obtain ⟨b1, hb⟩ := xv_and_t hb
      obtain ⟨b2, hb⟩ := xv_and_t hb
      obtain ⟨b3, hb⟩ := xv_and_t hb
      obtain ⟨b4, b5⟩ := xv_and_t hb
      have b1 := xv_ble b1
      have b2 := xv_ble b2
      obtain ⟨z0, zl⟩ := xw_inb_ok hS b3 hi
      have hn := xw_nm_ok hS.1 hi
      have key : (∀ u, xv_get 8 c.2.2.2 (z.toNat % c.2.2.1) = some u → xv_hv X.1 (ws.map Prod.fst) u x) ∧ v.1 ≤ 1 := by
        rcases (Bool.or_eq_true _ _).mp b4 with q | q
        · obtain ⟨j, j1, j2⟩ := xw_rr_ok hS.1 b1 hn z0
          obtain ⟨u, g1, g2, g3, g4⟩ := xw_wok_ok (sb := X.1) hS hv q j j1
          refine ⟨fun u' hu' => ?_, by omega⟩
          rw [j2, g1] at hu'
          cases hu'
          exact g2
        · obtain ⟨m, hm, q⟩ := xw_orl_ok q
          obtain ⟨q1, q⟩ := xv_and_t q
          obtain ⟨q2, q⟩ := xv_and_t q
          obtain ⟨q3, q⟩ := xv_and_t q
          obtain ⟨q4, q5⟩ := xv_and_t q
          have q1 := xv_beq q1
          have q2 := xw_eqV_ok q2
          have q3 := xv_ble q3
          obtain ⟨z', g1, g2, g3, g4⟩ := hM.1 m hm
          obtain ⟨-, zl'⟩ := xw_inb_ok hS q5 g1
          refine ⟨fun u hu => ?_, q3⟩
          have ed := xw_dvs_ok q4 (hn.sub g1)
          have em : z.toNat % c.2.2.1 = z'.toNat % c.2.2.1 := by
            have e1 : (z - z') % (c.2.2.1 : Int) = 0 := ed
            have e2 : z % (c.2.2.1 : Int) = z' % (c.2.2.1 : Int) := Int.emod_eq_emod_iff_emod_sub_eq_zero.mpr e1
            have e3 : ((z.toNat % c.2.2.1 : Nat) : Int) = ((z'.toNat % c.2.2.1 : Nat) : Int) := by
              rw [Int.natCast_emod, Int.natCast_emod, Int.toNat_of_nonneg z0, Int.toNat_of_nonneg g2, e2]
            exact Int.ofNat_inj.mp e3
          rw [em] at hu
          have hx : x = μ r z'.toNat := by
            rw [q1, q2] at g3
            rcases Nat.le_one_iff_eq_zero_or_eq_one.mp q3 with q | q
            · obtain ⟨y, rfl, hy⟩ := hv.1 q
              obtain ⟨y', e', hy'⟩ := g3.1 q
              rw [e', Int32.toInt_inj.mp (hy.one hy')]
            · obtain ⟨y, rfl, hy⟩ := hv.2.1 q
              obtain ⟨y', e', hy'⟩ := g3.2.1 q
              rw [e', Int64.toInt_inj.mp (hy.one hy')]
          rw [hx, hW.2.2 r c hc]
          exact xw_ty_ok hW.1 hc (by omega) zl' hu
      refine ⟨z0, ⟨c, rfl, zl, b2, b1, key.1⟩, key.2, fun er e => ?_, fun μ' ho => ?_⟩
      · rcases (Bool.or_eq_true _ _).mp b5 with q | q
        · rw [er, Nat.beq_refl] at q; cases q
        · obtain ⟨y, ey, hy⟩ := hv.num key.2
          rw [ey] at e
          cases e
          rcases (Bool.or_eq_true _ _).mp q with q | q
          · have := xw_prove_ok hS q (hy.k _); omega
          · have := xw_prove_ok hS q (hy.neg.k _); omega
      · have hvn : xw_hv X (ws.map Prod.fst) ρ S.2.1 (v.1, xw_nm S.1 v.2) x := by
          rcases Nat.le_one_iff_eq_zero_or_eq_one.mp key.2 with q | q
          · obtain ⟨y, rfl, hy⟩ := hv.1 q
            rw [q]; exact xw_hv.i (xw_nm_ok hS.1 hy)
          · obtain ⟨y, rfl, hy⟩ := hv.2.1 q
            rw [q]; exact xw_hv.l (xw_nm_ok hS.1 hy)
        refine ⟨_, h, hS, ⟨?_, ?_⟩, rfl, fun μ0 hD => ?_, fun e he => xw_dadd_sub he, xw_dadd_cell⟩
        · intro m hm
          rcases List.mem_cons.mp hm with e | hm
          · rw [e]
            exact ⟨z, hn, z0, by show xw_hv _ _ _ _ _ (μ' r z.toNat); rw [ho.1]; exact hvn, key.2⟩
          · exact xw_killM_ok hS.1 hn z0 hM.1 ho.2 m hm
        · exact xw_killG_ok hM.2 (fun r' j' hne => ho.2 r' j' (fun q => hne q.1))
        · exact hD.one ho (xw_dcode_ok hn)
/-- places are forgotten -/
theorem xw_kill1_ok {X : xw_X} {as : List Nat} {μ μ' : Nat → Nat → Value} {ρ : Nat → Int} {S : xw_S} {e : Nat × Nat} (hS : xw_St ρ S) (hM : xw_Me X as μ ρ S) (ho : ∀ r j, ¬ (r = e.1 ∧ (e.2 = 0 ∨ e.2 = j + 1)) → μ' r j = μ r j) : xw_St ρ (xw_kill1 S e) ∧ xw_Me X as μ' ρ (xw_kill1 S e) := by
  refine ⟨hS, ?_, ?_⟩
  · unfold xw_kill1
    dsimp only
    cases hb : Nat.beq e.2 0 with
    | true =>
      simp only [cond_true]
      intro m hm
      obtain ⟨h1, h2⟩ := xw_fil_mem hm
      obtain ⟨z, g1, g2, g3, g4⟩ := hM.1 m h1
      refine ⟨z, g1, g2, ?_, g4⟩
      rw [ho]
      · exact g3
      · rintro ⟨q, -⟩
        rw [q, Nat.beq_refl] at h2; cases h2
    | false =>
      simp only [cond_false]
      have hne : e.2 ≠ 0 := fun q => by rw [q] at hb; cases hb
      refine xw_killM_ok (z := Int.ofNat e.2 - 1) hS.1 (xw_is.c _) (by show (0 : Int) ≤ (e.2 : Int) - 1; omega) hM.1 (fun r' j' hq => ho r' j' (fun q => hq ⟨q.1, ?_⟩))
      rcases q.2 with w | w
      · exact absurd w hne
      · show j' = ((e.2 : Int) - 1).toNat
        omega
  · unfold xw_kill1
    exact xw_killG_ok hM.2 (fun r' j' hne => ho r' j' (fun q => hne q.1))
theorem xw_kills_ok {X : xw_X} {as : List Nat} {μ' : Nat → Nat → Value} {ρ : Nat → Int} : ∀ (D : xw_D) {S : xw_S} {μ : Nat → Nat → Value}, xw_St ρ S → xw_Me X as μ ρ S → (∀ r j, xw_isin D r (j + 1) = false → μ' r j = μ r j) → xw_St ρ (xw_kills D S) ∧ xw_Me X as μ' ρ (xw_kills D S)
  | [], S, μ, hS, hM, ho => by
    have e : μ' = μ := funext fun r => funext fun j => ho r j rfl
    rw [e]; exact ⟨hS, hM⟩
  | e :: D, S, μ, hS, hM, ho => by
    -- one place first
    let μ1 : Nat → Nat → Value := fun r j => if r = e.1 ∧ (e.2 = 0 ∨ e.2 = j + 1) then μ' r j else μ r j
    have h1 := xw_kill1_ok (μ' := μ1) (e := e) hS hM (fun r j hq => if_neg hq)
    refine xw_kills_ok D (S := xw_kill1 S e) (μ := μ1) h1.1 h1.2 (fun r j hin => ?_)
    show μ' r j = if r = e.1 ∧ (e.2 = 0 ∨ e.2 = j + 1) then μ' r j else μ r j
    by_cases hq : r = e.1 ∧ (e.2 = 0 ∨ e.2 = j + 1)
    · rw [if_pos hq]
    · rw [if_neg hq]
      refine ho r j ?_
      rw [xw_isin_cons, hin, Bool.or_false]
      cases hb : (Nat.beq e.1 r && (Nat.beq e.2 0 || Nat.beq e.2 (j + 1))) with
      | false => rfl
      | true =>
        obtain ⟨b1, b2⟩ := xv_and_t hb
        refine absurd ⟨(xv_beq b1).symm, ?_⟩ hq
        rcases (Bool.or_eq_true _ _).mp b2 with w | w
        · exact Or.inl (xv_beq w)
        · exact Or.inr (xv_beq w)
theorem xw_kills_n (D : xw_D) : ∀ S : xw_S, (xw_kills D S).2.1 = S.2.1 := by
  induction D with
  | nil => intro S; rfl
  | cons e D ih => intro S; exact ih (xw_kill1 S e)
theorem xw_kills_old (D : xw_D) : ∀ {S : xw_S} {e : Nat × Nat}, e ∈ S.2.2.2.2.2.2 → e ∈ (xw_kills D S).2.2.2.2.2.2 := by
  induction D with
  | nil => intro S e h; exact h
  | cons d D ih => intro S e h; exact ih (S := xw_kill1 S d) (xw_dadd_sub h)
theorem xw_kills_in (D : xw_D) : ∀ {S : xw_S} {r c : Nat}, (xw_isin S.2.2.2.2.2.2 r c = true ∨ xw_isin D r c = true) → xw_isin (xw_kills D S).2.2.2.2.2.2 r c = true := by
  induction D with
  | nil =>
    intro S r c h
    rcases h with h | h
    · exact h
    · cases h
  | cons d D ih =>
    intro S r c h
    refine ih (S := xw_kill1 S d) ?_
    rcases h with h | h
    · exact Or.inl (xw_dadd_old h)
    · rw [xw_isin_cons] at h
      rcases (Bool.or_eq_true _ _).mp h with h | h
      · left
        obtain ⟨b1, b2⟩ := xv_and_t h
        have b1 := xv_beq b1
        obtain ⟨c', g1, g2⟩ := xw_isin_mem (xw_dadd_new (D := S.2.2.2.2.2.2) (r := d.1) (c := d.2))
        rw [← b1]
        refine xw_isin_of ?_ g1
        rcases (Bool.or_eq_true _ _).mp b2 with w | w
        · have := xv_beq w; omega
        · have := xv_beq w; omega
      · exact Or.inr h
theorem xw_kills_cell (D : xw_D) : ∀ {S : xw_S} {r c : Nat}, (r, c) ∈ D → ∃ c', (r, c') ∈ (xw_kills D S).2.2.2.2.2.2 := by
  induction D with
  | nil => intro S r c h; cases h
  | cons d D ih =>
    intro S r c h
    rcases List.mem_cons.mp h with e | h
    · obtain ⟨c', h'⟩ := xw_dadd_cell (D := S.2.2.2.2.2.2) (r := d.1) (c := d.2)
      refine ⟨c', ?_⟩
      have : (r, c') ∈ (xw_kill1 S d).2.2.2.2.2.2 := by
        show (r, c') ∈ xw_dadd S.2.2.2.2.2.2 d.1 d.2
        have e1 : d.1 = r := by rw [← e]
        rw [← e1]
        exact h'
      exact xw_kills_old D (S := xw_kill1 S d) this
    · exact ih (S := xw_kill1 S d) h
end
section
/-! numbers: what the steps' numbers are -/
/-- k goes on with a form of z, and memo, stretches and what was written are as before -/
def xw_Re (ρ : Nat → Int) (S : xw_S) (k : xw_L → xw_S → Bool) (z : Int) : Prop := ∃ ρ' l S', k l S' = true ∧ xw_Up ρ S.2.1 ρ' S'.2.1 ∧ xw_St ρ' S' ∧ xw_is ρ' S'.2.1 l z ∧ S'.2.2.2.1 = S.2.2.2.1 ∧ S'.2.2.2.2.1 = S.2.2.2.2.1 ∧ S'.2.2.2.2.2.2 = S.2.2.2.2.2.2
theorem xw_Re.me {X : xw_X} {as : List Nat} {μ : Nat → Nat → Value} {ρ ρ' : Nat → Int} {S S' : xw_S} (hM : xw_Me X as μ ρ S) (hu : xw_Up ρ S.2.1 ρ' S'.2.1) (e1 : S'.2.2.2.1 = S.2.2.2.1) (e2 : S'.2.2.2.2.1 = S.2.2.2.2.1) : xw_Me X as μ ρ' S' := by
  unfold xw_Me
  rw [e1, e2]
  exact ⟨hM.1.more hu, hM.2.more hu⟩
theorem xw_Re.here {ρ : Nat → Int} {S : xw_S} {k : xw_L → xw_S → Bool} {l : xw_L} {z : Int} (hS : xw_St ρ S) (h : k l S = true) (hl : xw_is ρ S.2.1 l z) : xw_Re ρ S k z := ⟨ρ, l, S, h, xw_Up.rf, hS, hl, rfl, rfl, rfl⟩
theorem xw_Re.fr {ρ : Nat → Int} {S : xw_S} {lo hi z : Int} {k : xw_L → xw_S → Bool} (hS : xw_St ρ S) (h : xw_fr S lo hi k = true) (h1 : lo ≤ z) (h2 : z ≤ hi) : xw_Re ρ S k z := by
  obtain ⟨ρ', l, S', hk, hu, hS', hl, e, -⟩ := xw_fr_ok hS h h1 h2
  exact ⟨ρ', l, S', hk, hu, hS', hl, by rw [e], by rw [e], by rw [e]⟩
theorem xw_Re.asm {ρ : Nat → Int} {S : xw_S} {k : xw_L → xw_S → Bool} {g l : xw_L} {y z : Int} (hS : xw_St ρ S) (h : xw_asm S g (fun S' => k l S') = true) (hg : xw_is ρ S.2.1 g y) (hy : 0 ≤ y) (hl : xw_is ρ S.2.1 l z) : xw_Re ρ S k z := by
  obtain ⟨S', hk, hS', e1, e2⟩ := xw_asm_ok hS h hg hy
  exact ⟨ρ, l, S', hk, by rw [e1]; exact xw_Up.rf, hS', by rw [e1]; exact hl, by rw [e2], by rw [e2], by rw [e2]⟩
theorem xw_Re.frr {ρ : Nat → Int} {S : xw_S} {lo hi z : Int} {f : Nat → xw_R} {k : xw_L → xw_S → Bool} (hS : xw_St ρ S) (h : xw_frr S lo hi f k = true) (h1 : lo ≤ z) (h2 : z ≤ hi) (hf : ∀ (ρ' : Nat → Int) (n' v : Nat), xw_Up ρ S.2.1 ρ' n' → v < n' → ρ' v = z → xw_Rk ρ' n' (f v)) : xw_Re ρ S k z := by
  unfold xw_frr at h
  obtain ⟨ρ', l, S', hk, hu, hS', hl, e, hc⟩ := xw_fr_ok hS h h1 h2
  rcases hc with hc | ⟨v, rfl, hv, hz⟩
  · rw [hc] at hk
    exact ⟨ρ', l, S', hk, hu, hS', hl, by rw [e], by rw [e], by rw [e]⟩
  · dsimp only at hk
    refine ⟨ρ', _, _, hk, hu, ⟨hS'.1, hS'.2.1, ?_, hS'.2.2.2⟩, hl, by show S'.2.2.2.1 = _; rw [e], by show S'.2.2.2.2.1 = _; rw [e], by show S'.2.2.2.2.2.2 = _; rw [e]⟩
    intro q hq
    rcases List.mem_cons.mp hq with e | hq
    · rw [e]; exact hf ρ' _ v hu hv hz
    · exact hS'.2.2.1 q hq
theorem xw_LH (kd : Nat) : (kd = 0 → xw_L0 kd = -2147483648 ∧ xw_H0 kd = 2147483647) ∧ (kd = 1 → xw_L0 kd = -9223372036854775808 ∧ xw_H0 kd = 9223372036854775807) := ⟨fun e => by subst e; exact ⟨rfl, rfl⟩, fun e => by subst e; exact ⟨rfl, rfl⟩⟩
theorem xw_Re.top {kd : Nat} {ρ : Nat → Int} {S : xw_S} {z : Int} {k : xw_L → xw_S → Bool} (hS : xw_St ρ S) (h : xw_top kd S k = true) (h1 : xw_L0 kd ≤ z) (h2 : z ≤ xw_H0 kd) : xw_Re ρ S k z := xw_Re.fr hS h h1 h2
theorem xw_Re.inr {kd : Nat} {ρ : Nat → Int} {S : xw_S} {a : xw_L} {y z : Int} {k : xw_L → xw_S → Bool} (hS : xw_St ρ S) (h : xw_inr kd S a k = true) (ha : xw_is ρ S.2.1 a y) (he : xw_L0 kd ≤ y → y ≤ xw_H0 kd → z = y) (h1 : xw_L0 kd ≤ z) (h2 : z ≤ xw_H0 kd) : xw_Re ρ S k z := by
  unfold xw_inr at h
  cases hb : (xv_le (xw_L0 kd) (xw_lo S.1 a) && xv_le (xw_hi S.1 a) (xw_H0 kd)) with
  | true =>
    rw [hb] at h
    obtain ⟨b1, b2⟩ := xv_and_t hb
    have b1 := xv_le_iff.mp b1
    have b2 := xv_le_iff.mp b2
    have c1 := xw_lo_ok hS.1 ha
    have c2 := xw_hi_ok hS.1 ha
    rw [he (by omega) (by omega)]
    exact xw_Re.here hS h ha
  | false => rw [hb] at h; exact xw_Re.top hS h h1 h2
theorem xw_r0 (x : Int32) : xw_L0 0 ≤ x.toInt ∧ x.toInt ≤ xw_H0 0 := xv_i32 x
theorem xw_r1 (x : Int64) : xw_L0 1 ≤ x.toInt ∧ x.toInt ≤ xw_H0 1 := xv_i64 x
theorem xw_bm0 {y : Int} (h1 : xw_L0 0 ≤ y) (h2 : y ≤ xw_H0 0) : y.bmod (2 ^ 32) = y := by
  have h1 : -2147483648 ≤ y := h1
  have h2 : y ≤ 2147483647 := h2
  exact Int.bmod_eq_of_le (by omega) (by omega)
theorem xw_bm1 {y : Int} (h1 : xw_L0 1 ≤ y) (h2 : y ≤ xw_H0 1) : y.bmod (2 ^ 64) = y := by
  have h1 : -9223372036854775808 ≤ y := h1
  have h2 : y ≤ 9223372036854775807 := h2
  exact Int.bmod_eq_of_le (by omega) (by omega)
theorem xw_rec_ok {p : xw_R → Bool} {q : xw_R} : ∀ {R : List xw_R}, xw_rec R p = some q → q ∈ R ∧ p q = true
  | [], h => by cases h
  | a :: R, h => by
    have h : (bif p a then some a else xw_rec R p) = some q := h
    cases hb : p a with
    | true => rw [hb] at h; cases h; exact ⟨List.mem_cons_self, hb⟩
    | false =>
      rw [hb] at h
      obtain ⟨h1, h2⟩ := xw_rec_ok (R := R) h
      exact ⟨List.mem_cons_of_mem _ h1, h2⟩
theorem xw_lin {a b x y : Int} (h1 : a ≤ x) (h2 : x ≤ b) : (x * y ≤ a * y ∨ x * y ≤ b * y) ∧ (a * y ≤ x * y ∨ b * y ≤ x * y) := by
  rcases Int.le_total 0 y with q | q
  · exact ⟨Or.inr (Int.mul_le_mul_of_nonneg_right h2 q), Or.inl (Int.mul_le_mul_of_nonneg_right h1 q)⟩
  · exact ⟨Or.inl (Int.mul_le_mul_of_nonpos_right h1 q), Or.inr (Int.mul_le_mul_of_nonpos_right h2 q)⟩
theorem xw_box {a b c d x y : Int} (h1 : a ≤ x) (h2 : x ≤ b) (h3 : c ≤ y) (h4 : y ≤ d) : xw_min (xw_min (a * c) (a * d)) (xw_min (b * c) (b * d)) ≤ x * y ∧ x * y ≤ xw_max (xw_max (a * c) (a * d)) (xw_max (b * c) (b * d)) := by
  obtain ⟨l1, l2⟩ := xw_lin (y := y) h1 h2
  obtain ⟨m1, m2⟩ := xw_lin (y := a) h3 h4
  obtain ⟨n1, n2⟩ := xw_lin (y := b) h3 h4
  rw [Int.mul_comm y a, Int.mul_comm c a, Int.mul_comm d a] at m1 m2
  rw [Int.mul_comm y b, Int.mul_comm c b, Int.mul_comm d b] at n1 n2
  obtain ⟨p1, p2, -⟩ := xw_min_ok (a * c) (a * d)
  obtain ⟨p3, p4, -⟩ := xw_min_ok (b * c) (b * d)
  obtain ⟨p5, p6, -⟩ := xw_min_ok (xw_min (a * c) (a * d)) (xw_min (b * c) (b * d))
  obtain ⟨r1, r2, -⟩ := xw_max_ok (a * c) (a * d)
  obtain ⟨r3, r4, -⟩ := xw_max_ok (b * c) (b * d)
  obtain ⟨r5, r6, -⟩ := xw_max_ok (xw_max (a * c) (a * d)) (xw_max (b * c) (b * d))
  generalize a * c = ac at *
  generalize a * d = ad at *
  generalize b * c = bc at *
  generalize b * d = bd at *
  generalize a * y = ay at *
  generalize b * y = b_y at *
  generalize x * y = xy at *
  omega
theorem xw_lo1_ok {ρ : Nat → Int} {S : xw_S} {a : xw_L} {x : Int} (hS : xw_St ρ S) (ha : xw_is ρ S.2.1 a x) : xw_lo1 S a ≤ x := by
  unfold xw_lo1
  have := xw_lo_ok hS.1 ha
  cases xv_le 1 (xw_lo S.1 a) with
  | true => exact this
  | false =>
    simp only [cond_false]
    cases hb : xw_prove S (xw_k a (-1)) with
    | false => exact this
    | true => have := xw_prove_ok hS hb (ha.k (-1)); simp only [cond_true]; omega
theorem xw_Re.mul {kd : Nat} {ρ : Nat → Int} {S : xw_S} {a b : xw_L} {x y z : Int} {k : xw_L → xw_S → Bool} (hS : xw_St ρ S) (h : xw_mul kd S a b k = true) (ha : xw_is ρ S.2.1 a x) (hb : xw_is ρ S.2.1 b y) (he : xw_L0 kd ≤ x * y → x * y ≤ xw_H0 kd → z = x * y) (h1 : xw_L0 kd ≤ z) (h2 : z ≤ xw_H0 kd) : xw_Re ρ S k z := by
  unfold xw_mul at h
  match e1 : a.2, h with
  | [], h =>
    dsimp only at h
    have ea : x = a.1 := by
      have : a.1 + xw_evl ρ a.2 = x := ha.2
      rw [e1] at this
      have : a.1 + 0 = x := this
      omega
    exact xw_Re.inr hS h (hb.scl a.1) (fun q1 q2 => by rw [← ea] at q1 q2 ⊢; exact he q1 q2) h1 h2
  | t1 :: l1, h =>
    dsimp only at h
    match e2 : b.2, h with
    | [], h =>
      dsimp only at h
      have eb : y = b.1 := by
        have : b.1 + xw_evl ρ b.2 = y := hb.2
        rw [e2] at this
        have : b.1 + 0 = y := this
        omega
      refine xw_Re.inr hS h (ha.scl b.1) (fun q1 q2 => ?_) h1 h2
      rw [← eb, Int.mul_comm] at q1 q2 ⊢
      exact he q1 q2
    | t2 :: l2, h =>
      dsimp only at h
      cases hr : xw_rec S.2.2.2.2.2.1 (fun q => Nat.beq q.1 3 && (xw_eqL q.2.2.1 a && xw_eqL q.2.2.2 b)) with
      | some q =>
        rw [hr] at h
        obtain ⟨m1, m2⟩ := xw_rec_ok hr
        obtain ⟨m2, m3⟩ := xv_and_t m2
        obtain ⟨m3, m4⟩ := xv_and_t m3
        obtain ⟨hv, x', y', hx', hy', -, -, -, h3⟩ := hS.2.2.1 q m1
        rw [xw_eqL_ok m3] at hx'
        rw [xw_eqL_ok m4] at hy'
        have ex := ha.one hx'
        have ey := hb.one hy'
        have := xw_is.v (ρ := ρ) hv
        rw [h3.1 (xv_beq m2), ← ex, ← ey] at this
        exact xw_Re.inr hS h this he h1 h2
      | none =>
        rw [hr] at h
        dsimp only at h
        unfold xw_mul2 at h
        obtain ⟨b1, b2⟩ := xw_box (xw_lo1_ok hS ha) (xw_hi_ok hS.1 ha) (xw_lo1_ok hS hb) (xw_hi_ok hS.1 hb)
        generalize hmin : xw_min (xw_min (xw_lo1 S a * xw_lo1 S b) (xw_lo1 S a * xw_hi S.1 b)) (xw_min (xw_hi S.1 a * xw_lo1 S b) (xw_hi S.1 a * xw_hi S.1 b)) = mn at *
        generalize hmax : xw_max (xw_max (xw_lo1 S a * xw_lo1 S b) (xw_lo1 S a * xw_hi S.1 b)) (xw_max (xw_hi S.1 a * xw_lo1 S b) (xw_hi S.1 a * xw_hi S.1 b)) = mx at *
        cases hc : (xv_le (xw_L0 kd) mn && xv_le mx (xw_H0 kd)) with
        | false => rw [hc] at h; exact xw_Re.top hS h h1 h2
        | true =>
          rw [hc] at h
          obtain ⟨c1, c2⟩ := xv_and_t hc
          have c1 := xv_le_iff.mp c1
          have c2 := xv_le_iff.mp c2
          have ez := he (by omega) (by omega)
          rw [ez]
          simp only [cond_true] at h
          refine xw_Re.frr hS h b1 b2 (fun ρ' n' v hu hv hz => ⟨hv, x, y, ha.more hu, hb.more hu, fun q => ?_, fun q => ?_, fun q => ?_, fun _ => hz, fun q => ?_, fun q => ?_⟩) <;> cases q
/-! bits -/
theorem xw_nn {x : Int32} (h : 0 ≤ x.toInt) : x.toInt = (x.toBitVec.toNat : Int) ∧ x.toBitVec.toNat < 2 ^ 31 := by
  have hy : x.toInt = (x.toBitVec.toNat : Int) := by
    show x.toBitVec.toInt = _
    have h' : 0 ≤ x.toBitVec.toInt := h
    rw [BitVec.toInt_eq_toNat_cond] at h' ⊢
    split
    · rfl
    · rename_i q
      rw [if_neg q] at h'
      have := x.toBitVec.isLt
      omega
  refine ⟨hy, ?_⟩
  have := Int32.toInt_lt x
  rw [hy] at this
  omega
theorem xw_bn {x : Int32} {n : Nat} (h : x.toBitVec.toNat = n) (hn : n < 2 ^ 31) : x.toInt = (n : Int) := by
  show x.toBitVec.toInt = _
  rw [BitVec.toInt_eq_toNat_cond, if_pos (by omega), h]
theorem xw_bits_ok {m : Int} {n : Nat} (h : (n : Int) ≤ m) : ∃ p : Nat, n < 2 ^ p ∧ xw_bits m = ((2 ^ p - 1 : Nat) : Int) ∧ ∀ n' : Nat, (n' : Int) ≤ m → n' < 2 ^ p := by
  unfold xw_bits
  cases m with
  | negSucc q => have : Int.negSucc q < 0 := Int.negSucc_lt_zero q; omega
  | ofNat q =>
    dsimp only
    have hq : ∀ n' : Nat, (n' : Int) ≤ Int.ofNat q → n' ≤ q := fun n' h => Int.ofNat_le.mp h
    cases hb : Nat.beq q 0 with
    | true =>
      have hb := xv_beq hb
      subst hb
      refine ⟨0, ?_, rfl, fun n' h' => ?_⟩
      · have := hq n h; simp; omega
      · have := hq n' h'; simp; omega
    | false =>
      refine ⟨Nat.log2 q + 1, ?_, rfl, fun n' h' => ?_⟩
      · exact Nat.lt_of_le_of_lt (hq n h) Nat.lt_log2_self
      · exact Nat.lt_of_le_of_lt (hq n' h') Nat.lt_log2_self
theorem xw_or_val {x y : Int32} (hx : 0 ≤ x.toInt) (hy : 0 ≤ y.toInt) {m : Int} (h1 : x.toInt ≤ m) (h2 : y.toInt ≤ m) : x.toInt ≤ (x ||| y).toInt ∧ y.toInt ≤ (x ||| y).toInt ∧ (x ||| y).toInt ≤ xw_bits m := by
  obtain ⟨e1, l1⟩ := xw_nn hx
  obtain ⟨e2, l2⟩ := xw_nn hy
  have eo : (x ||| y).toBitVec.toNat = x.toBitVec.toNat ||| y.toBitVec.toNat := by rw [Int32.toBitVec_or, BitVec.toNat_or]
  have e3 := xw_bn eo (Nat.or_lt_two_pow l1 l2)
  rw [e3, e1, e2]
  rw [e1] at h1
  rw [e2] at h2
  obtain ⟨p, p1, p2, p3⟩ := xw_bits_ok h1
  have p4 := p3 _ h2
  have p5 := Nat.or_lt_two_pow p1 p4
  rw [p2]
  have q1 : x.toBitVec.toNat ≤ x.toBitVec.toNat ||| y.toBitVec.toNat := Nat.left_le_or
  have q2 : y.toBitVec.toNat ≤ x.toBitVec.toNat ||| y.toBitVec.toNat := Nat.right_le_or
  omega
theorem xw_xor_val {x y : Int32} (hx : 0 ≤ x.toInt) (hy : 0 ≤ y.toInt) {m : Int} (h1 : x.toInt ≤ m) (h2 : y.toInt ≤ m) : 0 ≤ (x ^^^ y).toInt ∧ (x ^^^ y).toInt ≤ xw_bits m := by
  obtain ⟨e1, l1⟩ := xw_nn hx
  obtain ⟨e2, l2⟩ := xw_nn hy
  have eo : (x ^^^ y).toBitVec.toNat = x.toBitVec.toNat ^^^ y.toBitVec.toNat := by rw [Int32.toBitVec_xor, BitVec.toNat_xor]
  have e3 := xw_bn eo (Nat.xor_lt_two_pow l1 l2)
  rw [e3]
  rw [e1] at h1
  rw [e2] at h2
  obtain ⟨p, p1, p2, p3⟩ := xw_bits_ok h1
  have p4 := p3 _ h2
  have p5 := Nat.xor_lt_two_pow p1 p4
  rw [p2]
  omega
theorem xw_sm : ∀ k, k < 32 → ((nI k &&& 31).toBitVec.smod 32).toNat = k := by decide +kernel
theorem xw_um : ∀ k, k < 32 → (((nI k).toUInt32 &&& Int32.toUInt32 31).toBitVec % 32).toNat = k := by decide +kernel
theorem xw_ofI {y : Int32} {k : Nat} (h : y.toInt = (k : Int)) (hk : k < 2 ^ 31) : y = nI k := by
  apply Int32.toInt_inj.mp
  rw [h, nI_toInt (by omega)]
theorem xw_shl_val {x y : Int32} (hx : 0 ≤ x.toInt) (hy : 0 ≤ y.toInt) (h31 : y.toInt ≤ 31) (h : x.toInt * 2 ^ y.toInt.toNat ≤ 2147483647) : (x <<< (y &&& 31)).toInt = x.toInt * 2 ^ y.toInt.toNat := by
  obtain ⟨e1, l1⟩ := xw_nn hx
  have hk : y.toInt = ((y.toInt.toNat : Nat) : Int) := (Int.toNat_of_nonneg hy).symm
  have ey := xw_ofI hk (by omega)
  have es := xw_sm y.toInt.toNat (by omega)
  rw [← ey] at es
  have e2 := pk_shl x (y &&& 31) _ es
  have e3 : ((x.toBitVec.toNat * 2 ^ y.toInt.toNat : Nat) : Int) = x.toInt * 2 ^ y.toInt.toNat := by rw [e1]; simp
  have e4 : x.toBitVec.toNat * 2 ^ y.toInt.toNat < 2 ^ 31 := by omega
  rw [Nat.mod_eq_of_lt (by omega)] at e2
  rw [xw_bn e2 e4, e3]
theorem xw_shr_val {x y : Int32} (hx : 0 ≤ x.toInt) (hy : 0 ≤ y.toInt) (h31 : y.toInt ≤ 31) : (x >>> (y &&& 31)).toInt = x.toInt / 2 ^ y.toInt.toNat := by
  have hk : y.toInt = ((y.toInt.toNat : Nat) : Int) := (Int.toNat_of_nonneg hy).symm
  have ey := xw_ofI hk (by omega)
  have es := xw_sm y.toInt.toNat (by omega)
  rw [← ey] at es
  rw [pk_shr x (y &&& 31) _ es, Int.shiftRight_eq_div_pow]
  simp
end
section
/-! bits, quotients, conditions -/
theorem xw_bit_ok {ρ : Nat → Int} {S : xw_S} {a : xw_L} {x b : Int} {t : Nat} (hS : xw_St ρ S) (h : xw_bit S a t b = true) (ha : xw_is ρ S.2.1 a x) : t < S.2.1 ∧ ∃ y : Nat, ρ t = 2 ^ y ∧ x / 2 ^ y % 2 = b := by
  unfold xw_bit at h
  cases hr : xw_rec S.2.2.2.2.2.1 (fun q => Nat.beq q.1 0 && Nat.beq q.2.1 t) with
  | none => rw [hr] at h; cases h
  | some p =>
    rw [hr] at h
    dsimp only at h
    obtain ⟨m1, m2⟩ := xw_rec_ok hr
    obtain ⟨m2, m3⟩ := xv_and_t m2
    obtain ⟨hv, y, y2, hy, -, h0, -⟩ := hS.2.2.1 p m1
    obtain ⟨y0, h0⟩ := h0 (xv_beq m2)
    rw [xv_beq m3] at hv h0
    cases hr2 : xw_rec S.2.2.2.2.2.1 (fun q => Nat.beq q.1 2 && (xw_eqL q.2.2.1 a && (xw_eqL q.2.2.2 p.2.2.1 && (xv_le b (xw_e S.1 q.2.1).1 && xv_le (xw_e S.1 q.2.1).2 b)))) with
    | none => rw [hr2] at h; cases h
    | some q =>
      obtain ⟨g1, g2⟩ := xw_rec_ok hr2
      obtain ⟨g2, g3⟩ := xv_and_t g2
      obtain ⟨g3, g4⟩ := xv_and_t g3
      obtain ⟨g4, g5⟩ := xv_and_t g4
      obtain ⟨g5, g6⟩ := xv_and_t g5
      obtain ⟨hw, x', y', hx', hy', -, -, h2, -⟩ := hS.2.2.1 q g1
      obtain ⟨x0, y0', h2⟩ := h2 (xv_beq g2)
      rw [xw_eqL_ok g3] at hx'
      rw [xw_eqL_ok g4] at hy'
      have ex := ha.one hx'
      have ey := hy.one hy'
      obtain ⟨e1, e2⟩ := hS.1 q.2.1 hw
      have g5 := xv_le_iff.mp g5
      have g6 := xv_le_iff.mp g6
      refine ⟨hv, y.toNat, h0, ?_⟩
      rw [ex, ey, ← h2]
      omega
theorem xw_tb {x : Int32} {y : Nat} {b : Int} (hx : 0 ≤ x.toInt) (h : x.toInt / 2 ^ y % 2 = b) : x.toBitVec.getLsbD y = decide (b = 1) := by
  obtain ⟨e1, l1⟩ := xw_nn hx
  rw [← BitVec.testBit_toNat, Nat.testBit_eq_decide_div_mod_eq]
  rw [e1] at h
  have e : ((x.toBitVec.toNat / 2 ^ y % 2 : Nat) : Int) = b := by
    rw [← h]; simp
  have : (x.toBitVec.toNat / 2 ^ y % 2 = 1) ↔ b = 1 := by
    rw [← e]; omega
  exact decide_eq_decide.mpr this
theorem xw_pw {t : Int32} {y : Nat} (h : t.toInt = 2 ^ y) : y < 31 ∧ t.toBitVec = BitVec.twoPow 32 y := by
  have h0 : 0 ≤ t.toInt := by rw [h]; exact Int.le_of_lt (Int.pow_pos (by decide))
  obtain ⟨e1, l1⟩ := xw_nn h0
  have e2 : t.toBitVec.toNat = 2 ^ y := by
    have : ((t.toBitVec.toNat : Nat) : Int) = ((2 ^ y : Nat) : Int) := by rw [← e1, h]; simp
    exact Int.ofNat_inj.mp this
  have hy : y < 31 := by
    rw [e2] at l1
    exact (Nat.pow_lt_pow_iff_right (by decide)).mp l1
  refine ⟨hy, BitVec.eq_of_toNat_eq ?_⟩
  rw [e2, BitVec.toNat_twoPow_of_lt (by omega)]
theorem xw_orbit {x t : Int32} {y : Nat} (hx : 0 ≤ x.toInt) (ht : t.toInt = 2 ^ y) (h : x.toInt / 2 ^ y % 2 = 0) : (x ||| t).toInt = x.toInt + t.toInt := by
  obtain ⟨hy, et⟩ := xw_pw ht
  have hb := xw_tb hx h
  have h0 : 0 ≤ t.toInt := by rw [ht]; exact Int.le_of_lt (Int.pow_pos (by decide))
  have hz : x.toBitVec &&& t.toBitVec = 0#32 := by
    rw [et, BitVec.and_twoPow, hb]; rfl
  have e1 : (x ||| t).toBitVec = x.toBitVec + t.toBitVec := by
    rw [Int32.toBitVec_or, BitVec.add_eq_or_of_and_eq_zero _ _ hz]
  obtain ⟨a1, a2⟩ := xw_nn hx
  obtain ⟨b1, b2⟩ := xw_nn h0
  have eo : (x ||| t).toBitVec.toNat = x.toBitVec.toNat ||| t.toBitVec.toNat := by rw [Int32.toBitVec_or, BitVec.toNat_or]
  have lo : (x ||| t).toBitVec.toNat < 2 ^ 31 := by rw [eo]; exact Nat.or_lt_two_pow a2 b2
  have e2 : (x ||| t).toBitVec.toNat = x.toBitVec.toNat + t.toBitVec.toNat := by
    rw [e1, BitVec.toNat_add]
    exact Nat.mod_eq_of_lt (by omega)
  rw [xw_bn e2 (by omega), a1, b1]
  simp
theorem xw_anbit {x z : Int32} {y : Nat} (hx : 0 ≤ x.toInt) (hz : z.toInt = -1 - 2 ^ y) (h : x.toInt / 2 ^ y % 2 = 1) : (x &&& z).toInt = x.toInt - 2 ^ y ∧ 0 ≤ x.toInt - (2 : Int) ^ y := by
  have hn : (~~~z).toInt = 2 ^ y := by
    have hz0 := xv_i32 z
    rw [Int32.toInt_not]
    have : -z.toInt - 1 = 2 ^ y := by omega
    rw [this]
    have : (0 : Int) < 2 ^ y := Int.pow_pos (by decide)
    exact Int.bmod_eq_of_le (by omega) (by omega)
  obtain ⟨hy, et⟩ := xw_pw hn
  have hb := xw_tb hx h
  have ez : z.toBitVec = ~~~(BitVec.twoPow 32 y) := by
    rw [← et, Int32.toBitVec_not, BitVec.not_not]
  obtain ⟨a1, a2⟩ := xw_nn hx
  have e0 : (x &&& z).toBitVec &&& BitVec.twoPow 32 y = 0#32 := by
    rw [Int32.toBitVec_and, ez]
    apply BitVec.eq_of_getLsbD_eq
    intro i hi
    simp only [BitVec.getLsbD_and, BitVec.getLsbD_not, BitVec.getLsbD_zero]
    cases (BitVec.twoPow 32 y).getLsbD i <;> simp
  have e1 : (x &&& z).toBitVec + BitVec.twoPow 32 y = x.toBitVec := by
    rw [BitVec.add_eq_or_of_and_eq_zero _ _ e0, Int32.toBitVec_and, ez]
    apply BitVec.eq_of_getLsbD_eq
    intro i hi
    simp only [BitVec.getLsbD_or, BitVec.getLsbD_and, BitVec.getLsbD_not, BitVec.getLsbD_twoPow]
    by_cases q : y = i
    · subst q
      rw [hb]; simp; omega
    · simp [q, hi]
  have hle : (x &&& z).toBitVec.toNat ≤ x.toBitVec.toNat := by
    rw [Int32.toBitVec_and, BitVec.toNat_and]; exact Nat.and_le_left
  have e2 : (x &&& z).toBitVec.toNat + 2 ^ y = x.toBitVec.toNat := by
    have := congrArg BitVec.toNat e1
    rw [BitVec.toNat_add, BitVec.toNat_twoPow_of_lt (by omega)] at this
    have hp : 2 ^ y < 2 ^ 31 := (Nat.pow_lt_pow_iff_right (by decide)).mpr hy
    rw [Nat.mod_eq_of_lt (by omega)] at this
    exact this
  have e3 : ((2 ^ y : Nat) : Int) = (2 : Int) ^ y := by simp
  rw [xw_bn (n := (x &&& z).toBitVec.toNat) rfl (by omega), a1, ← e3]
  omega
theorem xw_sv_ok {ρ : Nat → Int} {n : Nat} {a : xw_L} {x : Int} {v : Nat} (h : xw_sv a = some v) (ha : xw_is ρ n a x) : x = ρ v ∧ v < n := by
  unfold xw_sv at h
  match e : a.2, h with
  | [], h => cases h
  | _ :: _ :: _, h => cases h
  | [t], h =>
    dsimp only at h
    obtain ⟨b, h⟩ := xv_bt h
    obtain ⟨b1, b2⟩ := xv_and_t b
    cases h
    have b1 := xw_ieq_iff.mp b1
    have b2 := xw_ieq_iff.mp b2
    have hw := ha.1
    have hv : a.1 + xw_evl ρ a.2 = x := ha.2
    rw [e] at hw hv
    have hv : a.1 + (t.2 * ρ t.1 + 0) = x := hv
    rw [b2] at hv
    exact ⟨by omega, hw.1⟩
theorem xw_cv_ok {ρ : Nat → Int} {n : Nat} {a : xw_L} {x : Int} {v : Nat} (h : xw_cv a = some v) (ha : xw_is ρ n a x) : x = -1 - ρ v ∧ v < n := by
  unfold xw_cv at h
  match e : a.2, h with
  | [], h => cases h
  | _ :: _ :: _, h => cases h
  | [t], h =>
    dsimp only at h
    obtain ⟨b, h⟩ := xv_bt h
    obtain ⟨b1, b2⟩ := xv_and_t b
    cases h
    have b1 := xw_ieq_iff.mp b1
    have b2 := xw_ieq_iff.mp b2
    have hw := ha.1
    have hv : a.1 + xw_evl ρ a.2 = x := ha.2
    rw [e] at hw hv
    have hv : a.1 + (t.2 * ρ t.1 + 0) = x := hv
    rw [b2] at hv
    exact ⟨by omega, hw.1⟩
theorem xw_Re.and2 {ρ : Nat → Int} {S : xw_S} {a b : xw_L} {x y : Int32} {k : xw_L → xw_S → Bool} (hS : xw_St ρ S) (h : xw_and2 S a b k = true) (ha : xw_is ρ S.2.1 a x.toInt) (hb : xw_is ρ S.2.1 b y.toInt) : xw_Re ρ S k (x &&& y).toInt := by
  unfold xw_and2 at h
  have a1 := xw_lo_ok hS.1 ha
  have a2 := xw_hi_ok hS.1 ha
  have b1 := xw_lo_ok hS.1 hb
  have b2 := xw_hi_ok hS.1 hb
  have hx : 0 ≤ x.toInt → 0 ≤ (x &&& y).toInt ∧ (x &&& y).toInt ≤ x.toInt := fun q => by rw [Int32.and_comm]; exact xv_and_ok y x q
  have hrk : ∀ (ρ' : Nat → Int) (n' v : Nat), xw_Up ρ S.2.1 ρ' n' → v < n' → ρ' v = (x &&& y).toInt → xw_Rk ρ' n' (4, v, a, b) := fun ρ' n' v hu hv hz => ⟨hv, x.toInt, y.toInt, ha.more hu, hb.more hu, fun w => (by cases w), fun w => (by cases w), fun w => (by cases w), fun w => (by cases w), fun _ => ⟨x, y, rfl, rfl, hz⟩, fun w => (by cases w)⟩
  cases h1 : xv_le 0 (xw_lo S.1 b) with
  | true =>
    have h1' := xv_le_iff.mp h1
    rw [h1] at h
    simp only [cond_true] at h
    have hy := xv_and_ok x y (by omega)
    cases h2 : xv_le 0 (xw_lo S.1 a) with
    | true =>
      have h2' := xv_le_iff.mp h2
      rw [h2] at h
      simp only [cond_true] at h
      have hx := hx (by omega)
      obtain ⟨-, -, m⟩ := xw_min_ok (xw_hi S.1 a) (xw_hi S.1 b)
      exact xw_Re.frr hS h hy.1 (by omega) hrk
    | false =>
      rw [h2] at h
      simp only [cond_false] at h
      exact xw_Re.frr hS h hy.1 (by omega) hrk
  | false =>
    rw [h1] at h
    simp only [cond_false] at h
    cases h2 : xv_le 0 (xw_lo S.1 a) with
    | true =>
      have h2' := xv_le_iff.mp h2
      rw [h2] at h
      simp only [cond_true] at h
      have hx := hx (by omega)
      exact xw_Re.frr hS h hx.1 (by omega) hrk
    | false => rw [h2] at h; exact xw_Re.top hS h (xw_r0 _).1 (xw_r0 _).2
theorem xw_Re.and {ρ : Nat → Int} {S : xw_S} {a b : xw_L} {x y : Int32} {k : xw_L → xw_S → Bool} (hS : xw_St ρ S) (h : xw_and S a b k = true) (ha : xw_is ρ S.2.1 a x.toInt) (hb : xw_is ρ S.2.1 b y.toInt) : xw_Re ρ S k (x &&& y).toInt := by
  unfold xw_and at h
  have a1 := xw_lo_ok hS.1 ha
  cases hc : xw_cv b with
  | some t =>
    rw [hc] at h
    dsimp only at h
    cases hq : (xv_le 0 (xw_lo S.1 a) && xw_bit S a t 1) with
    | false => rw [hq] at h; exact xw_Re.and2 hS h ha hb
    | true =>
      rw [hq] at h
      simp only [cond_true] at h
      obtain ⟨q1, q2⟩ := xv_and_t hq
      have q1 := xv_le_iff.mp q1
      obtain ⟨ht, p, p1, p2⟩ := xw_bit_ok hS q2 ha
      obtain ⟨ey, -⟩ := xw_cv_ok hc hb
      obtain ⟨r1, r2⟩ := xw_anbit (x := x) (z := y) (y := p) (by omega) (by rw [ey, p1]) p2
      have hl := ha.sub (xw_is.v (ρ := ρ) ht)
      rw [r1]
      rw [p1] at hl
      exact xw_Re.asm hS h hl r2 hl
  | none =>
    rw [hc] at h
    dsimp only at h
    cases hq : xw_eqL b (1, []) with
    | false => rw [hq] at h; exact xw_Re.and2 hS h ha hb
    | true =>
      rw [hq] at h
      simp only [cond_true] at h
      cases hs : xw_sv a with
      | none => rw [hs] at h; exact xw_Re.and2 hS h ha hb
      | some u =>
        rw [hs] at h
        dsimp only at h
        cases hr : xw_rec S.2.2.2.2.2.1 (fun q => Nat.beq q.1 1 && Nat.beq q.2.1 u) with
        | none => rw [hr] at h; exact xw_Re.and2 hS h ha hb
        | some q =>
          rw [hr] at h
          dsimp only at h
          obtain ⟨m1, m2⟩ := xw_rec_ok hr
          obtain ⟨m2, m3⟩ := xv_and_t m2
          obtain ⟨-, x', y', hx', hy', -, h1, -, -⟩ := hS.2.2.1 q m1
          obtain ⟨x0, y0, h1⟩ := h1 (xv_beq m2)
          rw [xv_beq m3] at h1
          obtain ⟨eu, -⟩ := xw_sv_ok hs ha
          have eb := xw_eqL_ok hq
          rw [eb] at hb
          have ey : y.toInt = 1 := (xw_is.c 1).one hb |>.symm
          have ey : y = 1 := by apply Int32.toInt_inj.mp; rw [ey]; decide
          subst ey
          have hxn : 0 ≤ x.toInt := by
            rw [eu, h1]
            exact Int.ediv_nonneg x0 (Int.le_of_lt (Int.pow_pos (by decide)))
          have ev : (x &&& 1).toInt = x.toInt % 2 := by
            obtain ⟨e1, l1⟩ := xw_nn hxn
            have e2 : (x &&& 1).toBitVec.toNat = x.toBitVec.toNat % 2 := by
              rw [Int32.toBitVec_and, BitVec.toNat_and, show (1 : Int32).toBitVec.toNat = 1 by decide, Nat.and_one_is_mod]
            rw [xw_bn e2 (by omega), e1]; simp
          rw [ev]
          refine xw_Re.frr hS h (by omega) (by omega) (fun ρ' n' v hu hv hz => ⟨hv, x', y', hx'.more hu, hy'.more hu, fun w => ?_, fun w => ?_, fun _ => ⟨x0, y0, ?_⟩, fun w => ?_, fun w => ?_, fun w => ?_⟩)
          · cases w
          · cases w
          · show ρ' v = _
            rw [hz, eu, h1]
          · cases w
          · cases w
          · cases w
theorem xw_Re.or2 {ρ : Nat → Int} {S : xw_S} {a b : xw_L} {x y : Int32} {k : xw_L → xw_S → Bool} (hS : xw_St ρ S) (h : xw_or2 S a b k = true) (ha : xw_is ρ S.2.1 a x.toInt) (hb : xw_is ρ S.2.1 b y.toInt) : xw_Re ρ S k (x ||| y).toInt := by
  unfold xw_or2 at h
  have a1 := xw_lo_ok hS.1 ha
  have a2 := xw_hi_ok hS.1 ha
  have b1 := xw_lo_ok hS.1 hb
  have b2 := xw_hi_ok hS.1 hb
  cases hq : (xv_le 0 (xw_lo S.1 a) && xv_le 0 (xw_lo S.1 b)) with
  | false => rw [hq] at h; exact xw_Re.top hS h (xw_r0 _).1 (xw_r0 _).2
  | true =>
    rw [hq] at h
    simp only [cond_true] at h
    obtain ⟨q1, q2⟩ := xv_and_t hq
    have q1 := xv_le_iff.mp q1
    have q2 := xv_le_iff.mp q2
    obtain ⟨m1, m2, -⟩ := xw_max_ok (xw_hi S.1 a) (xw_hi S.1 b)
    obtain ⟨v1, v2, v3⟩ := xw_or_val (x := x) (y := y) (by omega) (by omega) (m := xw_max (xw_hi S.1 a) (xw_hi S.1 b)) (by omega) (by omega)
    obtain ⟨-, -, m3⟩ := xw_max_ok (xw_lo S.1 a) (xw_lo S.1 b)
    exact xw_Re.frr hS h (by omega) v3 (fun ρ' n' v hu hv hz => ⟨hv, x.toInt, y.toInt, ha.more hu, hb.more hu, fun w => (by cases w), fun w => (by cases w), fun w => (by cases w), fun w => (by cases w), fun w => (by cases w), fun _ => ⟨x, y, rfl, rfl, hz⟩⟩)
theorem xw_Re.or {ρ : Nat → Int} {S : xw_S} {a b : xw_L} {x y : Int32} {k : xw_L → xw_S → Bool} (hS : xw_St ρ S) (h : xw_or S a b k = true) (ha : xw_is ρ S.2.1 a x.toInt) (hb : xw_is ρ S.2.1 b y.toInt) : xw_Re ρ S k (x ||| y).toInt := by
  unfold xw_or at h
  have a1 := xw_lo_ok hS.1 ha
  have a2 := xw_hi_ok hS.1 ha
  have b1 := xw_lo_ok hS.1 hb
  have b2 := xw_hi_ok hS.1 hb
  cases hs : xw_sv b with
  | none => rw [hs] at h; exact xw_Re.or2 hS h ha hb
  | some t =>
    rw [hs] at h
    dsimp only at h
    cases hq : (xv_le 0 (xw_lo S.1 a) && (xv_le 0 (xw_lo S.1 b) && xw_bit S a t 0)) with
    | false => rw [hq] at h; exact xw_Re.or2 hS h ha hb
    | true =>
      rw [hq] at h
      simp only [cond_true] at h
      obtain ⟨q1, q2⟩ := xv_and_t hq
      obtain ⟨q2, q3⟩ := xv_and_t q2
      have q1 := xv_le_iff.mp q1
      have q2 := xv_le_iff.mp q2
      obtain ⟨ht, p, p1, p2⟩ := xw_bit_ok hS q3 ha
      obtain ⟨ey, -⟩ := xw_sv_ok hs hb
      have r1 := xw_orbit (x := x) (t := y) (y := p) (by omega) (by rw [ey, p1]) p2
      obtain ⟨m1, m2, -⟩ := xw_max_ok (xw_hi S.1 a) (xw_hi S.1 b)
      obtain ⟨v1, v2, v3⟩ := xw_or_val (x := x) (y := y) (by omega) (by omega) (m := xw_max (xw_hi S.1 a) (xw_hi S.1 b)) (by omega) (by omega)
      have hl := ha.add hb
      rw [r1] at v3 ⊢
      exact xw_Re.asm hS h (hl.neg.k _) (by omega) hl
theorem xw_Re.xor {ρ : Nat → Int} {S : xw_S} {a b : xw_L} {x y : Int32} {k : xw_L → xw_S → Bool} (hS : xw_St ρ S) (h : xw_xor S a b k = true) (ha : xw_is ρ S.2.1 a x.toInt) (hb : xw_is ρ S.2.1 b y.toInt) : xw_Re ρ S k (x ^^^ y).toInt := by
  unfold xw_xor at h
  cases hq : xw_eqL b (-1, []) with
  | true =>
    rw [hq] at h
    simp only [cond_true] at h
    rw [xw_eqL_ok hq] at hb
    have ey : y.toInt = -1 := (xw_is.c (-1)).one hb |>.symm
    have ey : y = -1 := by apply Int32.toInt_inj.mp; rw [ey]; decide
    subst ey
    have en : x ^^^ (-1) = ~~~x := by
      apply Int32.toBitVec_inj.mp
      rw [Int32.toBitVec_xor, Int32.toBitVec_not, show (-1 : Int32).toBitVec = BitVec.allOnes 32 by decide, BitVec.xor_allOnes]
    have hx := xv_i32 x
    have ev : (x ^^^ (-1)).toInt = -x.toInt + -1 := by
      rw [en, Int32.toInt_not]
      have : -x.toInt - 1 = -x.toInt + -1 := by omega
      rw [this]
      exact Int.bmod_eq_of_le (by omega) (by omega)
    rw [ev]
    exact xw_Re.here hS h (ha.neg.k (-1))
  | false =>
    rw [hq] at h
    simp only [cond_false] at h
    have a1 := xw_lo_ok hS.1 ha
    have a2 := xw_hi_ok hS.1 ha
    have b1 := xw_lo_ok hS.1 hb
    have b2 := xw_hi_ok hS.1 hb
    cases hc : (xv_le 0 (xw_lo S.1 a) && xv_le 0 (xw_lo S.1 b)) with
    | false => rw [hc] at h; exact xw_Re.top hS h (xw_r0 _).1 (xw_r0 _).2
    | true =>
      rw [hc] at h
      obtain ⟨q1, q2⟩ := xv_and_t hc
      have q1 := xv_le_iff.mp q1
      have q2 := xv_le_iff.mp q2
      obtain ⟨m1, m2, -⟩ := xw_max_ok (xw_hi S.1 a) (xw_hi S.1 b)
      obtain ⟨v1, v2⟩ := xw_xor_val (x := x) (y := y) (by omega) (by omega) (m := xw_max (xw_hi S.1 a) (xw_hi S.1 b)) (by omega) (by omega)
      exact xw_Re.fr hS h v1 v2
theorem xw_pmono {a b : Int} {m n : Nat} (ha : 0 ≤ a) (h1 : a ≤ b) (h2 : m ≤ n) : a * 2 ^ m ≤ b * 2 ^ n := by
  have e : (2 : Int) ^ m ≤ 2 ^ n := by
    have := Nat.pow_le_pow_right (n := 2) (by decide) h2
    have h3 : ((2 ^ m : Nat) : Int) ≤ ((2 ^ n : Nat) : Int) := Int.ofNat_le.mpr this
    simpa using h3
  have p : (0 : Int) ≤ 2 ^ m := Int.le_of_lt (Int.pow_pos (by decide))
  exact Int.mul_le_mul h1 e p (by omega)
theorem xw_Re.shl {ρ : Nat → Int} {S : xw_S} {a b : xw_L} {x y : Int32} {k : xw_L → xw_S → Bool} (hS : xw_St ρ S) (h : xw_shl S a b k = true) (ha : xw_is ρ S.2.1 a x.toInt) (hb : xw_is ρ S.2.1 b y.toInt) : xw_Re ρ S k (x <<< (y &&& 31)).toInt := by
  unfold xw_shl at h
  have a1 := xw_lo_ok hS.1 ha
  have a2 := xw_hi_ok hS.1 ha
  have b1 := xw_lo_ok hS.1 hb
  have b2 := xw_hi_ok hS.1 hb
  cases hq : (xv_le 0 (xw_lo S.1 a) && (xv_le 0 (xw_lo S.1 b) && (xv_le (xw_hi S.1 b) 31 && xv_le (xw_hi S.1 a * 2 ^ (xw_hi S.1 b).toNat) 2147483647))) with
  | false => rw [hq] at h; exact xw_Re.top hS h (xw_r0 _).1 (xw_r0 _).2
  | true =>
    rw [hq] at h
    simp only [cond_true] at h
    obtain ⟨q1, q2⟩ := xv_and_t hq
    obtain ⟨q2, q3⟩ := xv_and_t q2
    obtain ⟨q3, q4⟩ := xv_and_t q3
    have q1 := xv_le_iff.mp q1
    have q2 := xv_le_iff.mp q2
    have q3 := xv_le_iff.mp q3
    have q4 := xv_le_iff.mp q4
    have u1 : xw_lo S.1 a * 2 ^ (xw_lo S.1 b).toNat ≤ x.toInt * 2 ^ y.toInt.toNat := xw_pmono q1 a1 (by omega)
    have u2 : x.toInt * 2 ^ y.toInt.toNat ≤ xw_hi S.1 a * 2 ^ (xw_hi S.1 b).toNat := xw_pmono (by omega) a2 (by omega)
    have ev := xw_shl_val (x := x) (y := y) (by omega) (by omega) (by omega) (by omega)
    rw [ev]
    cases hc : xw_eqL a (1, []) with
    | false => rw [hc] at h; exact xw_Re.fr hS h u1 u2
    | true =>
      rw [hc] at h
      simp only [cond_true] at h
      have ex : x.toInt = 1 := by
        have ha2 := ha
        rw [xw_eqL_ok hc] at ha2
        exact ((xw_is.c 1).one ha2).symm
      refine xw_Re.frr hS h u1 u2 (fun ρ' n' v hu hv hz => ⟨hv, y.toInt, y.toInt, hb.more hu, hb.more hu, fun _ => ⟨by omega, ?_⟩, fun w => (by cases w), fun w => (by cases w), fun w => (by cases w), fun w => (by cases w), fun w => (by cases w)⟩)
      · show ρ' v = _
        rw [hz, ex, Int.one_mul]
theorem xw_divle {x : Int} {n : Nat} (h : 0 ≤ x) : 0 ≤ x / 2 ^ n ∧ x / 2 ^ n ≤ x := by
  have p : (0 : Int) < 2 ^ n := Int.pow_pos (by decide)
  refine ⟨Int.ediv_nonneg h (Int.le_of_lt p), ?_⟩
  exact Int.ediv_le_self _ h
theorem xw_Re.shr {ρ : Nat → Int} {S : xw_S} {a b : xw_L} {x y : Int32} {k : xw_L → xw_S → Bool} (hS : xw_St ρ S) (h : xw_shr S a b k = true) (ha : xw_is ρ S.2.1 a x.toInt) (hb : xw_is ρ S.2.1 b y.toInt) : xw_Re ρ S k (x >>> (y &&& 31)).toInt := by
  unfold xw_shr at h
  have a1 := xw_lo_ok hS.1 ha
  have a2 := xw_hi_ok hS.1 ha
  have b1 := xw_lo_ok hS.1 hb
  have b2 := xw_hi_ok hS.1 hb
  cases hq : (xv_le 0 (xw_lo S.1 a) && (xv_le 0 (xw_lo S.1 b) && xv_le (xw_hi S.1 b) 31)) with
  | false => rw [hq] at h; exact xw_Re.top hS h (xw_r0 _).1 (xw_r0 _).2
  | true =>
    rw [hq] at h
    simp only [cond_true] at h
    obtain ⟨q1, q2⟩ := xv_and_t hq
    obtain ⟨q2, q3⟩ := xv_and_t q2
    have q1 := xv_le_iff.mp q1
    have q2 := xv_le_iff.mp q2
    have q3 := xv_le_iff.mp q3
    rw [xw_shr_val (by omega) (by omega) (by omega)]
    have hd := xw_divle (x := x.toInt) (n := y.toInt.toNat) (by omega)
    exact xw_Re.frr hS h hd.1 (by omega) (fun ρ' n' v hu hv hz => ⟨hv, x.toInt, y.toInt, ha.more hu, hb.more hu, fun w => (by cases w), fun _ => ⟨by omega, by omega, hz⟩, fun w => (by cases w), fun w => (by cases w), fun w => (by cases w), fun w => (by cases w)⟩)
theorem xw_Re.ushr {ρ : Nat → Int} {S : xw_S} {a : xw_L} {x y : Int32} {k : xw_L → xw_S → Bool} (hS : xw_St ρ S) (h : xw_ushr S a k = true) (ha : xw_is ρ S.2.1 a x.toInt) : xw_Re ρ S k ((x.toUInt32 >>> (y.toUInt32 &&& Int32.toUInt32 31)).toInt32).toInt := by
  unfold xw_ushr at h
  have a1 := xw_lo_ok hS.1 ha
  have a2 := xw_hi_ok hS.1 ha
  cases hq : xv_le 0 (xw_lo S.1 a) with
  | false => rw [hq] at h; exact xw_Re.top hS h (xw_r0 _).1 (xw_r0 _).2
  | true =>
    rw [hq] at h
    have q := xv_le_iff.mp hq
    obtain ⟨e1, l1⟩ := xw_nn (x := x) (by omega)
    have e2 := pk_ushr x y _ rfl
    have hle : x.toBitVec.toNat / 2 ^ ((y.toUInt32 &&& Int32.toUInt32 31).toBitVec % 32).toNat ≤ x.toBitVec.toNat := Nat.div_le_self _ _
    have e3 := xw_bn e2 (by omega)
    refine xw_Re.fr hS h ?_ ?_
    · rw [e3]; omega
    · rw [e3]; omega
theorem xw_nz_ok {ρ : Nat → Int} {S : xw_S} {b : xw_L} {y : Int} (hS : xw_St ρ S) (h : xw_nz S b = true) (hb : xw_is ρ S.2.1 b y) : y ≠ 0 := by
  rcases (Bool.or_eq_true _ _).mp h with q | q
  · have := xw_prove_ok hS q (hb.k _); omega
  · have := xw_prove_ok hS q (hb.neg.k _); omega
theorem xw_Re.div {kd : Nat} {ρ : Nat → Int} {S : xw_S} {a b : xw_L} {x y z : Int} {k : xw_L → xw_S → Bool} (hS : xw_St ρ S) (h : xw_div kd S a b k = true) (ha : xw_is ρ S.2.1 a x) (hb : xw_is ρ S.2.1 b y) (he : 0 ≤ x → 1 ≤ y → 0 ≤ z ∧ z ≤ x) (h1 : xw_L0 kd ≤ z) (h2 : z ≤ xw_H0 kd) : y ≠ 0 ∧ xw_Re ρ S k z := by
  obtain ⟨g1, h⟩ := xv_and_t h
  refine ⟨xw_nz_ok hS g1 hb, ?_⟩
  cases hq : (xw_prove S a && xw_prove S (xw_k b (-1))) with
  | false => rw [hq] at h; exact xw_Re.top hS h h1 h2
  | true =>
    rw [hq] at h
    obtain ⟨q1, q2⟩ := xv_and_t hq
    have q1 := xw_prove_ok hS q1 ha
    have q2 := xw_prove_ok hS q2 (hb.k _)
    obtain ⟨e1, e2⟩ := he q1 (by omega)
    have a2 := xw_hi_ok hS.1 ha
    obtain ⟨-, m, -⟩ := xw_max_ok 0 (xw_hi S.1 a)
    exact xw_Re.fr hS h e1 (by omega)
theorem xw_Re.rem {kd : Nat} {ρ : Nat → Int} {S : xw_S} {a b : xw_L} {x y z : Int} {k : xw_L → xw_S → Bool} (hS : xw_St ρ S) (h : xw_rem kd S a b k = true) (ha : xw_is ρ S.2.1 a x) (hb : xw_is ρ S.2.1 b y) (he : 0 ≤ x → 1 ≤ y → 0 ≤ z ∧ z ≤ x ∧ z ≤ y - 1 ∧ (y ≤ x → z ≤ (x - 1) / 2)) (h1 : xw_L0 kd ≤ z) (h2 : z ≤ xw_H0 kd) : y ≠ 0 ∧ xw_Re ρ S k z := by
  obtain ⟨g1, h⟩ := xv_and_t h
  refine ⟨xw_nz_ok hS g1 hb, ?_⟩
  cases hq : (xw_prove S a && xw_prove S (xw_k b (-1))) with
  | false => rw [hq] at h; exact xw_Re.top hS h h1 h2
  | true =>
    rw [hq] at h
    simp only [cond_true] at h
    obtain ⟨q1, q2⟩ := xv_and_t hq
    have q1 := xw_prove_ok hS q1 ha
    have q2 := xw_prove_ok hS q2 (hb.k _)
    obtain ⟨e1, e2, e3, e4⟩ := he q1 (by omega)
    have a2 := xw_hi_ok hS.1 ha
    have b2 := xw_hi_ok hS.1 hb
    have hub : z ≤ (bif xw_prove S (xw_sub a b) then xw_min (xw_min (xw_hi S.1 a) (xw_hi S.1 b - 1)) ((xw_hi S.1 a - 1) / 2) else xw_min (xw_hi S.1 a) (xw_hi S.1 b - 1)) := by
      obtain ⟨-, -, m⟩ := xw_min_ok (xw_hi S.1 a) (xw_hi S.1 b - 1)
      cases hp : xw_prove S (xw_sub a b) with
      | false => simp only [cond_false]; omega
      | true =>
        have := xw_prove_ok hS hp (ha.sub hb)
        have e4 := e4 (by omega)
        obtain ⟨-, -, m2⟩ := xw_min_ok (xw_min (xw_hi S.1 a) (xw_hi S.1 b - 1)) ((xw_hi S.1 a - 1) / 2)
        simp only [cond_true]
        omega
    obtain ⟨ρ', l, S', hk, hu, hS', hl, e, -⟩ := xw_fr_ok hS h e1 hub
    match hb2 : b.2, hk with
    | [], hk => exact ⟨ρ', l, S', hk, hu, hS', hl, by rw [e], by rw [e], by rw [e]⟩
    | _ :: _, hk =>
      obtain ⟨S'', g1, g2, g3, g4⟩ := xw_asm_ok hS' hk (((hb.more hu).sub hl).k (-1)) (by omega)
      exact ⟨ρ', l, S'', g1, by rw [g3]; exact hu, g2, by rw [g3]; exact hl, by rw [g4, e], by rw [g4, e], by rw [g4, e]⟩
/-! conditions -/
def xw_rl (c : ClassFile.Cond) (d : Int) : Prop := match c with
  | .eq => d = 0
  | .ne => d ≠ 0
  | .lt => d < 0
  | .ge => 0 ≤ d
  | .gt => 0 < d
  | .le => d ≤ 0
/-- k goes on, and only facts are more -/
def xw_Ra (ρ : Nat → Int) (S : xw_S) (k : xw_S → Bool) : Prop := ∃ S', k S' = true ∧ xw_St ρ S' ∧ S'.2.1 = S.2.1 ∧ S'.2.2.2 = S.2.2.2
theorem xw_Ra.asm2 {ρ : Nat → Int} {S : xw_S} {g g2 : xw_L} {z z2 : Int} {k : xw_S → Bool} (hS : xw_St ρ S) (h : xw_asm S g (fun S' => xw_asm S' g2 k) = true) (hg : xw_is ρ S.2.1 g z) (hz : 0 ≤ z) (hg2 : xw_is ρ S.2.1 g2 z2) (hz2 : 0 ≤ z2) : xw_Ra ρ S k := by
  obtain ⟨S1, h1, h2, h3, h4⟩ := xw_asm_ok hS h hg hz
  obtain ⟨S2, g1, g2', g3, g4⟩ := xw_asm_ok h2 h1 (by rw [h3]; exact hg2) hz2
  exact ⟨S2, g1, g2', by rw [g3, h3], by rw [g4, h4]⟩
theorem xw_Ra.eqs {ρ : Nat → Int} {S : xw_S} {d : xw_L} {z : Int} {k : xw_S → Bool} (hS : xw_St ρ S) (h : xw_eqs S d k = true) (hd : xw_is ρ S.2.1 d z) (hz : z = 0) : xw_Ra ρ S k := xw_Ra.asm2 hS h hd (by omega) hd.neg (by omega)
theorem xw_Ra.nes {sp : Bool} {ρ : Nat → Int} {S : xw_S} {d : xw_L} {z : Int} {k : xw_S → Bool} (hS : xw_St ρ S) (h : xw_nes sp S d k = true) (hd : xw_is ρ S.2.1 d z) (hz : z ≠ 0) : xw_Ra ρ S k := by
  unfold xw_nes at h
  cases h1 : xw_prove S d with
  | true =>
    rw [h1] at h
    have := xw_prove_ok hS h1 hd
    exact xw_asm_ok hS h (hd.k _) (by omega)
  | false =>
    rw [h1] at h
    simp only [cond_false] at h
    cases h2 : xw_prove S (xw_neg d) with
    | true =>
      rw [h2] at h
      have := xw_prove_ok hS h2 hd.neg
      exact xw_asm_ok hS h (hd.neg.k _) (by omega)
    | false =>
      rw [h2] at h
      simp only [cond_false] at h
      cases sp with
      | false => exact ⟨S, h, hS, rfl, rfl⟩
      | true =>
        obtain ⟨k1, k2⟩ := xv_and_t h
        rcases Int.lt_or_gt_of_ne hz with q | q
        · exact xw_asm_ok hS k2 (hd.neg.k _) (by omega)
        · exact xw_asm_ok hS k1 (hd.k _) (by omega)
theorem xw_br_ok {c : ClassFile.Cond} {sp : Bool} {ρ : Nat → Int} {S : xw_S} {d : xw_L} {z : Int} {kt kf : xw_S → Bool} (hS : xw_St ρ S) (h : xw_br c sp S d kt kf = true) (hd : xw_is ρ S.2.1 d z) : (xw_rl c z → xw_Ra ρ S kt) ∧ (¬ xw_rl c z → xw_Ra ρ S kf) := by
  unfold xw_br at h
  cases c with
  | eq =>
    obtain ⟨h1, h2⟩ := xv_and_t h
    exact ⟨fun q => xw_Ra.eqs hS h1 hd q, fun q => xw_Ra.nes hS h2 hd q⟩
  | ne =>
    obtain ⟨h1, h2⟩ := xv_and_t h
    exact ⟨fun q => xw_Ra.nes hS h1 hd q, fun q => xw_Ra.eqs hS h2 hd (Classical.not_not.mp q)⟩
  | lt =>
    obtain ⟨h1, h2⟩ := xv_and_t h
    exact ⟨fun q => xw_asm_ok hS h1 (hd.neg.k _) (by have q : z < 0 := q; omega), fun q => xw_asm_ok hS h2 hd (by have q : ¬ z < 0 := q; omega)⟩
  | ge =>
    obtain ⟨h1, h2⟩ := xv_and_t h
    exact ⟨fun q => xw_asm_ok hS h1 hd q, fun q => xw_asm_ok hS h2 (hd.neg.k _) (by have q : ¬ 0 ≤ z := q; omega)⟩
  | gt =>
    obtain ⟨h1, h2⟩ := xv_and_t h
    exact ⟨fun q => xw_asm_ok hS h1 (hd.k _) (by have q : 0 < z := q; omega), fun q => xw_asm_ok hS h2 hd.neg (by have q : ¬ 0 < z := q; omega)⟩
  | le =>
    obtain ⟨h1, h2⟩ := xv_and_t h
    exact ⟨fun q => xw_asm_ok hS h1 hd.neg (by have q : z ≤ 0 := q; omega), fun q => xw_asm_ok hS h2 (hd.k _) (by have q : ¬ z ≤ 0 := q; omega)⟩
end
section
/-! templates: what they say -/
def xw_n0 (x : Value) : Int := (xw_num x).getD 0
def xw_ixz (lz : Nat → Int) (c : Int) : List (Nat × Int) → Int
  | [] => c
  | t :: l => xw_ixz lz c l + t.2 * lz t.1
def xw_nmz (lz gz : Nat → Int) (μ : Nat → Nat → Value) (q : xw_Nm) : Int := match q.1 with
  | 0 => lz q.2.1
  | 1 => xw_n0 (μ q.2.1 (xw_ixz lz q.2.2.1 q.2.2.2).toNat)
  | _ => gz q.2.1
def xw_tz (lz gz : Nat → Int) (μ : Nat → Nat → Value) : List (Int × xw_Nm) → Int
  | [] => 0
  | q :: l => q.1 * xw_nmz lz gz μ q.2 + xw_tz lz gz μ l
def xw_ttz (lz gz : Nat → Int) (μ : Nat → Nat → Value) (t : xw_T) : Int := t.1 + xw_tz lz gz μ t.2
def xw_Lz (ρ : Nat → Int) (n : Nat) (L : List xw_V) (lz : Nat → Int) : Prop := ∀ i l, xw_lv L i = some l → xw_is ρ n l (lz i)
def xw_Gz (ρ : Nat → Int) (n : Nat) (gh : List xw_L) (gz : Nat → Int) : Prop := ∀ i l, xv_nth gh i = some l → xw_is ρ n l (gz i)
theorem xw_Lz.more {ρ ρ' : Nat → Int} {n n' : Nat} {L : List xw_V} {lz : Nat → Int} (hu : xw_Up ρ n ρ' n') (h : xw_Lz ρ n L lz) : xw_Lz ρ' n' L lz := fun i l hi => (h i l hi).more hu
theorem xw_Gz.more {ρ ρ' : Nat → Int} {n n' : Nat} {gh : List xw_L} {gz : Nat → Int} (hu : xw_Up ρ n ρ' n') (h : xw_Gz ρ n gh gz) : xw_Gz ρ' n' gh gz := fun i l hi => (h i l hi).more hu
theorem xw_ix_ok {ρ : Nat → Int} {n : Nat} {L : List xw_V} {lz : Nat → Int} (hL : xw_Lz ρ n L lz) (c : Int) : ∀ {ts : List (Nat × Int)} {a : xw_L}, xw_ix L c ts = some a → xw_is ρ n a (xw_ixz lz c ts)
  | [], a, h => by cases h; exact xw_is.c c
  | t :: ts, a, h => by
    have h : (match xw_ix L c ts with
      | none => none
      | some a => match xw_lv L t.1 with
        | none => none
        | some l => some (xw_add a (xw_scl t.2 l))) = some a := h
    cases h1 : xw_ix L c ts with
    | none => rw [h1] at h; cases h
    | some b =>
      rw [h1] at h
      dsimp only at h
      cases h2 : xw_lv L t.1 with
      | none => rw [h2] at h; cases h
      | some l =>
        rw [h2] at h
        cases h
        exact (xw_ix_ok hL c h1).add ((hL _ _ h2).scl t.2)
/-- k goes on; the cells are as they were -/
def xw_Rt (X : xw_X) (as : List Nat) (μ : Nat → Nat → Value) (ρ : Nat → Int) (S : xw_S) (k : (Nat → Int) → xw_S → Prop) : Prop := ∃ ρ' S', k ρ' S' ∧ xw_Up ρ S.2.1 ρ' S'.2.1 ∧ xw_St ρ' S' ∧ xw_Me X as μ ρ' S' ∧ S'.2.2.2.2.2.2 = S.2.2.2.2.2.2
theorem xw_Rt.tr {X : xw_X} {as : List Nat} {μ : Nat → Nat → Value} {ρ ρ' : Nat → Int} {S S' : xw_S} {k : (Nat → Int) → xw_S → Prop} (hu : xw_Up ρ S.2.1 ρ' S'.2.1) (e : S'.2.2.2.2.2.2 = S.2.2.2.2.2.2) (h : xw_Rt X as μ ρ' S' k) : xw_Rt X as μ ρ S k := by
  obtain ⟨ρ2, S2, h1, h2, h3, h4, h5⟩ := h
  exact ⟨ρ2, S2, h1, hu.tr h2, h3, h4, h5.trans e⟩
section XWT
variable {hl : Nat × Int} {Γ : xv_A} {t : Nat → ClassId} {X : xw_X} {μ : Nat → Nat → Value} {ws : va_W}
theorem xw_tev_ok {gh : List xw_L} {L : List xw_V} {lz gz : Nat → Int} (hW : xw_Wd hl Γ t X μ ws) : ∀ {ts : List (Int × xw_Nm)} {acc : xw_L} {S : xw_S} {ρ : Nat → Int} {z : Int} {k : xw_L → xw_S → Bool}, xw_tev hl Γ gh L ts acc S k = true → xw_St ρ S → xw_Me X (ws.map Prod.fst) μ ρ S → xw_Lz ρ S.2.1 L lz → xw_Gz ρ S.2.1 gh gz → xw_is ρ S.2.1 acc z → xw_Rt X (ws.map Prod.fst) μ ρ S (fun ρ' S' => ∃ l, k l S' = true ∧ xw_is ρ' S'.2.1 l (z + xw_tz lz gz μ ts))
  | [], acc, S, ρ, z, k, h, hS, hM, hL, hG, ha => ⟨ρ, S, ⟨acc, h, by show xw_is _ _ _ (z + 0); rw [Int.add_zero]; exact ha⟩, xw_Up.rf, hS, hM, rfl⟩
  | q :: ts, acc, S, ρ, z, k, h, hS, hM, hL, hG, ha => by
    have h : (match q.2.1 with
      | 0 => (match xw_lv L q.2.2.1 with
        | some l => xw_tev hl Γ gh L ts (xw_add acc (xw_scl q.1 l)) S k
        | none => false)
      | 1 => (match xw_ix L q.2.2.2.1 q.2.2.2.2 with
        | some i => xw_rd hl Γ S q.2.2.1 i (fun v S' => bif Nat.ble v.1 1 then xw_tev hl Γ gh L ts (xw_add acc (xw_scl q.1 v.2)) S' k else false)
        | none => false)
      | _ => (match xv_nth gh q.2.2.1 with
        | some l => xw_tev hl Γ gh L ts (xw_add acc (xw_scl q.1 l)) S k
        | none => false)) = true := h
    have fin : ∀ {ρ' : Nat → Int} {S' : xw_S} {l : xw_L} {y : Int}, y = xw_nmz lz gz μ q.2 → xw_Up ρ S.2.1 ρ' S'.2.1 → xw_St ρ' S' → xw_Me X (ws.map Prod.fst) μ ρ' S' → xw_is ρ' S'.2.1 l y → S'.2.2.2.2.2.2 = S.2.2.2.2.2.2 → xw_tev hl Γ gh L ts (xw_add acc (xw_scl q.1 l)) S' k = true → xw_Rt X (ws.map Prod.fst) μ ρ S (fun ρ' S' => ∃ l, k l S' = true ∧ xw_is ρ' S'.2.1 l (z + xw_tz lz gz μ (q :: ts))) := by
      intro ρ' S' l y ey hu hS' hM' hl' e hk
      have := xw_tev_ok hW hk hS' hM' (hL.more hu) (hG.more hu) ((ha.more hu).add (hl'.scl q.1))
      rw [ey, show z + q.1 * xw_nmz lz gz μ q.2 + xw_tz lz gz μ ts = z + xw_tz lz gz μ (q :: ts) by show _ = z + (q.1 * xw_nmz lz gz μ q.2 + xw_tz lz gz μ ts); omega] at this
      exact xw_Rt.tr hu e this
    match hq : q.2.1, h with
    | 0, h =>
      cases h1 : xw_lv L q.2.2.1 with
      | none => rw [h1] at h; cases h
      | some l =>
        rw [h1] at h
        refine fin (y := lz q.2.2.1) ?_ xw_Up.rf hS hM (hL _ _ h1) rfl h
        unfold xw_nmz; rw [hq]; rfl
    | 1, h =>
      cases h1 : xw_ix L q.2.2.2.1 q.2.2.2.2 with
      | none => rw [h1] at h; cases h
      | some i =>
        rw [h1] at h
        dsimp only at h
        obtain ⟨z0, -, ρ', v, S', hk, hu, hS', hM', hv, e, -⟩ := xw_rd_ok hW hS hM h (xw_ix_ok hL _ h1)
        cases hb : Nat.ble v.1 1 with
        | false => rw [hb] at hk; cases hk
        | true =>
          rw [hb] at hk
          obtain ⟨y, ey, hy⟩ := hv.num (xv_ble hb)
          refine fin (y := y) ?_ hu hS' hM' hy e hk
          unfold xw_nmz; rw [hq]
          show y = (xw_num (μ q.2.2.1 (xw_ixz lz q.2.2.2.1 q.2.2.2.2).toNat)).getD 0
          rw [ey]; rfl
    | j + 2, h =>
      cases h1 : xv_nth gh q.2.2.1 with
      | none => rw [h1] at h; cases h
      | some l =>
        rw [h1] at h
        refine fin (y := gz q.2.2.1) ?_ xw_Up.rf hS hM (hG _ _ h1) rfl h
        unfold xw_nmz; rw [hq]; rfl
theorem xw_tv_ok {gh : List xw_L} {L : List xw_V} {lz gz : Nat → Int} (hW : xw_Wd hl Γ t X μ ws) {T : xw_T} {S : xw_S} {ρ : Nat → Int} {k : xw_L → xw_S → Bool} (h : xw_tv hl Γ gh L T S k = true) (hS : xw_St ρ S) (hM : xw_Me X (ws.map Prod.fst) μ ρ S) (hL : xw_Lz ρ S.2.1 L lz) (hG : xw_Gz ρ S.2.1 gh gz) : xw_Rt X (ws.map Prod.fst) μ ρ S (fun ρ' S' => ∃ l, k l S' = true ∧ xw_is ρ' S'.2.1 l (xw_ttz lz gz μ T)) :=
  xw_tev_ok hW h hS hM hL hG (xw_is.c T.1)
theorem xw_tpr_ok {gh : List xw_L} {L : List xw_V} {lz gz : Nat → Int} (hW : xw_Wd hl Γ t X μ ws) : ∀ {ts : List xw_T} {S : xw_S} {ρ : Nat → Int} {k : xw_S → Bool}, xw_tpr hl Γ gh L ts S k = true → xw_St ρ S → xw_Me X (ws.map Prod.fst) μ ρ S → xw_Lz ρ S.2.1 L lz → xw_Gz ρ S.2.1 gh gz → (∀ T ∈ ts, 0 ≤ xw_ttz lz gz μ T) ∧ xw_Rt X (ws.map Prod.fst) μ ρ S (fun _ S' => k S' = true)
  | [], S, ρ, k, h, hS, hM, hL, hG => ⟨fun _ h => (by cases h), ρ, S, h, xw_Up.rf, hS, hM, rfl⟩
  | T :: ts, S, ρ, k, h, hS, hM, hL, hG => by
    have h : xw_tv hl Γ gh L T S (fun l S' => xw_prove S' l && xw_tpr hl Γ gh L ts S' k) = true := h
    obtain ⟨ρ', S', ⟨l, hk, hl'⟩, hu, hS', hM', e⟩ := xw_tv_ok hW h hS hM hL hG
    obtain ⟨h1, h2⟩ := xv_and_t hk
    have p := xw_prove_ok hS' h1 hl'
    obtain ⟨g1, g2⟩ := xw_tpr_ok hW h2 hS' hM' (hL.more hu) (hG.more hu)
    refine ⟨fun T' hT => ?_, xw_Rt.tr hu e g2⟩
    rcases List.mem_cons.mp hT with q | q
    · rw [q]; exact p
    · exact g1 T' q
theorem xw_tas_ok {gh : List xw_L} {L : List xw_V} {lz gz : Nat → Int} (hW : xw_Wd hl Γ t X μ ws) : ∀ {ts : List xw_T} {S : xw_S} {ρ : Nat → Int} {k : xw_S → Bool}, xw_tas hl Γ gh L ts S k = true → xw_St ρ S → xw_Me X (ws.map Prod.fst) μ ρ S → xw_Lz ρ S.2.1 L lz → xw_Gz ρ S.2.1 gh gz → (∀ T ∈ ts, 0 ≤ xw_ttz lz gz μ T) → xw_Rt X (ws.map Prod.fst) μ ρ S (fun _ S' => k S' = true)
  | [], S, ρ, k, h, hS, hM, hL, hG, _ => ⟨ρ, S, h, xw_Up.rf, hS, hM, rfl⟩
  | T :: ts, S, ρ, k, h, hS, hM, hL, hG, hT => by
    have h : xw_tv hl Γ gh L T S (fun l S' => xw_asm S' l (fun S'' => xw_tas hl Γ gh L ts S'' k)) = true := h
    obtain ⟨ρ', S', ⟨l, hk, hl'⟩, hu, hS', hM', e⟩ := xw_tv_ok hW h hS hM hL hG
    obtain ⟨S2, h1, h2, h3, h4⟩ := xw_asm_ok hS' hk hl' (hT T List.mem_cons_self)
    have hu2 : xw_Up ρ S.2.1 ρ' S2.2.1 := by rw [h3]; exact hu
    have hM2 : xw_Me X (ws.map Prod.fst) μ ρ' S2 := xw_OK.up hM' (by rw [h3]; exact xw_Up.rf) h4
    exact xw_Rt.tr hu2 (by rw [h4]; exact e) (xw_tas_ok hW h1 h2 hM2 (hL.more hu2) (hG.more hu2) (fun T' q => hT T' (List.mem_cons_of_mem _ q)))
/-- ghosts: the forms of what they are now -/
theorem xw_tgs_ok {L : List xw_V} {lz : Nat → Int} (hW : xw_Wd hl Γ t X μ ws) : ∀ {ts : List xw_T} {acc : List xw_L} {ps : List Int} {S : xw_S} {ρ : Nat → Int} {k : List xw_L → xw_S → Bool}, xw_tgs hl Γ L ts acc S k = true → xw_St ρ S → xw_Me X (ws.map Prod.fst) μ ρ S → xw_Lz ρ S.2.1 L lz → acc.length = ps.length → xw_Gz ρ S.2.1 acc (fun i => ps.getD i 0) → xw_Rt X (ws.map Prod.fst) μ ρ S (fun ρ' S' => ∃ gs, k gs S' = true ∧ xw_Gz ρ' S'.2.1 gs (fun i => (ps ++ ts.map (xw_ttz lz (fun _ => 0) μ)).getD i 0))
  | [], acc, ps, S, ρ, k, h, hS, hM, hL, hlen, hG => ⟨ρ, S, ⟨acc, h, by rw [List.map_nil, List.append_nil]; exact hG⟩, xw_Up.rf, hS, hM, rfl⟩
  | T :: ts, acc, ps, S, ρ, k, h, hS, hM, hL, hlen, hG => by
    have h : xw_tv hl Γ [] L T S (fun l S' => xw_tgs hl Γ L ts (acc ++ [l]) S' k) = true := h
    obtain ⟨ρ', S', ⟨l, hk, hl'⟩, hu, hS', hM', e⟩ := xw_tv_ok (gz := fun _ => 0) hW h hS hM hL (fun i l hi => by rw [xv_nth_eq] at hi; simp at hi)
    have := xw_tgs_ok (ps := ps ++ [xw_ttz lz (fun _ => 0) μ T]) hW hk hS' hM' (hL.more hu) (by rw [List.length_append, List.length_append, hlen]; rfl) (fun i a hi => by
      rw [xv_nth_eq] at hi
      rcases Nat.lt_or_ge i acc.length with q | q
      · rw [List.getElem?_append_left q] at hi
        have hh := (hG i a (by rw [xv_nth_eq]; exact hi)).more hu
        have e : (ps ++ [xw_ttz lz (fun _ => 0) μ T]).getD i 0 = ps.getD i 0 := by
          rw [List.getD_eq_getElem?_getD, List.getD_eq_getElem?_getD, List.getElem?_append_left (by omega)]
        dsimp only
        rw [e]; exact hh
      · rw [List.getElem?_append_right q] at hi
        match hj : i - acc.length, hi with
        | 0, hi =>
          cases hi
          have e : (ps ++ [xw_ttz lz (fun _ => 0) μ T]).getD i 0 = xw_ttz lz (fun _ => 0) μ T := by
            rw [List.getD_eq_getElem?_getD, List.getElem?_append_right (by omega), show i - ps.length = 0 by omega]; rfl
          dsimp only
          rw [e]; exact hl'
        | j + 1, hi => simp at hi)
    refine xw_Rt.tr hu e ?_
    rw [List.append_assoc] at this
    exact this
end XWT
end
section
/-! where a run stands; heads -/
def xw_lm (X : xw_X) (as : List Nat) (ρ : Nat → Int) (n : Nat) (L : List xw_V) (lvs : List (Nat × Value)) : Prop := ∀ i v, L[i]? = some v → v.1 ≤ 7 → ∃ x, (i, x) ∈ lvs ∧ xw_hv X as ρ n v x
theorem xw_lm.more {X : xw_X} {as : List Nat} {ρ ρ' : Nat → Int} {n n' : Nat} {L : List xw_V} {lvs : List (Nat × Value)} (hu : xw_Up ρ n ρ' n') (h : xw_lm X as ρ n L lvs) : xw_lm X as ρ' n' L lvs := fun i v hi hk => by
  obtain ⟨x, h1, h2⟩ := h i v hi hk
  exact ⟨x, h1, h2.more hu⟩
def xw_sk (X : xw_X) (as : List Nat) (ρ : Nat → Int) (n : Nat) : List xw_V → List Value → Prop
  | [], [] => True
  | v :: st, x :: vst => xw_hv X as ρ n v x ∧ xw_sk X as ρ n st vst
  | _, _ => False
theorem xw_sk.more {X : xw_X} {as : List Nat} {ρ ρ' : Nat → Int} {n n' : Nat} (hu : xw_Up ρ n ρ' n') : ∀ {st : List xw_V} {vst : List Value}, xw_sk X as ρ n st vst → xw_sk X as ρ' n' st vst
  | [], [], _ => True.intro
  | [], _ :: _, h => False.elim h
  | _ :: _, [], h => False.elim h
  | _ :: _, _ :: _, h => ⟨h.1.more hu, xw_sk.more hu h.2⟩
theorem xw_sk.un {X : xw_X} {as : List Nat} {ρ : Nat → Int} {n : Nat} {v : xw_V} {st : List xw_V} {vst : List Value} (h : xw_sk X as ρ n (v :: st) vst) : ∃ x xs, vst = x :: xs ∧ xw_hv X as ρ n v x ∧ xw_sk X as ρ n st xs := by
  match vst, h with
  | [], h => exact False.elim h
  | x :: xs, h => exact ⟨x, xs, rfl, h.1, h.2⟩
theorem xw_sk.nil {X : xw_X} {as : List Nat} {ρ : Nat → Int} {n : Nat} {vst : List Value} (h : xw_sk X as ρ n [] vst) : vst = [] := by
  match vst, h with
  | [], _ => rfl
  | _ :: _, h => exact False.elim h
def xw_mu (xs : Nat → Int32) (ws : va_W) : Nat → Nat → Value := fun r i => if r = 9999 then .int (xs i) else xw_ct ws r i
/-- the world, with what was written since ws0 -/
def xw_Wl (D : va_G) (t : Nat → ClassId) (A : Nat → Prop) (H0 : Heap) (hl : Nat × Int) (Γ : xv_A) (X : xw_X) (xs : Nat → Int32) (ws0 : va_W) (dt : xw_D) (H : Heap) (locs : List Loc) (ws : va_W) : Prop :=
  va_P D vwCl ws H ∧ va_D A ws ∧ va_S A H0 H locs ∧ xw_Wd hl Γ t X (xw_mu xs ws) ws ∧ xw_Dt dt (xw_mu xs ws0) (xw_mu xs ws) ∧ xw_Dc dt ws0 ws ∧ ws.map Prod.fst = ws0.map Prod.fst
def xw_Rl (D : va_G) (t : Nat → ClassId) (A : Nat → Prop) (H0 : Heap) (hl : Nat × Int) (Γ : xv_A) (X : xw_X) (xs : Nat → Int32) (ws0 : va_W) (nL : Nat) (ρ : Nat → Int) (L st : List xw_V) (S : xw_S) (ls : Array Slot) (vst : List Value) (H : Heap) (locs : List Loc) (ws : va_W) : Prop :=
  (L.length = nL ∧ ∃ lvs, lv_has ls nL lvs ∧ xw_lm X (ws.map Prod.fst) ρ S.2.1 L lvs) ∧ xw_sk X (ws.map Prod.fst) ρ S.2.1 st vst ∧ xw_Wl D t A H0 hl Γ X xs ws0 S.2.2.2.2.2.2 H locs ws ∧ xw_St ρ S ∧ xw_Me X (ws.map Prod.fst) (xw_mu xs ws) ρ S
/-- a local as a number -/
def xw_lz (lvs : List (Nat × Value)) (i : Nat) : Int := match lvs.find? (fun q => q.1 == i) with
  | some q => xw_n0 q.2
  | none => 0
def xw_uq (lvs : List (Nat × Value)) : Prop := ∀ i x y, (i, x) ∈ lvs → (i, y) ∈ lvs → x = y
theorem xw_uq_of {ls : Array Slot} {n : Nat} {lvs : List (Nat × Value)} (h : lv_has ls n lvs) : xw_uq lvs := fun i x y hx hy => by
  have h1 := h.2.2 (i, x) hx
  have h2 := h.2.2 (i, y) hy
  rw [h1] at h2
  cases h2; rfl
theorem xw_lz_eq {lvs : List (Nat × Value)} (hU : xw_uq lvs) {i : Nat} {x : Value} (h : (i, x) ∈ lvs) : xw_lz lvs i = xw_n0 x := by
  unfold xw_lz
  cases hf : lvs.find? (fun q => q.1 == i) with
  | none =>
    have := List.find?_eq_none.mp hf (i, x) h
    simp at this
  | some q =>
    have h1 := List.find?_some hf
    have h2 := List.mem_of_find?_eq_some hf
    have e : q.1 = i := by simpa using h1
    have : q.2 = x := hU i q.2 x (by rw [← e]; exact h2) h
    dsimp only
    rw [this]
theorem xw_lm.lz {X : xw_X} {as : List Nat} {ρ : Nat → Int} {n : Nat} {L : List xw_V} {lvs : List (Nat × Value)} (hU : xw_uq lvs) (h : xw_lm X as ρ n L lvs) : xw_Lz ρ n L (xw_lz lvs) := fun i l hi => by
  unfold xw_lv at hi
  rw [xv_nth_eq] at hi
  cases hv : L[i]? with
  | none => rw [hv] at hi; cases hi
  | some v =>
    rw [hv] at hi
    obtain ⟨b, e⟩ := xv_bt hi
    cases e
    have b := xv_ble b
    obtain ⟨x, h1, h2⟩ := h i v hv (by omega)
    obtain ⟨z, h3, h4⟩ := h2.num b
    rw [xw_lz_eq hU h1]
    unfold xw_n0
    rw [h3]; exact h4
/-! back to fewer variables -/
theorem xw_is.less {ρ ρ' : Nat → Int} {n n' : Nat} {a : xw_L} {z : Int} (hu : xw_Up ρ n ρ' n') (hw : xw_wfl n a.2) (h : xw_is ρ' n' a z) : xw_is ρ n a z := by
  refine ⟨hw, ?_⟩
  rw [← h.2]
  unfold xw_ev
  rw [xw_evl_more hu.2 hw]
theorem xw_hv.less {X : xw_X} {as : List Nat} {ρ ρ' : Nat → Int} {n n' : Nat} {v : xw_V} {x x0 : Value} (hu : xw_Up ρ n ρ' n') (h0 : xw_hv X as ρ n v x0) (h : xw_hv X as ρ' n' v x) : xw_hv X as ρ n v x := by
  refine ⟨fun q => ?_, fun q => ?_, h.2.2.1, h.2.2.2.1, h.2.2.2.2.1, fun q => ?_, h.2.2.2.2.2.2.1, fun q => ?_⟩
  · obtain ⟨i, e, hi⟩ := h.1 q
    obtain ⟨j, -, hj⟩ := h0.1 q
    exact ⟨i, e, hi.less hu hj.1⟩
  · obtain ⟨i, e, hi⟩ := h.2.1 q
    obtain ⟨j, -, hj⟩ := h0.2.1 q
    exact ⟨i, e, hi.less hu hj.1⟩
  · obtain ⟨e, hi, g⟩ := h.2.2.2.2.2.1 q
    obtain ⟨-, hj, -⟩ := h0.2.2.2.2.2.1 q
    exact ⟨e, hi.less hu hj.1, g⟩
  · obtain ⟨i, d, e, hi, g⟩ := h.2.2.2.2.2.2.2 q
    obtain ⟨j, d', -, hj, -⟩ := h0.2.2.2.2.2.2.2 q
    exact ⟨i, d, e, hi.less hu hj.1, g⟩
theorem xw_Mk.less {X : xw_X} {as : List Nat} {μ μ0 : Nat → Nat → Value} {ρ ρ' : Nat → Int} {n n' : Nat} {M : List xw_M} (hu : xw_Up ρ n ρ' n') (h0 : xw_Mk X as μ0 ρ n M) (h : xw_Mk X as μ ρ' n' M) : xw_Mk X as μ ρ n M := fun m hm => by
  obtain ⟨z, h1, h2, h3, h4⟩ := h m hm
  obtain ⟨z0, g1, g2, g3, g4⟩ := h0 m hm
  exact ⟨z, h1.less hu g1.1, h2, xw_hv.less hu g3 h3, h4⟩
theorem xw_Gk.less {μ μ0 : Nat → Nat → Value} {ρ ρ' : Nat → Int} {n n' : Nat} {G : List xw_G} (hu : xw_Up ρ n ρ' n') (h0 : xw_Gk μ0 ρ n G) (h : xw_Gk μ ρ' n' G) : xw_Gk μ ρ n G := fun g hg => by
  obtain ⟨b, sp, h1, h2, h3⟩ := h g hg
  obtain ⟨b0, sp0, g1, g2, -⟩ := h0 g hg
  exact ⟨b, sp, h1.less hu g1.1, h2.less hu g2.1, h3⟩
theorem xw_sub1_ok {α : Type} {eq : α → α → Bool} (heq : ∀ a b, eq a b = true → a = b) : ∀ {cur kept : List α}, xw_sub1 eq cur kept = true → ∀ a ∈ kept, a ∈ cur
  | [], [], _, a, ha => by cases ha
  | [], _ :: _, h, _, _ => by cases h
  | _ :: _, [], _, a, ha => by cases ha
  | c :: cur, b :: kept, h, a, ha => by
    have h : (bif eq c b then xw_sub1 eq cur kept else xw_sub1 eq cur (b :: kept)) = true := h
    cases he : eq c b with
    | true =>
      rw [he] at h
      rcases List.mem_cons.mp ha with q | q
      · rw [q, ← heq c b he]; exact List.mem_cons_self
      · exact List.mem_cons_of_mem _ (xw_sub1_ok heq h a q)
    | false =>
      rw [he] at h
      exact List.mem_cons_of_mem _ (xw_sub1_ok heq (kept := b :: kept) h a ha)
theorem xw_eqM_ok (a b : xw_M) (h : xw_eqM a b = true) : a = b := by
  obtain ⟨h1, h⟩ := xv_and_t h
  obtain ⟨h2, h3⟩ := xv_and_t h
  exact Prod.ext (xv_beq h1) (Prod.ext (xw_eqL_ok h2) (xw_eqV_ok h3))
theorem xw_eqG_ok (a b : xw_G) (h : xw_eqG a b = true) : a = b := by
  obtain ⟨h1, h⟩ := xv_and_t h
  obtain ⟨h2, h⟩ := xv_and_t h
  obtain ⟨h3, h⟩ := xv_and_t h
  obtain ⟨h4, h⟩ := xv_and_t h
  obtain ⟨h5, h6⟩ := xv_and_t h
  exact Prod.ext (xv_beq h1) (Prod.ext (xw_eqL_ok h2) (Prod.ext (xw_eqL_ok h3) (Prod.ext (xw_ieq_iff.mp h4) (Prod.ext (xw_ieq_iff.mp h5) (xw_ieq_iff.mp h6)))))
theorem xw_leq_ok {hv : List (Nat × Nat × Nat)} : ∀ {L K : List xw_V} {i : Nat}, xw_leq hv L K i = true → L.length = K.length ∧ ∀ j v, K[j]? = some v → (∃ q ∈ hv, q.1 = i + j) ∨ L[j]? = some v
  | [], [], i, _ => ⟨rfl, fun j v h => by simp at h⟩
  | [], _ :: _, _, h => by cases h
  | _ :: _, [], _, h => by cases h
  | a :: L, b :: K, i, h => by
    have h : ((xw_orl (fun h => Nat.beq h.1 i) hv || xw_eqV a b) && xw_leq hv L K (i + 1)) = true := h
    obtain ⟨h1, h2⟩ := xv_and_t h
    obtain ⟨g1, g2⟩ := xw_leq_ok h2
    refine ⟨by simp [g1], fun j v hj => ?_⟩
    match j, hj with
    | 0, hj =>
      cases hj
      rcases (Bool.or_eq_true _ _).mp h1 with q | q
      · obtain ⟨x, hx, e⟩ := xw_orl_ok q
        exact Or.inl ⟨x, hx, xv_beq e⟩
      · exact Or.inr (by rw [xw_eqV_ok q]; rfl)
    | j + 1, hj =>
      rcases g2 j v hj with ⟨q, hq, e⟩ | q
      · exact Or.inl ⟨q, hq, by omega⟩
      · exact Or.inr q
/-! what an alternative asks of the machine -/
/-- a changed local is of its kind and within its range -/
def xw_Rg (lvs : List (Nat × Value)) : List (Nat × Nat × Nat) → List (Int × Int) → Prop
  | [], _ => True
  | h :: hv, r :: rs => (h.2.1 ≠ 9 → ∃ x, (h.1, x) ∈ lvs ∧ ((h.2.1 = 0 ∧ ∃ i : Int32, x = .int i) ∨ (h.2.1 = 1 ∧ ∃ i : Int64, x = .long i)) ∧ ∃ q : Int, xw_n0 x = (h.2.2 : Int) * q ∧ r.1 ≤ q ∧ q ≤ r.2) ∧ xw_Rg lvs hv rs
  | _ :: _, [] => False
/-- the locals that are not changed -/
def xw_DL (X : xw_X) (as : List Nat) (ρ : Nat → Int) (n : Nat) (hv : List (Nat × Nat × Nat)) (L : List xw_V) (lvs : List (Nat × Value)) : Prop := ∀ i v, L[i]? = some v → v.1 ≤ 7 → (∃ q ∈ hv, q.1 = i) ∨ ∃ x, (i, x) ∈ lvs ∧ xw_hv X as ρ n v x
/-- a stretch is as it says -/
def xw_Sc (lz gz : Nat → Int) (μ : Nat → Nat → Value) (g : xw_Sg) : Prop := ∀ d : Int, 0 ≤ d → d < xw_ttz lz gz μ g.2.2.1 → d % g.2.2.2.1 = 0 → ∀ z, xw_num (μ g.1 (xw_ttz lz gz μ g.2.1 + d).toNat) = some z → g.2.2.2.2.1 ≤ z ∧ z ≤ g.2.2.2.2.2
theorem xw_rok_ok {X : xw_X} {as : List Nat} {ρ : Nat → Int} {S : xw_S} {L : List xw_V} {lvs : List (Nat × Value)} (hS : xw_St ρ S) (hL : xw_lm X as ρ S.2.1 L lvs) : ∀ {hv : List (Nat × Nat × Nat)} {rs : List (Int × Int)}, xw_rok S L hv rs = true → xw_Rg lvs hv rs
  | [], _, _ => True.intro
  | _ :: _, [], h => by cases h
  | h :: hv, r :: rs, hk => by
    have hk : ((bif Nat.beq h.2.1 9 then true else match xv_nth L h.1 with
      | some v => Nat.beq v.1 h.2.1 && (Nat.ble h.2.1 1 && (Nat.ble 1 h.2.2 && ((bif Nat.beq h.2.2 1 then true else xw_dvs (Int.ofNat h.2.2) v.2) && (xw_prove S (xw_k v.2 (-(Int.ofNat h.2.2 * r.1))) && xw_prove S (xw_k (xw_neg v.2) (Int.ofNat h.2.2 * r.2))))))
      | none => false) && xw_rok S L hv rs) = true := hk
    obtain ⟨h1, h2⟩ := xv_and_t hk
    refine ⟨fun h9 => ?_, xw_rok_ok hS hL h2⟩
    have hb : Nat.beq h.2.1 9 = false := by
      cases q : Nat.beq h.2.1 9 with
      | true => exact absurd (xv_beq q) h9
      | false => rfl
    rw [hb] at h1
    simp only [cond_false] at h1
    rw [xv_nth_eq] at h1
    cases hv : L[h.1]? with
    | none => rw [hv] at h1; cases h1
    | some v =>
      rw [hv] at h1
      obtain ⟨b1, h1⟩ := xv_and_t h1
      obtain ⟨b2, h1⟩ := xv_and_t h1
      obtain ⟨b3, h1⟩ := xv_and_t h1
      obtain ⟨b4, h1⟩ := xv_and_t h1
      obtain ⟨b5, b6⟩ := xv_and_t h1
      have b1 := xv_beq b1
      have b2 := xv_ble b2
      have b3 := xv_ble b3
      obtain ⟨x, m, hx⟩ := hL h.1 v hv (by omega)
      obtain ⟨z, e, hz⟩ := hx.num (by omega)
      have p1 := xw_prove_ok hS b5 (hz.k _)
      have p2 := xw_prove_ok hS b6 (hz.neg.k _)
      have hd : z % (h.2.2 : Int) = 0 := by
        cases q : Nat.beq h.2.2 1 with
        | true => rw [xv_beq q]; exact Int.emod_one z
        | false => rw [q] at b4; exact xw_dvs_ok b4 hz
      refine ⟨x, m, ?_, z / (h.2.2 : Int), ?_, ?_, ?_⟩
      · rcases Nat.le_one_iff_eq_zero_or_eq_one.mp b2 with q | q
        · obtain ⟨i, e', -⟩ := hx.1 (by omega); exact Or.inl ⟨q, i, e'⟩
        · obtain ⟨i, e', -⟩ := hx.2.1 (by omega); exact Or.inr ⟨q, i, e'⟩
      · unfold xw_n0
        rw [e]
        show z = _
        have := Int.mul_ediv_add_emod z (h.2.2 : Int)
        omega
      · rw [Int.le_ediv_iff_mul_le (by omega), Int.mul_comm]
        have : Int.ofNat h.2.2 = (h.2.2 : Int) := rfl
        rw [this] at p1
        omega
      · have hdd := Int.mul_ediv_add_emod z (h.2.2 : Int)
        have : Int.ofNat h.2.2 = (h.2.2 : Int) := rfl
        rw [this] at p2
        have h3 : (h.2.2 : Int) * (z / (h.2.2 : Int)) ≤ (h.2.2 : Int) * r.2 := by omega
        exact Int.le_of_mul_le_mul_left h3 (by omega)
theorem xw_sok_ok {X : xw_X} {as : List Nat} {μ : Nat → Nat → Value} {ρ : Nat → Int} {S : xw_S} {r : Nat} {b sp : xw_L} {s lo hi zb zs : Int} (hS : xw_St ρ S) (hM : xw_Me X as μ ρ S) (h : xw_sok S r b sp s lo hi = true) (hb : xw_is ρ S.2.1 b zb) (hs : xw_is ρ S.2.1 sp zs) : ∀ d : Int, 0 ≤ d → d < zs → d % s = 0 → ∀ z, xw_num (μ r (zb + d).toNat) = some z → lo ≤ z ∧ z ≤ hi := by
  intro d d0 d1 d2 z hz
  rcases (Bool.or_eq_true _ _).mp h with h | h
  · have := xw_prove_ok hS h hs.neg; omega
  · obtain ⟨g, hg, h⟩ := xw_orl_ok h
    obtain ⟨c1, h⟩ := xv_and_t h
    obtain ⟨c2, h⟩ := xv_and_t h
    obtain ⟨c3, h⟩ := xv_and_t h
    obtain ⟨c4, h⟩ := xv_and_t h
    obtain ⟨c5, h⟩ := xv_and_t h
    obtain ⟨c6, h⟩ := xv_and_t h
    have c1 := xv_beq c1
    have c3 := xw_ieq_iff.mp c3
    have c4 := xv_le_iff.mp c4
    have c5 := xv_le_iff.mp c5
    have c6 := xv_le_iff.mp c6
    obtain ⟨b', sp', g1, g2, g3⟩ := hM.2 g hg
    rw [xw_eqL_ok c2] at g1
    have eb := hb.one g1
    rw [c3] at g3
    rw [c1] at g3
    rw [← eb] at g3
    rcases (Bool.or_eq_true _ _).mp h with h | h
    · have p := xw_prove_ok hS h (g2.sub hs)
      have := g3 d d0 (by omega) d2 z hz
      omega
    · obtain ⟨k1, h⟩ := xv_and_t h
      obtain ⟨k2, k3⟩ := xv_and_t h
      have k1 := xw_dvs_ok k1 g2
      have k2 := xw_prove_ok hS k2 ((g2.sub hs).k s)
      rcases Int.lt_or_le d sp' with q | q
      · have := g3 d d0 q d2 z hz
        omega
      · -- the place at the end
        have e : d = sp' := by
          have h1 := Int.mul_ediv_add_emod d s
          have h2 := Int.mul_ediv_add_emod sp' s
          have h3 : s * (d / s) < s * (sp' / s + 1) := by rw [Int.mul_add, Int.mul_one]; omega
          have h4 := Int.lt_of_mul_lt_mul_left h3 (by omega)
          have h5 : s * (sp' / s) ≤ s * (d / s) := by omega
          have h6 := Int.le_of_mul_le_mul_left h5 (by omega)
          have h7 : d / s = sp' / s := by omega
          rw [h7] at h1
          omega
        subst e
        cases hm : xw_mem S.2.2.2.1 r (xw_nm S.1 (xw_add b g.2.2.1)) with
        | none => rw [hm] at k3; cases k3
        | some v =>
          rw [hm] at k3
          obtain ⟨m1, k3⟩ := xv_and_t k3
          obtain ⟨m2, m3⟩ := xv_and_t k3
          obtain ⟨z', n1, n2, n3, n4⟩ := hM.1 _ (xw_mem_ok hm)
          have en := n1.one (xw_nm_ok hS.1 (hb.add g2))
          rw [en] at n3
          obtain ⟨y, ey, hy⟩ := n3.num (xv_ble m1)
          have ez : y = z := by
            have : some y = some z := by rw [← ey, ← hz]
            cases this; rfl
          rw [ez] at hy
          have p1 := xw_prove_ok hS m2 (hy.k _)
          have p2 := xw_prove_ok hS m3 (hy.neg.k _)
          omega
section XWH
variable {hl : Nat × Int} {Γ : xv_A} {t : Nat → ClassId} {X : xw_X} {μ : Nat → Nat → Value} {ws : va_W}
theorem xw_soks_ok {gh : List xw_L} {L : List xw_V} {lz gz : Nat → Int} (hW : xw_Wd hl Γ t X μ ws) : ∀ {sg : List xw_Sg} {S : xw_S} {ρ : Nat → Int} {k : xw_S → Bool}, xw_soks hl Γ gh L sg S k = true → xw_St ρ S → xw_Me X (ws.map Prod.fst) μ ρ S → xw_Lz ρ S.2.1 L lz → xw_Gz ρ S.2.1 gh gz → (∀ g ∈ sg, xw_Sc lz gz μ g) ∧ xw_Rt X (ws.map Prod.fst) μ ρ S (fun _ S' => k S' = true)
  | [], S, ρ, k, h, hS, hM, hL, hG => ⟨fun _ h => (by cases h), ρ, S, h, xw_Up.rf, hS, hM, rfl⟩
  | g :: sg, S, ρ, k, h, hS, hM, hL, hG => by
    have h : xw_tv hl Γ gh L g.2.1 S (fun b S1 => xw_tv hl Γ gh L g.2.2.1 S1 (fun sp S2 => xw_sok S2 g.1 b sp g.2.2.2.1 g.2.2.2.2.1 g.2.2.2.2.2 && xw_soks hl Γ gh L sg S2 k)) = true := h
    obtain ⟨ρ1, S1, ⟨b, h1, hb⟩, u1, hS1, hM1, e1⟩ := xw_tv_ok hW h hS hM hL hG
    obtain ⟨ρ2, S2, ⟨sp, h2, hs⟩, u2, hS2, hM2, e2⟩ := xw_tv_ok hW h1 hS1 hM1 (hL.more u1) (hG.more u1)
    obtain ⟨h3, h4⟩ := xv_and_t h2
    have key := xw_sok_ok hS2 hM2 h3 (hb.more u2) hs
    obtain ⟨g1, g2⟩ := xw_soks_ok hW h4 hS2 hM2 (hL.more (u1.tr u2)) (hG.more (u1.tr u2))
    refine ⟨fun g' hg' => ?_, xw_Rt.tr (u1.tr u2) (e2.trans e1) g2⟩
    rcases List.mem_cons.mp hg' with q | q
    · rw [q]; exact key
    · exact g1 g' q
theorem xw_sadd_ok {gh : List xw_L} {L : List xw_V} {lz gz : Nat → Int} (hW : xw_Wd hl Γ t X μ ws) : ∀ {sg : List xw_Sg} {S : xw_S} {ρ : Nat → Int} {k : xw_S → Bool}, xw_sadd hl Γ gh L sg S k = true → xw_St ρ S → xw_Me X (ws.map Prod.fst) μ ρ S → xw_Lz ρ S.2.1 L lz → xw_Gz ρ S.2.1 gh gz → (∀ g ∈ sg, xw_Sc lz gz μ g) → xw_Rt X (ws.map Prod.fst) μ ρ S (fun _ S' => k S' = true)
  | [], S, ρ, k, h, hS, hM, hL, hG, _ => ⟨ρ, S, h, xw_Up.rf, hS, hM, rfl⟩
  | g :: sg, S, ρ, k, h, hS, hM, hL, hG, hg => by
    have h : xw_tv hl Γ gh L g.2.1 S (fun b S1 => xw_tv hl Γ gh L g.2.2.1 S1 (fun sp S2 => xw_sadd hl Γ gh L sg (S2.1, S2.2.1, S2.2.2.1, S2.2.2.2.1, (g.1, b, sp, g.2.2.2) :: S2.2.2.2.2.1, S2.2.2.2.2.2) k)) = true := h
    obtain ⟨ρ1, S1, ⟨b, h1, hb⟩, u1, hS1, hM1, e1⟩ := xw_tv_ok hW h hS hM hL hG
    obtain ⟨ρ2, S2, ⟨sp, h2, hs⟩, u2, hS2, hM2, e2⟩ := xw_tv_ok hW h1 hS1 hM1 (hL.more u1) (hG.more u1)
    have u := u1.tr u2
    have := xw_sadd_ok hW h2 (ρ := ρ2) hS2 ⟨hM2.1, fun q hq => ?_⟩ (hL.more u) (hG.more u) (fun g' q => hg g' (List.mem_cons_of_mem _ q))
    · exact xw_Rt.tr u (e2.trans e1) this
    · rcases List.mem_cons.mp hq with q | q
      · rw [q]
        exact ⟨_, _, hb.more u2, hs, hg g List.mem_cons_self⟩
      · exact hM2.2 _ q
/-- new variables for what a loop changes -/
theorem xw_hav_ok {as : List Nat} {lvs : List (Nat × Value)} : ∀ {hv : List (Nat × Nat × Nat)} {rs : List (Int × Int)} {L : List xw_V} {S : xw_S} {ρ : Nat → Int} {k : List xw_V → xw_S → Bool}, xw_hav hv rs L S k = true → xw_St ρ S → xw_Me X as μ ρ S → xw_Rg lvs hv rs → xw_uq lvs → xw_DL X as ρ S.2.1 hv L lvs → ∃ ρ' L' S', k L' S' = true ∧ xw_Up ρ S.2.1 ρ' S'.2.1 ∧ xw_St ρ' S' ∧ xw_Me X as μ ρ' S' ∧ xw_lm X as ρ' S'.2.1 L' lvs ∧ S'.2.2.2.2.2.2 = S.2.2.2.2.2.2 ∧ L'.length = L.length
  | [], rs, L, S, ρ, k, h, hS, hM, hR, hU, hD => ⟨ρ, L, S, h, xw_Up.rf, hS, hM, fun i v hi hk => (hD i v hi hk).elim (fun ⟨_, q, _⟩ => (by cases q)) id, rfl, rfl⟩
  | _ :: _, [], _, _, _, _, h, _, _, _, _, _ => by cases h
  | h :: hv, r :: rs, L, S, ρ, k, hk, hS, hM, hR, hU, hD => by
    have hk : (bif Nat.beq h.2.1 9 then xw_hav hv rs (xv_put (9, (0, [])) L h.1) S k else bif Nat.ble h.2.1 1 then xw_fr S r.1 r.2 (fun l S' => xw_hav hv rs (xv_put (h.2.1, xw_scl (Int.ofNat h.2.2) l) L h.1) S' k) else false) = true := hk
    cases h9 : Nat.beq h.2.1 9 with
    | true =>
      rw [h9] at hk
      obtain ⟨ρ', L', S', g1, g2, g3, g4, g5, g6, g7⟩ := xw_hav_ok hk hS hM hR.2 hU (fun i v hi hne => by
        rw [xv_put_eq] at hi
        by_cases e : h.1 = i
        · subst e
          rcases Nat.lt_or_ge h.1 L.length with q | q
          · rw [List.getElem?_set_self q] at hi
            cases hi
            exact absurd hne (by decide)
          · rw [List.getElem?_eq_none (by rw [List.length_set]; exact q)] at hi; cases hi
        · rw [List.getElem?_set_ne e] at hi
          rcases hD i v hi hne with ⟨q, hq, e2⟩ | q
          · rcases List.mem_cons.mp hq with w | w
            · rw [w] at e2; exact absurd e2 e
            · exact Or.inl ⟨q, w, e2⟩
          · exact Or.inr q)
      exact ⟨ρ', L', S', g1, g2, g3, g4, g5, g6, by rw [g7, xv_put_eq, List.length_set]⟩
    | false =>
      rw [h9] at hk
      simp only [cond_false] at hk
      have h9' : h.2.1 ≠ 9 := fun q => by rw [q] at h9; cases h9
      cases h1 : Nat.ble h.2.1 1 with
      | false => rw [h1] at hk; cases hk
      | true =>
        rw [h1] at hk
        simp only [cond_true] at hk
        obtain ⟨x, m, hkind, q, eq, q1, q2⟩ := hR.1 h9'
        obtain ⟨ρ1, l, S1, hk1, u1, hS1, hl1, e1, -⟩ := xw_fr_ok hS hk q1 q2
        have hM1 : xw_Me X as μ ρ1 S1 := xw_OK.up hM u1 (by rw [e1])
        have hx : xw_hv X as ρ1 S1.2.1 (h.2.1, xw_scl (Int.ofNat h.2.2) l) x := by
          have hs := hl1.scl (Int.ofNat h.2.2)
          have e0 : Int.ofNat h.2.2 * q = xw_n0 x := eq.symm
          rw [e0] at hs
          rcases hkind with ⟨w, i, ei⟩ | ⟨w, i, ei⟩
          · rw [ei] at hs ⊢
            rw [w]; exact xw_hv.i hs
          · rw [ei] at hs ⊢
            rw [w]; exact xw_hv.l hs
        obtain ⟨ρ', L', S', g1, g2, g3, g4, g5, g6, g7⟩ := xw_hav_ok hk1 hS1 hM1 hR.2 hU (fun i v hi hne => by
          rw [xv_put_eq] at hi
          by_cases e : h.1 = i
          · subst e
            rcases Nat.lt_or_ge h.1 L.length with q | q
            · rw [List.getElem?_set_self q] at hi
              cases hi
              exact Or.inr ⟨x, m, hx⟩
            · rw [List.getElem?_eq_none (by rw [List.length_set]; exact q)] at hi; cases hi
          · rw [List.getElem?_set_ne e] at hi
            rcases hD i v hi hne with ⟨q, hq, e2⟩ | ⟨y, m2, hy⟩
            · rcases List.mem_cons.mp hq with w | w
              · rw [w] at e2; exact absurd e2 e
              · exact Or.inl ⟨q, w, e2⟩
            · exact Or.inr ⟨y, m2, hy.more u1⟩)
        exact ⟨ρ', L', S', g1, u1.tr g2, g3, g4, g5, by rw [g6, e1], by rw [g7, xv_put_eq, List.length_set]⟩
/-- the state at a head fits what the machine is -/
theorem xw_gen_ok {gh : List xw_L} {gz : Nat → Int} {h : xw_H} {al : xw_Al} {L : List xw_V} {S : xw_S} {ρ : Nat → Int} {lvs : List (Nat × Value)} {k : xw_L → List xw_V → xw_S → Bool} (hW : xw_Wd hl Γ t X μ ws) (hk : xw_gen hl Γ gh h al L S k = true) (hS : xw_St ρ S) (hM : xw_Me X (ws.map Prod.fst) μ ρ S) (hR : xw_Rg lvs h.1 al.1) (hU : xw_uq lvs) (hD : xw_DL X (ws.map Prod.fst) ρ S.2.1 h.1 L lvs) (hG : xw_Gz ρ S.2.1 gh gz) (hg : ∀ g ∈ h.2.2.1, xw_Sc (xw_lz lvs) gz μ g) (hf : ∀ T ∈ al.2.1, 0 ≤ xw_ttz (xw_lz lvs) gz μ T) : ∃ ρ' l L' S', k l L' S' = true ∧ xw_Up ρ S.2.1 ρ' S'.2.1 ∧ xw_St ρ' S' ∧ xw_Me X (ws.map Prod.fst) μ ρ' S' ∧ xw_lm X (ws.map Prod.fst) ρ' S'.2.1 L' lvs ∧ xw_is ρ' S'.2.1 l (xw_ttz (xw_lz lvs) gz μ al.2.2) ∧ S'.2.2.2.2.2.2 = S.2.2.2.2.2.2 ∧ L'.length = L.length := by
  unfold xw_gen at hk
  obtain ⟨ρ1, L1, S1, k1, u1, hS1, hM1, hL1, e1, len1⟩ := xw_hav_ok hk hS hM hR hU hD
  have hz := hL1.lz hU
  obtain ⟨ρ2, S2, k2, u2, hS2, hM2, e2⟩ := xw_sadd_ok hW k1 hS1 hM1 hz (hG.more u1) hg
  obtain ⟨ρ3, S3, k3, u3, hS3, hM3, e3⟩ := xw_tas_ok hW k2 hS2 hM2 (hz.more u2) (hG.more (u1.tr u2)) hf
  obtain ⟨ρ4, S4, ⟨l, k4, hl4⟩, u4, hS4, hM4, e4⟩ := xw_tv_ok hW k3 hS3 hM3 (hz.more (u2.tr u3)) (hG.more ((u1.tr u2).tr u3))
  exact ⟨ρ4, l, L1, S4, k4, ((u1.tr u2).tr u3).tr u4, hS4, hM4, hL1.more ((u2.tr u3).tr u4), hl4, by rw [e4, e3, e2, e1], len1⟩
theorem xw_chk_ok {gh : List xw_L} {gz : Nat → Int} {h : xw_H} {al : xw_Al} {L : List xw_V} {S : xw_S} {ρ : Nat → Int} {lvs : List (Nat × Value)} {fin : xw_S → Bool} (hW : xw_Wd hl Γ t X μ ws) (hk : xw_chk hl Γ gh h al L S fin = true) (hS : xw_St ρ S) (hM : xw_Me X (ws.map Prod.fst) μ ρ S) (hL : xw_lm X (ws.map Prod.fst) ρ S.2.1 L lvs) (hU : xw_uq lvs) (hG : xw_Gz ρ S.2.1 gh gz) : xw_Rg lvs h.1 al.1 ∧ (∀ g ∈ h.2.2.1, xw_Sc (xw_lz lvs) gz μ g) ∧ (∀ T ∈ al.2.1, 0 ≤ xw_ttz (xw_lz lvs) gz μ T) ∧ xw_Rt X (ws.map Prod.fst) μ ρ S (fun _ S' => fin S' = true) := by
  unfold xw_chk at hk
  obtain ⟨h1, h2⟩ := xv_and_t hk
  have hz := hL.lz hU
  obtain ⟨g1, ρ1, S1, k1, u1, hS1, hM1, e1⟩ := xw_soks_ok hW h2 hS hM hz hG
  obtain ⟨g2, ρ2, S2, k2, u2, hS2, hM2, e2⟩ := xw_tpr_ok hW k1 hS1 hM1 (hz.more u1) (hG.more u1)
  exact ⟨xw_rok_ok hS hL h1, g1, g2, ρ2, S2, k2, u1.tr u2, hS2, hM2, e2.trans e1⟩
end XWH
end
section
/-! loops -/
section XWO
variable {e0 : (Nat → Int) × Nat} {D : va_G} {t : Nat → ClassId} {A : Nat → Prop} {H0 : Heap} {hl : Nat × Int} {Γ : xv_A} {X : xw_X} {xs : Nat → Int32} {ws0 : va_W} {nL : Nat} {gh : List xw_L} {gz : Nat → Int} {fh : Nat → Option xw_H} {Go : Nat → Array Slot → List Value → Heap → List Loc → Prop}
/-- a head that stands open: from a state that fits an alternative with a smaller measure, it goes on well -/
def xw_PH (D : va_G) (t : Nat → ClassId) (A : Nat → Prop) (H0 : Heap) (hl : Nat × Int) (Γ : xv_A) (X : xw_X) (xs : Nat → Int32) (ws0 : va_W) (nL : Nat) (gz : Nat → Int) (fh : Nat → Option xw_H) (Go : Nat → Array Slot → List Value → Heap → List Loc → Prop) (a : xw_A) (ρ0 : Nat → Int) (m0 : Int) : Prop :=
  ∀ h, fh a.1 = some h → ∀ al ∈ h.2.2.2.1, ∀ (ls : Array Slot) (H : Heap) (locs : List Loc) (ws : va_W) (lvs : List (Nat × Value)), lv_has ls nL lvs → xw_Wl D t A H0 hl Γ X xs ws0 a.2.2.2.2.2.2.2.2.2 H locs ws → xw_Me X (ws.map Prod.fst) (xw_mu xs ws) ρ0 a.2.2.2 → xw_DL X (ws.map Prod.fst) ρ0 a.2.2.2.2.1 h.1 a.2.2.1 lvs → xw_Rg lvs h.1 al.1 → (∀ g ∈ h.2.2.1, xw_Sc (xw_lz lvs) gz (xw_mu xs ws) g) → (∀ T ∈ al.2.1, 0 ≤ xw_ttz (xw_lz lvs) gz (xw_mu xs ws) T) → 0 ≤ m0 → xw_ttz (xw_lz lvs) gz (xw_mu xs ws) al.2.2 ≤ m0 - 1 → Go a.1 ls [] H locs
def xw_Hy (D : va_G) (t : Nat → ClassId) (A : Nat → Prop) (H0 : Heap) (hl : Nat × Int) (Γ : xv_A) (X : xw_X) (xs : Nat → Int32) (ws0 : va_W) (nL : Nat) (gz : Nat → Int) (fh : Nat → Option xw_H) (Go : Nat → Array Slot → List Value → Heap → List Loc → Prop) (a : xw_A) (ρ : Nat → Int) (n : Nat) : Prop :=
  ∃ ρ0 m0, xw_Up ρ0 a.2.2.2.2.1 ρ n ∧ xw_is ρ n a.2.1 m0 ∧ (∃ lvs0, xw_lm X (ws0.map Prod.fst) ρ0 a.2.2.2.2.1 a.2.2.1 lvs0) ∧ (∃ μ0, xw_Me X (ws0.map Prod.fst) μ0 ρ0 a.2.2.2) ∧ a.2.2.1.length = nL ∧ xw_PH D t A H0 hl Γ X xs ws0 nL gz fh Go a ρ0 m0
theorem xw_Hy.more {a : xw_A} {ρ ρ' : Nat → Int} {n n' : Nat} (hu : xw_Up ρ n ρ' n') (h : xw_Hy D t A H0 hl Γ X xs ws0 nL gz fh Go a ρ n) : xw_Hy D t A H0 hl Γ X xs ws0 nL gz fh Go a ρ' n' := by
  obtain ⟨ρ0, m0, h1, h2, h3⟩ := h
  exact ⟨ρ0, m0, h1.tr hu, h2.more hu, h3⟩
/-- the ghosts' numbers, and what was known when the run began -/
def xw_Gy (e0 : (Nat → Int) × Nat) (ρ : Nat → Int) (n : Nat) (gh : List xw_L) (gz : Nat → Int) : Prop := xw_Gz ρ n gh gz ∧ xw_Up e0.1 e0.2 ρ n
theorem xw_Gy.more {e0 : (Nat → Int) × Nat} {ρ ρ' : Nat → Int} {n n' : Nat} {gh : List xw_L} {gz : Nat → Int} (hu : xw_Up ρ n ρ' n') (h : xw_Gy e0 ρ n gh gz) : xw_Gy e0 ρ' n' gh gz := ⟨h.1.more hu, h.2.tr hu⟩
def xw_Tj (e0 : (Nat → Int) × Nat) (D : va_G) (t : Nat → ClassId) (A : Nat → Prop) (H0 : Heap) (hl : Nat × Int) (Γ : xv_A) (X : xw_X) (xs : Nat → Int32) (ws0 : va_W) (nL : Nat) (gh : List xw_L) (gz : Nat → Int) (fh : Nat → Option xw_H) (Go : Nat → Array Slot → List Value → Heap → List Loc → Prop) (act : List xw_A) (pc : Nat) (L st : List xw_V) (S : xw_S) : Prop :=
  ∀ (ρ : Nat → Int) (ls : Array Slot) (vst : List Value) (H : Heap) (locs : List Loc) (ws : va_W), xw_Rl D t A H0 hl Γ X xs ws0 nL ρ L st S ls vst H locs ws → xw_Gy e0 ρ S.2.1 gh gz → (∀ a ∈ act, xw_Hy D t A H0 hl Γ X xs ws0 nL gz fh Go a ρ S.2.1) → Go pc ls vst H locs
theorem xw_Wl.dt {d d' : xw_D} {H : Heap} {locs : List Loc} {ws : va_W} (h : xw_Wl D t A H0 hl Γ X xs ws0 d H locs ws) (h1 : ∀ r j, xw_isin d r (j + 1) = true → xw_isin d' r (j + 1) = true) (h2 : ∀ r c, (r, c) ∈ d → ∃ c', (r, c') ∈ d') : xw_Wl D t A H0 hl Γ X xs ws0 d' H locs ws := by
  obtain ⟨a1, a2, a3, a4, a5, a6, a7⟩ := h
  refine ⟨a1, a2, a3, a4, fun r j hin => a5 r j ?_, fun r hr => a6 r (fun c hc => ?_), a7⟩
  · cases q : xw_isin d r (j + 1) with
    | false => rfl
    | true => rw [h1 r j q] at hin; cases hin
  · obtain ⟨c', hc'⟩ := h2 r c hc
    exact hr c' hc'
theorem xw_back_ok {h : xw_H} {a : xw_A} {act : List xw_A} {L : List xw_V} {S : xw_S} (hb : xw_back hl Γ gh h a L S = true) (hf : fh a.1 = some h) (ha : a ∈ act) : xw_Tj e0 D t A H0 hl Γ X xs ws0 nL gh gz fh Go act a.1 L [] S := by
  intro ρ ls vst H locs ws hR hG hH
  obtain ⟨⟨hlen, lvs, hls, hL⟩, hst, hWl, hS, hM⟩ := hR
  have ev := hst.nil
  subst ev
  obtain ⟨ρ0, m0, hu, hm, ⟨lvs0, hL0⟩, ⟨μ0, hM0⟩, hlen0, hPH⟩ := hH a ha
  unfold xw_back at hb
  obtain ⟨b1, hb⟩ := xv_and_t hb
  obtain ⟨b2, hb⟩ := xv_and_t hb
  obtain ⟨b3, hb⟩ := xv_and_t hb
  obtain ⟨b4, b5⟩ := xv_and_t hb
  obtain ⟨al, hal, b5⟩ := xw_orl_ok b5
  have has : ws.map Prod.fst = ws0.map Prod.fst := hWl.2.2.2.2.2.2
  have hU := xw_uq_of hls
  have hWd := hWl.2.2.2.1
  obtain ⟨g1, g2, g3, ρ1, S1, k1, u1, hS1, hM1, e1⟩ := xw_chk_ok (gz := gz) hWd b5 hS hM hL hU hG.1
  obtain ⟨ρ2, S2, ⟨l, k2, hl2⟩, u2, hS2, hM2, e2⟩ := xw_tv_ok (gz := gz) hWd k1 hS1 hM1 ((hL.lz hU).more u1) (hG.more u1).1
  obtain ⟨p1, p2⟩ := xv_and_t k2
  have hm2 := hm.more (u1.tr u2)
  have p1 := xw_prove_ok hS2 p1 ((hm2.sub hl2).k (-1))
  have p2 := xw_prove_ok hS2 p2 hm2
  refine hPH h hf al hal ls H locs ws lvs hls ?_ ?_ ?_ g1 g2 g3 p2 (by omega)
  · refine hWl.dt (fun r j hin => ?_) (fun r c hc => ?_)
    · obtain ⟨c', hc', q⟩ := xw_isin_mem hin
      have := xw_anl_ok b4 _ hc'
      obtain ⟨c2, hc2, q2⟩ := xw_isin_mem this
      exact xw_isin_of (by dsimp only at q2; omega) hc2
    · have := xw_anl_ok b4 _ hc
      obtain ⟨c2, hc2, -⟩ := xw_isin_mem this
      exact ⟨c2, hc2⟩
  · rw [has]
    rw [has] at hM
    exact ⟨xw_Mk.less hu hM0.1 (fun m hm => hM.1 m (xw_sub1_ok xw_eqM_ok b2 m hm)), xw_Gk.less hu hM0.2 (fun g hg => hM.2 g (xw_sub1_ok xw_eqG_ok b3 g hg))⟩
  · intro i v hi hne
    obtain ⟨-, h2⟩ := xw_leq_ok b1
    rcases h2 i v hi with ⟨q, hq, e⟩ | q
    · exact Or.inl ⟨q, hq, by omega⟩
    · obtain ⟨x, hx, hv⟩ := hL i v q hne
      obtain ⟨x0, -, hv0⟩ := hL0 i v hi hne
      rw [has] at hv ⊢
      exact Or.inr ⟨x, hx, xw_hv.less hu hv0 hv⟩
/-- a head is come to -/
theorem xw_ent_ok {h : xw_H} {pc : Nat} {act : List xw_A} {L : List xw_V} {S : xw_S} {k : xw_A → List xw_V → xw_S → Bool} (he : xw_ent hl Γ gh h pc L S k = true) (hf : fh pc = some h) (hbody : ∀ a L1 S1, a.1 = pc → k a L1 S1 = true → xw_Tj e0 D t A H0 hl Γ X xs ws0 nL gh gz fh Go (a :: act) pc L1 [] S1) : xw_Tj e0 D t A H0 hl Γ X xs ws0 nL gh gz fh Go act pc L [] S := by
  intro ρ ls0 vst H1 locs1 ws1 hR hG hH
  obtain ⟨⟨hlen, lvs1, hls1, hL1⟩, hst, hWl1, hS, hM⟩ := hR
  have ev := hst.nil
  subst ev
  have has1 : ws1.map Prod.fst = ws0.map Prod.fst := hWl1.2.2.2.2.2.2
  unfold xw_ent at he
  obtain ⟨e1, e2⟩ := xv_and_t he
  obtain ⟨hSk, hMk⟩ := xw_kills_ok (X := X) (as := ws1.map Prod.fst) (μ' := xw_mu xs ws1) h.2.1 hS hM (fun _ _ _ => rfl)
  have hn := xw_kills_n h.2.1 S
  have claim : ∀ N : Nat, ∀ al ∈ h.2.2.2.1, ∀ (ls : Array Slot) (H : Heap) (locs : List Loc) (ws : va_W) (lvs : List (Nat × Value)), lv_has ls nL lvs → xw_Wl D t A H0 hl Γ X xs ws0 (xw_kills h.2.1 S).2.2.2.2.2.2 H locs ws → xw_Me X (ws.map Prod.fst) (xw_mu xs ws) ρ (xw_kills h.2.1 S) → xw_DL X (ws.map Prod.fst) ρ (xw_kills h.2.1 S).2.1 h.1 L lvs → xw_Rg lvs h.1 al.1 → (∀ g ∈ h.2.2.1, xw_Sc (xw_lz lvs) gz (xw_mu xs ws) g) → (∀ T ∈ al.2.1, 0 ≤ xw_ttz (xw_lz lvs) gz (xw_mu xs ws) T) → (xw_ttz (xw_lz lvs) gz (xw_mu xs ws) al.2.2 + 1).toNat ≤ N → Go pc ls [] H locs := by
    intro N
    induction N with
    | zero =>
      intro al hal ls H locs ws lvs hls hWl hMe hDL hRg hSc hfa hN
      obtain ⟨ρ', l, L', S', k1, u, hS', hM', hL', hl', e', len'⟩ := xw_gen_ok (gz := gz) hWl.2.2.2.1 (xw_anl_ok e2 al hal) hSk hMe hRg (xw_uq_of hls) hDL (by rw [hn]; exact hG.1) hSc hfa
      refine hbody (pc, l, L, xw_kills h.2.1 S) L' S' rfl k1 ρ' ls [] H locs ws ⟨⟨by rw [len', hlen], lvs, hls, hL'⟩, True.intro, by rw [e']; exact hWl, hS', hM'⟩ (hG.more (by rw [← hn]; exact u)) (fun a ha => ?_)
      rcases List.mem_cons.mp ha with q | q
      · subst q
        refine ⟨ρ, _, u, hl', ⟨lvs1, by rw [← has1]; show xw_lm X _ ρ (xw_kills h.2.1 S).2.1 L lvs1; rw [hn]; exact hL1⟩, ⟨xw_mu xs ws1, by rw [← has1]; exact hMk⟩, hlen, fun h' hf' al' hal' ls' H' locs' ws' lvs' c1 c2 c3 c4 c5 c6 c7 c8 c9 => ?_⟩
        omega
      · exact (hH a q).more (by rw [← hn]; exact u)
    | succ N ih =>
      intro al hal ls H locs ws lvs hls hWl hMe hDL hRg hSc hfa hN
      obtain ⟨ρ', l, L', S', k1, u, hS', hM', hL', hl', e', len'⟩ := xw_gen_ok (gz := gz) hWl.2.2.2.1 (xw_anl_ok e2 al hal) hSk hMe hRg (xw_uq_of hls) hDL (by rw [hn]; exact hG.1) hSc hfa
      refine hbody (pc, l, L, xw_kills h.2.1 S) L' S' rfl k1 ρ' ls [] H locs ws ⟨⟨by rw [len', hlen], lvs, hls, hL'⟩, True.intro, by rw [e']; exact hWl, hS', hM'⟩ (hG.more (by rw [← hn]; exact u)) (fun a ha => ?_)
      rcases List.mem_cons.mp ha with q | q
      · subst q
        refine ⟨ρ, _, u, hl', ⟨lvs1, by rw [← has1]; show xw_lm X _ ρ (xw_kills h.2.1 S).2.1 L lvs1; rw [hn]; exact hL1⟩, ⟨xw_mu xs ws1, by rw [← has1]; exact hMk⟩, hlen, fun h' hf' al' hal' ls' H' locs' ws' lvs' c1 c2 c3 c4 c5 c6 c7 c8 c9 => ?_⟩
        have eh : h' = h := by
          have hf' : fh pc = some h' := hf'
          rw [hf] at hf'
          cases hf'; rfl
        subst eh
        exact ih al' hal' ls' H' locs' ws' lvs' c1 c2 c3 c4 c5 c6 c7 (by omega)
      · exact (hH a q).more (by rw [← hn]; exact u)
  obtain ⟨al, hal, ec⟩ := xw_orl_ok e1
  obtain ⟨g1, g2, g3, -⟩ := xw_chk_ok (gz := gz) hWl1.2.2.2.1 ec hS hM hL1 (xw_uq_of hls1) hG.1
  refine claim _ al hal ls0 H1 locs1 ws1 lvs1 hls1 ?_ hMk ?_ g1 g2 g3 (Nat.le_refl _)
  · exact hWl1.dt (fun r j hin => xw_kills_in h.2.1 (Or.inl hin)) (fun r c hc => ⟨c, xw_kills_old h.2.1 hc⟩)
  · intro i v hi hne
    rw [hn]
    exact Or.inr (hL1 i v hi hne)
theorem xw_Tj.sub {act act' : List xw_A} {pc : Nat} {L st : List xw_V} {S : xw_S} (hs : ∀ a ∈ act, a ∈ act') (h : xw_Tj e0 D t A H0 hl Γ X xs ws0 nL gh gz fh Go act pc L st S) : xw_Tj e0 D t A H0 hl Γ X xs ws0 nL gh gz fh Go act' pc L st S := fun ρ ls vst H locs ws hR hG hH => h ρ ls vst H locs ws hR hG (fun a ha => hH a (hs a ha))
/-- a step that leaves locals, stack and cells as they are -/
theorem xw_Rl.up {ρ ρ' : Nat → Int} {L st : List xw_V} {S S' : xw_S} {ls : Array Slot} {vst : List Value} {H : Heap} {locs : List Loc} {ws : va_W} (h : xw_Rl D t A H0 hl Γ X xs ws0 nL ρ L st S ls vst H locs ws) (hu : xw_Up ρ S.2.1 ρ' S'.2.1) (hS : xw_St ρ' S') (hM : xw_Me X (ws.map Prod.fst) (xw_mu xs ws) ρ' S') (e : S'.2.2.2.2.2.2 = S.2.2.2.2.2.2) : xw_Rl D t A H0 hl Γ X xs ws0 nL ρ' L st S' ls vst H locs ws := by
  obtain ⟨⟨h0, lvs, h1, h2⟩, h3, h4, -, -⟩ := h
  exact ⟨⟨h0, lvs, h1, h2.more hu⟩, h3.more hu, by rw [e]; exact h4, hS, hM⟩
theorem xw_part_ok {ρ : Nat → Int} {S : xw_S} {l : xw_L} {z : Int} {k : xw_S → Bool} (hS : xw_St ρ S) (hl' : xw_is ρ S.2.1 l z) : ∀ (n : Nat) (c : Int), xw_part l S k c n = true → c ≤ z → z ≤ c + (n : Int) - 1 → xw_Ra ρ S k
  | 0, c, _, h1, h2 => by omega
  | n + 1, c, h, h1, h2 => by
    have h : (xw_asm S (xw_k l (-c)) (fun S1 => xw_asm S1 (xw_k (xw_neg l) c) k) && xw_part l S k (c + 1) n) = true := h
    obtain ⟨g1, g2⟩ := xv_and_t h
    by_cases e : z = c
    · exact xw_Ra.asm2 hS g1 (hl'.k _) (by omega) (hl'.neg.k _) (by omega)
    · exact xw_part_ok hS hl' n (c + 1) g2 (by omega) (by omega)
/-- a number is parted -/
theorem xw_fork_ok {T : xw_T} {c : Int} {n pc : Nat} {act : List xw_A} {L st : List xw_V} {S : xw_S} {k : xw_S → Bool} (h : xw_tv hl Γ gh L T S (fun l S1 => xw_prove S1 (xw_k l (-c)) && (xw_prove S1 (xw_k (xw_neg l) (c + Int.ofNat n - 1)) && xw_part l S1 k c n)) = true) (hk : ∀ S2, k S2 = true → xw_Tj e0 D t A H0 hl Γ X xs ws0 nL gh gz fh Go act pc L st S2) : xw_Tj e0 D t A H0 hl Γ X xs ws0 nL gh gz fh Go act pc L st S := by
  intro ρ ls vst H locs ws hR hG hH
  obtain ⟨⟨hlen, lvs, hls, hL⟩, hst, hWl, hS, hM⟩ := id hR
  obtain ⟨ρ1, S1, ⟨l, k1, hl1⟩, u1, hS1, hM1, e1⟩ := xw_tv_ok (gz := gz) hWl.2.2.2.1 h hS hM (hL.lz (xw_uq_of hls)) hG.1
  obtain ⟨p1, k1⟩ := xv_and_t k1
  obtain ⟨p2, k1⟩ := xv_and_t k1
  have p1 := xw_prove_ok hS1 p1 (hl1.k _)
  have p2 := xw_prove_ok hS1 p2 (hl1.neg.k _)
  have ei : Int.ofNat n = (n : Int) := rfl
  obtain ⟨S2, g1, g2, g3, g4⟩ := xw_part_ok hS1 hl1 n c k1 (by omega) (by omega)
  have hR1 := hR.up u1 hS1 hM1 e1
  have hR2 : xw_Rl D t A H0 hl Γ X xs ws0 nL ρ1 L st S2 ls vst H locs ws := hR1.up (by rw [g3]; exact xw_Up.rf) g2 (xw_OK.up hM1 (by rw [g3]; exact xw_Up.rf) g4) (by rw [g4])
  exact hk S2 g1 ρ1 ls vst H locs ws hR2 (hG.more (by rw [g3]; exact u1)) (fun a ha => (hH a ha).more (by rw [g3]; exact u1))
end XWO
end
section
/-! the machine's steps: numbers, locals, jumps -/
/-- what is told of the texts stays -/
def xw_Inv (X : xw_X) : Prop := (∀ (A B : Nat → Prop) (U U' : State), (∀ q, B q → A q) → (∀ a, a < U.heap.size → ¬ A a → U'.heap[a]? = U.heap[a]?) → U.WarmedH U'.vm → X.2.2.2.2 A U → X.2.2.2.2 B U') ∧ (∀ (A : Nat → Prop) (U U' : State), U'.vm = U.vm → U'.heap = U.heap → X.2.2.2.2 A U → X.2.2.2.2 A U') ∧ ∀ (A : Nat → Prop) (U : State) (own : String) (idx : Nat), (own, idx) ∈ xw_strs → X.2.2.2.2 A U → ∃ tx a, vk_R own idx tx a U ∧ X.2.2.1 a
def xw_Cx (p : Program) (s : State) (m : MethodId) (args : Array Value) (c : Code) (cc : ByteArray) (own : String) (nL : Nat) (D : va_G) (t : Nat → ClassId) (A : Nat → Prop) (X : xw_X) (xs : Nat → Int32) (Γ : xv_A) : Prop :=
  p.tables.exec = Jvm.exec ∧ c.code = cc ∧ c.maxLocals = nL ∧ s.vm.findClass own = some m.cls ∧ (∀ w ∈ xv_tb, w.before args s = true) ∧ va_K D vwCl (xv_tys t) s ∧ (∀ q : Nat, s.heap.size ≤ q → A q) ∧ xv_Ex s ∧ (X.2.2.2.1 → va_X X.1 X.2.1 xs s s.heap ∧ X.1 < s.heap.size ∧ ¬ A X.1 ∧ X.2.1 < 2 ^ 31) ∧ X.2.2.2.2 A s ∧ xw_Inv X ∧ xv_get 14 Γ 9999 = none
section XY1
variable {p : Program} {l : Launch} {e : Env} {R : Room} {s : State} {m : MethodId} {args : Array Value} {below : List Frame} {meth : Method} {c : Code}
variable {e0 : (Nat → Int) × Nat} {cc : ByteArray} {own : String} {nL : Nat} {D : va_G} {t : Nat → ClassId} {A : Nat → Prop} {hl : Nat × Int} {Γ : xv_A} {X : xw_X} {xs : Nat → Int32} {ws0 : va_W} {gh : List xw_L} {gz : Nat → Int} {fh : Nat → Option xw_H} {cs sl : Nat} {Q : State → Prop} {act : List xw_A} {k : xw_K} {pc : Nat} {L st : List xw_V} {S : xw_S}
theorem xy_k {ρ ρ' : Nat → Int} {n : Nat} {pc' : Nat} {L' st' : List xw_V} {S' : xw_S} {ls : Array Slot} {vst : List Value} {H : Heap} {locs : List Loc} {ws : va_W} (hk : (∀ pc' L' st' S', k pc' L' st' S' = true → xw_Tj e0 D t A s.heap hl Γ X xs ws0 nL gh gz fh (fun pc ls vst H locs => W p l e R s m args below meth c H locs cs sl Q (F0 m pc ls vst)) act pc' L' st' S')) (h : k pc' L' st' S' = true) (hR : xw_Rl D t A s.heap hl Γ X xs ws0 nL ρ' L' st' S' ls vst H locs ws) (hu : xw_Up ρ n ρ' S'.2.1) (hG : xw_Gy e0 ρ n gh gz) (hH : ∀ a ∈ act, xw_Hy D t A s.heap hl Γ X xs ws0 nL gz fh (fun pc ls vst H locs => W p l e R s m args below meth c H locs cs sl Q (F0 m pc ls vst)) a ρ n) : W p l e R s m args below meth c H locs cs sl Q (F0 m pc' ls vst) :=
  hk _ _ _ _ h ρ' ls vst H locs ws hR (hG.more hu) (fun a ha => (hH a ha).more hu)
/-- other stack, other state -/
theorem xw_Rl.stk {ρ ρ' : Nat → Int} {st' : List xw_V} {S' : xw_S} {ls : Array Slot} {vst vst' : List Value} {H : Heap} {locs : List Loc} {ws : va_W} (h : xw_Rl D t A s.heap hl Γ X xs ws0 nL ρ L st S ls vst H locs ws) (hst : xw_sk X (ws.map Prod.fst) ρ' S'.2.1 st' vst') (hu : xw_Up ρ S.2.1 ρ' S'.2.1) (hS : xw_St ρ' S') (e1 : S'.2.2.2.1 = S.2.2.2.1) (e2 : S'.2.2.2.2.1 = S.2.2.2.2.1) (e3 : S'.2.2.2.2.2.2 = S.2.2.2.2.2.2) : xw_Rl D t A s.heap hl Γ X xs ws0 nL ρ' L st' S' ls vst' H locs ws := by
  obtain ⟨⟨h0, lvs, h1, h2⟩, h3, h4, h5, h6⟩ := h
  exact ⟨⟨h0, lvs, h1, h2.more hu⟩, hst, by rw [e3]; exact h4, hS, xw_Re.me h6 hu e1 e2⟩
theorem xw_sk.cons {as : List Nat} {ρ : Nat → Int} {n : Nat} {v : xw_V} {x : Value} {st : List xw_V} {vst : List Value} (h : xw_hv X as ρ n v x) (h2 : xw_sk X as ρ n st vst) : xw_sk X as ρ n (v :: st) (x :: vst) := ⟨h, h2⟩
/-- the state stays, the stack is another -/
theorem xy_pure {pc' : Nat} {st' : List xw_V} (hk : (∀ pc' L' st' S', k pc' L' st' S' = true → xw_Tj e0 D t A s.heap hl Γ X xs ws0 nL gh gz fh (fun pc ls vst H locs => W p l e R s m args below meth c H locs cs sl Q (F0 m pc ls vst)) act pc' L' st' S')) (h : k pc' L st' S = true)
    (hs : ∀ (ρ : Nat → Int) (ls : Array Slot) (vst : List Value) (H : Heap) (locs : List Loc) (as : List Nat) (lvs : List (Nat × Value)), xw_St ρ S → lv_has ls nL lvs → xw_lm X as ρ S.2.1 L lvs → xw_sk X as ρ S.2.1 st vst → ∃ vst', xw_sk X as ρ S.2.1 st' vst' ∧ (W p l e R s m args below meth c H locs cs sl Q (F0 m pc' ls vst') → W p l e R s m args below meth c H locs cs sl Q (F0 m pc ls vst))) : xw_Tj e0 D t A s.heap hl Γ X xs ws0 nL gh gz fh (fun pc ls vst H locs => W p l e R s m args below meth c H locs cs sl Q (F0 m pc ls vst)) act pc L st S := by
  intro ρ ls vst H locs ws hR hG hH
  obtain ⟨⟨h0, lvs, h1, h2⟩, h3, h4, h5, h6⟩ := id hR
  obtain ⟨vst', g1, g2⟩ := hs ρ ls vst H locs _ lvs h5 h1 h2 h3
  exact g2 (xy_k hk h (hR.stk g1 xw_Up.rf h5 rfl rfl rfl) xw_Up.rf hG hH)
theorem xy_push {pc' : Nat} {v : xw_V} {x : Value} (hk : (∀ pc' L' st' S', k pc' L' st' S' = true → xw_Tj e0 D t A s.heap hl Γ X xs ws0 nL gh gz fh (fun pc ls vst H locs => W p l e R s m args below meth c H locs cs sl Q (F0 m pc ls vst)) act pc' L' st' S')) (h : k pc' L (v :: st) S = true) (hx : ∀ (as : List Nat) (ρ : Nat → Int) (n : Nat), xw_hv X as ρ n v x)
    (hs : ∀ (ls : Array Slot) (vst : List Value) (H : Heap) (locs : List Loc), W p l e R s m args below meth c H locs cs sl Q (F0 m pc' ls (x :: vst)) → W p l e R s m args below meth c H locs cs sl Q (F0 m pc ls vst)) : xw_Tj e0 D t A s.heap hl Γ X xs ws0 nL gh gz fh (fun pc ls vst H locs => W p l e R s m args below meth c H locs cs sl Q (F0 m pc ls vst)) act pc L st S :=
  xy_pure hk h fun ρ ls vst H locs as lvs _ _ _ hst => ⟨x :: vst, xw_sk.cons (hx as ρ _) hst, hs ls vst H locs⟩
theorem xy_ii {i : Int} (h1 : -2147483648 ≤ i) (h2 : i ≤ 2147483647) (as : List Nat) (ρ : Nat → Int) (n : Nat) : xw_hv X as ρ n (0, (i, [])) (.int (Int32.ofInt i)) := by
  refine xw_hv.i ?_
  rw [Int32.toInt_ofInt, xw_bm0 h1 h2]
  exact xw_is.c i
theorem xy_iconst {i : Int} (C : xw_Cx p s m args c cc own nL D t A X xs Γ) (hk : (∀ pc' L' st' S', k pc' L' st' S' = true → xw_Tj e0 D t A s.heap hl Γ X xs ws0 nL gh gz fh (fun pc ls vst H locs => W p l e R s m args below meth c H locs cs sl Q (F0 m pc ls vst)) act pc' L' st' S')) (hd : decode cc pc = .ok (.iconst i, 1)) (h : (bif xv_le (-2147483648) i && xv_le i 2147483647 then k (pc + 1) L ((0, (i, [])) :: st) S else false) = true) : xw_Tj e0 D t A s.heap hl Γ X xs ws0 nL gh gz fh (fun pc ls vst H locs => W p l e R s m args below meth c H locs cs sl Q (F0 m pc ls vst)) act pc L st S := by
  cases hb : (xv_le (-2147483648) i && xv_le i 2147483647) with
  | false => rw [hb] at h; cases h
  | true =>
    rw [hb] at h
    obtain ⟨b1, b2⟩ := xv_and_t hb
    exact xy_push hk h (xy_ii (xv_le_iff.mp b1) (xv_le_iff.mp b2)) fun _ _ _ _ w => lv_iconst C.1 C.2.1 hd rfl w
theorem xy_bipush {i : Int} (C : xw_Cx p s m args c cc own nL D t A X xs Γ) (hk : (∀ pc' L' st' S', k pc' L' st' S' = true → xw_Tj e0 D t A s.heap hl Γ X xs ws0 nL gh gz fh (fun pc ls vst H locs => W p l e R s m args below meth c H locs cs sl Q (F0 m pc ls vst)) act pc' L' st' S')) (hd : decode cc pc = .ok (.bipush i, 2)) (h : (bif xv_le (-128) i && xv_le i 127 then k (pc + 2) L ((0, (i, [])) :: st) S else false) = true) : xw_Tj e0 D t A s.heap hl Γ X xs ws0 nL gh gz fh (fun pc ls vst H locs => W p l e R s m args below meth c H locs cs sl Q (F0 m pc ls vst)) act pc L st S := by
  cases hb : (xv_le (-128) i && xv_le i 127) with
  | false => rw [hb] at h; cases h
  | true =>
    rw [hb] at h
    obtain ⟨b1, b2⟩ := xv_and_t hb
    have b1 := xv_le_iff.mp b1
    have b2 := xv_le_iff.mp b2
    have e : ((Int8.ofInt i).toInt32).toInt = i := by
      rw [Int8.toInt_toInt32, Int8.toInt_ofInt, show Int8.size = 256 from rfl]
      exact Int.bmod_eq_of_le (by omega) (by omega)
    exact xy_push hk h (x := .int ((Int8.ofInt i).toInt32)) (fun as ρ n => xw_hv.i (by rw [e]; exact xw_is.c i)) fun _ _ _ _ w => lv_bipush C.1 C.2.1 hd rfl w
theorem xy_sipush {i : Int} (C : xw_Cx p s m args c cc own nL D t A X xs Γ) (hk : (∀ pc' L' st' S', k pc' L' st' S' = true → xw_Tj e0 D t A s.heap hl Γ X xs ws0 nL gh gz fh (fun pc ls vst H locs => W p l e R s m args below meth c H locs cs sl Q (F0 m pc ls vst)) act pc' L' st' S')) (hd : decode cc pc = .ok (.sipush i, 3)) (h : (bif xv_le (-32768) i && xv_le i 32767 then k (pc + 3) L ((0, (i, [])) :: st) S else false) = true) : xw_Tj e0 D t A s.heap hl Γ X xs ws0 nL gh gz fh (fun pc ls vst H locs => W p l e R s m args below meth c H locs cs sl Q (F0 m pc ls vst)) act pc L st S := by
  cases hb : (xv_le (-32768) i && xv_le i 32767) with
  | false => rw [hb] at h; cases h
  | true =>
    rw [hb] at h
    obtain ⟨b1, b2⟩ := xv_and_t hb
    have b1 := xv_le_iff.mp b1
    have b2 := xv_le_iff.mp b2
    have e : ((Int16.ofInt i).toInt32).toInt = i := by
      rw [Int16.toInt_toInt32, Int16.toInt_ofInt, show Int16.size = 65536 from rfl]
      exact Int.bmod_eq_of_le (by omega) (by omega)
    exact xy_push hk h (x := .int ((Int16.ofInt i).toInt32)) (fun as ρ n => xw_hv.i (by rw [e]; exact xw_is.c i)) fun _ _ _ _ w => lv_sipush C.1 C.2.1 hd rfl w
theorem xy_lconst {i : Fin 2} (C : xw_Cx p s m args c cc own nL D t A X xs Γ) (hk : (∀ pc' L' st' S', k pc' L' st' S' = true → xw_Tj e0 D t A s.heap hl Γ X xs ws0 nL gh gz fh (fun pc ls vst H locs => W p l e R s m args below meth c H locs cs sl Q (F0 m pc ls vst)) act pc' L' st' S')) (hd : decode cc pc = .ok (.lconst i, 1)) (h : k (pc + 1) L ((1, (Int.ofNat i.val, [])) :: st) S = true) : xw_Tj e0 D t A s.heap hl Γ X xs ws0 nL gh gz fh (fun pc ls vst H locs => W p l e R s m args below meth c H locs cs sl Q (F0 m pc ls vst)) act pc L st S := by
  have e : (Int64.ofNat i.val).toInt = Int.ofNat i.val := by
    have := i.isLt
    rw [Int64.toInt_ofNat']
    exact Int.bmod_eq_of_le (by omega) (by simp; omega)
  exact xy_push hk h (x := .long (Int64.ofNat i.val)) (fun as ρ n => xw_hv.l (by rw [e]; exact xw_is.c _)) fun _ _ _ _ w => lv_lconst C.1 C.2.1 hd rfl w
theorem xy_ldc {index : Nat} {v : Int} (C : xw_Cx p s m args c cc own nL D t A X xs Γ) (hk : (∀ pc' L' st' S', k pc' L' st' S' = true → xw_Tj e0 D t A s.heap hl Γ X xs ws0 nL gh gz fh (fun pc ls vst H locs => W p l e R s m args below meth c H locs cs sl Q (F0 m pc ls vst)) act pc' L' st' S')) (hd : decode cc pc = .ok (.ldc index, 2)) (hw : Jvm.Cond.constant own index (Int32.ofInt v) ∈ xv_tb) (h : (bif xv_le (-2147483648) v && xv_le v 2147483647 then k (pc + 2) L ((0, (v, [])) :: st) S else false) = true) : xw_Tj e0 D t A s.heap hl Γ X xs ws0 nL gh gz fh (fun pc ls vst H locs => W p l e R s m args below meth c H locs cs sl Q (F0 m pc ls vst)) act pc L st S := by
  cases hb : (xv_le (-2147483648) v && xv_le v 2147483647) with
  | false => rw [hb] at h; cases h
  | true =>
    rw [hb] at h
    obtain ⟨b1, b2⟩ := xv_and_t hb
    exact xy_push hk h (xy_ii (xv_le_iff.mp b1) (xv_le_iff.mp b2)) fun _ _ _ _ w => lv_ldc C.1 C.2.1 C.2.2.2.1 (C.2.2.2.2.1 _ hw) hd w
theorem xy_ldcw {index : Nat} {v : Int} (C : xw_Cx p s m args c cc own nL D t A X xs Γ) (hk : (∀ pc' L' st' S', k pc' L' st' S' = true → xw_Tj e0 D t A s.heap hl Γ X xs ws0 nL gh gz fh (fun pc ls vst H locs => W p l e R s m args below meth c H locs cs sl Q (F0 m pc ls vst)) act pc' L' st' S')) (hd : decode cc pc = .ok (.ldc_w index, 3)) (hw : Jvm.Cond.constant own index (Int32.ofInt v) ∈ xv_tb) (h : (bif xv_le (-2147483648) v && xv_le v 2147483647 then k (pc + 3) L ((0, (v, [])) :: st) S else false) = true) : xw_Tj e0 D t A s.heap hl Γ X xs ws0 nL gh gz fh (fun pc ls vst H locs => W p l e R s m args below meth c H locs cs sl Q (F0 m pc ls vst)) act pc L st S := by
  cases hb : (xv_le (-2147483648) v && xv_le v 2147483647) with
  | false => rw [hb] at h; cases h
  | true =>
    rw [hb] at h
    obtain ⟨b1, b2⟩ := xv_and_t hb
    exact xy_push hk h (xy_ii (xv_le_iff.mp b1) (xv_le_iff.mp b2)) fun _ _ _ _ w => lv_ldcw C.1 C.2.1 C.2.2.2.1 (C.2.2.2.2.1 _ hw) hd w
theorem xy_ldc2 {index : Nat} {v : Int} (C : xw_Cx p s m args c cc own nL D t A X xs Γ) (hk : (∀ pc' L' st' S', k pc' L' st' S' = true → xw_Tj e0 D t A s.heap hl Γ X xs ws0 nL gh gz fh (fun pc ls vst H locs => W p l e R s m args below meth c H locs cs sl Q (F0 m pc ls vst)) act pc' L' st' S')) (hd : decode cc pc = .ok (.ldc2_w index, 3)) (hw : Jvm.Cond.constantLong own index (Int64.ofInt v) ∈ xv_tb) (h : (bif xv_le (-9223372036854775808) v && xv_le v 9223372036854775807 then k (pc + 3) L ((1, (v, [])) :: st) S else false) = true) : xw_Tj e0 D t A s.heap hl Γ X xs ws0 nL gh gz fh (fun pc ls vst H locs => W p l e R s m args below meth c H locs cs sl Q (F0 m pc ls vst)) act pc L st S := by
  cases hb : (xv_le (-9223372036854775808) v && xv_le v 9223372036854775807) with
  | false => rw [hb] at h; cases h
  | true =>
    rw [hb] at h
    obtain ⟨b1, b2⟩ := xv_and_t hb
    refine xy_push hk h (x := .long (Int64.ofInt v)) (fun as ρ n => xw_hv.l ?_) fun _ _ _ _ w => lv_ldc2 C.1 C.2.1 C.2.2.2.1 (C.2.2.2.2.1 _ hw) hd w
    rw [Int64.toInt_ofInt, xw_bm1 (xv_le_iff.mp b1) (xv_le_iff.mp b2)]
    exact xw_is.c v
theorem xy_ldcS {index : Nat} (C : xw_Cx p s m args c cc own nL D t A X xs Γ) (hk : (∀ pc' L' st' S', k pc' L' st' S' = true → xw_Tj e0 D t A s.heap hl Γ X xs ws0 nL gh gz fh (fun pc ls vst H locs => W p l e R s m args below meth c H locs cs sl Q (F0 m pc ls vst)) act pc' L' st' S')) (hd : decode cc pc = .ok (.ldc index, 2)) (hw : (own, index) ∈ xw_strs) (h : k (pc + 2) L ((6, (0, [])) :: st) S = true) : xw_Tj e0 D t A s.heap hl Γ X xs ws0 nL gh gz fh (fun pc ls vst H locs => W p l e R s m args below meth c H locs cs sl Q (F0 m pc ls vst)) act pc L st S := by
  obtain ⟨tx, a, h1, h2⟩ := C.2.2.2.2.2.2.2.2.2.2.1.2.2 A s own index hw C.2.2.2.2.2.2.2.2.2.1
  exact xy_push hk h (x := .ref a) (fun as ρ n => ⟨fun q => (by cases q), fun q => (by cases q), fun q => (by cases q), fun q => (by cases q), fun q => (by cases q), fun q => (by cases q), fun _ => ⟨a, rfl, h2⟩, fun q => (by cases q)⟩) fun _ _ _ _ w => va_ldcS C.1 C.2.1 C.2.2.2.1 h1 hd w
/-! locals -/
theorem xy_ldeq {kd i : Nat} {f : xw_V → Bool} (h : xw_ld kd L i f = true) : ∃ v, L[i]? = some v ∧ v.1 = kd ∧ f v = true := by
  unfold xw_ld at h
  rw [xv_nth_eq] at h
  cases hl : L[i]? with
  | none => rw [hl] at h; cases h
  | some v =>
    rw [hl] at h
    dsimp only at h
    cases hb : Nat.beq v.1 kd with
    | false => rw [hb] at h; cases h
    | true => rw [hb] at h; exact ⟨v, rfl, xv_beq hb, h⟩
theorem xy_ldi {i pc' : Nat} (hk : (∀ pc' L' st' S', k pc' L' st' S' = true → xw_Tj e0 D t A s.heap hl Γ X xs ws0 nL gh gz fh (fun pc ls vst H locs => W p l e R s m args below meth c H locs cs sl Q (F0 m pc ls vst)) act pc' L' st' S')) (h : xw_ld 0 L i (fun v => k pc' L (v :: st) S) = true)
    (hs : ∀ (ls : Array Slot) (vst : List Value) (H : Heap) (locs : List Loc) (x : Int32), ls[i]? = some (.val (.int x)) → W p l e R s m args below meth c H locs cs sl Q (F0 m pc' ls (.int x :: vst)) → W p l e R s m args below meth c H locs cs sl Q (F0 m pc ls vst)) : xw_Tj e0 D t A s.heap hl Γ X xs ws0 nL gh gz fh (fun pc ls vst H locs => W p l e R s m args below meth c H locs cs sl Q (F0 m pc ls vst)) act pc L st S := by
  obtain ⟨v, e1, e2, h⟩ := xy_ldeq h
  refine xy_pure hk h fun ρ ls vst H locs as lvs _ hls hL hst => ?_
  obtain ⟨x, hx, hv⟩ := hL i v e1 (by omega)
  obtain ⟨y, rfl, hy⟩ := hv.1 e2
  exact ⟨.int y :: vst, xw_sk.cons hv hst, hs ls vst H locs y (hls.2.2 (i, _) hx)⟩
theorem xy_ldl {i pc' : Nat} (hk : (∀ pc' L' st' S', k pc' L' st' S' = true → xw_Tj e0 D t A s.heap hl Γ X xs ws0 nL gh gz fh (fun pc ls vst H locs => W p l e R s m args below meth c H locs cs sl Q (F0 m pc ls vst)) act pc' L' st' S')) (h : xw_ld 1 L i (fun v => k pc' L (v :: st) S) = true)
    (hs : ∀ (ls : Array Slot) (vst : List Value) (H : Heap) (locs : List Loc) (x : Int64), ls[i]? = some (.val (.long x)) → W p l e R s m args below meth c H locs cs sl Q (F0 m pc' ls (.long x :: vst)) → W p l e R s m args below meth c H locs cs sl Q (F0 m pc ls vst)) : xw_Tj e0 D t A s.heap hl Γ X xs ws0 nL gh gz fh (fun pc ls vst H locs => W p l e R s m args below meth c H locs cs sl Q (F0 m pc ls vst)) act pc L st S := by
  obtain ⟨v, e1, e2, h⟩ := xy_ldeq h
  refine xy_pure hk h fun ρ ls vst H locs as lvs _ hls hL hst => ?_
  obtain ⟨x, hx, hv⟩ := hL i v e1 (by omega)
  obtain ⟨y, rfl, hy⟩ := hv.2.1 e2
  exact ⟨.long y :: vst, xw_sk.cons hv hst, hs ls vst H locs y (hls.2.2 (i, _) hx)⟩
theorem xy_ref {as : List Nat} {ρ : Nat → Int} {n : Nat} {v : xw_V} {x : Value} (hb : xw_isr v = true) (hv : xw_hv X as ρ n v x) : (∃ a, x = .ref a) ∨ x = .null := by
  unfold xw_isr at hb
  rcases (Bool.or_eq_true _ _).mp hb with q | hb
  · obtain ⟨a, -, e⟩ := hv.2.2.1 (xv_beq q); exact Or.inl ⟨a, e⟩
  rcases (Bool.or_eq_true _ _).mp hb with q | hb
  · exact Or.inr (hv.2.2.2.1 (xv_beq q))
  rcases (Bool.or_eq_true _ _).mp hb with q | hb
  · obtain ⟨j, a, -, -, e⟩ := hv.2.2.2.2.1 (xv_beq q); exact Or.inl ⟨a, e⟩
  rcases (Bool.or_eq_true _ _).mp hb with q | q
  · obtain ⟨e, -⟩ := hv.2.2.2.2.2.1 (xv_beq q); exact Or.inl ⟨_, e⟩
  · obtain ⟨a, e, -⟩ := hv.2.2.2.2.2.2.1 (xv_beq q); exact Or.inl ⟨a, e⟩
theorem xy_isr9 {v : xw_V} (hb : xw_isr v = true) : v.1 ≤ 7 ∧ v.1 ≠ 1 := by
  unfold xw_isr at hb
  simp only [Bool.or_eq_true] at hb
  rcases hb with q | q | q | q | q <;> (have := xv_beq q; omega)
theorem xy_aload_n {i : Fin 4} (C : xw_Cx p s m args c cc own nL D t A X xs Γ) (hk : (∀ pc' L' st' S', k pc' L' st' S' = true → xw_Tj e0 D t A s.heap hl Γ X xs ws0 nL gh gz fh (fun pc ls vst H locs => W p l e R s m args below meth c H locs cs sl Q (F0 m pc ls vst)) act pc' L' st' S')) (hd : decode cc pc = .ok (.aload_n i, 1)) (h : xw_lda L i.val (fun v => k (pc + 1) L (v :: st) S) = true) : xw_Tj e0 D t A s.heap hl Γ X xs ws0 nL gh gz fh (fun pc ls vst H locs => W p l e R s m args below meth c H locs cs sl Q (F0 m pc ls vst)) act pc L st S := by
  unfold xw_lda at h
  rw [xv_nth_eq] at h
  cases hl : L[i.val]? with
  | none => rw [hl] at h; cases h
  | some v =>
    rw [hl] at h
    dsimp only at h
    cases hb : xw_isr v with
    | false => rw [hb] at h; cases h
    | true =>
      rw [hb] at h
      refine xy_pure hk h fun ρ ls vst H locs as lvs _ hls hL hst => ?_
      obtain ⟨x, hx, hv⟩ := hL i.val v hl (xy_isr9 hb).1
      refine ⟨x :: vst, xw_sk.cons hv hst, fun w => ?_⟩
      rcases xy_ref hb hv with ⟨a, rfl⟩ | rfl
      · exact lv_aload_n C.1 C.2.1 hd rfl (hls.2.2 (i.val, _) hx) w
      · exact lv_aload_nN C.1 C.2.1 hd rfl (hls.2.2 (i.val, _) hx) w
theorem xy_cat1 {as : List Nat} {ρ : Nat → Int} {n : Nat} {v : xw_V} {x : Value} (hv : xw_hv X as ρ n v x) (h7 : v.1 ≤ 7) (h1 : v.1 ≠ 1) : x.category = 1 := by
  rcases (show v.1 = 0 ∨ v.1 = 2 ∨ v.1 = 3 ∨ v.1 = 4 ∨ v.1 = 5 ∨ v.1 = 6 ∨ v.1 = 7 by omega) with q | q | q | q | q | q | q
  · obtain ⟨i, rfl, -⟩ := hv.1 q; rfl
  · obtain ⟨a, -, rfl⟩ := hv.2.2.1 q; rfl
  · rw [hv.2.2.2.1 q]; rfl
  · obtain ⟨j, a, -, -, rfl⟩ := hv.2.2.2.2.1 q; rfl
  · rw [(hv.2.2.2.2.2.1 q).1]; rfl
  · obtain ⟨a, rfl, -⟩ := hv.2.2.2.2.2.2.1 q; rfl
  · obtain ⟨i, d, rfl, -⟩ := hv.2.2.2.2.2.2.2 q; rfl
theorem xw_cl1_get {i j : Nat} {w : xw_V} (hj : j ≠ i) (h : (xw_cl1 L i)[j]? = some w) (hk : w.1 ≤ 7) : L[j]? = some w ∧ (j + 1 = i → w.1 ≠ 1) := by
  unfold xw_cl1 at h
  cases i with
  | zero => exact ⟨h, fun q => by omega⟩
  | succ i =>
    dsimp only at h
    rw [xv_nth_eq] at h
    cases hl : L[i]? with
    | none =>
      rw [hl] at h
      refine ⟨h, fun q => ?_⟩
      have e : j = i := by omega
      subst e
      rw [hl] at h; cases h
    | some v =>
      rw [hl] at h
      dsimp only at h
      cases hb : Nat.beq v.1 1 with
      | true =>
        rw [hb] at h
        simp only [cond_true] at h
        rw [xv_put_eq] at h
        by_cases e : i = j
        · subst e
          have hlt : i < L.length := (List.getElem?_eq_some_iff.mp hl).1
          rw [List.getElem?_set_self hlt] at h
          cases h
          exact absurd hk (by decide)
        · rw [List.getElem?_set_ne e] at h
          exact ⟨h, fun q => by omega⟩
      | false =>
        rw [hb] at h
        simp only [cond_false] at h
        refine ⟨h, fun q q1 => ?_⟩
        have e : j = i := by omega
        subst e
        rw [hl] at h; cases h
        rw [q1] at hb; cases hb
theorem xw_cl1_len (L : List xw_V) (i : Nat) : (xw_cl1 L i).length = L.length := by
  unfold xw_cl1
  cases i with
  | zero => rfl
  | succ i =>
    dsimp only
    cases xv_nth L i with
    | none => rfl
    | some v =>
      dsimp only
      cases Nat.beq v.1 1 with
      | true => simp [xv_put_eq]
      | false => rfl
theorem xw_lm.st1 {as : List Nat} {ρ : Nat → Int} {n i : Nat} {v : xw_V} {x : Value} {lvs : List (Nat × Value)} (hi : i < L.length) (hx : xw_hv X as ρ n v x) (h3 : xw_lm X as ρ n L lvs) : xw_lm X as ρ n (xw_st1 L i v) ((i, x) :: lvs.filter (fun q => !(q.1 == i) && !(q.1 + 1 == i && q.2.category == 2))) := fun j w hj hk => by
  unfold xw_st1 at hj
  rw [xv_put_eq] at hj
  by_cases e : i = j
  · subst e
    rw [List.getElem?_set_self (by rw [xw_cl1_len]; exact hi)] at hj
    cases hj
    exact ⟨x, List.mem_cons_self, hx⟩
  · rw [List.getElem?_set_ne e] at hj
    obtain ⟨h4, h5⟩ := xw_cl1_get (fun q => e q.symm) hj hk
    obtain ⟨y, hy, hv⟩ := h3 j w h4 hk
    refine ⟨y, List.mem_cons_of_mem _ (List.mem_filter.mpr ⟨hy, ?_⟩), hv⟩
    have e1 : (j == i) = false := by simp; omega
    simp only [e1, Bool.not_false, Bool.true_and, Bool.not_eq_true', Bool.and_eq_false_iff, beq_eq_false_iff_ne]
    by_cases q : j + 1 = i
    · right
      rw [xy_cat1 hv hk (h5 q)]; decide
    · left; exact q
end XY1
end
section
/-! stores, numbers, jumps -/
section XY2
variable {p : Program} {l : Launch} {e : Env} {R : Room} {s : State} {m : MethodId} {args : Array Value} {below : List Frame} {meth : Method} {c : Code}
variable {e0 : (Nat → Int) × Nat} {cc : ByteArray} {own : String} {nL : Nat} {D : va_G} {t : Nat → ClassId} {A : Nat → Prop} {hl : Nat × Int} {Γ : xv_A} {X : xw_X} {xs : Nat → Int32} {ws0 : va_W} {gh : List xw_L} {gz : Nat → Int} {fh : Nat → Option xw_H} {cs sl : Nat} {Q : State → Prop} {act : List xw_A} {k : xw_K} {pc : Nat} {L st : List xw_V} {S : xw_S}
/-- a local is written -/
theorem xy_sto {i pc' : Nat} {v : xw_V} {rest : List xw_V} (hk : (∀ pc' L' st' S', k pc' L' st' S' = true → xw_Tj e0 D t A s.heap hl Γ X xs ws0 nL gh gz fh (fun pc ls vst H locs => W p l e R s m args below meth c H locs cs sl Q (F0 m pc ls vst)) act pc' L' st' S')) (h : k pc' (xw_st1 L i v) rest S = true) (hst : st = v :: rest) (hi : i + 1 ≤ L.length)
    (hs : ∀ (ρ : Nat → Int) (ls : Array Slot) (vst : List Value) (H : Heap) (locs : List Loc) (as : List Nat) (x : Value) (lv : List (Nat × Value)), xw_hv X as ρ S.2.1 v x → lv_has ls nL lv → i < nL → (∀ ls' : Array Slot, lv_has ls' nL ((i, x) :: lv.filter (fun q => !(q.1 == i) && !(q.1 + 1 == i && q.2.category == 2))) → W p l e R s m args below meth c H locs cs sl Q (F0 m pc' ls' vst)) → W p l e R s m args below meth c H locs cs sl Q (F0 m pc ls (x :: vst))) : xw_Tj e0 D t A s.heap hl Γ X xs ws0 nL gh gz fh (fun pc ls vst H locs => W p l e R s m args below meth c H locs cs sl Q (F0 m pc ls vst)) act pc L st S := by
  intro ρ ls vst H locs ws hR hG hH
  subst hst
  obtain ⟨⟨h0, lvs, h1, h2⟩, h3, h4, h5, h6⟩ := hR
  obtain ⟨x, vst, rfl, hx, htl⟩ := h3.un
  exact hs ρ ls vst H locs _ x lvs hx h1 (by omega) fun ls' hls' => xy_k hk h ⟨⟨by unfold xw_st1; rw [xv_put_eq, List.length_set, xw_cl1_len]; exact h0, _, hls', h2.st1 (by omega) hx⟩, htl, h4, h5, h6⟩ xw_Up.rf hG hH
theorem xy_istore {i pc' : Nat} (hk : (∀ pc' L' st' S', k pc' L' st' S' = true → xw_Tj e0 D t A s.heap hl Γ X xs ws0 nL gh gz fh (fun pc ls vst H locs => W p l e R s m args below meth c H locs cs sl Q (F0 m pc ls vst)) act pc' L' st' S')) (h : xw_sto 0 i L st (fun L' st' => k pc' L' st' S) = true)
    (hs : ∀ (ls : Array Slot) (vst : List Value) (H : Heap) (locs : List Loc) (x : Int32) (lv : List (Nat × Value)), lv_has ls nL lv → i < nL → (∀ ls' : Array Slot, lv_has ls' nL ((i, .int x) :: lv.filter (fun q => !(q.1 == i) && !(q.1 + 1 == i && q.2.category == 2))) → W p l e R s m args below meth c H locs cs sl Q (F0 m pc' ls' vst)) → W p l e R s m args below meth c H locs cs sl Q (F0 m pc ls (.int x :: vst))) : xw_Tj e0 D t A s.heap hl Γ X xs ws0 nL gh gz fh (fun pc ls vst H locs => W p l e R s m args below meth c H locs cs sl Q (F0 m pc ls vst)) act pc L st S := by
  unfold xw_sto at h
  match st, h with
  | [], h => cases h
  | v :: rest, h =>
    dsimp only at h
    cases hb : (Nat.beq v.1 0 && Nat.ble (i + 1) L.length) with
    | false => rw [hb] at h; cases h
    | true =>
      rw [hb] at h
      obtain ⟨b1, b2⟩ := xv_and_t hb
      refine xy_sto hk h rfl (xv_ble b2) fun ρ ls vst H locs as x lv hx hlv hi w => ?_
      obtain ⟨y, rfl, -⟩ := hx.1 (xv_beq b1)
      exact hs ls vst H locs y lv hlv hi w
theorem xy_astore_n {i : Fin 4} (C : xw_Cx p s m args c cc own nL D t A X xs Γ) (hk : (∀ pc' L' st' S', k pc' L' st' S' = true → xw_Tj e0 D t A s.heap hl Γ X xs ws0 nL gh gz fh (fun pc ls vst H locs => W p l e R s m args below meth c H locs cs sl Q (F0 m pc ls vst)) act pc' L' st' S')) (hd : decode cc pc = .ok (.astore_n i, 1)) (h : xw_stoa i.val L st (fun L' st' => k (pc + 1) L' st' S) = true) : xw_Tj e0 D t A s.heap hl Γ X xs ws0 nL gh gz fh (fun pc ls vst H locs => W p l e R s m args below meth c H locs cs sl Q (F0 m pc ls vst)) act pc L st S := by
  unfold xw_stoa at h
  match st, h with
  | [], h => cases h
  | v :: rest, h =>
    dsimp only at h
    cases hb : ((Nat.beq v.1 2 || Nat.beq v.1 3) && Nat.ble (i.val + 1) L.length) with
    | false => rw [hb] at h; cases h
    | true =>
      rw [hb] at h
      obtain ⟨b1, b2⟩ := xv_and_t hb
      refine xy_sto hk h rfl (xv_ble b2) fun ρ ls vst H locs as x lv hx hlv hi w => ?_
      rcases (Bool.or_eq_true _ _).mp b1 with b1 | b1
      · obtain ⟨q, -, rfl⟩ := hx.2.2.1 (xv_beq b1)
        exact lv_astore_n C.1 C.2.1 hd rfl hlv hi rfl w
      · have e := hx.2.2.2.1 (xv_beq b1)
        subst e
        exact lv_astore_nN C.1 C.2.1 hd rfl hlv hi rfl w
theorem xy_lstore {i pc' : Nat} (hk : (∀ pc' L' st' S', k pc' L' st' S' = true → xw_Tj e0 D t A s.heap hl Γ X xs ws0 nL gh gz fh (fun pc ls vst H locs => W p l e R s m args below meth c H locs cs sl Q (F0 m pc ls vst)) act pc' L' st' S')) (h : xw_stol i L st (fun L' st' => k pc' L' st' S) = true)
    (hs : ∀ (ls : Array Slot) (vst : List Value) (H : Heap) (locs : List Loc) (x : Int64) (lv : List (Nat × Value)), lv_has ls nL lv → i + 1 < nL → (∀ ls' : Array Slot, lv_has ls' nL ((i, .long x) :: lv.filter (fun q => !(q.1 == i) && (!(q.1 == i + 1) && !(q.1 + 1 == i && q.2.category == 2)))) → W p l e R s m args below meth c H locs cs sl Q (F0 m pc' ls' vst)) → W p l e R s m args below meth c H locs cs sl Q (F0 m pc ls (.long x :: vst))) : xw_Tj e0 D t A s.heap hl Γ X xs ws0 nL gh gz fh (fun pc ls vst H locs => W p l e R s m args below meth c H locs cs sl Q (F0 m pc ls vst)) act pc L st S := by
  unfold xw_stol at h
  match st, h with
  | [], h => cases h
  | v :: rest, h =>
    dsimp only at h
    cases hb : (Nat.beq v.1 1 && Nat.ble (i + 2) L.length) with
    | false => rw [hb] at h; cases h
    | true =>
      rw [hb] at h
      simp only [cond_true] at h
      obtain ⟨b1, b2⟩ := xv_and_t hb
      have b2 := xv_ble b2
      intro ρ ls vst H locs ws hR hG hH
      obtain ⟨⟨h0, lvs, h1, h2⟩, h3, h4, h5, h6⟩ := hR
      obtain ⟨x, vst, rfl, hx, htl⟩ := h3.un
      obtain ⟨y, rfl, hy⟩ := hx.2.1 (xv_beq b1)
      refine hs ls vst H locs y lvs h1 (by omega) fun ls' hls' => xy_k hk h ⟨⟨by unfold xw_st2; rw [xv_put_eq, xv_put_eq, List.length_set, List.length_set, xw_cl1_len]; exact h0, _, hls', fun j w hj hk9 => ?_⟩, htl, h4, h5, h6⟩ xw_Up.rf hG hH
      unfold xw_st2 at hj
      rw [xv_put_eq, xv_put_eq] at hj
      by_cases e1 : i + 1 = j
      · subst e1
        rw [List.getElem?_set_self (by rw [List.length_set, xw_cl1_len]; omega)] at hj
        cases hj
        exact absurd hk9 (by decide)
      · rw [List.getElem?_set_ne e1] at hj
        by_cases e2 : i = j
        · subst e2
          rw [List.getElem?_set_self (by rw [xw_cl1_len]; omega)] at hj
          cases hj
          exact ⟨.long y, List.mem_cons_self, hx⟩
        · rw [List.getElem?_set_ne e2] at hj
          obtain ⟨g4, g5⟩ := xw_cl1_get (fun q => e2 q.symm) hj hk9
          obtain ⟨z, hz, hv⟩ := h2 j w g4 hk9
          refine ⟨z, List.mem_cons_of_mem _ (List.mem_filter.mpr ⟨hz, ?_⟩), hv⟩
          have q1 : (j == i) = false := by simp; omega
          have q2 : (j == i + 1) = false := by simp; omega
          simp only [q1, q2, Bool.not_false, Bool.true_and, Bool.not_eq_true', Bool.and_eq_false_iff, beq_eq_false_iff_ne]
          by_cases q : j + 1 = i
          · right
            rw [xy_cat1 hv hk9 (g5 q)]; decide
          · left; exact q
theorem xy_iinc {i : Nat} {n : Int} (C : xw_Cx p s m args c cc own nL D t A X xs Γ) (hk : (∀ pc' L' st' S', k pc' L' st' S' = true → xw_Tj e0 D t A s.heap hl Γ X xs ws0 nL gh gz fh (fun pc ls vst H locs => W p l e R s m args below meth c H locs cs sl Q (F0 m pc ls vst)) act pc' L' st' S')) (hd : decode cc pc = .ok (.iinc i n, 3)) (h : xw_ld 0 L i (fun v => xw_inr 0 S (xw_k v.2 n) (fun l S' => k (pc + 3) (xw_st1 L i (0, l)) st S')) = true) : xw_Tj e0 D t A s.heap hl Γ X xs ws0 nL gh gz fh (fun pc ls vst H locs => W p l e R s m args below meth c H locs cs sl Q (F0 m pc ls vst)) act pc L st S := by
  obtain ⟨v, e1, e2, h⟩ := xy_ldeq h
  intro ρ ls vst H locs ws hR hG hH
  obtain ⟨⟨h0, lvs, h1, h2⟩, h3, h4, h5, h6⟩ := hR
  obtain ⟨x, hx, hv⟩ := h2 i v e1 (by omega)
  obtain ⟨y, rfl, hy⟩ := hv.1 e2
  obtain ⟨j, hj⟩ := List.mem_iff_getElem?.mp hx
  have hi : i < nL := by rw [← h0]; exact (List.getElem?_eq_some_iff.mp e1).1
  have ez : (y + Int32.ofInt n).toInt = (y.toInt + n).bmod (2 ^ 32) := by
    rw [Int32.toInt_add, Int32.toInt_ofInt]
    exact Int.add_bmod_bmod
  obtain ⟨ρ', l', S', g1, g2, g3, g4, g5, g6, g7⟩ := xw_Re.inr (z := (y + Int32.ofInt n).toInt) h5 h (hy.k n) (fun a b => by rw [ez]; exact xw_bm0 a b) (xw_r0 _).1 (xw_r0 _).2
  refine lv_iinc C.1 C.2.1 hd h1 hj rfl hi rfl (fun ls' hls' => ?_)
  exact xy_k hk g1 ⟨⟨by unfold xw_st1; rw [xv_put_eq, List.length_set, xw_cl1_len]; exact h0, _, hls', (h2.more g2).st1 (by omega) (xw_hv.i g4)⟩, h3.more g2, by rw [g7]; exact h4, g3, xw_Re.me h6 g2 g5 g6⟩ g2 hG hH
theorem xy_bineq {kd ky : Nat} {f : xw_L → xw_L → List xw_V → Bool} (h : xw_bin kd ky st f = true) : ∃ x y r, st = y :: x :: r ∧ x.1 = kd ∧ y.1 = ky ∧ f x.2 y.2 r = true := by
  unfold xw_bin at h
  match st, h with
  | [], h => cases h
  | [_], h => cases h
  | y :: x :: r, h =>
    dsimp only at h
    cases hb : (Nat.beq x.1 kd && Nat.beq y.1 ky) with
    | false => rw [hb] at h; cases h
    | true =>
      rw [hb] at h
      obtain ⟨b1, b2⟩ := xv_and_t hb
      exact ⟨x, y, r, rfl, xv_beq b1, xv_beq b2, h⟩
/-- two ints give one -/
theorem xy_bi {pc' : Nat} {f : xw_L → xw_L → List xw_V → Bool} (op : Int32 → Int32 → Int32) (hk : (∀ pc' L' st' S', k pc' L' st' S' = true → xw_Tj e0 D t A s.heap hl Γ X xs ws0 nL gh gz fh (fun pc ls vst H locs => W p l e R s m args below meth c H locs cs sl Q (F0 m pc ls vst)) act pc' L' st' S')) (h : xw_bin 0 0 st f = true)
    (hop : ∀ (ρ : Nat → Int) (x y : xw_L) (r : List xw_V) (u v : Int32), xw_St ρ S → f x y r = true → xw_is ρ S.2.1 x u.toInt → xw_is ρ S.2.1 y v.toInt → xw_Re ρ S (fun l S' => k pc' L ((0, l) :: r) S') (op u v).toInt ∧ (∀ (ls : Array Slot) (vst : List Value) (H : Heap) (locs : List Loc), W p l e R s m args below meth c H locs cs sl Q (F0 m pc' ls (.int (op u v) :: vst)) → W p l e R s m args below meth c H locs cs sl Q (F0 m pc ls (.int v :: .int u :: vst)))) : xw_Tj e0 D t A s.heap hl Γ X xs ws0 nL gh gz fh (fun pc ls vst H locs => W p l e R s m args below meth c H locs cs sl Q (F0 m pc ls vst)) act pc L st S := by
  obtain ⟨x, y, r, rfl, hx, hy, h⟩ := xy_bineq h
  intro ρ ls vst H locs ws hR hG hH
  obtain ⟨v0, vst, rfl, hv0, ht0⟩ := hR.2.1.un
  obtain ⟨u0, vst, rfl, hu0, ht⟩ := ht0.un
  obtain ⟨v, rfl, hv⟩ := hv0.1 hy
  obtain ⟨u, rfl, hu⟩ := hu0.1 hx
  obtain ⟨⟨ρ', l', S', g1, g2, g3, g4, g5, g6, g7⟩, hw⟩ := hop ρ x.2 y.2 r u v hR.2.2.2.1 h hu hv
  exact hw ls vst H locs (xy_k hk g1 (hR.stk (xw_sk.cons (xw_hv.i g4) (ht.more g2)) g2 g3 g5 g6 g7) g2 hG hH)
theorem xy_bl {pc' : Nat} {f : xw_L → xw_L → List xw_V → Bool} (op : Int64 → Int64 → Int64) (hk : (∀ pc' L' st' S', k pc' L' st' S' = true → xw_Tj e0 D t A s.heap hl Γ X xs ws0 nL gh gz fh (fun pc ls vst H locs => W p l e R s m args below meth c H locs cs sl Q (F0 m pc ls vst)) act pc' L' st' S')) (h : xw_bin 1 1 st f = true)
    (hop : ∀ (ρ : Nat → Int) (x y : xw_L) (r : List xw_V) (u v : Int64), xw_St ρ S → f x y r = true → xw_is ρ S.2.1 x u.toInt → xw_is ρ S.2.1 y v.toInt → xw_Re ρ S (fun l S' => k pc' L ((1, l) :: r) S') (op u v).toInt ∧ (∀ (ls : Array Slot) (vst : List Value) (H : Heap) (locs : List Loc), W p l e R s m args below meth c H locs cs sl Q (F0 m pc' ls (.long (op u v) :: vst)) → W p l e R s m args below meth c H locs cs sl Q (F0 m pc ls (.long v :: .long u :: vst)))) : xw_Tj e0 D t A s.heap hl Γ X xs ws0 nL gh gz fh (fun pc ls vst H locs => W p l e R s m args below meth c H locs cs sl Q (F0 m pc ls vst)) act pc L st S := by
  obtain ⟨x, y, r, rfl, hx, hy, h⟩ := xy_bineq h
  intro ρ ls vst H locs ws hR hG hH
  obtain ⟨v0, vst, rfl, hv0, ht0⟩ := hR.2.1.un
  obtain ⟨u0, vst, rfl, hu0, ht⟩ := ht0.un
  obtain ⟨v, rfl, hv⟩ := hv0.2.1 hy
  obtain ⟨u, rfl, hu⟩ := hu0.2.1 hx
  obtain ⟨⟨ρ', l', S', g1, g2, g3, g4, g5, g6, g7⟩, hw⟩ := hop ρ x.2 y.2 r u v hR.2.2.2.1 h hu hv
  exact hw ls vst H locs (xy_k hk g1 (hR.stk (xw_sk.cons (xw_hv.l g4) (ht.more g2)) g2 g3 g5 g6 g7) g2 hG hH)
theorem xy_iadd (C : xw_Cx p s m args c cc own nL D t A X xs Γ) (hk : (∀ pc' L' st' S', k pc' L' st' S' = true → xw_Tj e0 D t A s.heap hl Γ X xs ws0 nL gh gz fh (fun pc ls vst H locs => W p l e R s m args below meth c H locs cs sl Q (F0 m pc ls vst)) act pc' L' st' S')) (hd : decode cc pc = .ok (.iadd, 1)) (h : xw_bin 0 0 st (fun x y r => xw_inr 0 S (xw_add x y) (fun l S' => k (pc + 1) L ((0, l) :: r) S')) = true) : xw_Tj e0 D t A s.heap hl Γ X xs ws0 nL gh gz fh (fun pc ls vst H locs => W p l e R s m args below meth c H locs cs sl Q (F0 m pc ls vst)) act pc L st S :=
  xy_bi (fun x y => x + y) hk h fun ρ x y r u v hS h hu hv => ⟨xw_Re.inr hS h (hu.add hv) (fun a b => by rw [Int32.toInt_add]; exact xw_bm0 a b) (xw_r0 _).1 (xw_r0 _).2, fun _ _ _ _ w => lv_iadd C.1 C.2.1 hd w⟩
theorem xy_isub (C : xw_Cx p s m args c cc own nL D t A X xs Γ) (hk : (∀ pc' L' st' S', k pc' L' st' S' = true → xw_Tj e0 D t A s.heap hl Γ X xs ws0 nL gh gz fh (fun pc ls vst H locs => W p l e R s m args below meth c H locs cs sl Q (F0 m pc ls vst)) act pc' L' st' S')) (hd : decode cc pc = .ok (.isub, 1)) (h : xw_bin 0 0 st (fun x y r => xw_inr 0 S (xw_sub x y) (fun l S' => k (pc + 1) L ((0, l) :: r) S')) = true) : xw_Tj e0 D t A s.heap hl Γ X xs ws0 nL gh gz fh (fun pc ls vst H locs => W p l e R s m args below meth c H locs cs sl Q (F0 m pc ls vst)) act pc L st S :=
  xy_bi (fun x y => x - y) hk h fun ρ x y r u v hS h hu hv => ⟨xw_Re.inr hS h (hu.sub hv) (fun a b => by rw [Int32.toInt_sub]; exact xw_bm0 a b) (xw_r0 _).1 (xw_r0 _).2, fun _ _ _ _ w => lv_isub C.1 C.2.1 hd w⟩
theorem xy_imul (C : xw_Cx p s m args c cc own nL D t A X xs Γ) (hk : (∀ pc' L' st' S', k pc' L' st' S' = true → xw_Tj e0 D t A s.heap hl Γ X xs ws0 nL gh gz fh (fun pc ls vst H locs => W p l e R s m args below meth c H locs cs sl Q (F0 m pc ls vst)) act pc' L' st' S')) (hd : decode cc pc = .ok (.imul, 1)) (h : xw_bin 0 0 st (fun x y r => xw_mul 0 S (xw_nm S.1 x) (xw_nm S.1 y) (fun l S' => k (pc + 1) L ((0, l) :: r) S')) = true) : xw_Tj e0 D t A s.heap hl Γ X xs ws0 nL gh gz fh (fun pc ls vst H locs => W p l e R s m args below meth c H locs cs sl Q (F0 m pc ls vst)) act pc L st S :=
  xy_bi (fun x y => x * y) hk h fun ρ x y r u v hS h hu hv => ⟨xw_Re.mul hS h (xw_nm_ok hS.1 hu) (xw_nm_ok hS.1 hv) (fun a b => by rw [Int32.toInt_mul]; exact xw_bm0 a b) (xw_r0 _).1 (xw_r0 _).2, fun _ _ _ _ w => lv_imul C.1 C.2.1 hd w⟩
theorem xy_iand (C : xw_Cx p s m args c cc own nL D t A X xs Γ) (hk : (∀ pc' L' st' S', k pc' L' st' S' = true → xw_Tj e0 D t A s.heap hl Γ X xs ws0 nL gh gz fh (fun pc ls vst H locs => W p l e R s m args below meth c H locs cs sl Q (F0 m pc ls vst)) act pc' L' st' S')) (hd : decode cc pc = .ok (.iand, 1)) (h : xw_bin 0 0 st (fun x y r => xw_and S (xw_nm S.1 x) (xw_nm S.1 y) (fun l S' => k (pc + 1) L ((0, l) :: r) S')) = true) : xw_Tj e0 D t A s.heap hl Γ X xs ws0 nL gh gz fh (fun pc ls vst H locs => W p l e R s m args below meth c H locs cs sl Q (F0 m pc ls vst)) act pc L st S :=
  xy_bi (fun x y => x &&& y) hk h fun ρ x y r u v hS h hu hv => ⟨xw_Re.and hS h (xw_nm_ok hS.1 hu) (xw_nm_ok hS.1 hv), fun _ _ _ _ w => lv_iand C.1 C.2.1 hd w⟩
theorem xy_ior (C : xw_Cx p s m args c cc own nL D t A X xs Γ) (hk : (∀ pc' L' st' S', k pc' L' st' S' = true → xw_Tj e0 D t A s.heap hl Γ X xs ws0 nL gh gz fh (fun pc ls vst H locs => W p l e R s m args below meth c H locs cs sl Q (F0 m pc ls vst)) act pc' L' st' S')) (hd : decode cc pc = .ok (.ior, 1)) (h : xw_bin 0 0 st (fun x y r => xw_or S (xw_nm S.1 x) (xw_nm S.1 y) (fun l S' => k (pc + 1) L ((0, l) :: r) S')) = true) : xw_Tj e0 D t A s.heap hl Γ X xs ws0 nL gh gz fh (fun pc ls vst H locs => W p l e R s m args below meth c H locs cs sl Q (F0 m pc ls vst)) act pc L st S :=
  xy_bi (fun x y => x ||| y) hk h fun ρ x y r u v hS h hu hv => ⟨xw_Re.or hS h (xw_nm_ok hS.1 hu) (xw_nm_ok hS.1 hv), fun _ _ _ _ w => lv_ior C.1 C.2.1 hd w⟩
theorem xy_ixor (C : xw_Cx p s m args c cc own nL D t A X xs Γ) (hk : (∀ pc' L' st' S', k pc' L' st' S' = true → xw_Tj e0 D t A s.heap hl Γ X xs ws0 nL gh gz fh (fun pc ls vst H locs => W p l e R s m args below meth c H locs cs sl Q (F0 m pc ls vst)) act pc' L' st' S')) (hd : decode cc pc = .ok (.ixor, 1)) (h : xw_bin 0 0 st (fun x y r => xw_xor S (xw_nm S.1 x) (xw_nm S.1 y) (fun l S' => k (pc + 1) L ((0, l) :: r) S')) = true) : xw_Tj e0 D t A s.heap hl Γ X xs ws0 nL gh gz fh (fun pc ls vst H locs => W p l e R s m args below meth c H locs cs sl Q (F0 m pc ls vst)) act pc L st S :=
  xy_bi (fun x y => x ^^^ y) hk h fun ρ x y r u v hS h hu hv => ⟨xw_Re.xor hS h (xw_nm_ok hS.1 hu) (xw_nm_ok hS.1 hv), fun _ _ _ _ w => lv_ixor C.1 C.2.1 hd w⟩
theorem xy_ishl (C : xw_Cx p s m args c cc own nL D t A X xs Γ) (hk : (∀ pc' L' st' S', k pc' L' st' S' = true → xw_Tj e0 D t A s.heap hl Γ X xs ws0 nL gh gz fh (fun pc ls vst H locs => W p l e R s m args below meth c H locs cs sl Q (F0 m pc ls vst)) act pc' L' st' S')) (hd : decode cc pc = .ok (.ishl, 1)) (h : xw_bin 0 0 st (fun x y r => xw_shl S (xw_nm S.1 x) (xw_nm S.1 y) (fun l S' => k (pc + 1) L ((0, l) :: r) S')) = true) : xw_Tj e0 D t A s.heap hl Γ X xs ws0 nL gh gz fh (fun pc ls vst H locs => W p l e R s m args below meth c H locs cs sl Q (F0 m pc ls vst)) act pc L st S :=
  xy_bi (fun x y => x <<< (y &&& 31)) hk h fun ρ x y r u v hS h hu hv => ⟨xw_Re.shl hS h (xw_nm_ok hS.1 hu) (xw_nm_ok hS.1 hv), fun _ _ _ _ w => lv_ishl C.1 C.2.1 hd w⟩
theorem xy_ishr (C : xw_Cx p s m args c cc own nL D t A X xs Γ) (hk : (∀ pc' L' st' S', k pc' L' st' S' = true → xw_Tj e0 D t A s.heap hl Γ X xs ws0 nL gh gz fh (fun pc ls vst H locs => W p l e R s m args below meth c H locs cs sl Q (F0 m pc ls vst)) act pc' L' st' S')) (hd : decode cc pc = .ok (.ishr, 1)) (h : xw_bin 0 0 st (fun x y r => xw_shr S (xw_nm S.1 x) (xw_nm S.1 y) (fun l S' => k (pc + 1) L ((0, l) :: r) S')) = true) : xw_Tj e0 D t A s.heap hl Γ X xs ws0 nL gh gz fh (fun pc ls vst H locs => W p l e R s m args below meth c H locs cs sl Q (F0 m pc ls vst)) act pc L st S :=
  xy_bi (fun x y => x >>> (y &&& 31)) hk h fun ρ x y r u v hS h hu hv => ⟨xw_Re.shr hS h (xw_nm_ok hS.1 hu) (xw_nm_ok hS.1 hv), fun _ _ _ _ w => lv_ishr C.1 C.2.1 hd w⟩
theorem xy_iushr (C : xw_Cx p s m args c cc own nL D t A X xs Γ) (hk : (∀ pc' L' st' S', k pc' L' st' S' = true → xw_Tj e0 D t A s.heap hl Γ X xs ws0 nL gh gz fh (fun pc ls vst H locs => W p l e R s m args below meth c H locs cs sl Q (F0 m pc ls vst)) act pc' L' st' S')) (hd : decode cc pc = .ok (.iushr, 1)) (h : xw_bin 0 0 st (fun x _ r => xw_ushr S (xw_nm S.1 x) (fun l S' => k (pc + 1) L ((0, l) :: r) S')) = true) : xw_Tj e0 D t A s.heap hl Γ X xs ws0 nL gh gz fh (fun pc ls vst H locs => W p l e R s m args below meth c H locs cs sl Q (F0 m pc ls vst)) act pc L st S :=
  xy_bi (fun x y => (x.toUInt32 >>> (y.toUInt32 &&& Int32.toUInt32 31)).toInt32) hk h fun ρ x y r u v hS h hu hv => ⟨xw_Re.ushr hS h (xw_nm_ok hS.1 hu), fun _ _ _ _ w => lv_iushr C.1 C.2.1 hd rfl w⟩
theorem xy_remv {x y q : Int} (h0 : 0 ≤ x) (h1 : 1 ≤ y) (hq : q = x.tdiv y) : 0 ≤ q * y ∧ q * y ≤ x ∧ 0 ≤ x - q * y ∧ x - q * y ≤ y - 1 ∧ (y ≤ x → x - q * y ≤ (x - 1) / 2) ∧ 0 ≤ q ∧ q ≤ x := by
  rw [Int.tdiv_eq_ediv_of_nonneg h0] at hq
  have e := Int.mul_ediv_add_emod x y
  have m0 := Int.emod_nonneg x (show y ≠ 0 by omega)
  have m1 := Int.emod_lt_of_pos x (show 0 < y by omega)
  have q0 : 0 ≤ q := by rw [hq]; exact Int.ediv_nonneg h0 (by omega)
  have q1 : q ≤ x := by rw [hq]; exact Int.ediv_le_self _ h0
  rw [← hq, Int.mul_comm] at e
  have p0 : 0 ≤ q * y := Int.mul_nonneg q0 (by omega)
  refine ⟨p0, by omega, by omega, by omega, fun hle => ?_, q0, q1⟩
  have q2 : 1 ≤ q := by
    rw [hq, Int.le_ediv_iff_mul_le (by omega)]; omega
  have : 1 * y ≤ q * y := Int.mul_le_mul_of_nonneg_right q2 (by omega)
  omega
theorem xy_irem (C : xw_Cx p s m args c cc own nL D t A X xs Γ) (hk : (∀ pc' L' st' S', k pc' L' st' S' = true → xw_Tj e0 D t A s.heap hl Γ X xs ws0 nL gh gz fh (fun pc ls vst H locs => W p l e R s m args below meth c H locs cs sl Q (F0 m pc ls vst)) act pc' L' st' S')) (hd : decode cc pc = .ok (.irem, 1)) (h : xw_bin 0 0 st (fun x y r => xw_rem 0 S (xw_nm S.1 x) (xw_nm S.1 y) (fun l S' => k (pc + 1) L ((0, l) :: r) S')) = true) : xw_Tj e0 D t A s.heap hl Γ X xs ws0 nL gh gz fh (fun pc ls vst H locs => W p l e R s m args below meth c H locs cs sl Q (F0 m pc ls vst)) act pc L st S :=
  xy_bi (fun x y => x - x / y * y) hk h fun ρ x y r u v hS h hu hv => by
    have key : 0 ≤ u.toInt → 1 ≤ v.toInt → 0 ≤ (u - u / v * v).toInt ∧ (u - u / v * v).toInt ≤ u.toInt ∧ (u - u / v * v).toInt ≤ v.toInt - 1 ∧ (v.toInt ≤ u.toInt → (u - u / v * v).toInt ≤ (u.toInt - 1) / 2) := fun a b => by
      have eq : (u / v).toInt = u.toInt.tdiv v.toInt := Int32.toInt_div_of_ne_right _ _ (fun q => by rw [q] at b; exact absurd b (by decide))
      obtain ⟨c1, c2, c3, c4, c5, c6, c7⟩ := xy_remv a b eq
      have ru := xv_i32 u
      have e1 : (u / v * v).toInt = (u / v).toInt * v.toInt := by rw [Int32.toInt_mul]; exact Int.bmod_eq_of_le (by omega) (by omega)
      have e2 : (u - u / v * v).toInt = u.toInt - (u / v).toInt * v.toInt := by rw [Int32.toInt_sub, e1]; exact Int.bmod_eq_of_le (by omega) (by omega)
      rw [e2]
      exact ⟨c3, by omega, c4, c5⟩
    obtain ⟨hne, hre⟩ := xw_Re.rem hS h (xw_nm_ok hS.1 hu) (xw_nm_ok hS.1 hv) key (xw_r0 _).1 (xw_r0 _).2
    exact ⟨hre, fun _ _ _ _ w => lv_irem C.1 C.2.1 hd (fun q => hne (by rw [q]; decide)) w⟩
theorem xy_ladd (C : xw_Cx p s m args c cc own nL D t A X xs Γ) (hk : (∀ pc' L' st' S', k pc' L' st' S' = true → xw_Tj e0 D t A s.heap hl Γ X xs ws0 nL gh gz fh (fun pc ls vst H locs => W p l e R s m args below meth c H locs cs sl Q (F0 m pc ls vst)) act pc' L' st' S')) (hd : decode cc pc = .ok (.ladd, 1)) (h : xw_bin 1 1 st (fun x y r => xw_inr 1 S (xw_add x y) (fun l S' => k (pc + 1) L ((1, l) :: r) S')) = true) : xw_Tj e0 D t A s.heap hl Γ X xs ws0 nL gh gz fh (fun pc ls vst H locs => W p l e R s m args below meth c H locs cs sl Q (F0 m pc ls vst)) act pc L st S :=
  xy_bl (fun x y => x + y) hk h fun ρ x y r u v hS h hu hv => ⟨xw_Re.inr hS h (hu.add hv) (fun a b => by rw [Int64.toInt_add]; exact xw_bm1 a b) (xw_r1 _).1 (xw_r1 _).2, fun _ _ _ _ w => lv_ladd C.1 C.2.1 hd w⟩
theorem xy_lsub (C : xw_Cx p s m args c cc own nL D t A X xs Γ) (hk : (∀ pc' L' st' S', k pc' L' st' S' = true → xw_Tj e0 D t A s.heap hl Γ X xs ws0 nL gh gz fh (fun pc ls vst H locs => W p l e R s m args below meth c H locs cs sl Q (F0 m pc ls vst)) act pc' L' st' S')) (hd : decode cc pc = .ok (.lsub, 1)) (h : xw_bin 1 1 st (fun x y r => xw_inr 1 S (xw_sub x y) (fun l S' => k (pc + 1) L ((1, l) :: r) S')) = true) : xw_Tj e0 D t A s.heap hl Γ X xs ws0 nL gh gz fh (fun pc ls vst H locs => W p l e R s m args below meth c H locs cs sl Q (F0 m pc ls vst)) act pc L st S :=
  xy_bl (fun x y => x - y) hk h fun ρ x y r u v hS h hu hv => ⟨xw_Re.inr hS h (hu.sub hv) (fun a b => by rw [Int64.toInt_sub]; exact xw_bm1 a b) (xw_r1 _).1 (xw_r1 _).2, fun _ _ _ _ w => lv_lsub C.1 C.2.1 hd w⟩
theorem xy_lmul (C : xw_Cx p s m args c cc own nL D t A X xs Γ) (hk : (∀ pc' L' st' S', k pc' L' st' S' = true → xw_Tj e0 D t A s.heap hl Γ X xs ws0 nL gh gz fh (fun pc ls vst H locs => W p l e R s m args below meth c H locs cs sl Q (F0 m pc ls vst)) act pc' L' st' S')) (hd : decode cc pc = .ok (.lmul, 1)) (h : xw_bin 1 1 st (fun x y r => xw_mul 1 S (xw_nm S.1 x) (xw_nm S.1 y) (fun l S' => k (pc + 1) L ((1, l) :: r) S')) = true) : xw_Tj e0 D t A s.heap hl Γ X xs ws0 nL gh gz fh (fun pc ls vst H locs => W p l e R s m args below meth c H locs cs sl Q (F0 m pc ls vst)) act pc L st S :=
  xy_bl (fun x y => x * y) hk h fun ρ x y r u v hS h hu hv => ⟨xw_Re.mul hS h (xw_nm_ok hS.1 hu) (xw_nm_ok hS.1 hv) (fun a b => by rw [Int64.toInt_mul]; exact xw_bm1 a b) (xw_r1 _).1 (xw_r1 _).2, fun _ _ _ _ w => lv_lmul C.1 C.2.1 hd w⟩
theorem xy_ldiv (C : xw_Cx p s m args c cc own nL D t A X xs Γ) (hk : (∀ pc' L' st' S', k pc' L' st' S' = true → xw_Tj e0 D t A s.heap hl Γ X xs ws0 nL gh gz fh (fun pc ls vst H locs => W p l e R s m args below meth c H locs cs sl Q (F0 m pc ls vst)) act pc' L' st' S')) (hd : decode cc pc = .ok (.ldiv, 1)) (h : xw_bin 1 1 st (fun x y r => xw_div 1 S (xw_nm S.1 x) (xw_nm S.1 y) (fun l S' => k (pc + 1) L ((1, l) :: r) S')) = true) : xw_Tj e0 D t A s.heap hl Γ X xs ws0 nL gh gz fh (fun pc ls vst H locs => W p l e R s m args below meth c H locs cs sl Q (F0 m pc ls vst)) act pc L st S :=
  xy_bl (fun x y => x / y) hk h fun ρ x y r u v hS h hu hv => by
    have key : 0 ≤ u.toInt → 1 ≤ v.toInt → 0 ≤ (u / v).toInt ∧ (u / v).toInt ≤ u.toInt := fun a b => by
      have eq : (u / v).toInt = u.toInt.tdiv v.toInt := Int64.toInt_div_of_ne_right _ _ (fun q => by rw [q] at b; exact absurd b (by decide))
      obtain ⟨c1, c2, c3, c4, c5, c6, c7⟩ := xy_remv a b eq
      exact ⟨c6, c7⟩
    obtain ⟨hne, hre⟩ := xw_Re.div hS h (xw_nm_ok hS.1 hu) (xw_nm_ok hS.1 hv) key (xw_r1 _).1 (xw_r1 _).2
    exact ⟨hre, fun _ _ _ _ w => lv_ldiv C.1 C.2.1 hd (fun q => hne (by rw [q]; decide)) w⟩
theorem xy_lrem (C : xw_Cx p s m args c cc own nL D t A X xs Γ) (hk : (∀ pc' L' st' S', k pc' L' st' S' = true → xw_Tj e0 D t A s.heap hl Γ X xs ws0 nL gh gz fh (fun pc ls vst H locs => W p l e R s m args below meth c H locs cs sl Q (F0 m pc ls vst)) act pc' L' st' S')) (hd : decode cc pc = .ok (.lrem, 1)) (h : xw_bin 1 1 st (fun x y r => xw_rem 1 S (xw_nm S.1 x) (xw_nm S.1 y) (fun l S' => k (pc + 1) L ((1, l) :: r) S')) = true) : xw_Tj e0 D t A s.heap hl Γ X xs ws0 nL gh gz fh (fun pc ls vst H locs => W p l e R s m args below meth c H locs cs sl Q (F0 m pc ls vst)) act pc L st S :=
  xy_bl (fun x y => x - x / y * y) hk h fun ρ x y r u v hS h hu hv => by
    have key : 0 ≤ u.toInt → 1 ≤ v.toInt → 0 ≤ (u - u / v * v).toInt ∧ (u - u / v * v).toInt ≤ u.toInt ∧ (u - u / v * v).toInt ≤ v.toInt - 1 ∧ (v.toInt ≤ u.toInt → (u - u / v * v).toInt ≤ (u.toInt - 1) / 2) := fun a b => by
      have eq : (u / v).toInt = u.toInt.tdiv v.toInt := Int64.toInt_div_of_ne_right _ _ (fun q => by rw [q] at b; exact absurd b (by decide))
      obtain ⟨c1, c2, c3, c4, c5, c6, c7⟩ := xy_remv a b eq
      have ru := xv_i64 u
      have e1 : (u / v * v).toInt = (u / v).toInt * v.toInt := by rw [Int64.toInt_mul]; exact Int.bmod_eq_of_le (by omega) (by omega)
      have e2 : (u - u / v * v).toInt = u.toInt - (u / v).toInt * v.toInt := by rw [Int64.toInt_sub, e1]; exact Int.bmod_eq_of_le (by omega) (by omega)
      rw [e2]
      exact ⟨c3, by omega, c4, c5⟩
    obtain ⟨hne, hre⟩ := xw_Re.rem hS h (xw_nm_ok hS.1 hu) (xw_nm_ok hS.1 hv) key (xw_r1 _).1 (xw_r1 _).2
    exact ⟨hre, fun _ _ _ _ w => lv_lrem C.1 C.2.1 hd (fun q => hne (by rw [q]; decide)) w⟩
theorem xy_land (C : xw_Cx p s m args c cc own nL D t A X xs Γ) (hk : (∀ pc' L' st' S', k pc' L' st' S' = true → xw_Tj e0 D t A s.heap hl Γ X xs ws0 nL gh gz fh (fun pc ls vst H locs => W p l e R s m args below meth c H locs cs sl Q (F0 m pc ls vst)) act pc' L' st' S')) (hd : decode cc pc = .ok (.land, 1)) (h : xw_bin 1 1 st (fun _ _ r => xw_top 1 S (fun l S' => k (pc + 1) L ((1, l) :: r) S')) = true) : xw_Tj e0 D t A s.heap hl Γ X xs ws0 nL gh gz fh (fun pc ls vst H locs => W p l e R s m args below meth c H locs cs sl Q (F0 m pc ls vst)) act pc L st S :=
  xy_bl (fun x y => x &&& y) hk h fun ρ x y r u v hS h hu hv => ⟨xw_Re.top hS h (xw_r1 _).1 (xw_r1 _).2, fun _ _ _ _ w => lv_land C.1 C.2.1 hd w⟩
theorem xy_lor (C : xw_Cx p s m args c cc own nL D t A X xs Γ) (hk : (∀ pc' L' st' S', k pc' L' st' S' = true → xw_Tj e0 D t A s.heap hl Γ X xs ws0 nL gh gz fh (fun pc ls vst H locs => W p l e R s m args below meth c H locs cs sl Q (F0 m pc ls vst)) act pc' L' st' S')) (hd : decode cc pc = .ok (.lor, 1)) (h : xw_bin 1 1 st (fun _ _ r => xw_top 1 S (fun l S' => k (pc + 1) L ((1, l) :: r) S')) = true) : xw_Tj e0 D t A s.heap hl Γ X xs ws0 nL gh gz fh (fun pc ls vst H locs => W p l e R s m args below meth c H locs cs sl Q (F0 m pc ls vst)) act pc L st S :=
  xy_bl (fun x y => x ||| y) hk h fun ρ x y r u v hS h hu hv => ⟨xw_Re.top hS h (xw_r1 _).1 (xw_r1 _).2, fun _ _ _ _ w => lv_lor C.1 C.2.1 hd w⟩
theorem xy_lshl (C : xw_Cx p s m args c cc own nL D t A X xs Γ) (hk : (∀ pc' L' st' S', k pc' L' st' S' = true → xw_Tj e0 D t A s.heap hl Γ X xs ws0 nL gh gz fh (fun pc ls vst H locs => W p l e R s m args below meth c H locs cs sl Q (F0 m pc ls vst)) act pc' L' st' S')) (hd : decode cc pc = .ok (.lshl, 1)) (h : xw_bin 1 0 st (fun _ _ r => xw_top 1 S (fun l S' => k (pc + 1) L ((1, l) :: r) S')) = true) : xw_Tj e0 D t A s.heap hl Γ X xs ws0 nL gh gz fh (fun pc ls vst H locs => W p l e R s m args below meth c H locs cs sl Q (F0 m pc ls vst)) act pc L st S := by
  obtain ⟨x, y, r, rfl, hx, hy, h⟩ := xy_bineq h
  intro ρ ls vst H locs ws hR hG hH
  obtain ⟨v0, vst, rfl, hv0, ht0⟩ := hR.2.1.un
  obtain ⟨u0, vst, rfl, hu0, ht⟩ := ht0.un
  obtain ⟨v, rfl, hv⟩ := hv0.1 hy
  obtain ⟨u, rfl, hu⟩ := hu0.2.1 hx
  obtain ⟨ρ', l', S', g1, g2, g3, g4, g5, g6, g7⟩ := xw_Re.top (z := (u <<< (v.toInt64 &&& 63)).toInt) hR.2.2.2.1 h (xw_r1 _).1 (xw_r1 _).2
  exact lv_lshl C.1 C.2.1 hd rfl (xy_k hk g1 (hR.stk (xw_sk.cons (xw_hv.l g4) (ht.more g2)) g2 g3 g5 g6 g7) g2 hG hH)
theorem xy_lcmp (C : xw_Cx p s m args c cc own nL D t A X xs Γ) (hk : (∀ pc' L' st' S', k pc' L' st' S' = true → xw_Tj e0 D t A s.heap hl Γ X xs ws0 nL gh gz fh (fun pc ls vst H locs => W p l e R s m args below meth c H locs cs sl Q (F0 m pc ls vst)) act pc' L' st' S')) (hd : decode cc pc = .ok (.lcmp, 1)) (h : xw_bin 1 1 st (fun x y r => k (pc + 1) L ((7, xw_sub x y) :: r) S) = true) : xw_Tj e0 D t A s.heap hl Γ X xs ws0 nL gh gz fh (fun pc ls vst H locs => W p l e R s m args below meth c H locs cs sl Q (F0 m pc ls vst)) act pc L st S := by
  obtain ⟨x, y, r, rfl, hx, hy, h⟩ := xy_bineq h
  refine xy_pure hk h fun ρ ls vst H locs as lvs _ _ _ hst => ?_
  obtain ⟨v0, vst, rfl, hv0, ht0⟩ := hst.un
  obtain ⟨u0, vst, rfl, hu0, ht⟩ := ht0.un
  obtain ⟨v, rfl, hv⟩ := hv0.2.1 hy
  obtain ⟨u, rfl, hu⟩ := hu0.2.1 hx
  refine ⟨.int (lg_cmp u v) :: vst, xw_sk.cons ⟨fun q => (by cases q), fun q => (by cases q), fun q => (by cases q), fun q => (by cases q), fun q => (by cases q), fun q => (by cases q), fun q => (by cases q), fun _ => ⟨_, u.toInt - v.toInt, rfl, hu.sub hv, ?_⟩⟩ ht, fun w => W.lcmp C.1 C.2.1 hd w⟩
  unfold lg_cmp
  by_cases h1 : v < u
  · have := Int64.lt_iff_toInt_lt.mp h1
    rw [Int.sign_eq_one_of_pos (by omega)]; simp [h1]
  · by_cases h2 : u = v
    · subst h2
      rw [Int.sub_self]; simp
    · have h3 : ¬ v.toInt < u.toInt := fun q => h1 (Int64.lt_iff_toInt_lt.mpr q)
      have h4 : u.toInt ≠ v.toInt := fun q => h2 (Int64.toInt_inj.mp q)
      rw [Int.sign_eq_neg_one_of_neg (by omega)]; simp [h1, h2]
end XY2
end
section
/-! conversions, stack, jumps -/
section XY3
variable {p : Program} {l : Launch} {e : Env} {R : Room} {s : State} {m : MethodId} {args : Array Value} {below : List Frame} {meth : Method} {c : Code}
variable {e0 : (Nat → Int) × Nat} {cc : ByteArray} {own : String} {nL : Nat} {D : va_G} {t : Nat → ClassId} {A : Nat → Prop} {hl : Nat × Int} {Γ : xv_A} {X : xw_X} {xs : Nat → Int32} {ws0 : va_W} {gh : List xw_L} {gz : Nat → Int} {fh : Nat → Option xw_H} {cs sl : Nat} {Q : State → Prop} {act : List xw_A} {k : xw_K} {pc : Nat} {L st : List xw_V} {S : xw_S}
theorem xy_i2l (C : xw_Cx p s m args c cc own nL D t A X xs Γ) (hk : (∀ pc' L' st' S', k pc' L' st' S' = true → xw_Tj e0 D t A s.heap hl Γ X xs ws0 nL gh gz fh (fun pc ls vst H locs => W p l e R s m args below meth c H locs cs sl Q (F0 m pc ls vst)) act pc' L' st' S')) (hd : decode cc pc = .ok (.i2l, 1)) (h : (match st with | x :: r => bif Nat.beq x.1 0 then k (pc + 1) L ((1, x.2) :: r) S else false | _ => false) = true) : xw_Tj e0 D t A s.heap hl Γ X xs ws0 nL gh gz fh (fun pc ls vst H locs => W p l e R s m args below meth c H locs cs sl Q (F0 m pc ls vst)) act pc L st S := by
  match st, h with
  | [], h => cases h
  | x :: r, h =>
    dsimp only at h
    cases hb : Nat.beq x.1 0 with
    | false => rw [hb] at h; cases h
    | true =>
      rw [hb] at h
      refine xy_pure hk h fun ρ ls vst H locs as lvs _ _ _ hst => ?_
      obtain ⟨u0, vst, rfl, hu0, ht⟩ := hst.un
      obtain ⟨u, rfl, hu⟩ := hu0.1 (xv_beq hb)
      exact ⟨.long u.toInt64 :: vst, xw_sk.cons (xw_hv.l (by rw [Int32.toInt_toInt64]; exact hu)) ht, fun w => lv_i2l C.1 C.2.1 hd rfl w⟩
theorem xy_l2i (C : xw_Cx p s m args c cc own nL D t A X xs Γ) (hk : (∀ pc' L' st' S', k pc' L' st' S' = true → xw_Tj e0 D t A s.heap hl Γ X xs ws0 nL gh gz fh (fun pc ls vst H locs => W p l e R s m args below meth c H locs cs sl Q (F0 m pc ls vst)) act pc' L' st' S')) (hd : decode cc pc = .ok (.l2i, 1)) (h : (match st with | x :: r => bif Nat.beq x.1 1 then xw_inr 0 S x.2 (fun l S' => k (pc + 1) L ((0, l) :: r) S') else false | _ => false) = true) : xw_Tj e0 D t A s.heap hl Γ X xs ws0 nL gh gz fh (fun pc ls vst H locs => W p l e R s m args below meth c H locs cs sl Q (F0 m pc ls vst)) act pc L st S := by
  match st, h with
  | [], h => cases h
  | x :: r, h =>
    dsimp only at h
    cases hb : Nat.beq x.1 1 with
    | false => rw [hb] at h; cases h
    | true =>
      rw [hb] at h
      simp only [cond_true] at h
      intro ρ ls vst H locs ws hR hG hH
      obtain ⟨u0, vst, rfl, hu0, ht⟩ := hR.2.1.un
      obtain ⟨u, rfl, hu⟩ := hu0.2.1 (xv_beq hb)
      obtain ⟨ρ', l', S', g1, g2, g3, g4, g5, g6, g7⟩ := xw_Re.inr (z := u.toInt32.toInt) hR.2.2.2.1 h hu (fun a b => by rw [Int64.toInt_toInt32]; exact xw_bm0 a b) (xw_r0 _).1 (xw_r0 _).2
      exact lv_l2i C.1 C.2.1 hd rfl (xy_k hk g1 (hR.stk (xw_sk.cons (xw_hv.i g4) (ht.more g2)) g2 g3 g5 g6 g7) g2 hG hH)
theorem xy_i2b (C : xw_Cx p s m args c cc own nL D t A X xs Γ) (hk : (∀ pc' L' st' S', k pc' L' st' S' = true → xw_Tj e0 D t A s.heap hl Γ X xs ws0 nL gh gz fh (fun pc ls vst H locs => W p l e R s m args below meth c H locs cs sl Q (F0 m pc ls vst)) act pc' L' st' S')) (hd : decode cc pc = .ok (.i2b, 1)) (h : (match st with | x :: r => bif Nat.beq x.1 0 then xw_fr S (-128) 127 (fun l S' => k (pc + 1) L ((0, l) :: r) S') else false | _ => false) = true) : xw_Tj e0 D t A s.heap hl Γ X xs ws0 nL gh gz fh (fun pc ls vst H locs => W p l e R s m args below meth c H locs cs sl Q (F0 m pc ls vst)) act pc L st S := by
  match st, h with
  | [], h => cases h
  | x :: r, h =>
    dsimp only at h
    cases hb : Nat.beq x.1 0 with
    | false => rw [hb] at h; cases h
    | true =>
      rw [hb] at h
      simp only [cond_true] at h
      intro ρ ls vst H locs ws hR hG hH
      obtain ⟨u0, vst, rfl, hu0, ht⟩ := hR.2.1.un
      obtain ⟨u, rfl, hu⟩ := hu0.1 (xv_beq hb)
      have h1 := Int8.le_toInt u.toInt8
      have h2 := Int8.toInt_lt u.toInt8
      obtain ⟨ρ', l', S', g1, g2, g3, g4, g5, g6, g7⟩ := xw_Re.fr (z := u.toInt8.toInt32.toInt) hR.2.2.2.1 h (by rw [Int8.toInt_toInt32]; omega) (by rw [Int8.toInt_toInt32]; omega)
      exact lv_i2b C.1 C.2.1 hd rfl (xy_k hk g1 (hR.stk (xw_sk.cons (xw_hv.i g4) (ht.more g2)) g2 g3 g5 g6 g7) g2 hG hH)
theorem xy_i2s (C : xw_Cx p s m args c cc own nL D t A X xs Γ) (hk : (∀ pc' L' st' S', k pc' L' st' S' = true → xw_Tj e0 D t A s.heap hl Γ X xs ws0 nL gh gz fh (fun pc ls vst H locs => W p l e R s m args below meth c H locs cs sl Q (F0 m pc ls vst)) act pc' L' st' S')) (hd : decode cc pc = .ok (.i2s, 1)) (h : (match st with | x :: r => bif Nat.beq x.1 0 then xw_fr S (-32768) 32767 (fun l S' => k (pc + 1) L ((0, l) :: r) S') else false | _ => false) = true) : xw_Tj e0 D t A s.heap hl Γ X xs ws0 nL gh gz fh (fun pc ls vst H locs => W p l e R s m args below meth c H locs cs sl Q (F0 m pc ls vst)) act pc L st S := by
  match st, h with
  | [], h => cases h
  | x :: r, h =>
    dsimp only at h
    cases hb : Nat.beq x.1 0 with
    | false => rw [hb] at h; cases h
    | true =>
      rw [hb] at h
      simp only [cond_true] at h
      intro ρ ls vst H locs ws hR hG hH
      obtain ⟨u0, vst, rfl, hu0, ht⟩ := hR.2.1.un
      obtain ⟨u, rfl, hu⟩ := hu0.1 (xv_beq hb)
      have h1 := Int16.le_toInt u.toInt16
      have h2 := Int16.toInt_lt u.toInt16
      obtain ⟨ρ', l', S', g1, g2, g3, g4, g5, g6, g7⟩ := xw_Re.fr (z := u.toInt16.toInt32.toInt) hR.2.2.2.1 h (by rw [Int16.toInt_toInt32]; omega) (by rw [Int16.toInt_toInt32]; omega)
      exact lv_i2s C.1 C.2.1 hd rfl (xy_k hk g1 (hR.stk (xw_sk.cons (xw_hv.i g4) (ht.more g2)) g2 g3 g5 g6 g7) g2 hG hH)
theorem xy_n1 {a : Nat} (h : (!(Nat.beq a 1)) = true) : a ≠ 1 := fun e => by rw [e] at h; cases h
theorem xy_dup (C : xw_Cx p s m args c cc own nL D t A X xs Γ) (hk : (∀ pc' L' st' S', k pc' L' st' S' = true → xw_Tj e0 D t A s.heap hl Γ X xs ws0 nL gh gz fh (fun pc ls vst H locs => W p l e R s m args below meth c H locs cs sl Q (F0 m pc ls vst)) act pc' L' st' S')) (hd : decode cc pc = .ok (.dup, 1)) (h : (match st with | x :: r => bif Nat.ble x.1 6 && !(Nat.beq x.1 1) then k (pc + 1) L (x :: x :: r) S else false | _ => false) = true) : xw_Tj e0 D t A s.heap hl Γ X xs ws0 nL gh gz fh (fun pc ls vst H locs => W p l e R s m args below meth c H locs cs sl Q (F0 m pc ls vst)) act pc L st S := by
  match st, h with
  | [], h => cases h
  | x :: r, h =>
    dsimp only at h
    cases hb : (Nat.ble x.1 6 && !(Nat.beq x.1 1)) with
    | false => rw [hb] at h; cases h
    | true =>
      rw [hb] at h
      obtain ⟨b1, b2⟩ := xv_and_t hb
      have b1 := xv_ble b1
      refine xy_pure hk h fun ρ ls vst H locs as lvs _ _ _ hst => ?_
      obtain ⟨u0, vst, rfl, hu0, ht⟩ := hst.un
      exact ⟨u0 :: u0 :: vst, xw_sk.cons hu0 (xw_sk.cons hu0 ht), fun w => lv_dup C.1 C.2.1 hd (xy_cat1 hu0 (by omega) (xy_n1 b2)) w⟩
theorem xy_dup2 (C : xw_Cx p s m args c cc own nL D t A X xs Γ) (hk : (∀ pc' L' st' S', k pc' L' st' S' = true → xw_Tj e0 D t A s.heap hl Γ X xs ws0 nL gh gz fh (fun pc ls vst H locs => W p l e R s m args below meth c H locs cs sl Q (F0 m pc ls vst)) act pc' L' st' S')) (hd : decode cc pc = .ok (.dup2, 1)) (h : (match st with | y :: x :: r => bif Nat.ble x.1 6 && (!(Nat.beq x.1 1) && (Nat.ble y.1 6 && !(Nat.beq y.1 1))) then k (pc + 1) L (y :: x :: y :: x :: r) S else false | _ => false) = true) : xw_Tj e0 D t A s.heap hl Γ X xs ws0 nL gh gz fh (fun pc ls vst H locs => W p l e R s m args below meth c H locs cs sl Q (F0 m pc ls vst)) act pc L st S := by
  match st, h with
  | [], h => cases h
  | [_], h => cases h
  | y :: x :: r, h =>
    dsimp only at h
    cases hb : (Nat.ble x.1 6 && (!(Nat.beq x.1 1) && (Nat.ble y.1 6 && !(Nat.beq y.1 1)))) with
    | false => rw [hb] at h; cases h
    | true =>
      rw [hb] at h
      obtain ⟨b1, b2⟩ := xv_and_t hb
      obtain ⟨b2, b3⟩ := xv_and_t b2
      obtain ⟨b3, b4⟩ := xv_and_t b3
      have b1 := xv_ble b1
      have b3 := xv_ble b3
      refine xy_pure hk h fun ρ ls vst H locs as lvs _ _ _ hst => ?_
      obtain ⟨v0, vst, rfl, hv0, ht0⟩ := hst.un
      obtain ⟨u0, vst, rfl, hu0, ht⟩ := ht0.un
      exact ⟨v0 :: u0 :: v0 :: u0 :: vst, xw_sk.cons hv0 (xw_sk.cons hu0 (xw_sk.cons hv0 (xw_sk.cons hu0 ht))), fun w => lv_dup2_11 C.1 C.2.1 hd (xy_cat1 hv0 (by omega) (xy_n1 b4)) (xy_cat1 hu0 (by omega) (xy_n1 b2)) w⟩
theorem xy_pop (C : xw_Cx p s m args c cc own nL D t A X xs Γ) (hk : (∀ pc' L' st' S', k pc' L' st' S' = true → xw_Tj e0 D t A s.heap hl Γ X xs ws0 nL gh gz fh (fun pc ls vst H locs => W p l e R s m args below meth c H locs cs sl Q (F0 m pc ls vst)) act pc' L' st' S')) (hd : decode cc pc = .ok (.pop, 1)) (h : (match st with | x :: r => bif Nat.ble x.1 7 && !(Nat.beq x.1 1) then k (pc + 1) L r S else false | _ => false) = true) : xw_Tj e0 D t A s.heap hl Γ X xs ws0 nL gh gz fh (fun pc ls vst H locs => W p l e R s m args below meth c H locs cs sl Q (F0 m pc ls vst)) act pc L st S := by
  match st, h with
  | [], h => cases h
  | x :: r, h =>
    dsimp only at h
    cases hb : (Nat.ble x.1 7 && !(Nat.beq x.1 1)) with
    | false => rw [hb] at h; cases h
    | true =>
      rw [hb] at h
      obtain ⟨b1, b2⟩ := xv_and_t hb
      refine xy_pure hk h fun ρ ls vst H locs as lvs _ _ _ hst => ?_
      obtain ⟨u0, vst, rfl, hu0, ht⟩ := hst.un
      exact ⟨vst, ht, fun w => lv_pop C.1 C.2.1 hd (xy_cat1 hu0 (xv_ble b1) (xy_n1 b2)) w⟩
theorem xy_pop2 (C : xw_Cx p s m args c cc own nL D t A X xs Γ) (hk : (∀ pc' L' st' S', k pc' L' st' S' = true → xw_Tj e0 D t A s.heap hl Γ X xs ws0 nL gh gz fh (fun pc ls vst H locs => W p l e R s m args below meth c H locs cs sl Q (F0 m pc ls vst)) act pc' L' st' S')) (hd : decode cc pc = .ok (.pop2, 1)) (h : (match st with | x :: r => bif Nat.beq x.1 1 then k (pc + 1) L r S else false | _ => false) = true) : xw_Tj e0 D t A s.heap hl Γ X xs ws0 nL gh gz fh (fun pc ls vst H locs => W p l e R s m args below meth c H locs cs sl Q (F0 m pc ls vst)) act pc L st S := by
  match st, h with
  | [], h => cases h
  | x :: r, h =>
    dsimp only at h
    cases hb : Nat.beq x.1 1 with
    | false => rw [hb] at h; cases h
    | true =>
      rw [hb] at h
      refine xy_pure hk h fun ρ ls vst H locs as lvs _ _ _ hst => ?_
      obtain ⟨u0, vst, rfl, hu0, ht⟩ := hst.un
      obtain ⟨u, rfl, hu⟩ := hu0.2.1 (xv_beq hb)
      exact ⟨vst, ht, fun w => lv_pop2_2 C.1 C.2.1 hd rfl w⟩
theorem xy_goeq {off : Int} {L' st' : List xw_V} {S' : xw_S} (h : xw_go k pc off L' st' S' = true) : (pc : Int) + off = (xv_tgt pc off : Int) ∧ k (xv_tgt pc off) L' st' S' = true := by
  unfold xw_go at h
  cases hb : xv_le 0 (Int.ofNat pc + off) with
  | false => rw [hb] at h; cases h
  | true => rw [hb] at h; exact ⟨xv_tgt_eq hb, h⟩
theorem xy_goto {off : Int} (C : xw_Cx p s m args c cc own nL D t A X xs Γ) (hk : (∀ pc' L' st' S', k pc' L' st' S' = true → xw_Tj e0 D t A s.heap hl Γ X xs ws0 nL gh gz fh (fun pc ls vst H locs => W p l e R s m args below meth c H locs cs sl Q (F0 m pc ls vst)) act pc' L' st' S')) (hd : decode cc pc = .ok (.goto off, 3)) (h : xw_go k pc off L st S = true) : xw_Tj e0 D t A s.heap hl Γ X xs ws0 nL gh gz fh (fun pc ls vst H locs => W p l e R s m args below meth c H locs cs sl Q (F0 m pc ls vst)) act pc L st S := by
  obtain ⟨e, h⟩ := xy_goeq h
  exact xy_pure hk h fun ρ ls vst H locs as lvs _ _ _ hst => ⟨vst, hst, fun w => lv_goto C.1 C.2.1 hd e w⟩
theorem xy_ra {ρ : Nat → Int} {r : List xw_V} {ls : Array Slot} {vst vst' : List Value} {H : Heap} {locs : List Loc} {ws : va_W} {pc' : Nat} (hk : (∀ pc' L' st' S', k pc' L' st' S' = true → xw_Tj e0 D t A s.heap hl Γ X xs ws0 nL gh gz fh (fun pc ls vst H locs => W p l e R s m args below meth c H locs cs sl Q (F0 m pc ls vst)) act pc' L' st' S')) (hR : xw_Rl D t A s.heap hl Γ X xs ws0 nL ρ L st S ls vst H locs ws) (hG : xw_Gy e0 ρ S.2.1 gh gz) (hH : ∀ a ∈ act, xw_Hy D t A s.heap hl Γ X xs ws0 nL gz fh (fun pc ls vst H locs => W p l e R s m args below meth c H locs cs sl Q (F0 m pc ls vst)) a ρ S.2.1) (ht : xw_sk X (ws.map Prod.fst) ρ S.2.1 r vst') (h : xw_Ra ρ S (fun S' => k pc' L r S')) : W p l e R s m args below meth c H locs cs sl Q (F0 m pc' ls vst') := by
  obtain ⟨S', g1, g2, g3, g4⟩ := h
  have hu : xw_Up ρ S.2.1 ρ S'.2.1 := by rw [g3]; exact xw_Up.rf
  exact xy_k hk g1 (hR.stk (by rw [g3]; exact ht) hu g2 (by rw [g4]) (by rw [g4]) (by rw [g4])) hu hG hH
theorem xy_rago {ρ : Nat → Int} {r : List xw_V} {off : Int} (h : xw_Ra ρ S (fun S' => xw_go k pc off L r S')) : (pc : Int) + off = (xv_tgt pc off : Int) ∧ xw_Ra ρ S (fun S' => k (xv_tgt pc off) L r S') := by
  obtain ⟨S', g1, g2⟩ := h
  obtain ⟨e, g1⟩ := xy_goeq g1
  exact ⟨e, S', g1, g2⟩
theorem xy_rel {q : ClassFile.Cond} {x y : Int32} : xv_rel q x y ↔ xw_rl q (x.toInt - y.toInt) := by
  cases q with
  | eq => show x = y ↔ _ = 0; rw [← Int32.toInt_inj]; omega
  | ne => show ¬ x = y ↔ _ ≠ 0; rw [← Int32.toInt_inj]; omega
  | lt => show x < y ↔ _ < 0; rw [Int32.lt_iff_toInt_lt]; omega
  | ge => show y ≤ x ↔ 0 ≤ _; rw [Int32.le_iff_toInt_le]; omega
  | gt => show y < x ↔ 0 < _; rw [Int32.lt_iff_toInt_lt]; omega
  | le => show x ≤ y ↔ _ ≤ 0; rw [Int32.le_iff_toInt_le]; omega
theorem xy_icmp {q : ClassFile.Cond} {off : Int} (C : xw_Cx p s m args c cc own nL D t A X xs Γ) (hk : (∀ pc' L' st' S', k pc' L' st' S' = true → xw_Tj e0 D t A s.heap hl Γ X xs ws0 nL gh gz fh (fun pc ls vst H locs => W p l e R s m args below meth c H locs cs sl Q (F0 m pc ls vst)) act pc' L' st' S')) (hd : decode cc pc = .ok (.if_icmp q off, 3)) (h : (match st with | y :: x :: r => bif (Nat.beq x.1 0 && Nat.beq y.1 0) && xv_le 0 (Int.ofNat pc + off) then xw_br q false S (xw_nm S.1 (xw_sub x.2 y.2)) (fun S' => xw_go k pc off L r S') (fun S' => k (pc + 3) L r S') else false | _ => false) = true) : xw_Tj e0 D t A s.heap hl Γ X xs ws0 nL gh gz fh (fun pc ls vst H locs => W p l e R s m args below meth c H locs cs sl Q (F0 m pc ls vst)) act pc L st S := by
  match st, h with
  | [], h => cases h
  | [_], h => cases h
  | y :: x :: r, h =>
    dsimp only at h
    cases hb : ((Nat.beq x.1 0 && Nat.beq y.1 0) && xv_le 0 (Int.ofNat pc + off)) with
    | false => rw [hb] at h; cases h
    | true =>
      rw [hb] at h
      obtain ⟨b1, b3⟩ := xv_and_t hb
      obtain ⟨b1, b2⟩ := xv_and_t b1
      have et := xv_tgt_eq b3
      intro ρ ls vst H locs ws hR hG hH
      obtain ⟨v0, vst, rfl, hv0, ht0⟩ := hR.2.1.un
      obtain ⟨u0, vst, rfl, hu0, ht⟩ := ht0.un
      obtain ⟨v, rfl, hv⟩ := hv0.1 (xv_beq b2)
      obtain ⟨u, rfl, hu⟩ := hu0.1 (xv_beq b1)
      have hS := hR.2.2.2.1
      obtain ⟨k1, k2⟩ := xw_br_ok hS h (xw_nm_ok hS.1 (hu.sub hv))
      have wt : xv_rel q u v → W p l e R s m args below meth c H locs cs sl Q (F0 m (xv_tgt pc off) ls vst) := fun hr => xy_ra hk hR hG hH ht (xy_rago (k1 (xy_rel.mp hr))).2
      have wf : ¬ xv_rel q u v → W p l e R s m args below meth c H locs cs sl Q (F0 m (pc + 3) ls vst) := fun hr => xy_ra hk hR hG hH ht (k2 (fun z => hr (xy_rel.mpr z)))
      cases q with
      | eq => exact lv_icmp_eq C.1 C.2.1 hd et wt wf
      | ne => exact lv_icmp_ne C.1 C.2.1 hd et wt (fun n => wf (fun q => q n))
      | lt => exact lv_icmp_lt C.1 C.2.1 hd et wt wf
      | ge => exact lv_icmp_ge C.1 C.2.1 hd et wt wf
      | gt => exact lv_icmp_gt C.1 C.2.1 hd et wt wf
      | le => exact lv_icmp_le C.1 C.2.1 hd et wt wf
theorem xy_sgn {q : ClassFile.Cond} {d : Int} : xw_rl q d.sign ↔ xw_rl q d := by
  have h : (0 < d ∧ d.sign = 1) ∨ (d = 0 ∧ d.sign = 0) ∨ (d < 0 ∧ d.sign = -1) := by
    rcases Int.lt_trichotomy d 0 with w | w | w
    · exact Or.inr (Or.inr ⟨w, Int.sign_eq_neg_one_of_neg w⟩)
    · exact Or.inr (Or.inl ⟨w, by rw [w]; rfl⟩)
    · exact Or.inl ⟨w, Int.sign_eq_one_of_pos w⟩
  cases q with
  | eq => show _ = 0 ↔ _ = 0; omega
  | ne => show _ ≠ 0 ↔ _ ≠ 0; omega
  | lt => show _ < 0 ↔ _ < 0; omega
  | ge => show 0 ≤ _ ↔ 0 ≤ _; omega
  | gt => show 0 < _ ↔ 0 < _; omega
  | le => show _ ≤ 0 ↔ _ ≤ 0; omega
theorem xy_ifCond {q : ClassFile.Cond} {off : Int} (C : xw_Cx p s m args c cc own nL D t A X xs Γ) (hk : (∀ pc' L' st' S', k pc' L' st' S' = true → xw_Tj e0 D t A s.heap hl Γ X xs ws0 nL gh gz fh (fun pc ls vst H locs => W p l e R s m args below meth c H locs cs sl Q (F0 m pc ls vst)) act pc' L' st' S')) (hd : decode cc pc = .ok (.ifCond q off, 3)) (h : (match st with | x :: r => bif (Nat.beq x.1 0 || Nat.beq x.1 7) && xv_le 0 (Int.ofNat pc + off) then xw_br q (Nat.beq x.1 7) S (xw_nm S.1 x.2) (fun S' => xw_go k pc off L r S') (fun S' => k (pc + 3) L r S') else false | _ => false) = true) : xw_Tj e0 D t A s.heap hl Γ X xs ws0 nL gh gz fh (fun pc ls vst H locs => W p l e R s m args below meth c H locs cs sl Q (F0 m pc ls vst)) act pc L st S := by
  match st, h with
  | [], h => cases h
  | x :: r, h =>
    dsimp only at h
    cases hb : ((Nat.beq x.1 0 || Nat.beq x.1 7) && xv_le 0 (Int.ofNat pc + off)) with
    | false => rw [hb] at h; cases h
    | true =>
      rw [hb] at h
      simp only [cond_true] at h
      obtain ⟨b1, b3⟩ := xv_and_t hb
      have et := xv_tgt_eq b3
      intro ρ ls vst H locs ws hR hG hH
      obtain ⟨u0, vst, rfl, hu0, ht⟩ := hR.2.1.un
      have hS := hR.2.2.2.1
      have key : ∃ (u : Int32) (d : Int), u0 = .int u ∧ xw_is ρ S.2.1 x.2 d ∧ (xv_rel q u 0 ↔ xw_rl q d) := by
        rcases (Bool.or_eq_true _ _).mp b1 with w | w
        · obtain ⟨u, e, hu⟩ := hu0.1 (xv_beq w)
          refine ⟨u, u.toInt, e, hu, ?_⟩
          rw [xy_rel, show (0 : Int32).toInt = 0 by decide, Int.sub_zero]
        · obtain ⟨u, d, e, hu, hs⟩ := hu0.2.2.2.2.2.2.2 (xv_beq w)
          refine ⟨u, d, e, hu, ?_⟩
          rw [xy_rel, show (0 : Int32).toInt = 0 by decide, Int.sub_zero, hs, xy_sgn]
      obtain ⟨u, d, rfl, hu, hrel⟩ := key
      obtain ⟨k1, k2⟩ := xw_br_ok hS h (xw_nm_ok hS.1 hu)
      have wt : xv_rel q u 0 → W p l e R s m args below meth c H locs cs sl Q (F0 m (xv_tgt pc off) ls vst) := fun hr => xy_ra hk hR hG hH ht (xy_rago (k1 (hrel.mp hr))).2
      have wf : ¬ xv_rel q u 0 → W p l e R s m args below meth c H locs cs sl Q (F0 m (pc + 3) ls vst) := fun hr => xy_ra hk hR hG hH ht (k2 (fun z => hr (hrel.mpr z)))
      cases q with
      | eq => exact lv_if_eq C.1 C.2.1 hd et wt wf
      | ne => exact lv_if_ne C.1 C.2.1 hd et wt (fun n => wf (fun q => q n))
      | lt => exact lv_if_lt C.1 C.2.1 hd et wt wf
      | ge => exact lv_if_ge C.1 C.2.1 hd et wt wf
      | gt => exact lv_if_gt C.1 C.2.1 hd et wt wf
      | le => exact lv_if_le C.1 C.2.1 hd et wt wf
theorem xy_tab {ρ : Nat → Int} {r : List xw_V} {x : xw_L} {z : Int} (hS : xw_St ρ S) (hx : xw_is ρ S.2.1 x z) : ∀ {offs : List Int} {c : Int}, xw_tab k pc L r S x offs c = true → c ≤ z → z < c + (offs.length : Int) → ∃ off, offs[(z - c).toNat]? = some off ∧ xw_Ra ρ S (fun S' => xw_go k pc off L r S')
  | [], c, _, h1, h2 => by simp at h2; omega
  | off :: offs, c, h, h1, h2 => by
    have h : (xw_asm S (xw_k x (-c)) (fun S1 => xw_asm S1 (xw_k (xw_neg x) c) (fun S2 => xw_go k pc off L r S2)) && xw_tab k pc L r S x offs (c + 1)) = true := h
    obtain ⟨g1, g2⟩ := xv_and_t h
    by_cases e : z = c
    · refine ⟨off, by rw [e, Int.sub_self]; rfl, xw_Ra.asm2 hS g1 (hx.k _) (by omega) (hx.neg.k _) (by omega)⟩
    · obtain ⟨o, e1, e2⟩ := xy_tab hS hx g2 (by omega) (by simp at h2; omega)
      refine ⟨o, ?_, e2⟩
      rw [show (z - c).toNat = (z - (c + 1)).toNat + 1 by omega]
      exact e1
theorem xy_tableswitch {d lo hi : Int} {offs : Array Int} {len : Nat} (C : xw_Cx p s m args c cc own nL D t A X xs Γ) (hk : (∀ pc' L' st' S', k pc' L' st' S' = true → xw_Tj e0 D t A s.heap hl Γ X xs ws0 nL gh gz fh (fun pc ls vst H locs => W p l e R s m args below meth c H locs cs sl Q (F0 m pc ls vst)) act pc' L' st' S')) (hd : decode cc pc = .ok (.tableswitch d lo hi offs, len)) (h : (match st with
    | x :: r => bif Nat.beq x.1 0 && xw_ieq (lo + Int.ofNat offs.toList.length) (hi + 1) then xw_tab k pc L r S x.2 offs.toList lo && (xw_asm S (xw_k (xw_neg x.2) (lo - 1)) (fun S1 => xw_go k pc d L r S1) && xw_asm S (xw_k x.2 (-hi - 1)) (fun S1 => xw_go k pc d L r S1)) else false
    | _ => false) = true) : xw_Tj e0 D t A s.heap hl Γ X xs ws0 nL gh gz fh (fun pc ls vst H locs => W p l e R s m args below meth c H locs cs sl Q (F0 m pc ls vst)) act pc L st S := by
  match st, h with
  | [], h => cases h
  | x :: r, h =>
    dsimp only at h
    cases hb : (Nat.beq x.1 0 && xw_ieq (lo + Int.ofNat offs.toList.length) (hi + 1)) with
    | false => rw [hb] at h; cases h
    | true =>
      rw [hb] at h
      simp only [cond_true] at h
      obtain ⟨b1, b2⟩ := xv_and_t hb
      have b2 := xw_ieq_iff.mp b2
      obtain ⟨h1, h2⟩ := xv_and_t h
      obtain ⟨h2, h3⟩ := xv_and_t h2
      intro ρ ls vst H locs ws hR hG hH
      obtain ⟨u0, vst, rfl, hu0, ht⟩ := hR.2.1.un
      have hS := hR.2.2.2.1
      obtain ⟨u, rfl, hu⟩ := hu0.1 (xv_beq b1)
      have en : Int.ofNat offs.toList.length = (offs.toList.length : Int) := rfl
      by_cases c1 : u.toInt < lo
      · obtain ⟨et, ra⟩ := xy_rago (xw_asm_ok hS h2 (hu.neg.k _) (by omega))
        exact lv_tableOut C.1 C.2.1 hd (by omega) et (xy_ra hk hR hG hH ht ra)
      · by_cases c2 : hi < u.toInt
        · obtain ⟨et, ra⟩ := xy_rago (xw_asm_ok hS h3 (hu.k _) (by omega))
          exact lv_tableOut C.1 C.2.1 hd (by omega) et (xy_ra hk hR hG hH ht ra)
        · obtain ⟨off, e1, ra⟩ := xy_tab hS hu h1 (by omega) (by omega)
          obtain ⟨et, ra⟩ := xy_rago ra
          exact lv_tableIn C.1 C.2.1 hd (by omega) (by omega) (off := off) (by rw [← Array.getElem?_toList]; exact e1) et (xy_ra hk hR hG hH ht ra)
end XY3
end
section
/-! cells: read and written by the machine -/
theorem xw_H_set {t : Nat → ClassId} {sb : Nat} {Γ : xv_A} {n : Nat} {ws : va_W} (hH : xv_H t sb Γ n ws) {r a : Nat} {x y : va_E} (hr : ws[r]? = some (a, x)) (hk : ∀ c, xv_get 14 Γ r = some c → c.1 ≠ 99 → xv_hc t sb (ws.map Prod.fst) c y) : xv_H t sb Γ n (ws.set r (a, y)) := by
  refine ⟨by rw [List.length_set]; exact hH.1, fun q c hq h9 => ?_⟩
  rw [xv_fst_set hr]
  have hlt : r < ws.length := (List.getElem?_eq_some_iff.mp hr).1
  by_cases e : r = q
  · subst e
    exact ⟨a, y, by rw [List.getElem?_set_self hlt], hk c hq h9⟩
  · obtain ⟨a', x', e1, e2⟩ := hH.2 q c hq h9
    exact ⟨a', x', by rw [List.getElem?_set_ne e]; exact e1, e2⟩
theorem xw_ct_set {ws : va_W} {r a : Nat} {x y : va_E} (hr : ws[r]? = some (a, x)) (q j : Nat) : xw_ct (ws.set r (a, y)) q j = if q = r then xw_cx y j else xw_ct ws q j := by
  unfold xw_ct
  have hlt : r < ws.length := (List.getElem?_eq_some_iff.mp hr).1
  by_cases e : q = r
  · subst e
    rw [if_pos rfl, List.getElem?_set_self hlt]
  · rw [if_neg e, List.getElem?_set_ne (fun w => e w.symm)]
section XY4
variable {p : Program} {l : Launch} {e : Env} {R : Room} {s : State} {m : MethodId} {args : Array Value} {below : List Frame} {meth : Method} {c : Code}
variable {e0 : (Nat → Int) × Nat} {cc : ByteArray} {own : String} {nL : Nat} {D : va_G} {t : Nat → ClassId} {A : Nat → Prop} {hl : Nat × Int} {Γ : xv_A} {X : xw_X} {xs : Nat → Int32} {ws0 : va_W} {gh : List xw_L} {gz : Nat → Int} {fh : Nat → Option xw_H} {cs sl : Nat} {Q : State → Prop} {act : List xw_A} {k : xw_K} {pc : Nat} {L st : List xw_V} {S : xw_S}
theorem xy_ne9 (C : xw_Cx p s m args c cc own nL D t A X xs Γ) {r : Nat} {cl : xv_C} (hc : xv_get 14 Γ r = some cl) : r ≠ 9999 := fun e => by
  rw [e, C.2.2.2.2.2.2.2.2.2.2.2] at hc; cases hc
theorem xy_mu {ws : va_W} {r j : Nat} (hr : r ≠ 9999) : xw_mu xs ws r j = xw_ct ws r j := if_neg hr
theorem xy_at {n : Nat} {ws : va_W} {r : Nat} {cl : xv_C} {a : Nat} (hH : xv_H t X.1 Γ n ws) (hc : xv_get 14 Γ r = some cl) (h9 : cl.1 ≠ 99) (ha : (ws.map Prod.fst)[r]? = some a) : ∃ en, ws[r]? = some (a, en) ∧ xv_hc t X.1 (ws.map Prod.fst) cl en := by
  obtain ⟨a', x, h1, h2⟩ := hH.2 r cl hc h9
  rw [List.getElem?_map, h1] at ha
  cases ha
  exact ⟨x, h1, h2⟩
theorem xy_getfield {index a b : Nat} {q : vw_C} (C : xw_Cx p s m args c cc own nL D t A X xs Γ) (hk : (∀ pc' L' st' S', k pc' L' st' S' = true → xw_Tj e0 D t A s.heap hl Γ X xs ws0 nL gh gz fh (fun pc ls vst H locs => W p l e R s m args below meth c H locs cs sl Q (F0 m pc ls vst)) act pc' L' st' S')) (hd : decode cc pc = .ok (.getfield index, 3)) (hq : vwCl[a]? = some q) (hbn : b < q.2.2) (hw : Cond.fieldLink own index (q.2.1 b).1 (q.2.1 b).2.1 (q.2.1 b).2.2.1 ∈ xv_tb)
    (h : (match st with
    | o :: r => bif Nat.beq o.1 2 && xv_le 0 o.2.1 then (match xv_get 14 Γ o.2.1.toNat with
      | some c => bif Nat.beq c.1 0 && Nat.beq c.2.1 a then xw_rd hl Γ S o.2.1.toNat (Int.ofNat b, []) (fun v S' => k (pc + 3) L (v :: r) S') else false
      | none => false) else false
    | _ => false) = true) : xw_Tj e0 D t A s.heap hl Γ X xs ws0 nL gh gz fh (fun pc ls vst H locs => W p l e R s m args below meth c H locs cs sl Q (F0 m pc ls vst)) act pc L st S := by
  match st, h with
  | [], h => cases h
  | o :: z, h =>
    dsimp only at h
    cases hb : (Nat.beq o.1 2 && xv_le 0 o.2.1) with
    | false => rw [hb] at h; cases h
    | true =>
      rw [hb] at h
      simp only [cond_true] at h
      obtain ⟨b1, -⟩ := xv_and_t hb
      cases hc : xv_get 14 Γ o.2.1.toNat with
      | none => rw [hc] at h; cases h
      | some cl =>
        rw [hc] at h
        dsimp only at h
        cases hb2 : (Nat.beq cl.1 0 && Nat.beq cl.2.1 a) with
        | false => rw [hb2] at h; cases h
        | true =>
          rw [hb2] at h
          simp only [cond_true] at h
          obtain ⟨b2, b3⟩ := xv_and_t hb2
          have b2 := xv_beq b2
          have b3 := xv_beq b3
          intro ρ ls vst H locs ws hR hG hH
          obtain ⟨x0, vst, rfl, hx, ht⟩ := hR.2.1.un
          obtain ⟨ad, ha, rfl⟩ := hx.2.2.1 (xv_beq b1)
          obtain ⟨hP, hD, hS0, hWd, hrest⟩ := hR.2.2.1
          obtain ⟨en, hen, hce⟩ := xy_at hWd.1 hc (by omega) ha
          obtain ⟨fs, rfl, hl, hf⟩ := hce.1 b2
          obtain ⟨z0, ⟨cl', hc', zl, -⟩, ρ', v, S', g1, g2, g3, g4, g5, g6, g7⟩ := xw_rd_ok hWd hR.2.2.2.1 hR.2.2.2.2 h (xw_is.c _)
          rw [hc] at hc'
          cases hc'
          have ezn : (Int.ofNat b).toNat = b := rfl
          rw [ezn] at g5 zl
          have zl : b < cl.2.2.1 := by
            unfold xw_len at zl; rw [b2] at zl; exact zl
          rw [xy_mu (xy_ne9 C hc)] at g5
          have hy : fs[b]? = some (xw_ct ws o.2.1.toNat b) := by
            unfold xw_ct
            rw [hen]
            show fs[b]? = some (fs.getD b .null)
            rw [List.getD_eq_getElem?_getD, List.getElem?_eq_getElem (by omega)]; rfl
          rw [b3] at hen
          have hcl := xv_cls a q hq
          exact va_get C.1 C.2.1 C.2.2.2.2.1 hcl.1 C.2.2.2.1 C.2.2.2.2.2.1 hP _ hen hq b hbn (C.2.2.2.2.1 _ hw) (fun _ h => h) hy hd (xy_k hk g1 ((hR.up g2 g3 g4 g6).stk (xw_sk.cons g5 (ht.more g2)) xw_Up.rf g3 rfl rfl rfl) g2 hG hH)
/-- behind a write -/
theorem xy_wr {ρ : Nat → Int} {r pc' : Nat} {i : xw_L} {z : Int} {v : xw_V} {x : Value} {st' : List xw_V} {ls : Array Slot} {vst vst' : List Value} {H : Heap} {locs : List Loc} {ws : va_W} {ad : Nat} {en en' : va_E} (C : xw_Cx p s m args c cc own nL D t A X xs Γ) (hk : (∀ pc' L' st' S', k pc' L' st' S' = true → xw_Tj e0 D t A s.heap hl Γ X xs ws0 nL gh gz fh (fun pc ls vst H locs => W p l e R s m args below meth c H locs cs sl Q (F0 m pc ls vst)) act pc' L' st' S')) (hR : xw_Rl D t A s.heap hl Γ X xs ws0 nL ρ L st S ls vst H locs ws) (hG : xw_Gy e0 ρ S.2.1 gh gz) (hH : ∀ a ∈ act, xw_Hy D t A s.heap hl Γ X xs ws0 nL gz fh (fun pc ls vst H locs => W p l e R s m args below meth c H locs cs sl Q (F0 m pc ls vst)) a ρ S.2.1) (h : xw_wr hl Γ S r i v (fun S' => k pc' L st' S') = true) (hi : xw_is ρ S.2.1 i z) (hv : xw_hv X (ws.map Prod.fst) ρ S.2.1 v x) (ht : xw_sk X (ws.map Prod.fst) ρ S.2.1 st' vst') (hen : ws[r]? = some (ad, en)) (hx1 : xw_cx en' z.toNat = x) (hx2 : ∀ j, j ≠ z.toNat → xw_cx en' j = xw_cx en j)
    (hty : ∀ c, xv_get 14 Γ r = some c → (∀ u, xv_get 8 c.2.2.2 (z.toNat % c.2.2.1) = some u → xv_hv X.1 (ws.map Prod.fst) u x) → xv_hc t X.1 (ws.map Prod.fst) c en') {H1 : Heap} {locs1 : List Loc} (hP1 : va_P D vwCl (ws.set r (ad, en')) H1) (hD1 : va_D A (ws.set r (ad, en'))) (hS1 : va_S A s.heap H1 locs1) : W p l e R s m args below meth c H1 locs1 cs sl Q (F0 m pc' ls vst') := by
  obtain ⟨⟨h0, lvs, h1, h2⟩, h3, ⟨hP, hD, hS0, hWd, hDt, hDc, has⟩, hS, hM⟩ := id hR
  obtain ⟨z0, ⟨cl, hc, zl, c4, c1, hu⟩, v1, hh, hfin⟩ := xw_wr_ok hWd hS hM h hi hv
  have hr9 := xy_ne9 C hc
  have hone : xw_one (xw_mu xs ws) r z.toNat x (xw_mu xs (ws.set r (ad, en'))) := by
    constructor
    · rw [xy_mu hr9, xw_ct_set hen, if_pos rfl, hx1]
    · intro r' j' hne
      by_cases e9 : r' = 9999
      · unfold xw_mu; rw [if_pos e9, if_pos e9]
      · rw [xy_mu e9, xy_mu e9, xw_ct_set hen]
        by_cases e : r' = r
        · subst e
          rw [if_pos rfl, hx2 j' (fun q => hne ⟨rfl, q⟩)]
          unfold xw_ct; rw [hen]
        · rw [if_neg e]
  obtain ⟨S', g1, g2, g3, g4, g5, g6, g7⟩ := hfin _ hone
  have hu' : xw_Up ρ S.2.1 ρ S'.2.1 := by rw [g4]; exact xw_Up.rf
  have hfst := xv_fst_set (y := en') hen
  have hWd' : xw_Wd hl Γ t X (xw_mu xs (ws.set r (ad, en'))) (ws.set r (ad, en')) := by
    refine ⟨?_, fun cq hcq j hj => ?_, fun q cq hcq j => xy_mu (xy_ne9 C hcq)⟩
    · rw [List.length_set]
      exact xw_H_set hWd.1 hen (fun cq hcq _ => by rw [hc] at hcq; cases hcq; exact hty cl hc hu)
    · rw [xw_ct_set hen]
      by_cases e : hl.1 = r
      · rw [if_pos e]
        by_cases ej : j = z.toNat
        · rw [ej, hx1]; exact hh e.symm
        · rw [hx2 j ej]
          have := hWd.2.1 cq hcq j hj
          unfold xw_ct at this
          rw [e, hen] at this
          exact this
      · rw [if_neg e]; exact hWd.2.1 cq hcq j hj
  refine xy_k hk g1 ⟨⟨h0, lvs, h1, ?_⟩, ?_, ⟨hP1, hD1, hS1, hWd', g5 _ hDt, fun q hq => ?_, by rw [hfst]; exact has⟩, g2, ?_⟩ hu' hG hH
  · rw [hfst, g4]; exact h2
  · rw [hfst, g4]; exact ht
  · obtain ⟨c', hc'⟩ := g7
    have hne : r ≠ q := fun e => hq c' (by rw [← e]; exact hc')
    rw [List.getElem?_set_ne hne]
    exact hDc q (fun cq hcq => hq cq (g6 _ hcq))
  · rw [hfst]; exact g3
theorem xy_putfield {index a b kd : Nat} {q : vw_C} (C : xw_Cx p s m args c cc own nL D t A X xs Γ) (hk : (∀ pc' L' st' S', k pc' L' st' S' = true → xw_Tj e0 D t A s.heap hl Γ X xs ws0 nL gh gz fh (fun pc ls vst H locs => W p l e R s m args below meth c H locs cs sl Q (F0 m pc ls vst)) act pc' L' st' S')) (hd : decode cc pc = .ok (.putfield index, 3)) (hq : vwCl[a]? = some q) (hbn : b < q.2.2) (hw : Cond.fieldLink own index (q.2.1 b).1 (q.2.1 b).2.1 (q.2.1 b).2.2.1 ∈ xv_tb)
    (hkd : xv_ftk (q.2.1 b).2.2.1 kd = true) (hfin : (q.2.1 b).2.2.2 = false ∨ ((q.2.1 b).2.2.2 = true ∧ meth.name = "<init>" ∧ (q.2.1 b).1 = own))
    (h : (match st with
    | x :: o :: r => bif Nat.beq o.1 2 && xv_le 0 o.2.1 then (match xv_get 14 Γ o.2.1.toNat with
      | some c => bif Nat.beq c.1 0 && (Nat.beq c.2.1 a && (Nat.ble (b + 1) c.2.2.1 && Nat.beq x.1 kd)) then xw_wr hl Γ S o.2.1.toNat (Int.ofNat b, []) x (fun S' => k (pc + 3) L r S') else false
      | none => false) else false
    | _ => false) = true) : xw_Tj e0 D t A s.heap hl Γ X xs ws0 nL gh gz fh (fun pc ls vst H locs => W p l e R s m args below meth c H locs cs sl Q (F0 m pc ls vst)) act pc L st S := by
  match st, h with
  | [], h => cases h
  | [_], h => cases h
  | x :: o :: z, h =>
    dsimp only at h
    cases hb : (Nat.beq o.1 2 && xv_le 0 o.2.1) with
    | false => rw [hb] at h; cases h
    | true =>
      rw [hb] at h
      simp only [cond_true] at h
      obtain ⟨b1, -⟩ := xv_and_t hb
      cases hc : xv_get 14 Γ o.2.1.toNat with
      | none => rw [hc] at h; cases h
      | some cl =>
        rw [hc] at h
        dsimp only at h
        cases hb2 : (Nat.beq cl.1 0 && (Nat.beq cl.2.1 a && (Nat.ble (b + 1) cl.2.2.1 && Nat.beq x.1 kd))) with
        | false => rw [hb2] at h; cases h
        | true =>
          rw [hb2] at h
          simp only [cond_true] at h
          obtain ⟨b2, hb2⟩ := xv_and_t hb2
          obtain ⟨b3, hb2⟩ := xv_and_t hb2
          obtain ⟨b4, b5⟩ := xv_and_t hb2
          have b2 := xv_beq b2
          have b3 := xv_beq b3
          have b4 := xv_ble b4
          have b5 := xv_beq b5
          intro ρ ls vst H locs ws hR hG hH
          obtain ⟨y, vst, rfl, hy, ht0⟩ := hR.2.1.un
          obtain ⟨x0, vst, rfl, hx, ht⟩ := ht0.un
          obtain ⟨ad, ha, rfl⟩ := hx.2.2.1 (xv_beq b1)
          obtain ⟨hP, hD, hS0, hWd, hrest⟩ := hR.2.2.1
          obtain ⟨en, hen, hce⟩ := xy_at hWd.1 hc (by omega) ha
          obtain ⟨fs, rfl, hl, hf⟩ := hce.1 b2
          have hcl := xv_cls a q hq
          obtain ⟨ty0, hty0⟩ := hcl.2.1
          have hvk := (xw_wr_ok hWd hR.2.2.2.1 hR.2.2.2.2 h (xw_is.c _) hy).2.2.1
          have hft : ∃ ty, parseFieldDescriptor (q.2.1 b).2.2.1 = some ty ∧ narrow ty y = y ∧ fits ty y = true := by
            rcases Nat.le_one_iff_eq_zero_or_eq_one.mp hvk with w | w
            · obtain ⟨i, rfl, -⟩ := hy.1 w
              refine xv_ftk_ok (sb := X.1) (as := []) (v := (kd, i.toInt, i.toInt)) hkd (xv_hv.i ⟨by show kd = 0; omega, Int.le_refl _, Int.le_refl _⟩)
            · obtain ⟨i, rfl, -⟩ := hy.2.1 w
              refine xv_ftk_ok (sb := X.1) (as := []) (v := (kd, i.toInt, i.toInt)) hkd (xv_hv.l ⟨by show kd = 1; omega, Int.le_refl _, Int.le_refl _⟩)
          obtain ⟨ty, hpd, hnar, hfit⟩ := hft
          have hen' := hen
          rw [b3] at hen
          have hkk : ∀ (H1 : Heap) (locs1 : List Loc), va_P D vwCl (ws.set o.2.1.toNat (ad, .inr (a, fs.set b y))) H1 → va_D A (ws.set o.2.1.toNat (ad, .inr (a, fs.set b y))) → va_S A s.heap H1 locs1 → W p l e R s m args below meth c H1 locs1 cs sl Q (F0 m (pc + 3) ls vst) := by
            intro H1 locs1 hP1 hD1 hS1
            have ezn : (Int.ofNat b).toNat = b := rfl
            refine xy_wr C hk hR hG hH h (xw_is.c _) hy ht hen' (x := y) ?_ ?_ ?_ hP1 hD1 hS1
            · rw [ezn]
              show (fs.set b y).getD b .null = y
              rw [List.getD_eq_getElem?_getD, List.getElem?_set_self (by omega)]; rfl
            · intro j hj
              rw [ezn] at hj
              show (fs.set b y).getD j .null = fs.getD j .null
              rw [List.getD_eq_getElem?_getD, List.getD_eq_getElem?_getD, List.getElem?_set_ne (fun w => hj w.symm)]
            · intro cq hcq hu
              rw [hc] at hcq
              cases hcq
              rw [ezn, Nat.mod_eq_of_lt (by omega)] at hu
              refine ⟨fun _ => ⟨fs.set b y, by rw [← b3], by rw [List.length_set]; exact hl, fun b' v' hb' => ?_⟩, fun w => ?_, fun w => ?_, fun w => ?_, fun w => ?_⟩
              · by_cases eb : b' = b
                · subst eb
                  exact ⟨y, by rw [List.getElem?_set_self (by omega)], hu v' hb'⟩
                · obtain ⟨y', hy', hv'⟩ := hf b' v' hb'
                  exact ⟨y', by rw [List.getElem?_set_ne (fun w => eb w.symm)]; exact hy', hv'⟩
              · omega
              · omega
              · omega
              · omega
          rcases hfin with hfin | ⟨hfin, hin2, hdecl⟩
          · exact va_put C.1 C.2.1 C.2.2.2.2.1 hcl.1 ty0 hty0 hcl.2.2.1 C.2.2.2.1 C.2.2.2.2.2.1 hP hD hS0 _ hen hq b hbn (C.2.2.2.2.1 _ hw) (fun _ h => h) hfin hpd hnar hfit (by omega) hd hkk
          · exact va_putF C.1 C.2.1 C.2.2.2.2.1 hcl.1 ty0 hty0 hcl.2.2.1 C.2.2.2.1 C.2.2.2.2.2.1 hP hD hS0 _ hen hq b hbn (C.2.2.2.2.1 _ hw) (fun _ h => h) hfin hin2 hdecl hpd hnar hfit (by omega) hd hkk
end XY4
end
section
/-! rows -/
section XY5
variable {p : Program} {l : Launch} {e : Env} {R : Room} {s : State} {m : MethodId} {args : Array Value} {below : List Frame} {meth : Method} {c : Code}
variable {e0 : (Nat → Int) × Nat} {cc : ByteArray} {own : String} {nL : Nat} {D : va_G} {t : Nat → ClassId} {A : Nat → Prop} {hl : Nat × Int} {Γ : xv_A} {X : xw_X} {xs : Nat → Int32} {ws0 : va_W} {gh : List xw_L} {gz : Nat → Int} {fh : Nat → Option xw_H} {cs sl : Nat} {Q : State → Prop} {act : List xw_A} {k : xw_K} {pc : Nat} {L st : List xw_V} {S : xw_S}
theorem xy_idx {x : Int32} {n : Nat} (h0 : 0 ≤ x.toInt) (h1 : x.toInt.toNat < n) : vp_in x n ∧ x.toNatClampNeg = x.toInt.toNat ∧ ¬ x < 0 := by
  refine ⟨by rw [vp_in_iff]; omega, rfl, fun h => ?_⟩
  have := Int32.lt_iff_toInt_lt.mp h
  rw [show (0 : Int32).toInt = 0 by decide] at this
  omega
/-- which cell a row is -/
theorem xy_cell {as : List Nat} {ρ : Nat → Int} {n : Nat} {o : xw_V} {x : Value} (hv : xw_hv X as ρ n o x) (ho : o.1 = 2 ∨ o.1 = 4) : ∃ j a, (o.1 = 2 → j = 0) ∧ (o.1 = 4 → j < xw_cnt o) ∧ as[o.2.1.toNat + j]? = some a ∧ x = .ref a := by
  rcases ho with q | q
  · obtain ⟨a, h1, h2⟩ := hv.2.2.1 q
    exact ⟨0, a, fun _ => rfl, fun w => (by omega), h1, h2⟩
  · obtain ⟨j, a, h1, h2, h3⟩ := hv.2.2.2.2.1 q
    exact ⟨j, a, fun w => (by omega), fun _ => h1, h2, h3⟩
theorem xw_like_ok {Γ : xv_A} {c0 : xv_C} {q : Nat} : ∀ {n : Nat}, xw_like Γ c0 q n = true → ∀ j, j < n → ∃ d u v, xv_get 14 Γ (q + j) = some d ∧ d.1 = c0.1 ∧ d.2.1 = c0.2.1 ∧ d.2.2.1 = 1 ∧ xv_get 8 d.2.2.2 0 = some u ∧ xv_get 8 c0.2.2.2 0 = some v ∧ u = v ∧ u.1 ≤ 1
  | 0, _, j, hj => absurd hj (Nat.not_lt_zero _)
  | n + 1, h, j, hj => by
    have h : (xw_like Γ c0 q n && match xv_get 14 Γ (q + n) with
      | some d => Nat.beq d.1 c0.1 && (Nat.beq d.2.1 c0.2.1 && (Nat.beq d.2.2.1 1 && (match xv_get 8 d.2.2.2 0, xv_get 8 c0.2.2.2 0 with
        | some u, some v => Nat.beq u.1 v.1 && (Nat.ble u.1 1 && (xw_ieq u.2.1 v.2.1 && xw_ieq u.2.2 v.2.2))
        | _, _ => false)))
      | none => false) = true := h
    obtain ⟨h1, h2⟩ := xv_and_t h
    rcases Nat.lt_or_ge j n with hj2 | hj2
    · exact xw_like_ok h1 j hj2
    · have e : j = n := by omega
      subst e
      cases hd : xv_get 14 Γ (q + j) with
      | none => rw [hd] at h2; cases h2
      | some d =>
        rw [hd] at h2
        obtain ⟨b1, h2⟩ := xv_and_t h2
        obtain ⟨b2, h2⟩ := xv_and_t h2
        obtain ⟨b3, h2⟩ := xv_and_t h2
        cases hu : xv_get 8 d.2.2.2 0 with
        | none => rw [hu] at h2; cases h2
        | some u =>
          cases hv : xv_get 8 c0.2.2.2 0 with
          | none => rw [hu, hv] at h2; cases h2
          | some v =>
            rw [hu, hv] at h2
            obtain ⟨c1, h2⟩ := xv_and_t h2
            obtain ⟨c2, h2⟩ := xv_and_t h2
            obtain ⟨c3, c4⟩ := xv_and_t h2
            exact ⟨d, u, v, rfl, xv_beq b1, xv_beq b2, xv_beq b3, hu, rfl, Prod.ext (xv_beq c1) (Prod.ext (xw_ieq_iff.mp c3) (xw_ieq_iff.mp c4)), xv_ble c2⟩
/-- what the machine does at a place of a row of kind kd -/
def xw_rl1 (p : Program) (l : Launch) (e : Env) (R : Room) (s : State) (m : MethodId) (args : Array Value) (below : List Frame) (meth : Method) (c : Code) (D : va_G) (t : Nat → ClassId) (cs sl : Nat) (Q : State → Prop) (kd pc : Nat) : Prop :=
  ∀ (ws : va_W) (r ad n : Nat) (en : va_E) (sb : Nat) (as : List Nat) (cl : xv_C) (x : Int32) (ls : Array Slot) (vst : List Value) (H : Heap) (locs : List Loc), va_P D vwCl ws H → ws[r]? = some (ad, en) → xv_hc t sb as cl en → cl.1 = kd → cl.2.1 = n → vp_in x n → W p l e R s m args below meth c H locs cs sl Q (F0 m (pc + 1) ls (xw_ct ws r x.toNatClampNeg :: vst)) → W p l e R s m args below meth c H locs cs sl Q (F0 m pc ls (.int x :: .ref ad :: vst))
theorem xy_l1 (C : xw_Cx p s m args c cc own nL D t A X xs Γ) (hd : decode cc pc = .ok (.iaload, 1)) : xw_rl1 p l e R s m args below meth c D t cs sl Q 1 pc := fun ws r ad n en sb as cl x ls vst H locs hP hen hce hkd hn hin w => by
  obtain ⟨f, rfl, -⟩ := hce.2.1 (by omega)
  subst hn
  rw [hkd] at hen
  refine va_iald C.1 C.2.1 C.2.2.2.2.2.1 hP _ 0 hen rfl hin hd ?_
  unfold xw_ct at w; rw [hen] at w; exact w
theorem xy_l2 (C : xw_Cx p s m args c cc own nL D t A X xs Γ) (hd : decode cc pc = .ok (.baload, 1)) : xw_rl1 p l e R s m args below meth c D t cs sl Q 2 pc := fun ws r ad n en sb as cl x ls vst H locs hP hen hce hkd hn hin w => by
  obtain ⟨f, rfl, -⟩ := hce.2.1 (by omega)
  subst hn
  rw [hkd] at hen
  refine va_bald C.1 C.2.1 C.2.2.2.2.2.1 hP _ 1 hen rfl hin hd ?_
  unfold xw_ct at w; rw [hen] at w; exact w
theorem xy_l3 (C : xw_Cx p s m args c cc own nL D t A X xs Γ) (hd : decode cc pc = .ok (.baload, 1)) : xw_rl1 p l e R s m args below meth c D t cs sl Q 3 pc := fun ws r ad n en sb as cl x ls vst H locs hP hen hce hkd hn hin w => by
  obtain ⟨f, rfl, -⟩ := hce.2.1 (by omega)
  subst hn
  rw [hkd] at hen
  refine va_zald C.1 C.2.1 C.2.2.2.2.2.1 hP _ 2 hen rfl hin hd ?_
  unfold xw_ct at w; rw [hen] at w; exact w
theorem xy_l4 (C : xw_Cx p s m args c cc own nL D t A X xs Γ) (hd : decode cc pc = .ok (.laload, 1)) : xw_rl1 p l e R s m args below meth c D t cs sl Q 4 pc := fun ws r ad n en sb as cl x ls vst H locs hP hen hce hkd hn hin w => by
  obtain ⟨f, rfl, -⟩ := hce.2.2.1 (by omega)
  subst hn
  rw [hkd] at hen
  refine va_lald C.1 C.2.1 C.2.2.2.2.2.1 hP _ 3 hen rfl hin hd ?_
  unfold xw_ct at w; rw [hen] at w; exact w
theorem xy_ald {kd : Nat} (C : xw_Cx p s m args c cc own nL D t A X xs Γ) (hk : (∀ pc' L' st' S', k pc' L' st' S' = true → xw_Tj e0 D t A s.heap hl Γ X xs ws0 nL gh gz fh (fun pc ls vst H locs => W p l e R s m args below meth c H locs cs sl Q (F0 m pc ls vst)) act pc' L' st' S')) (h14 : 1 ≤ kd ∧ kd ≤ 4) (hrl : xw_rl1 p l e R s m args below meth c D t cs sl Q kd pc) (hscr : kd = 1 → decode cc pc = .ok (.iaload, 1)) (h : xw_ald hl Γ kd st S (fun v r S' => k (pc + 1) L (v :: r) S') = true) : xw_Tj e0 D t A s.heap hl Γ X xs ws0 nL gh gz fh (fun pc ls vst H locs => W p l e R s m args below meth c H locs cs sl Q (F0 m pc ls vst)) act pc L st S := by
  unfold xw_ald at h
  match st, h with
  | [], h => cases h
  | [_], h => cases h
  | i :: o :: rest, h =>
    dsimp only at h
    cases hi0 : Nat.beq i.1 0 with
    | false => rw [hi0] at h; cases h
    | true =>
      rw [hi0] at h
      simp only [cond_true] at h
      intro ρ ls vst H locs ws hR hG hH
      obtain ⟨i0, vst, rfl, hi, ht0⟩ := hR.2.1.un
      obtain ⟨o0, vst, rfl, ho, ht⟩ := ht0.un
      obtain ⟨x, rfl, hx⟩ := hi.1 (xv_beq hi0)
      have hWl := hR.2.2.1
      have hS := hR.2.2.2.1
      have hM := hR.2.2.2.2
      cases h5 : Nat.beq o.1 5 with
      | true =>
        rw [h5] at h
        simp only [cond_true] at h
        obtain ⟨rfl, hlen, hsp⟩ := ho.2.2.2.2.2.1 (xv_beq h5)
        obtain ⟨hX, hbl, hbA, hlt⟩ := C.2.2.2.2.2.2.2.2.1 hsp
        cases hk1 : Nat.beq kd 1 with
        | false => rw [hk1] at h; cases h
        | true =>
          rw [hk1] at h
          simp only [cond_true] at h
          unfold xw_scrip at h
          cases hb : (xw_prove S i.2 && xw_prove S (xw_k (xw_sub o.2 i.2) (-1))) with
          | false => rw [hb] at h; cases h
          | true =>
            rw [hb] at h
            simp only [cond_true] at h
            obtain ⟨p1, p2⟩ := xv_and_t hb
            have p1 := xw_prove_ok hS p1 hx
            have p2 := xw_prove_ok hS p2 ((hlen.sub hx).k (-1))
            obtain ⟨q1, q2, q3⟩ := xy_idx (n := X.2.1) p1 (by omega)
            refine va_sld C.1 C.2.1 hX hbl hbA hWl.2.2.1 q1 (hscr (xv_beq hk1)) ?_
            rw [q2]
            have hmu : xw_mu xs ws 9999 x.toInt.toNat = .int (xs x.toInt.toNat) := if_pos rfl
            have hn := xw_nm_ok hS.1 hx
            cases hm : xw_mem S.2.2.2.1 9999 (xw_nm S.1 i.2) with
            | some v =>
              rw [hm] at h
              obtain ⟨z', g1, g2, g3, g4⟩ := hM.1 _ (xw_mem_ok hm)
              have ez := g1.one hn
              subst ez
              dsimp only at g3
              rw [hmu] at g3
              exact xy_k hk h (hR.stk (xw_sk.cons g3 ht) xw_Up.rf hS rfl rfl rfl) xw_Up.rf hG hH
            | none =>
              rw [hm] at h
              dsimp only at h
              obtain ⟨ρ', l', S', g1, g2, g3, g4, g5, -⟩ := xw_fr_ok (z := (xs x.toInt.toNat).toInt) hS h (xv_i32 _).1 (xv_i32 _).2
              have hM' : xw_Me X (ws.map Prod.fst) (xw_mu xs ws) ρ' S' := xw_OK.up hM g2 (by rw [g5])
              have hvv : xw_hv X (ws.map Prod.fst) ρ' S'.2.1 (0, l') (.int (xs x.toInt.toNat)) := xw_hv.i g4
              have hR' := hR.up g2 g3 hM' (by rw [g5])
              obtain ⟨r1, r2, r3, r4, r5⟩ := hR'
              refine xy_k hk g1 ⟨r1, xw_sk.cons hvv (ht.more g2), r3, g3, ⟨fun mm hmm => ?_, hM'.2⟩⟩ g2 hG hH
              rcases List.mem_cons.mp hmm with w | w
              · rw [w]
                exact ⟨_, hn.more g2, p1, by show xw_hv _ _ _ _ _ (xw_mu xs ws 9999 _); rw [hmu]; exact hvv, Nat.zero_le _⟩
              · exact hM'.1 _ w
      | false =>
        rw [h5] at h
        simp only [cond_false] at h
        cases h2 : (Nat.beq o.1 2 && xv_le 0 o.2.1) with
        | true =>
          rw [h2] at h
          simp only [cond_true] at h
          obtain ⟨b1, -⟩ := xv_and_t h2
          cases hc : xv_get 14 Γ o.2.1.toNat with
          | none => rw [hc] at h; cases h
          | some cl =>
            rw [hc] at h
            dsimp only at h
            cases hkb : Nat.beq cl.1 kd with
            | false => rw [hkb] at h; cases h
            | true =>
              rw [hkb] at h
              simp only [cond_true] at h
              have hkb := xv_beq hkb
              obtain ⟨ad, ha, rfl⟩ := ho.2.2.1 (xv_beq b1)
              obtain ⟨en, hen, hce⟩ := xy_at hWl.2.2.2.1.1 hc (by omega) ha
              obtain ⟨z0, ⟨cl', hc', zl, -⟩, ρ', v, S', g1, g2, g3, g4, g5, g6, g7⟩ := xw_rd_ok hWl.2.2.2.1 hS hM h hx
              rw [hc] at hc'
              cases hc'
              have zl : x.toInt.toNat < cl.2.1 := by
                unfold xw_len at zl
                cases hq : Nat.beq cl.1 0 with
                | true => have := xv_beq hq; omega
                | false => rw [hq] at zl; exact zl
              obtain ⟨q1, q2, q3⟩ := xy_idx z0 zl
              refine hrl ws _ ad cl.2.1 en X.1 _ cl x ls vst H locs hWl.1 hen hce hkb rfl q1 ?_
              rw [q2]
              rw [xy_mu (xy_ne9 C hc)] at g5
              exact xy_k hk g1 ((hR.up g2 g3 g4 g6).stk (xw_sk.cons g5 (ht.more g2)) xw_Up.rf g3 rfl rfl rfl) g2 hG hH
        | false =>
          rw [h2] at h
          simp only [cond_false] at h
          cases h4 : (Nat.beq o.1 4 && xv_le 0 o.2.1) with
          | false => rw [h4] at h; cases h
          | true =>
            rw [h4] at h
            simp only [cond_true] at h
            obtain ⟨b1, -⟩ := xv_and_t h4
            cases hc : xv_get 14 Γ o.2.1.toNat with
            | none => rw [hc] at h; cases h
            | some cl =>
              rw [hc] at h
              dsimp only at h
              cases hkb : (Nat.beq cl.1 kd && (Nat.ble 1 (xw_cnt o) && (xw_like Γ cl o.2.1.toNat (xw_cnt o) && xw_inb S cl.2.1 i.2))) with
              | false => rw [hkb] at h; cases h
              | true =>
                rw [hkb] at h
                simp only [cond_true] at h
                obtain ⟨k1, hkb⟩ := xv_and_t hkb
                obtain ⟨k2, hkb⟩ := xv_and_t hkb
                obtain ⟨k3, k4⟩ := xv_and_t hkb
                have k1 := xv_beq k1
                obtain ⟨j, ad, j1, ha, rfl⟩ := ho.2.2.2.2.1 (xv_beq b1)
                obtain ⟨d, u, v, d1, d2, d3, d4, d5, d6, d7, d8⟩ := xw_like_ok k3 j j1
                obtain ⟨en, hen, hce⟩ := xy_at hWl.2.2.2.1.1 d1 (by omega) ha
                obtain ⟨z0, zl⟩ := xw_inb_ok hS k4 hx
                rw [d6] at h
                dsimp only at h
                obtain ⟨q1, q2, q3⟩ := xy_idx z0 zl
                have hty := xw_ty_ok (i := x.toInt.toNat) (u := u) hWl.2.2.2.1.1 d1 (by omega) (by unfold xw_len; rw [d2, k1, d3]; cases hq : Nat.beq kd 0 with | true => have := xv_beq hq; omega | false => exact zl) (by rw [d4, Nat.mod_one]; exact d5)
                refine hrl ws _ ad cl.2.1 en X.1 _ d x ls vst H locs hWl.1 hen hce (by omega) d3 q1 ?_
                rw [q2]
                rw [← d7] at h
                rcases Nat.le_one_iff_eq_zero_or_eq_one.mp d8 with w | w
                · obtain ⟨y, ey, y1, y2⟩ := hty.1 w
                  obtain ⟨ρ', l', S', g1, g2, g3, g4, g5, g6, g7⟩ := xw_Re.fr (z := y.toInt) hS h y1 y2
                  rw [ey]
                  refine xy_k hk g1 (hR.stk (xw_sk.cons ?_ (ht.more g2)) g2 g3 g5 g6 g7) g2 hG hH
                  rw [w]; exact xw_hv.i g4
                · obtain ⟨y, ey, y1, y2⟩ := hty.2.1 w
                  obtain ⟨ρ', l', S', g1, g2, g3, g4, g5, g6, g7⟩ := xw_Re.fr (z := y.toInt) hS h y1 y2
                  rw [ey]
                  refine xy_k hk g1 (hR.stk (xw_sk.cons ?_ (ht.more g2)) g2 g3 g5 g6 g7) g2 hG hH
                  rw [w]; exact xw_hv.l g4
theorem xy_alen (C : xw_Cx p s m args c cc own nL D t A X xs Γ) (hk : (∀ pc' L' st' S', k pc' L' st' S' = true → xw_Tj e0 D t A s.heap hl Γ X xs ws0 nL gh gz fh (fun pc ls vst H locs => W p l e R s m args below meth c H locs cs sl Q (F0 m pc ls vst)) act pc' L' st' S')) (hd : decode cc pc = .ok (.arraylength, 1))
    (h : (match st with
    | o :: r => bif Nat.beq o.1 5 then k (pc + 1) L ((0, o.2) :: r) S else bif (Nat.beq o.1 2 || Nat.beq o.1 4) && xv_le 0 o.2.1 then (match xv_get 14 Γ o.2.1.toNat with
      | some c => bif Nat.ble 1 c.1 && (Nat.ble c.1 7 && (Nat.beq o.1 2 || (Nat.ble 1 (xw_cnt o) && xw_like Γ c o.2.1.toNat (xw_cnt o)))) then k (pc + 1) L ((0, (Int.ofNat c.2.1, [])) :: r) S else false
      | none => false) else false
    | _ => false) = true) : xw_Tj e0 D t A s.heap hl Γ X xs ws0 nL gh gz fh (fun pc ls vst H locs => W p l e R s m args below meth c H locs cs sl Q (F0 m pc ls vst)) act pc L st S := by
  match st, h with
  | [], h => cases h
  | o :: rest, h =>
    dsimp only at h
    intro ρ ls vst H locs ws hR hG hH
    obtain ⟨o0, vst, rfl, ho, ht⟩ := hR.2.1.un
    have hWl := hR.2.2.1
    have hS := hR.2.2.2.1
    cases h5 : Nat.beq o.1 5 with
    | true =>
      rw [h5] at h
      simp only [cond_true] at h
      obtain ⟨rfl, hlen, hsp⟩ := ho.2.2.2.2.2.1 (xv_beq h5)
      obtain ⟨hX, hbl, hbA, hlt⟩ := C.2.2.2.2.2.2.2.2.1 hsp
      refine va_slen C.1 C.2.1 hX hbl hbA hWl.2.2.1 hd (xy_k hk h (hR.stk (xw_sk.cons (xw_hv.i ?_) ht) xw_Up.rf hS rfl rfl rfl) xw_Up.rf hG hH)
      have e : (Int32.ofNat X.2.1).toInt = (X.2.1 : Int) := nI_toInt hlt
      rw [e]; exact hlen
    | false =>
      rw [h5] at h
      simp only [cond_false] at h
      cases h2 : ((Nat.beq o.1 2 || Nat.beq o.1 4) && xv_le 0 o.2.1) with
      | false => rw [h2] at h; cases h
      | true =>
        rw [h2] at h
        simp only [cond_true] at h
        obtain ⟨b1, -⟩ := xv_and_t h2
        cases hc : xv_get 14 Γ o.2.1.toNat with
        | none => rw [hc] at h; cases h
        | some cl =>
          rw [hc] at h
          dsimp only at h
          cases hkb : (Nat.ble 1 cl.1 && (Nat.ble cl.1 7 && (Nat.beq o.1 2 || (Nat.ble 1 (xw_cnt o) && xw_like Γ cl o.2.1.toNat (xw_cnt o))))) with
          | false => rw [hkb] at h; cases h
          | true =>
            rw [hkb] at h
            simp only [cond_true] at h
            obtain ⟨k1, hkb⟩ := xv_and_t hkb
            obtain ⟨k2, k3⟩ := xv_and_t hkb
            have k1 := xv_ble k1
            have k2 := xv_ble k2
            obtain ⟨j, ad, j1, j2, ha, rfl⟩ := xy_cell ho ((Bool.or_eq_true _ _).mp b1 |>.imp xv_beq xv_beq)
            have key : ∃ d, xv_get 14 Γ (o.2.1.toNat + j) = some d ∧ d.1 = cl.1 ∧ d.2.1 = cl.2.1 := by
              rcases (Bool.or_eq_true _ _).mp k3 with w | w
              · rw [j1 (xv_beq w)]; exact ⟨cl, hc, rfl, rfl⟩
              · obtain ⟨w1, w2⟩ := xv_and_t w
                rcases (Bool.or_eq_true _ _).mp b1 with z | z
                · rw [j1 (xv_beq z)]; exact ⟨cl, hc, rfl, rfl⟩
                · obtain ⟨d, u, v, d1, d2, d3, -⟩ := xw_like_ok w2 j (j2 (xv_beq z))
                  exact ⟨d, d1, d2, d3⟩
            obtain ⟨d, d1, d2, d3⟩ := key
            obtain ⟨en, hen, hce⟩ := xy_at hWl.2.2.2.1.1 d1 (by omega) ha
            obtain ⟨y, ty, rfl, hy, hty⟩ := hce.row (by omega) (by omega)
            refine va_alen C.1 C.2.1 C.2.2.2.2.2.1 hWl.1 _ _ hen hty rfl hd (xy_k hk h (hR.stk (xw_sk.cons (xw_hv.i ?_) ht) xw_Up.rf hS rfl rfl rfl) xw_Up.rf hG hH)
            have e := xv_ofNat (hce.2.2.2.2 (by omega))
            rw [hy, e, d3]; exact xw_is.c _
theorem xw_seq_ok {els : List (List xv_V)} {q : Int} : ∀ {n : Nat}, xw_seq els q n = true → ∀ j, j < n → ∃ u, xv_get 8 els j = some u ∧ u.1 = 2 ∧ u.2.1 = q + (j : Int)
  | 0, _, j, hj => absurd hj (Nat.not_lt_zero _)
  | n + 1, h, j, hj => by
    have h : (xw_seq els q n && match xv_get 8 els n with
      | some u => Nat.beq u.1 2 && xw_ieq u.2.1 (q + Int.ofNat n)
      | none => false) = true := h
    obtain ⟨h1, h2⟩ := xv_and_t h
    rcases Nat.lt_or_ge j n with hj2 | hj2
    · exact xw_seq_ok h1 j hj2
    · have e : j = n := by omega
      subst e
      cases hd : xv_get 8 els j with
      | none => rw [hd] at h2; cases h2
      | some u =>
        rw [hd] at h2
        obtain ⟨b1, b2⟩ := xv_and_t h2
        exact ⟨u, rfl, xv_beq b1, xw_ieq_iff.mp b2⟩
theorem xy_aald (C : xw_Cx p s m args c cc own nL D t A X xs Γ) (hk : (∀ pc' L' st' S', k pc' L' st' S' = true → xw_Tj e0 D t A s.heap hl Γ X xs ws0 nL gh gz fh (fun pc ls vst H locs => W p l e R s m args below meth c H locs cs sl Q (F0 m pc ls vst)) act pc' L' st' S')) (hd : decode cc pc = .ok (.aaload, 1))
    (h : (match st with
    | i :: o :: r => bif Nat.beq i.1 0 && (Nat.beq o.1 2 && xv_le 0 o.2.1) then (match xv_get 14 Γ o.2.1.toNat with
      | some c => bif (Nat.beq c.1 5 || Nat.beq c.1 6) && (xw_inb S c.2.1 i.2 && Nat.beq c.2.1 c.2.2.1) then (match xv_get 8 c.2.2.2 0 with
        | some u => bif Nat.beq u.1 2 && (xv_le 0 u.2.1 && xw_seq c.2.2.2 u.2.1 c.2.1) then (match (xw_nm S.1 i.2).2 with
            | [] => k (pc + 1) L ((2, (u.2.1 + (xw_nm S.1 i.2).1, [])) :: r) S
            | _ :: _ => k (pc + 1) L ((4, (u.2.1, [(c.2.1, 0)])) :: r) S) else false
        | none => false) else false
      | none => false) else false
    | _ => false) = true) : xw_Tj e0 D t A s.heap hl Γ X xs ws0 nL gh gz fh (fun pc ls vst H locs => W p l e R s m args below meth c H locs cs sl Q (F0 m pc ls vst)) act pc L st S := by
  match st, h with
  | [], h => cases h
  | [_], h => cases h
  | i :: o :: rest, h =>
    dsimp only at h
    cases hb : (Nat.beq i.1 0 && (Nat.beq o.1 2 && xv_le 0 o.2.1)) with
    | false => rw [hb] at h; cases h
    | true =>
      rw [hb] at h
      simp only [cond_true] at h
      obtain ⟨b1, hb⟩ := xv_and_t hb
      obtain ⟨b2, -⟩ := xv_and_t hb
      intro ρ ls vst H locs ws hR hG hH
      obtain ⟨i0, vst, rfl, hi, ht0⟩ := hR.2.1.un
      obtain ⟨o0, vst, rfl, ho, ht⟩ := ht0.un
      obtain ⟨x, rfl, hx⟩ := hi.1 (xv_beq b1)
      obtain ⟨ad, ha, rfl⟩ := ho.2.2.1 (xv_beq b2)
      have hWl := hR.2.2.1
      have hS := hR.2.2.2.1
      cases hc : xv_get 14 Γ o.2.1.toNat with
      | none => rw [hc] at h; cases h
      | some cl =>
        rw [hc] at h
        dsimp only at h
        cases hkb : ((Nat.beq cl.1 5 || Nat.beq cl.1 6) && (xw_inb S cl.2.1 i.2 && Nat.beq cl.2.1 cl.2.2.1)) with
        | false => rw [hkb] at h; cases h
        | true =>
          rw [hkb] at h
          simp only [cond_true] at h
          obtain ⟨k1, hkb⟩ := xv_and_t hkb
          obtain ⟨k2, k3⟩ := xv_and_t hkb
          have k3 := xv_beq k3
          have k1 : cl.1 = 5 ∨ cl.1 = 6 := ((Bool.or_eq_true _ _).mp k1).imp xv_beq xv_beq
          obtain ⟨z0, zl⟩ := xw_inb_ok hS k2 hx
          obtain ⟨q1, q2, q3⟩ := xy_idx z0 zl
          obtain ⟨en, hen, hce⟩ := xy_at hWl.2.2.2.1.1 hc (by omega) ha
          obtain ⟨f, rfl, hf⟩ := hce.2.2.2.1 (by omega)
          cases hu : xv_get 8 cl.2.2.2 0 with
          | none => rw [hu] at h; cases h
          | some u =>
            rw [hu] at h
            dsimp only at h
            cases hsb : (Nat.beq u.1 2 && (xv_le 0 u.2.1 && xw_seq cl.2.2.2 u.2.1 cl.2.1)) with
            | false => rw [hsb] at h; cases h
            | true =>
              rw [hsb] at h
              simp only [cond_true] at h
              obtain ⟨s1, hsb⟩ := xv_and_t hsb
              obtain ⟨s2, s3⟩ := xv_and_t hsb
              have s2 := xv_le_iff.mp s2
              obtain ⟨w, w1, w2, w3⟩ := xw_seq_ok s3 x.toInt.toNat zl
              obtain ⟨a1, a2, a3⟩ := (hf x.toInt.toNat zl w (by rw [← k3, Nat.mod_eq_of_lt zl]; exact w1)).2.2.1 w2
              have fin : ∀ v : xw_V, xw_hv X (ws.map Prod.fst) ρ S.2.1 v (va_rf (f x.toNatClampNeg)) → k (pc + 1) L (v :: rest) S = true → W p l e R s m args below meth c H locs cs sl Q (F0 m pc ls (.int x :: .ref ad :: vst)) := by
                intro v hv hkv
                have hgo := xy_k hk hkv (hR.stk (xw_sk.cons hv ht) xw_Up.rf hS rfl rfl rfl) xw_Up.rf hG hH
                rcases k1 with e | e
                · rw [e] at hen
                  exact xv_aald (ty := .array .int) (t0 := 4) rfl C.1 C.2.1 C.2.2.2.2.2.1 hWl.1 hen rfl q1 hd hgo
                · rw [e] at hen
                  exact xv_aald (ty := .array .long) (t0 := 5) rfl C.1 C.2.1 C.2.2.2.2.2.1 hWl.1 hen rfl q1 hd hgo
              have hn := xw_nm_ok hS.1 hx
              match hnm : (xw_nm S.1 i.2).2, h with
              | [], h =>
                dsimp only at h
                have en1 : (xw_nm S.1 i.2).1 = x.toInt := by
                  have : (xw_nm S.1 i.2).1 + xw_evl ρ (xw_nm S.1 i.2).2 = x.toInt := hn.2
                  rw [hnm] at this
                  have : (xw_nm S.1 i.2).1 + 0 = x.toInt := this
                  omega
                refine fin _ ⟨fun q => (by cases q), fun q => (by cases q), fun _ => ⟨a1, ?_, ?_⟩, fun q => (by cases q), fun q => (by cases q), fun q => (by cases q), fun q => (by cases q), fun q => (by cases q)⟩ h
                · show (ws.map Prod.fst)[(u.2.1 + (xw_nm S.1 i.2).1).toNat]? = some a1
                  rw [en1, ← a2, w3]
                  congr 2
                  omega
                · rw [q2]; exact a3
              | _ :: _, h =>
                dsimp only at h
                refine fin (4, (u.2.1, [(cl.2.1, 0)])) ⟨fun q => (by cases q), fun q => (by cases q), fun q => (by cases q), fun q => (by cases q), fun _ => ⟨x.toInt.toNat, a1, zl, ?_, ?_⟩, fun q => (by cases q), fun q => (by cases q), fun q => (by cases q)⟩ h
                · show (ws.map Prod.fst)[u.2.1.toNat + x.toInt.toNat]? = some a1
                  rw [← a2, w3]
                  congr 1
                  omega
                · rw [q2]; exact a3
end XY5
end
section
/-! rows are written -/
section XY6
variable {p : Program} {l : Launch} {e : Env} {R : Room} {s : State} {m : MethodId} {args : Array Value} {below : List Frame} {meth : Method} {c : Code}
variable {e0 : (Nat → Int) × Nat} {cc : ByteArray} {own : String} {nL : Nat} {D : va_G} {t : Nat → ClassId} {A : Nat → Prop} {hl : Nat × Int} {Γ : xv_A} {X : xw_X} {xs : Nat → Int32} {ws0 : va_W} {gh : List xw_L} {gz : Nat → Int} {fh : Nat → Option xw_H} {cs sl : Nat} {Q : State → Prop} {act : List xw_A} {k : xw_K} {pc : Nat} {L st : List xw_V} {S : xw_S}
/-- what the machine does when a place of a row of kind kd is written -/
def xw_rl2 (p : Program) (l : Launch) (e : Env) (R : Room) (s : State) (m : MethodId) (args : Array Value) (below : List Frame) (meth : Method) (c : Code) (D : va_G) (t : Nat → ClassId) (A : Nat → Prop) (cs sl : Nat) (Q : State → Prop) (kd ke pc : Nat) : Prop :=
  ∀ (ws : va_W) (r ad n : Nat) (en : va_E) (sb : Nat) (as : List Nat) (cl : xv_C) (x : Int32) (y : Value) (ls : Array Slot) (vst : List Value) (H : Heap) (locs : List Loc), va_P D vwCl ws H → va_D A ws → va_S A s.heap H locs → ws[r]? = some (ad, en) → xv_hc t sb as cl en → cl.1 = kd → cl.2.1 = n → vp_in x n → ((ke = 0 ∧ ∃ i : Int32, y = .int i ∧ (kd = 2 → -128 ≤ i.toInt ∧ i.toInt ≤ 127) ∧ (kd = 3 → 0 ≤ i.toInt ∧ i.toInt ≤ 1)) ∨ (ke = 1 ∧ ∃ i : Int64, y = .long i)) →
    ∃ en', xw_cx en' x.toNatClampNeg = y ∧ (∀ j, j ≠ x.toNatClampNeg → xw_cx en' j = xw_cx en j) ∧ (∀ as' : List Nat, xv_hc t sb as' cl en → (∀ u, xv_get 8 cl.2.2.2 (x.toNatClampNeg % cl.2.2.1) = some u → xv_hv sb as' u y) → xv_hc t sb as' cl en') ∧
      ((∀ (H1 : Heap) (locs1 : List Loc), va_P D vwCl (ws.set r (ad, en')) H1 → va_D A (ws.set r (ad, en')) → va_S A s.heap H1 locs1 → W p l e R s m args below meth c H1 locs1 cs sl Q (F0 m (pc + 1) ls vst)) → W p l e R s m args below meth c H locs cs sl Q (F0 m pc ls (y :: .int x :: .ref ad :: vst)))
theorem xy_upc {f : Nat → Int32} {j : Nat} {i : Int32} {tt : ClassId} {n : Nat} : xw_cx (.inl (tt, n, .inl (upd f j i))) j = .int i ∧ ∀ q, q ≠ j → xw_cx (.inl (tt, n, .inl (upd f j i))) q = xw_cx (.inl (tt, n, .inl f)) q := by
  refine ⟨?_, fun q hq => ?_⟩
  · show Value.int (upd f j i j) = _; simp [upd]
  · show Value.int (upd f j i q) = .int (f q); simp [upd, hq]
theorem xy_upt {sb : Nat} {as : List Nat} {cl : xv_C} {f : Nat → Int32} {j : Nat} {i : Int32} (h0 : cl.1 = 1 ∨ cl.1 = 2 ∨ cl.1 = 3) (h : xv_hc t sb as cl (.inl (t cl.1, cl.2.1, .inl f))) (hu : ∀ u, xv_get 8 cl.2.2.2 (j % cl.2.2.1) = some u → xv_hv sb as u (.int i)) : xv_hc t sb as cl (.inl (t cl.1, cl.2.1, .inl (upd f j i))) := by
  obtain ⟨f', e, hf⟩ := h.2.1 h0
  cases e
  refine xv_hc.irow h0 (h.2.2.2.2 (by omega)) (fun q hq v hv => ?_)
  by_cases e : q = j
  · subst e; simp only [upd, if_true]; exact hu v hv
  · simp only [upd, if_neg e]; exact hf q hq v hv
theorem xy_s1 (C : xw_Cx p s m args c cc own nL D t A X xs Γ) (hd : decode cc pc = .ok (.iastore, 1)) : xw_rl2 p l e R s m args below meth c D t A cs sl Q 1 0 pc := fun ws r ad n en sb as cl x y ls vst H locs hP hD hS hen hce hkd hn hin hy => by
  obtain ⟨f, rfl, -⟩ := hce.2.1 (by omega)
  subst hn
  rcases hy with ⟨-, i, rfl, -⟩ | ⟨w, -⟩
  · refine ⟨.inl (t cl.1, cl.2.1, .inl (upd f x.toNatClampNeg i)), xy_upc.1, xy_upc.2, fun as' h hu => xy_upt (by omega) h hu, fun kk => ?_⟩
    rw [hkd] at hen kk
    exact va_iast C.1 C.2.1 C.2.2.2.2.2.1 hP hD hS _ 0 hen rfl hin hd kk
  · cases w
theorem xy_s2 (C : xw_Cx p s m args c cc own nL D t A X xs Γ) (hd : decode cc pc = .ok (.bastore, 1)) : xw_rl2 p l e R s m args below meth c D t A cs sl Q 2 0 pc := fun ws r ad n en sb as cl x y ls vst H locs hP hD hS hen hce hkd hn hin hy => by
  obtain ⟨f, rfl, -⟩ := hce.2.1 (by omega)
  subst hn
  rcases hy with ⟨-, i, rfl, hr, -⟩ | ⟨w, -⟩
  · refine ⟨.inl (t cl.1, cl.2.1, .inl (upd f x.toNatClampNeg i)), xy_upc.1, xy_upc.2, fun as' h hu => xy_upt (by omega) h hu, fun kk => ?_⟩
    rw [hkd] at hen kk
    refine va_bast C.1 C.2.1 C.2.2.2.2.2.1 hP hD hS _ 1 hen rfl hin hd ?_
    rw [xv_nar_b (hr rfl).1 (hr rfl).2]
    exact kk
  · cases w
theorem xy_s3 (C : xw_Cx p s m args c cc own nL D t A X xs Γ) (hd : decode cc pc = .ok (.bastore, 1)) : xw_rl2 p l e R s m args below meth c D t A cs sl Q 3 0 pc := fun ws r ad n en sb as cl x y ls vst H locs hP hD hS hen hce hkd hn hin hy => by
  obtain ⟨f, rfl, -⟩ := hce.2.1 (by omega)
  subst hn
  rcases hy with ⟨-, i, rfl, -, hr⟩ | ⟨w, -⟩
  · refine ⟨.inl (t cl.1, cl.2.1, .inl (upd f x.toNatClampNeg i)), xy_upc.1, xy_upc.2, fun as' h hu => xy_upt (by omega) h hu, fun kk => ?_⟩
    rw [hkd] at hen kk
    refine va_zast C.1 C.2.1 C.2.2.2.2.2.1 hP hD hS _ 2 hen rfl hin hd ?_
    rw [(xv_nar_z (hr rfl).1 (hr rfl).2).1]
    exact kk
  · cases w
theorem xy_s4 (C : xw_Cx p s m args c cc own nL D t A X xs Γ) (hd : decode cc pc = .ok (.lastore, 1)) : xw_rl2 p l e R s m args below meth c D t A cs sl Q 4 1 pc := fun ws r ad n en sb as cl x y ls vst H locs hP hD hS hen hce hkd hn hin hy => by
  obtain ⟨f, rfl, -⟩ := hce.2.2.1 (by omega)
  subst hn
  rcases hy with ⟨w, -⟩ | ⟨-, i, rfl⟩
  · cases w
  · refine ⟨.inl (t cl.1, cl.2.1, .inr (.inl (vp_updL f x.toNatClampNeg i))), ?_, fun q hq => ?_, fun as' h hu => ?_, fun kk => ?_⟩
    · show Value.long (vp_updL f x.toNatClampNeg i x.toNatClampNeg) = _; simp [vp_updL]
    · show Value.long (vp_updL f x.toNatClampNeg i q) = .long (f q); simp [vp_updL, hq]
    · obtain ⟨f', e', hf⟩ := h.2.2.1 hkd
      cases e'
      refine xv_hc.lrow hkd (h.2.2.2.2 (by omega)) (fun q hq v hv => ?_)
      by_cases e : q = x.toNatClampNeg
      · subst e; simp only [vp_updL, if_true]; exact hu v hv
      · simp only [vp_updL, if_neg e]; exact hf q hq v hv
    · rw [hkd] at hen kk
      exact va_last C.1 C.2.1 C.2.2.2.2.2.1 hP hD hS _ 3 hen rfl hin hd kk
/-- places of cells, all of one kind, are forgotten: the machine has written one of them -/
theorem xy_kl {ρ : Nat → Int} {r j pc' q n : Nat} {st' : List xw_V} {ls : Array Slot} {vst vst' : List Value} {H : Heap} {locs : List Loc} {ws : va_W} {ad : Nat} {en en' : va_E} (C : xw_Cx p s m args c cc own nL D t A X xs Γ) (hk : (∀ pc' L' st' S', k pc' L' st' S' = true → xw_Tj e0 D t A s.heap hl Γ X xs ws0 nL gh gz fh (fun pc ls vst H locs => W p l e R s m args below meth c H locs cs sl Q (F0 m pc ls vst)) act pc' L' st' S')) (hR : xw_Rl D t A s.heap hl Γ X xs ws0 nL ρ L st S ls vst H locs ws) (hG : xw_Gy e0 ρ S.2.1 gh gz) (hH : ∀ a ∈ act, xw_Hy D t A s.heap hl Γ X xs ws0 nL gz fh (fun pc ls vst H locs => W p l e R s m args below meth c H locs cs sl Q (F0 m pc ls vst)) a ρ S.2.1) (h : k pc' L st' (xw_kills (xw_many q n) S) = true) (ht : xw_sk X (ws.map Prod.fst) ρ S.2.1 st' vst') (hr : r = q + j) (hj : j < n) (hr9 : r ≠ 9999) (hen : ws[r]? = some (ad, en)) (hne : r ≠ hl.1)
    (hty : ∀ c, xv_get 14 Γ r = some c → c.1 ≠ 99 → xv_hc t X.1 (ws.map Prod.fst) c en') {H1 : Heap} {locs1 : List Loc} (hP1 : va_P D vwCl (ws.set r (ad, en')) H1) (hD1 : va_D A (ws.set r (ad, en'))) (hS1 : va_S A s.heap H1 locs1) : W p l e R s m args below meth c H1 locs1 cs sl Q (F0 m pc' ls vst') := by
  obtain ⟨⟨h0, lvs, h1, h2⟩, h3, ⟨hP, hD, hS0, hWd, hDt, hDc, has⟩, hS, hM⟩ := id hR
  have hmem : ∀ {n : Nat}, j < n → (r, 0) ∈ xw_many q n := by
    intro n
    induction n with
    | zero => intro hj; exact absurd hj (Nat.not_lt_zero _)
    | succ n ih =>
      intro hj
      have e : xw_many q (n + 1) = (q + n, 0) :: xw_many q n := rfl
      rw [e]
      rcases Nat.lt_or_ge j n with w | w
      · exact List.mem_cons_of_mem _ (ih w)
      · have ej : j = n := by omega
        subst ej
        rw [hr]; exact List.mem_cons_self
  have hin : (r, 0) ∈ xw_many q n := hmem hj
  have hoth : ∀ r' j', xw_isin (xw_many q n) r' (j' + 1) = false → xw_mu xs (ws.set r (ad, en')) r' j' = xw_mu xs ws r' j' := by
    intro r' j' hf
    by_cases e9 : r' = 9999
    · unfold xw_mu; rw [if_pos e9, if_pos e9]
    · rw [xy_mu e9, xy_mu e9, xw_ct_set hen]
      by_cases e : r' = r
      · rw [e, xw_isin_of (Or.inl rfl) hin] at hf; cases hf
      · rw [if_neg e]
  obtain ⟨g1, g2⟩ := xw_kills_ok (X := X) (as := ws.map Prod.fst) (xw_many q n) hS hM hoth
  have hn := xw_kills_n (xw_many q n) S
  have hu' : xw_Up ρ S.2.1 ρ (xw_kills (xw_many q n) S).2.1 := by rw [hn]; exact xw_Up.rf
  have hfst := xv_fst_set (y := en') hen
  refine xy_k hk h ⟨⟨h0, lvs, h1, ?_⟩, ?_, ⟨hP1, hD1, hS1, ⟨?_, fun cq hcq jj hjj => ?_, fun qq cq hcq jj => xy_mu (xy_ne9 C hcq)⟩, fun r' j' hf => ?_, fun r' hq => ?_, by rw [hfst]; exact has⟩, g1, ?_⟩ hu' hG hH
  · rw [hfst, hn]; exact h2
  · rw [hfst, hn]; exact ht
  · rw [List.length_set]; exact xw_H_set hWd.1 hen hty
  · rw [xw_ct_set hen, if_neg (fun w => hne w.symm)]; exact hWd.2.1 cq hcq jj hjj
  · have f1 : xw_isin (xw_many q n) r' (j' + 1) = false := by
      cases w : xw_isin (xw_many q n) r' (j' + 1) with
      | false => rfl
      | true => rw [xw_kills_in (xw_many q n) (Or.inr w)] at hf; cases hf
    have f2 : xw_isin S.2.2.2.2.2.2 r' (j' + 1) = false := by
      cases w : xw_isin S.2.2.2.2.2.2 r' (j' + 1) with
      | false => rfl
      | true => rw [xw_kills_in (xw_many q n) (Or.inl w)] at hf; cases hf
    rw [hoth r' j' f1, hDt r' j' f2]
  · obtain ⟨c', hc'⟩ := xw_kills_cell (xw_many q n) (S := S) hin
    have hne2 : r ≠ r' := fun w => hq c' (by rw [← w]; exact hc')
    rw [List.getElem?_set_ne hne2]
    exact hDc r' (fun cq hcq => hq cq (xw_kills_old _ hcq))
  · rw [hfst]; exact g2
theorem xy_ast {kd ke : Nat} (C : xw_Cx p s m args c cc own nL D t A X xs Γ) (hk : (∀ pc' L' st' S', k pc' L' st' S' = true → xw_Tj e0 D t A s.heap hl Γ X xs ws0 nL gh gz fh (fun pc ls vst H locs => W p l e R s m args below meth c H locs cs sl Q (F0 m pc ls vst)) act pc' L' st' S')) (h14 : 1 ≤ kd ∧ kd ≤ 4) (hke : ke ≤ 1) (hnar : (kd = 2 → ∀ r cl, xv_get 14 Γ r = some cl → cl.1 = 2 → ∀ i u, xv_get 8 cl.2.2.2 i = some u → u.1 = 0 → -128 ≤ u.2.1 ∧ u.2.2 ≤ 127) ∧ (kd = 3 → ∀ r cl, xv_get 14 Γ r = some cl → cl.1 = 3 → ∀ i u, xv_get 8 cl.2.2.2 i = some u → u.1 = 0 → 0 ≤ u.2.1 ∧ u.2.2 ≤ 1)) (hfull : ∀ r cl, xv_get 14 Γ r = some cl → cl.1 = kd → ∀ i, i < cl.2.2.1 → ∃ u, xv_get 8 cl.2.2.2 i = some u ∧ u.1 = ke) (hrl : xw_rl2 p l e R s m args below meth c D t A cs sl Q kd ke pc) (h : xw_ast hl Γ kd ke st S (fun r S' => k (pc + 1) L r S') = true) : xw_Tj e0 D t A s.heap hl Γ X xs ws0 nL gh gz fh (fun pc ls vst H locs => W p l e R s m args below meth c H locs cs sl Q (F0 m pc ls vst)) act pc L st S := by
  unfold xw_ast at h
  match st, h with
  | [], h => cases h
  | [_], h => cases h
  | [_, _], h => cases h
  | v :: i :: o :: rest, h =>
    dsimp only at h
    cases hi0 : (Nat.beq i.1 0 && Nat.beq v.1 ke) with
    | false => rw [hi0] at h; cases h
    | true =>
      rw [hi0] at h
      simp only [cond_true] at h
      obtain ⟨b1, b2⟩ := xv_and_t hi0
      have b2 := xv_beq b2
      intro ρ ls vst H locs ws hR hG hH
      obtain ⟨y, vst, rfl, hv, ht1⟩ := hR.2.1.un
      obtain ⟨i0, vst, rfl, hi, ht0⟩ := ht1.un
      obtain ⟨o0, vst, rfl, ho, ht⟩ := ht0.un
      obtain ⟨x, rfl, hx⟩ := hi.1 (xv_beq b1)
      have hWl := hR.2.2.1
      have hS := hR.2.2.2.1
      have hM := hR.2.2.2.2
      have hsafe : ∀ (r : Nat) (cl : xv_C), xv_get 14 Γ r = some cl → cl.1 = kd → 1 ≤ cl.2.2.1 → (∀ u, xv_get 8 cl.2.2.2 (x.toInt.toNat % cl.2.2.1) = some u → xv_hv X.1 (ws.map Prod.fst) u y) → ((ke = 0 ∧ ∃ i : Int32, y = .int i ∧ (kd = 2 → -128 ≤ i.toInt ∧ i.toInt ≤ 127) ∧ (kd = 3 → 0 ≤ i.toInt ∧ i.toInt ≤ 1)) ∨ (ke = 1 ∧ ∃ i : Int64, y = .long i)) := by
        intro r cl hc hck hw1 hu
        obtain ⟨u, hu1, hu2⟩ := hfull r cl hc hck (x.toInt.toNat % cl.2.2.1) (Nat.mod_lt _ (by omega))
        have hq := hu u hu1
        rcases Nat.le_one_iff_eq_zero_or_eq_one.mp hke with w | w
        · obtain ⟨i, ei, i1, i2⟩ := hq.1 (by omega)
          refine Or.inl ⟨w, i, ei, fun w2 => ?_, fun w3 => ?_⟩
          · have := hnar.1 w2 r cl hc (by omega) _ u hu1 (by omega); omega
          · have := hnar.2 w3 r cl hc (by omega) _ u hu1 (by omega); omega
        · obtain ⟨i, ei, -⟩ := hq.2.1 (by omega)
          exact Or.inr ⟨w, i, ei⟩
      cases h2 : (Nat.beq o.1 2 && xv_le 0 o.2.1) with
      | true =>
        rw [h2] at h
        simp only [cond_true] at h
        obtain ⟨b3, -⟩ := xv_and_t h2
        cases hc : xv_get 14 Γ o.2.1.toNat with
        | none => rw [hc] at h; cases h
        | some cl =>
          rw [hc] at h
          dsimp only at h
          cases hkb : Nat.beq cl.1 kd with
          | false => rw [hkb] at h; cases h
          | true =>
            rw [hkb] at h
            simp only [cond_true] at h
            have hkb := xv_beq hkb
            obtain ⟨ad, ha, rfl⟩ := ho.2.2.1 (xv_beq b3)
            obtain ⟨en, hen, hce⟩ := xy_at hWl.2.2.2.1.1 hc (by omega) ha
            obtain ⟨z0, ⟨cl', hc', zl, -, hw1, hu⟩, -⟩ := xw_wr_ok hWl.2.2.2.1 hS hM h hx hv
            rw [hc] at hc'
            cases hc'
            have zl : x.toInt.toNat < cl.2.1 := by
              unfold xw_len at zl
              cases hq : Nat.beq cl.1 0 with
              | true => have := xv_beq hq; omega
              | false => rw [hq] at zl; exact zl
            obtain ⟨q1, q2, q3⟩ := xy_idx z0 zl
            obtain ⟨en', e1, e2, e3, e4⟩ := hrl ws _ ad cl.2.1 en X.1 _ cl x y ls vst H locs hWl.1 hWl.2.1 hWl.2.2.1 hen hce hkb rfl q1 (hsafe _ cl hc hkb hw1 hu)
            rw [q2] at e1 e2 e3
            refine e4 (fun H1 locs1 hP1 hD1 hS1 => xy_wr C hk hR hG hH h hx hv ht hen e1 e2 (fun cq hcq huq => ?_) hP1 hD1 hS1)
            rw [hc] at hcq
            cases hcq
            exact e3 _ hce huq
      | false =>
        rw [h2] at h
        simp only [cond_false] at h
        cases h4 : (Nat.beq o.1 4 && xv_le 0 o.2.1) with
        | false => rw [h4] at h; cases h
        | true =>
          rw [h4] at h
          simp only [cond_true] at h
          obtain ⟨b3, -⟩ := xv_and_t h4
          cases hc : xv_get 14 Γ o.2.1.toNat with
          | none => rw [hc] at h; cases h
          | some cl =>
            rw [hc] at h
            dsimp only at h
            cases hkb : (Nat.beq cl.1 kd && (Nat.ble 1 (xw_cnt o) && (xw_like Γ cl o.2.1.toNat (xw_cnt o) && (xw_inb S cl.2.1 i.2 && (xw_wok S cl.2.2.2 0 v 1 && !(Nat.ble o.2.1.toNat hl.1 && Nat.ble (hl.1 + 1) (o.2.1.toNat + xw_cnt o))))))) with
            | false => rw [hkb] at h; cases h
            | true =>
              rw [hkb] at h
              simp only [cond_true] at h
              obtain ⟨k1, hkb⟩ := xv_and_t hkb
              obtain ⟨k2, hkb⟩ := xv_and_t hkb
              obtain ⟨k3, hkb⟩ := xv_and_t hkb
              obtain ⟨k4, hkb⟩ := xv_and_t hkb
              obtain ⟨k5, k6⟩ := xv_and_t hkb
              have k1 := xv_beq k1
              obtain ⟨j, ad, j1, ha, rfl⟩ := ho.2.2.2.2.1 (xv_beq b3)
              obtain ⟨d, u, w, d1, d2, d3, d4, d5, d6, d7, d8⟩ := xw_like_ok k3 j j1
              obtain ⟨en, hen, hce⟩ := xy_at hWl.2.2.2.1.1 d1 (by omega) ha
              obtain ⟨z0, zl⟩ := xw_inb_ok hS k4 hx
              obtain ⟨q1, q2, q3⟩ := xy_idx z0 zl
              obtain ⟨u2, u3, u4, u5, u6⟩ := xw_wok_ok (sb := X.1) hS hv k5 0 (Nat.lt_succ_self 0)
              have hu : ∀ u', xv_get 8 d.2.2.2 (x.toInt.toNat % d.2.2.1) = some u' → xv_hv X.1 (ws.map Prod.fst) u' y := fun u' hu' => by
                rw [d4, Nat.mod_one, d5] at hu'
                cases hu'
                rw [Nat.add_zero, d6] at u3
                cases u3
                rw [d7]; exact u4
              obtain ⟨en', e1, e2, e3, e4⟩ := hrl ws _ ad cl.2.1 en X.1 _ d x y ls vst H locs hWl.1 hWl.2.1 hWl.2.2.1 hen hce (by omega) d3 q1 (hsafe _ d d1 (by omega) (by omega) hu)
              rw [q2] at e3
              have hne : o.2.1.toNat + j ≠ hl.1 := fun w => by
                have c1 : Nat.ble o.2.1.toNat hl.1 = true := Nat.ble_eq.mpr (by omega)
                have c2 : Nat.ble (hl.1 + 1) (o.2.1.toNat + xw_cnt o) = true := Nat.ble_eq.mpr (by omega)
                rw [c1, c2] at k6; cases k6
              refine e4 (fun H1 locs1 hP1 hD1 hS1 => xy_kl (r := o.2.1.toNat + j) C hk hR hG hH h ht rfl j1 (xy_ne9 C d1) hen hne (fun cq hcq _ => ?_) hP1 hD1 hS1)
              rw [d1] at hcq
              cases hcq
              exact e3 _ hce hu
end XY6
end
section
/-! copies -/
section XY7
variable {p : Program} {l : Launch} {e : Env} {R : Room} {s : State} {m : MethodId} {args : Array Value} {below : List Frame} {meth : Method} {c : Code}
variable {e0 : (Nat → Int) × Nat} {cc : ByteArray} {own : String} {nL : Nat} {D : va_G} {t : Nat → ClassId} {A : Nat → Prop} {hl : Nat × Int} {Γ : xv_A} {X : xw_X} {xs : Nat → Int32} {ws0 : va_W} {gh : List xw_L} {gz : Nat → Int} {fh : Nat → Option xw_H} {cs sl : Nat} {Q : State → Prop} {act : List xw_A} {k : xw_K} {pc : Nat} {L st : List xw_V} {S : xw_S}
theorem xy_rows {as : List Nat} {ρ : Nat → Int} {n : Nat} {o : xw_V} {x : Value} {p0 : Nat × Nat × xv_C} (h : xw_rows Γ o = some p0) (hv : xw_hv X as ρ n o x) : ∃ j a d, j < p0.2.1 ∧ as[p0.1 + j]? = some a ∧ x = .ref a ∧ xv_get 14 Γ (p0.1 + j) = some d ∧ d.1 = p0.2.2.1 ∧ d.2.1 = p0.2.2.2.1 ∧ d.2.2.1 = 1 ∧ ∀ u, xv_get 8 p0.2.2.2.2.2 0 = some u → xv_get 8 d.2.2.2 0 = some u := by
  unfold xw_rows at h
  obtain ⟨-, h⟩ := xv_bt h
  cases hc : xv_get 14 Γ o.2.1.toNat with
  | none => rw [hc] at h; cases h
  | some c =>
    rw [hc] at h
    dsimp only at h
    cases h2 : (Nat.beq o.1 2 && Nat.beq c.2.2.1 1) with
    | true =>
      rw [h2] at h
      cases h
      obtain ⟨b1, b2⟩ := xv_and_t h2
      obtain ⟨a, h1, h2⟩ := hv.2.2.1 (xv_beq b1)
      exact ⟨0, a, c, Nat.lt_succ_self 0, h1, h2, hc, rfl, rfl, xv_beq b2, fun _ w => w⟩
    | false =>
      rw [h2] at h
      simp only [cond_false] at h
      obtain ⟨b, e⟩ := xv_bt h
      cases e
      obtain ⟨b1, b⟩ := xv_and_t b
      obtain ⟨b2, b3⟩ := xv_and_t b
      obtain ⟨j, a, j1, ha, hx⟩ := hv.2.2.2.2.1 (xv_beq b1)
      obtain ⟨d, u, w, d1, d2, d3, d4, d5, d6, d7, d8⟩ := xw_like_ok b3 j j1
      refine ⟨j, a, d, j1, ha, hx, d1, d2, d3, d4, fun u' hu' => ?_⟩
      dsimp only at hu'
      rw [d6] at hu'
      cases hu'
      rw [d5, d7]
theorem xw_cats_ok {as : List Nat} {ρ : Nat → Int} {n : Nat} : ∀ {st : List xw_V} {vst : List Value}, xw_sk X as ρ n st vst → xw_cats st ≤ 8 → (vst.map fun v => v.category).sum ≤ xw_cats st
  | [], [], _, _ => Nat.le_refl _
  | [], _ :: _, h, _ => False.elim h
  | _ :: _, [], h, _ => False.elim h
  | v :: st, x :: vst, h, h8 => by
    have e : xw_cats (v :: st) = xw_cat v + xw_cats st := rfl
    rw [e] at h8 ⊢
    have ih := xw_cats_ok h.2 (by omega)
    have hc : x.category ≤ xw_cat v := by
      unfold xw_cat at h8 ⊢
      cases hb : Nat.beq v.1 1 with
      | true =>
        simp only [cond_true]
        rcases lv_cat x with q | q <;> rw [q] <;> omega
      | false =>
        rw [hb] at h8
        simp only [cond_false] at h8 ⊢
        cases hb2 : Nat.ble v.1 7 with
        | false => rw [hb2] at h8; simp only [cond_false] at h8; omega
        | true =>
          simp only [cond_true]
          have hne : v.1 ≠ 1 := fun q => by rw [q] at hb; cases hb
          rw [xy_cat1 h.1 (xv_ble hb2) hne]
          exact Nat.le_refl 1
    simp only [List.map_cons, List.sum_cons]
    omega
theorem xy_wide {sb : Nat} {as : List Nat} {u v : xv_V} {x : Value} (h : xv_hv sb as u x) (e : u.1 = v.1) (h1 : u.1 ≤ 1) (h2 : v.2.1 ≤ u.2.1) (h3 : u.2.2 ≤ v.2.2) : xv_hv sb as v x := by
  rcases Nat.le_one_iff_eq_zero_or_eq_one.mp h1 with q | q
  · obtain ⟨i, rfl, i1, i2⟩ := h.1 q
    exact xv_hv.i ⟨by omega, by omega, by omega⟩
  · obtain ⟨i, rfl, i1, i2⟩ := h.2.1 q
    exact xv_hv.l ⟨by omega, by omega, by omega⟩
theorem xy_cpv {α : Type} {f g : Nat → α} {sp dp n i n1 n2 : Nat} {P : α → Prop} (hf : ∀ j, j < n1 → P (f j)) (hg : ∀ j, j < n2 → P (g j)) (h1 : sp + n ≤ n1) (hi : i < n2) : P (va_cpy f g sp dp n i) := by
  unfold va_cpy
  by_cases q : dp ≤ i ∧ i < dp + n
  · rw [if_pos q]; exact hf _ (by omega)
  · rw [if_neg q]; exact hg _ hi
theorem xy_copy {index : Nat} (C : xw_Cx p s m args c cc own nL D t A X xs Γ) (hk : (∀ pc' L' st' S', k pc' L' st' S' = true → xw_Tj e0 D t A s.heap hl Γ X xs ws0 nL gh gz fh (fun pc ls vst H locs => W p l e R s m args below meth c H locs cs sl Q (F0 m pc ls vst)) act pc' L' st' S')) (hd : decode cc pc = .ok (.invokestatic index, 3)) (hRm : 1 ≤ R.frames ∧ 26 ≤ R.locals) (hw : Cond.methodLink own index arraycopyName ∈ xv_tb) (hw2 : Cond.native arraycopyName ∈ xv_tb) (hw3 : Cond.static arraycopyName ∈ xv_tb) (hw4 : Cond.initialized "java/lang/System" ∈ xv_tb)
    (h : (match st with
      | n :: dp :: d :: sp :: o :: r => bif Nat.ble (xw_cats r) 8 then xw_copy hl Γ S n dp d sp o (fun S' => k (pc + 3) L r S') else false
      | _ => false) = true) : xw_Tj e0 D t A s.heap hl Γ X xs ws0 nL gh gz fh (fun pc ls vst H locs => W p l e R s m args below meth c H locs cs sl Q (F0 m pc ls vst)) act pc L st S := by
  match st, h with
  | [], h => cases h
  | [_], h => cases h
  | [_, _], h => cases h
  | [_, _, _], h => cases h
  | [_, _, _, _], h => cases h
  | n :: dp :: d :: sp :: o :: z, h =>
    dsimp only at h
    cases h8 : Nat.ble (xw_cats z) 8 with
    | false => rw [h8] at h; cases h
    | true =>
      rw [h8] at h
      simp only [cond_true] at h
      have h8 := xv_ble h8
      unfold xw_copy at h
      cases hp : xw_rows Γ o with
      | none => rw [hp] at h; cases h
      | some pp =>
        cases hq : xw_rows Γ d with
        | none => rw [hp, hq] at h; cases h
        | some qq =>
          rw [hp, hq] at h
          dsimp only at h
          cases hu : xv_get 8 pp.2.2.2.2.2 0 with
          | none => rw [hu] at h; cases h
          | some u =>
            cases hv : xv_get 8 qq.2.2.2.2.2 0 with
            | none => rw [hu, hv] at h; cases h
            | some v =>
              rw [hu, hv] at h
              dsimp only at h
              cases hb : (Nat.beq n.1 0 && (Nat.beq dp.1 0 && (Nat.beq sp.1 0 && (Nat.beq pp.2.2.1 qq.2.2.1 && ((Nat.beq pp.2.2.1 1 || Nat.beq pp.2.2.1 4) && (Nat.beq u.1 v.1 && (Nat.ble u.1 1 && (xv_le v.2.1 u.2.1 && (xv_le u.2.2 v.2.2 && (xw_prove S n.2 && (xw_prove S sp.2 && (xw_prove S dp.2 && (xw_prove S (xw_k (xw_neg (xw_add sp.2 n.2)) (Int.ofNat pp.2.2.2.1)) && (xw_prove S (xw_k (xw_neg (xw_add dp.2 n.2)) (Int.ofNat qq.2.2.2.1)) && !(Nat.ble qq.1 hl.1 && Nat.ble (hl.1 + 1) (qq.1 + qq.2.1)))))))))))))))) with
              | false => rw [hb] at h; cases h
              | true =>
                rw [hb] at h
                simp only [cond_true] at h
                obtain ⟨b1, hb⟩ := xv_and_t hb
                obtain ⟨b2, hb⟩ := xv_and_t hb
                obtain ⟨b3, hb⟩ := xv_and_t hb
                obtain ⟨b4, hb⟩ := xv_and_t hb
                obtain ⟨b5, hb⟩ := xv_and_t hb
                obtain ⟨b6, hb⟩ := xv_and_t hb
                obtain ⟨b7, hb⟩ := xv_and_t hb
                obtain ⟨b8, hb⟩ := xv_and_t hb
                obtain ⟨b9, hb⟩ := xv_and_t hb
                obtain ⟨b10, hb⟩ := xv_and_t hb
                obtain ⟨b11, hb⟩ := xv_and_t hb
                obtain ⟨b12, hb⟩ := xv_and_t hb
                obtain ⟨b13, hb⟩ := xv_and_t hb
                obtain ⟨b14, b15⟩ := xv_and_t hb
                have b4 := xv_beq b4
                have b6 := xv_beq b6
                have b8 := xv_le_iff.mp b8
                have b9 := xv_le_iff.mp b9
                intro ρ ls vst H locs ws hR hG hH
                obtain ⟨n0, vst, rfl, hn, hst1⟩ := hR.2.1.un
                obtain ⟨dp0, vst, rfl, hdp, hst2⟩ := hst1.un
                obtain ⟨d0, vst, rfl, hdd, hst3⟩ := hst2.un
                obtain ⟨sp0, vst, rfl, hsp, hst4⟩ := hst3.un
                obtain ⟨o0, vst, rfl, ho, hst5⟩ := hst4.un
                obtain ⟨ni, rfl, hn'⟩ := hn.1 (xv_beq b1)
                obtain ⟨di, rfl, hdp'⟩ := hdp.1 (xv_beq b2)
                obtain ⟨si, rfl, hsp'⟩ := hsp.1 (xv_beq b3)
                obtain ⟨j1, a1, d1, jl1, ha1, rfl, hd1, e11, e12, e13, e14⟩ := xy_rows hp ho
                obtain ⟨j2, a2, d2, jl2, ha2, rfl, hd2, e21, e22, e23, e24⟩ := xy_rows hq hdd
                have hS := hR.2.2.2.1
                have hWl := hR.2.2.1
                have p1 := xw_prove_ok hS b10 hn'
                have p2 := xw_prove_ok hS b11 hsp'
                have p3 := xw_prove_ok hS b12 hdp'
                have p4 := xw_prove_ok hS b13 ((hsp'.add hn').neg.k _)
                have p5 := xw_prove_ok hS b14 ((hdp'.add hn').neg.k _)
                have i1 : Int.ofNat pp.2.2.2.1 = (pp.2.2.2.1 : Int) := rfl
                have i2 : Int.ofNat qq.2.2.2.1 = (qq.2.2.2.1 : Int) := rfl
                have nn : ∀ w : Int32, 0 ≤ w.toInt → ¬ w < 0 := fun w hw0 hlt => by
                  have := Int32.lt_iff_toInt_lt.mp hlt
                  rw [show (0 : Int32).toInt = 0 by decide] at this
                  omega
                have tn : ∀ w : Int32, w.toNatClampNeg = w.toInt.toNat := fun _ => rfl
                have hk14 : pp.2.2.1 = 1 ∨ pp.2.2.1 = 4 := ((Bool.or_eq_true _ _).mp b5).elim (fun w => Or.inl (xv_beq w)) (fun w => Or.inr (xv_beq w))
                obtain ⟨en1, hen1, hce1⟩ := xy_at hWl.2.2.2.1.1 hd1 (by omega) ha1
                obtain ⟨en2, hen2, hce2⟩ := xy_at hWl.2.2.2.1.1 hd2 (by omega) ha2
                have hcat := xw_cats_ok hst5 h8
                have hne : qq.1 + j2 ≠ hl.1 := fun w => by
                  have c1 : Nat.ble qq.1 hl.1 = true := Nat.ble_eq.mpr (by omega)
                  have c2 : Nat.ble (hl.1 + 1) (qq.1 + qq.2.1) = true := Nat.ble_eq.mpr (by omega)
                  rw [c1, c2] at b15; cases b15
                have h65 := hce2.2.2.2.2 (by omega)
                rcases hk14 with hk1 | hk4
                · obtain ⟨f, rfl, hf⟩ := hce1.2.1 (by omega)
                  obtain ⟨g, rfl, hg⟩ := hce2.2.1 (by omega)
                  have en1' := hen1
                  have en2' := hen2
                  rw [e11, hk1] at en1'
                  rw [e21, ← b4, hk1] at en2'
                  refine va_copyi C.1 C.2.1 (by rw [C.2.2.1]; exact hR.1.2.elim fun lv h => h.1.1.symm) C.2.2.2.1 (C.2.2.2.2.1 _ hw) (C.2.2.2.2.1 _ hw2) (C.2.2.2.2.1 _ hw3) (C.2.2.2.2.1 _ hw4) C.2.2.2.2.2.1 hWl.1 hWl.2.1 hWl.2.2.1 _ _ 0 0 en1' en2' rfl rfl rfl (nn _ p2) (nn _ p3) (nn _ p1) (by rw [tn, tn]; omega) (by rw [tn, tn]; omega) (fun _ _ => rfl) hRm.1 (by rw [show nativeFrameWords "java/lang/System" "arraycopy" 5 = 7 by decide]; omega) hd (fun H1 locs1 hP1 hD1 hS1 => ?_)
                  refine xy_kl (r := qq.1 + j2) C hk hR hG hH h hst5 rfl jl2 (xy_ne9 C hd2) hen2 hne (fun cq hcq _ => ?_) hP1 hD1 hS1
                  rw [hd2] at hcq
                  cases hcq
                  rw [show (t 1 : ClassId) = t d2.1 by rw [e21, ← b4, hk1]]
                  refine xv_hc.irow (by omega) h65 (fun i hi w hw' => ?_)
                  rw [e23, Nat.mod_one, e24 v hv] at hw'
                  cases hw'
                  refine xy_cpv (P := fun y => xv_hv X.1 (ws.map Prod.fst) v (.int y)) (n1 := d1.2.1) (n2 := d2.2.1) (fun j hj => ?_) (fun j hj => ?_) (by rw [tn, tn]; omega) hi
                  · have hh := hf j hj u (by rw [e13, Nat.mod_one]; exact e14 u hu)
                    exact xy_wide hh b6 (xv_ble b7) b8 b9
                  · exact hg j hj v (by rw [e23, Nat.mod_one]; exact e24 v hv)
                · obtain ⟨f, rfl, hf⟩ := hce1.2.2.1 (by omega)
                  obtain ⟨g, rfl, hg⟩ := hce2.2.2.1 (by omega)
                  have en1' := hen1
                  have en2' := hen2
                  rw [e11, hk4] at en1'
                  rw [e21, ← b4, hk4] at en2'
                  refine va_copyl C.1 C.2.1 (by rw [C.2.2.1]; exact hR.1.2.elim fun lv h => h.1.1.symm) C.2.2.2.1 (C.2.2.2.2.1 _ hw) (C.2.2.2.2.1 _ hw2) (C.2.2.2.2.1 _ hw3) (C.2.2.2.2.1 _ hw4) C.2.2.2.2.2.1 hWl.1 hWl.2.1 hWl.2.2.1 _ _ 3 3 en1' en2' rfl rfl rfl (nn _ p2) (nn _ p3) (nn _ p1) (by rw [tn, tn]; omega) (by rw [tn, tn]; omega) (fun _ _ => rfl) hRm.1 (by rw [show nativeFrameWords "java/lang/System" "arraycopy" 5 = 7 by decide]; omega) hd (fun H1 locs1 hP1 hD1 hS1 => ?_)
                  refine xy_kl (r := qq.1 + j2) C hk hR hG hH h hst5 rfl jl2 (xy_ne9 C hd2) hen2 hne (fun cq hcq _ => ?_) hP1 hD1 hS1
                  rw [hd2] at hcq
                  cases hcq
                  rw [show (t 4 : ClassId) = t d2.1 by rw [e21, ← b4, hk4]]
                  refine xv_hc.lrow (by omega) h65 (fun i hi w hw' => ?_)
                  rw [e23, Nat.mod_one, e24 v hv] at hw'
                  cases hw'
                  refine xy_cpv (P := fun y => xv_hv X.1 (ws.map Prod.fst) v (.long y)) (n1 := d1.2.1) (n2 := d2.2.1) (fun j hj => ?_) (fun j hj => ?_) (by rw [tn, tn]; omega) hi
                  · have hh := hf j hj u (by rw [e13, Nat.mod_one]; exact e14 u hu)
                    exact xy_wide hh b6 (xv_ble b7) b8 b9
                  · exact hg j hj v (by rw [e23, Nat.mod_one]; exact e24 v hv)
end XY7
end
section
/-! calls -/
def xw_Pr (D : va_G) (t : Nat → ClassId) (X : xw_X) (xs : Nat → Int32) (ws : va_W) (vs : List Value) (sz : Nat) : Array Value → State → Prop := va_Pc vs (fun U => U.heap.size = sz ∧ va_P D vwCl ws U.heap ∧ va_K D vwCl (xv_tys t) U ∧ xv_Ex U ∧ (X.2.2.2.1 → va_X X.1 X.2.1 xs U U.heap ∧ X.1 < U.heap.size ∧ ¬ va_A ws sz X.1 ∧ X.2.1 < 2 ^ 31) ∧ X.2.2.2.2 (va_A ws sz) U)
/-- the world behind a call, the frame aside -/
def xw_Wb (D : va_G) (t : Nat → ClassId) (hl : Nat × Int) (Γ : xv_A) (X : xw_X) (xs : Nat → Int32) (ws0 ws : va_W) (sz : Nat) (dt : xw_D) (H : Heap) (ws' : va_W) : Prop := va_P D vwCl ws' H ∧ va_D (va_A ws sz) ws' ∧ xw_Wd hl Γ t X (xw_mu xs ws') ws' ∧ xw_Dt dt (xw_mu xs ws0) (xw_mu xs ws') ∧ xw_Dc dt ws0 ws' ∧ ws'.map Prod.fst = ws0.map Prod.fst
def xw_Po (D : va_G) (t : Nat → ClassId) (hl : Nat × Int) (Γ : xv_A) (X : xw_X) (xs : Nat → Int32) (ws0 ws : va_W) (sz : Nat) (ρ : Nat → Int) (n : Nat) (kr : xw_Kr) : Array Value → State → Outcome → State → Prop := fun _ st oc tt => (∃ (rv : Option Value) (ws' : va_W) (ρ' : Nat → Int) (r : Option xw_V) (S' : xw_S), oc = .returned rv ∧ kr r S' = true ∧ xw_Wb D t hl Γ X xs ws0 ws sz S'.2.2.2.2.2.2 tt.heap ws' ∧ xw_Up ρ n ρ' S'.2.1 ∧ xw_St ρ' S' ∧ xw_Me X (ws'.map Prod.fst) (xw_mu xs ws') ρ' S' ∧ xw_sk X (ws'.map Prod.fst) ρ' S'.2.1 r.toList rv.toList) ∧ va_F (va_A ws sz) st tt
/-- what a table of calls promises -/
def xw_CG (l : Launch) (dF : Nat) (I : Nat → Option xv_I) (hl : Nat × Int) (Γ : xv_A) (gh : List xw_L) (call : xw_Cl) : Prop :=
  ∀ (caller pc id : Nat) (av : List xw_V) (S : xw_S) (kr : xw_Kr), call caller pc id av S kr = true → ∃ i : xv_I, I id = some i ∧ ∀ (D : va_G) (t : Nat → ClassId) (X : xw_X) (xs : Nat → Int32) (ws0 ws : va_W) (vs : List Value) (sz : Nat) (ρ gz : Nat → Int), xw_Inv X → xw_Wd hl Γ t X (xw_mu xs ws) ws → xw_Dt S.2.2.2.2.2.2 (xw_mu xs ws0) (xw_mu xs ws) → xw_Dc S.2.2.2.2.2.2 ws0 ws → ws.map Prod.fst = ws0.map Prod.fst → xw_St ρ S → xw_Me X (ws.map Prod.fst) (xw_mu xs ws) ρ S → xw_Gz ρ S.2.1 gh gz → xw_sk X (ws.map Prod.fst) ρ S.2.1 av vs → va_D (fun _ => True) ws →
    Met l i.1 (Cond.code i.1 i.2.1 i.2.2.1 i.2.2.2 :: xv_tb) { frames := dF, cells := 0, slots := 0, locals := 60 * dF } (xw_Pr D t X xs ws vs sz) (xw_Po D t hl Γ X xs ws0 ws sz ρ S.2.1 kr) 0 0 (va_A ws sz)
theorem xw_blind {D : va_G} {t : Nat → ClassId} {X : xw_X} {xs : Nat → Int32} {ws : va_W} {vs : List Value} {sz : Nat} (hI : xw_Inv X) : FrameBlind (xw_Pr D t X xs ws vs sz) := fun a U g mk q => by
  obtain ⟨q0, q1, q2, q3, q4, q5, q6⟩ := q
  exact ⟨q0, q1, q2, va_K.moved (u := U) (U := U.calling g mk a) (Vm.Alike.refl U.vm) q3, xv_Ex.same (u := U) (U := U.calling g mk a) rfl q4, fun w => ⟨va_X.moved (u := U) (U := U.calling g mk a) (Vm.Alike.refl U.vm) (q5 w).1, (q5 w).2⟩, hI.2.1 _ U (U.calling g mk a) rfl rfl q6⟩
section XY8
variable {p : Program} {l : Launch} {e : Env} {R : Room} {s : State} {m : MethodId} {args : Array Value} {below : List Frame} {meth : Method} {c : Code}
variable {e0 : (Nat → Int) × Nat} {cc : ByteArray} {own : String} {nL : Nat} {D : va_G} {t : Nat → ClassId} {A : Nat → Prop} {hl : Nat × Int} {Γ : xv_A} {X : xw_X} {xs : Nat → Int32} {ws0 : va_W} {gh : List xw_L} {gz : Nat → Int} {fh : Nat → Option xw_H} {cs sl : Nat} {Q : State → Prop} {act : List xw_A} {k : xw_K} {pc : Nat} {L st : List xw_V} {S : xw_S}
theorem xw_sk.app {as : List Nat} {ρ : Nat → Int} {n : Nat} : ∀ {a b : List xw_V} {x y : List Value}, xw_sk X as ρ n a x → xw_sk X as ρ n b y → xw_sk X as ρ n (a ++ b) (x ++ y)
  | [], _, [], _, _, h => h
  | [], _, _ :: _, _, h, _ => False.elim h
  | _ :: _, _, [], _, h, _ => False.elim h
  | _ :: _, _, _ :: _, _, h, h2 => And.intro h.1 (xw_sk.app h.2 h2)
theorem xw_take_ok {as : List Nat} {ρ : Nat → Int} {n : Nat} : ∀ (k : Nat) (acc st : List xw_V) (vacc vst : List Value) (a b : List xw_V), xw_take k acc st = some (a, b) → xw_sk X as ρ n acc vacc → xw_sk X as ρ n st vst → ∃ P vr, vst = P ++ vr ∧ P.length = k ∧ xw_sk X as ρ n a (P.reverse ++ vacc) ∧ xw_sk X as ρ n b vr
  | 0, acc, st, vacc, vst, a, b, h, h1, h2 => by
    cases h
    exact ⟨[], vst, rfl, rfl, h1, h2⟩
  | k + 1, acc, [], vacc, vst, a, b, h, h1, h2 => by cases h
  | k + 1, acc, v :: st, vacc, vst, a, b, h, h1, h2 => by
    obtain ⟨x, xs, rfl, hx, hxs⟩ := h2.un
    obtain ⟨P, vr, rfl, hP, ha, hb⟩ := xw_take_ok k (v :: acc) st (x :: vacc) xs a b h (xw_sk.cons hx h1) hxs
    exact ⟨x :: P, vr, rfl, by simp [hP], by simpa using ha, hb⟩
theorem xy_in {ρ : Nat → Int} {ls : Array Slot} {vst : List Value} {H : Heap} {locs : List Loc} {ws : va_W} (C : xw_Cx p s m args c cc own nL D t A X xs Γ) (hR : xw_Rl D t A s.heap hl Γ X xs ws0 nL ρ L st S ls vst H locs ws) : ∀ q : Nat, va_A ws H.size q → A q := fun q hq => by
  rcases hq with ⟨k9, e9, h9⟩ | hq
  · exact hR.2.2.1.2.1.2 k9 _ h9
  · exact C.2.2.2.2.2.2.1 q (Nat.le_trans hR.2.2.1.2.2.1.1 hq)
/-- what a method finds that is called -/
theorem xy_pre {ρ : Nat → Int} {ls : Array Slot} {vst : List Value} {H : Heap} {locs : List Loc} {ws : va_W} {vs : List Value} (C : xw_Cx p s m args c cc own nL D t A X xs Γ) (hR : xw_Rl D t A s.heap hl Γ X xs ws0 nL ρ L st S ls vst H locs ws) (U : State) (hU : U.heap = H) (hW : s.WarmedH U.vm) : xw_Pr D t X xs ws vs H.size vs.toArray U := by
  have hin := xy_in C hR
  have hS := hR.2.2.1.2.2.1
  refine ⟨rfl, by rw [hU], by rw [hU]; exact hR.2.2.1.1, va_K.moved hW.alike C.2.2.2.2.2.1, C.2.2.2.2.2.2.2.1.warm hW, fun w => ?_, ?_⟩
  · obtain ⟨c1, c2, c3, c4⟩ := C.2.2.2.2.2.2.2.2.1 w
    refine ⟨va_X.moved hW.alike (c1.kept ?_), ?_, fun q => c3 (hin _ q), c4⟩
    · rw [hU]; exact hS.2.1 X.1 c2 c3
    · rw [hU]; exact Nat.lt_of_lt_of_le c2 hS.1
  · refine C.2.2.2.2.2.2.2.2.2.2.1.1 A (va_A ws H.size) s U hin (fun a h1 h2 => ?_) hW C.2.2.2.2.2.2.2.2.2.1
    rw [hU]; exact hS.2.1 a h1 h2
/-- behind a call -/
theorem xy_behind {ρ : Nat → Int} {kr : xw_Kr} {rest : List xw_V} {vrest : List Value} {ls : Array Slot} {H : Heap} {locs : List Loc} {ws : va_W} {vst : List Value} {aa : Array Value} (C : xw_Cx p s m args c cc own nL D t A X xs Γ) (hR : xw_Rl D t A s.heap hl Γ X xs ws0 nL ρ L st S ls vst H locs ws) (hrest : xw_sk X (ws.map Prod.fst) ρ S.2.1 rest vrest) (hG : xw_Gy e0 ρ S.2.1 gh gz) (hH : ∀ a ∈ act, xw_Hy D t A s.heap hl Γ X xs ws0 nL gz fh (fun pc ls vst H locs => W p l e R s m args below meth c H locs cs sl Q (F0 m pc ls vst)) a ρ S.2.1)
    (hrun : va_Run p l e R s m args below meth c H locs cs sl 0 0 (F0 m pc ls vst) vrest (xw_Po D t hl Γ X xs ws0 ws H.size ρ S.2.1 kr aa) (va_A ws H.size))
    (kk : ∀ (r : Option xw_V) (S' : xw_S), kr r S' = true → xw_Tj e0 D t A s.heap hl Γ X xs ws0 nL gh gz fh (fun pc ls vst H locs => W p l e R s m args below meth c H locs cs sl Q (F0 m pc ls vst)) act (pc + 3) L (r.toList ++ rest) S') : W p l e R s m args below meth c H locs cs sl Q (F0 m pc ls vst) := by
  intro T hT XX
  obtain ⟨v, st₀, t1, T', L', h0, X', hL, e1, e2, ⟨⟨rv, ws', ρ', r, S', hrv, hkr, ⟨hP', hD', hWd', hDt', hDc', has'⟩, hu, hS', hM', hsk⟩, hF⟩, hgo⟩ := hrun T hT XX
  cases hrv
  have hin := xy_in C hR
  obtain ⟨⟨h1, lvs, h2, h3⟩, h4, ⟨hP, hD, hS, hWd, hDt, hDc, has⟩, h6, h7⟩ := id hR
  have hF1 := hF.1
  rw [h0] at hF1
  have hS2 : va_S A s.heap T'.heap (locs ++ L') := ⟨by rw [e1]; exact Nat.le_trans hS.1 hF1, fun q h1 h2 => by
    rw [e1, hF.2 q (by rw [h0]; exact Nat.lt_of_lt_of_le h1 hS.1) (fun hq => h2 (hin q hq)), h0]
    exact hS.2.1 q h1 h2, fun q hq => (List.mem_append.mp hq).elim (hS.2.2 q) (fun hq => hin _ (hL q hq))⟩
  have hfst : ws'.map Prod.fst = ws.map Prod.fst := has'.trans has.symm
  have hR' : xw_Rl D t A s.heap hl Γ X xs ws0 nL ρ' L (r.toList ++ rest) S' ls (v.toList ++ vrest) T'.heap (locs ++ L') ws' := by
    refine ⟨⟨h1, lvs, h2, ?_⟩, ?_, ⟨by rw [e1]; exact hP', hD'.weaken (fun _ _ _ hq => hin _ hq), hS2, hWd', hDt', hDc', has'⟩, hS', hM'⟩
    · rw [hfst]; exact h3.more hu
    · exact xw_sk.app hsk (by rw [hfst]; exact hrest.more hu)
  obtain ⟨tt, a1, b1⟩ := kk r S' hkr ρ' ls _ T'.heap (locs ++ L') ws' hR' (hG.more hu) (fun a ha => (hH a ha).more hu) T' rfl X'
  exact ⟨tt, hgo tt a1, b1⟩
theorem xy_call {call : xw_Cl} {id callee : Nat} {av rest : List xw_V} (h : xw_call call id pc callee av L rest S k = true) : xw_cats rest ≤ 8 ∧ ∃ kr : xw_Kr, call id pc callee av S kr = true ∧ ∀ r S', kr r S' = true → k (pc + 3) L (r.toList ++ rest) S' = true := by
  unfold xw_call at h
  cases hb : Nat.ble (xw_cats rest) 8 with
  | false => rw [hb] at h; cases h
  | true =>
    rw [hb] at h
    simp only [cond_true] at h
    refine ⟨xv_ble hb, _, h, fun r S' hr => ?_⟩
    cases r with
    | none => exact hr
    | some v => exact hr
theorem xy_invS {index id n dF own' : Nat} {call : xw_Cl} {I : Nat → Option xv_I} (C : xw_Cx p s m args c cc own nL D t A X xs Γ) (hk : (∀ pc' L' st' S', k pc' L' st' S' = true → xw_Tj e0 D t A s.heap hl Γ X xs ws0 nL gh gz fh (fun pc ls vst H locs => W p l e R s m args below meth c H locs cs sl Q (F0 m pc ls vst)) act pc' L' st' S')) (hCG : xw_CG l dF I hl Γ gh call) (hd : decode cc pc = .ok (.invokestatic index, 3)) (hRm : dF + 1 ≤ R.frames ∧ 60 * dF + 60 ≤ R.locals) (hCS : cs ≤ R.cells ∧ sl ≤ R.slots) (hok : ∀ i, I id = some i → xv_callee i n ∧ Cond.methodLink own index i.1 ∈ xv_tb ∧ Cond.static i.1 ∈ xv_tb)
    (h : (match xw_take n [] st with | some (as, r) => xw_call call own' pc id as L r S k | none => false) = true) : xw_Tj e0 D t A s.heap hl Γ X xs ws0 nL gh gz fh (fun pc ls vst H locs => W p l e R s m args below meth c H locs cs sl Q (F0 m pc ls vst)) act pc L st S := by
  cases htk : xw_take n [] st with
  | none => rw [htk] at h; cases h
  | some q =>
    obtain ⟨av, rest⟩ := q
    rw [htk] at h
    obtain ⟨h8, kr, hc0, hkr⟩ := xy_call h
    obtain ⟨i, hi, hM⟩ := hCG _ _ _ _ _ _ hc0
    obtain ⟨hcal, hw, hw2⟩ := hok i hi
    intro ρ ls vst H locs ws hR hG hH
    obtain ⟨P, vr, rfl, hPl, hav, hrest⟩ := xw_take_ok n [] st [] vst av rest htk True.intro hR.2.1
    rw [List.append_nil] at hav
    have hcat := xw_cats_ok hrest h8
    have hWl := hR.2.2.1
    refine xy_behind C hR hrest hG hH (va_runS (As := P.reverse) (n := n) (own := own) (Ts := xv_tb) (nL := nL) (index := index) ⟨C.1, C.2.1, C.2.2.1, C.2.2.2.1, C.2.2.2.2.1⟩ (hM D t X xs ws0 ws P.reverse H.size ρ gz C.2.2.2.2.2.2.2.2.2.2.1 hWl.2.2.2.1 hWl.2.2.2.2.1 hWl.2.2.2.2.2.1 hWl.2.2.2.2.2.2 hR.2.2.2.1 hR.2.2.2.2 hG.1 hav (hWl.2.1.weaken fun _ _ _ _ => trivial)) ⟨callB_of n C.2.2.2.2.1 (xv_goodIn hcal.1) rfl rfl rfl (C.2.2.2.2.1 _ hcal.2.1) (C.2.2.2.2.1 _ hw) hcal.2.2.1 ⟨hRm.1, by have := hcal.2.2.2; show 8 + (_ + 11) + 60 * dF ≤ _; omega⟩, C.2.2.2.2.1 _ hw2⟩ ⟨xw_blind C.2.2.2.2.2.2.2.2.2.2.1, fun U hU hW => xy_pre C hR U hU hW⟩ rfl (by rw [List.length_reverse]; exact hPl) (hR.1.2.elim fun lv h => h.1.1) (by rw [List.reverse_reverse]) (lv_room (by omega)) hd ⟨by omega, by omega⟩) (fun r S' hr => hk _ _ _ _ (hkr r S' hr))
theorem xy_invV {index id n dF ci own' : Nat} {call : xw_Cl} {I : Nat → Option xv_I} (C : xw_Cx p s m args c cc own nL D t A X xs Γ) (hk : (∀ pc' L' st' S', k pc' L' st' S' = true → xw_Tj e0 D t A s.heap hl Γ X xs ws0 nL gh gz fh (fun pc ls vst H locs => W p l e R s m args below meth c H locs cs sl Q (F0 m pc ls vst)) act pc' L' st' S')) (hCG : xw_CG l dF I hl Γ gh call) (hd : decode cc pc = .ok (.invokevirtual index, 3)) (hRm : dF + 1 ≤ R.frames ∧ 60 * dF + 60 ≤ R.locals) (hCS : cs ≤ R.cells ∧ sl ≤ R.slots) (hok : ∀ i, I id = some i → xv_callee i n ∧ Cond.methodLink own index i.1 ∈ xv_tb ∧ Cond.instanceMethod i.1 ∈ xv_tb ∧ Cond.selects i.1.cls i.1 i.1 ∈ xv_tb ∧ ∃ q, vwCl[ci]? = some q ∧ q.1 = i.1.cls)
    (h : (match xw_take n [] st with
    | some (as, o :: r) => bif Nat.beq o.1 2 && xv_le 0 o.2.1 then (match xv_get 14 Γ o.2.1.toNat with
      | some c => bif Nat.beq c.1 0 && Nat.beq c.2.1 ci then xw_call call own' pc id (o :: as) L r S k else false
      | none => false) else false
    | _ => false) = true) : xw_Tj e0 D t A s.heap hl Γ X xs ws0 nL gh gz fh (fun pc ls vst H locs => W p l e R s m args below meth c H locs cs sl Q (F0 m pc ls vst)) act pc L st S := by
  cases htk : xw_take n [] st with
  | none => rw [htk] at h; cases h
  | some q9 =>
    obtain ⟨av, rest0⟩ := q9
    rw [htk] at h
    match rest0, h with
    | [], h => cases h
    | o :: rest, h =>
      dsimp only at h
      cases hb : (Nat.beq o.1 2 && xv_le 0 o.2.1) with
      | false => rw [hb] at h; cases h
      | true =>
        rw [hb] at h
        simp only [cond_true] at h
        obtain ⟨b1, -⟩ := xv_and_t hb
        cases hc : xv_get 14 Γ o.2.1.toNat with
        | none => rw [hc] at h; cases h
        | some cl =>
          rw [hc] at h
          dsimp only at h
          cases hb2 : (Nat.beq cl.1 0 && Nat.beq cl.2.1 ci) with
          | false => rw [hb2] at h; cases h
          | true =>
            rw [hb2] at h
            simp only [cond_true] at h
            obtain ⟨b2, b3⟩ := xv_and_t hb2
            have b2 := xv_beq b2
            have b3 := xv_beq b3
            obtain ⟨h8, kr, hc0, hkr⟩ := xy_call h
            obtain ⟨i, hi, hM⟩ := hCG _ _ _ _ _ _ hc0
            obtain ⟨hcal, hw, hw2, hw3, q, hq, hqc⟩ := hok i hi
            intro ρ ls vst H locs ws hR hG hH
            obtain ⟨P, vr, rfl, hPl, hav, hrest0⟩ := xw_take_ok n [] st [] vst av (o :: rest) htk True.intro hR.2.1
            rw [List.append_nil] at hav
            obtain ⟨x0, vr, rfl, hx, hrest⟩ := hrest0.un
            have hcat := xw_cats_ok hrest h8
            have hWl := hR.2.2.1
            obtain ⟨ad, ha, rfl⟩ := hx.2.2.1 (xv_beq b1)
            obtain ⟨en, hen, hce⟩ := xy_at hWl.2.2.2.1.1 hc (by omega) ha
            obtain ⟨fs, rfl, -, -⟩ := hce.1 b2
            rw [b3] at hen
            have hrecv := va_recv C.2.2.2.2.2.1 hWl.1 hq hen
            rw [hqc] at hrecv
            refine xy_behind C hR hrest hG hH (va_runV (C := i.1.cls) (As := P.reverse) (n := n) (own := own) (Ts := xv_tb) (nL := nL) (index := index) ⟨C.1, C.2.1, C.2.2.1, C.2.2.2.1, C.2.2.2.2.1⟩ (hM D t X xs ws0 ws (.ref ad :: P.reverse) H.size ρ gz C.2.2.2.2.2.2.2.2.2.2.1 hWl.2.2.2.1 hWl.2.2.2.2.1 hWl.2.2.2.2.2.1 hWl.2.2.2.2.2.2 hR.2.2.2.1 hR.2.2.2.2 hG.1 (xw_sk.cons hx hav) (hWl.2.1.weaken fun _ _ _ _ => trivial)) ⟨callB_of n C.2.2.2.2.1 (xv_goodIn hcal.1) rfl rfl rfl (C.2.2.2.2.1 _ hcal.2.1) (C.2.2.2.2.1 _ hw) hcal.2.2.1 ⟨hRm.1, by have := hcal.2.2.2; show 8 + (_ + 11) + 60 * dF ≤ _; omega⟩, C.2.2.2.2.1 _ hw2, C.2.2.2.2.1 _ hw3⟩ ⟨xw_blind C.2.2.2.2.2.2.2.2.2.2.1, hrecv, fun U hU hW => xy_pre C hR U hU hW⟩ rfl (by rw [List.length_reverse]; exact hPl) (hR.1.2.elim fun lv h => h.1.1) (by rw [List.reverse_reverse]) (lv_room (by omega)) hd ⟨by omega, by omega⟩) (fun r S' hr => hk _ _ _ _ (hkr r S' hr))
end XY8
end
section
/-! a step, a run -/
def xw_ln (i : Instr) : Nat := match i with
  | .ior => 1
  | .ixor => 1
  | .ishl => 1
  | .irem => 1
  | .ladd => 1
  | .lmul => 1
  | .ldiv => 1
  | .lrem => 1
  | .l2i => 1
  | .i2s => 1
  | .dup2 => 1
  | .pop => 1
  | .pop2 => 1
  | .lload_n _ => 1
  | .lstore_n _ => 1
  | .lstore _ => 2
  | .ldc _ => 2
  | i => xv_len i
/-- what is asked beside xv_okE -/
def xw_ex (own : String) (e : xv_E) : Prop := (xw_ln e.2.1 = 0 ∨ xw_ln e.2.1 = e.2.2.1) ∧ match e.2.1 with
  | .ldc idx => (e.2.2.2.2.1 = 6 ∧ (own, idx) ∈ xw_strs) ∨ (e.2.2.2.2.1 ≠ 6 ∧ Cond.constant own idx (Int32.ofInt e.2.2.2.2.2.2) ∈ xv_tb)
  | _ => True
/-- the rows' types are whole, and narrow where the machine narrows -/
def xw_Nar (Γ : xv_A) : Prop := ((∀ r cl, xv_get 14 Γ r = some cl → cl.1 = 2 → ∀ i u, xv_get 8 cl.2.2.2 i = some u → u.1 = 0 → -128 ≤ u.2.1 ∧ u.2.2 ≤ 127) ∧ (∀ r cl, xv_get 14 Γ r = some cl → cl.1 = 3 → ∀ i u, xv_get 8 cl.2.2.2 i = some u → u.1 = 0 → 0 ≤ u.2.1 ∧ u.2.2 ≤ 1)) ∧ (∀ r cl, xv_get 14 Γ r = some cl → 1 ≤ cl.1 → cl.1 ≤ 3 → ∀ i, i < cl.2.2.1 → ∃ u, xv_get 8 cl.2.2.2 i = some u ∧ u.1 = 0) ∧ (∀ r cl, xv_get 14 Γ r = some cl → cl.1 = 4 → ∀ i, i < cl.2.2.1 → ∃ u, xv_get 8 cl.2.2.2 i = some u ∧ u.1 = 1)
section XY9
variable {p : Program} {l : Launch} {e : Env} {R : Room} {s : State} {m : MethodId} {args : Array Value} {below : List Frame} {meth : Method} {c : Code}
variable {e0 : (Nat → Int) × Nat} {cc : ByteArray} {own : String} {nL : Nat} {D : va_G} {t : Nat → ClassId} {A : Nat → Prop} {hl : Nat × Int} {Γ : xv_A} {X : xw_X} {xs : Nat → Int32} {ws0 : va_W} {gh : List xw_L} {gz : Nat → Int} {fh : Nat → Option xw_H} {cs sl : Nat} {Q : State → Prop} {act : List xw_A} {k : xw_K} {pc : Nat} {L st : List xw_V} {S : xw_S}
theorem xy_bad {β : Prop} (h : false = true) : β := by cases h
/-- the ends of a method -/
def xw_Ends (e0 : (Nat → Int) × Nat) (p : Program) (l : Launch) (e : Env) (R : Room) (s : State) (m : MethodId) (args : Array Value) (below : List Frame) (meth : Method) (c : Code) (D : va_G) (t : Nat → ClassId) (A : Nat → Prop) (hl : Nat × Int) (Γ : xv_A) (X : xw_X) (xs : Nat → Int32) (ws0 : va_W) (nL : Nat) (gh : List xw_L) (gz : Nat → Int) (fh : Nat → Option xw_H) (cs sl : Nat) (Q : State → Prop) (cc : ByteArray) (ret : Option FieldType) (kr : xw_Kr) : Prop :=
  ∀ (act : List xw_A) (pc : Nat) (L st : List xw_V) (S : xw_S) (r : Option xw_V), kr r S = true → ((decode cc pc = .ok (.ireturn, 1) ∧ (∃ x : xw_V, st = [x] ∧ r = some x ∧ x.1 = 0 ∧ (ret = some .int ∨ (ret = some .boolean ∧ xw_prove S x.2 = true ∧ xw_prove S (xw_k (xw_neg x.2) 1) = true)))) ∨ (decode cc pc = .ok (.lreturn, 1) ∧ ret = some .long ∧ ∃ x : xw_V, st = [x] ∧ r = some x ∧ x.1 = 1) ∨ (decode cc pc = .ok (.return_, 1) ∧ ret = none ∧ st = [] ∧ r = none)) → xw_Tj e0 D t A s.heap hl Γ X xs ws0 nL gh gz fh (fun pc ls vst H locs => W p l e R s m args below meth c H locs cs sl Q (F0 m pc ls vst)) act pc L st S
theorem xy_step {name : String} {ret : Option FieldType} {I : Nat → Option xv_I} {call : xw_Cl} {kr : xw_Kr} {dF len a b id p4 : Nat} {v : Int} {ins : Instr} (C : xw_Cx p s m args c cc own nL D t A X xs Γ) (hk : (∀ pc' L' st' S', k pc' L' st' S' = true → xw_Tj e0 D t A s.heap hl Γ X xs ws0 nL gh gz fh (fun pc ls vst H locs => W p l e R s m args below meth c H locs cs sl Q (F0 m pc ls vst)) act pc' L' st' S')) (hCG : xw_CG l dF I hl Γ gh call) (hRm : dF + 1 ≤ R.frames ∧ 60 * dF + 60 ≤ R.locals) (hCS : cs ≤ R.cells ∧ sl ≤ R.slots) (hname : name = meth.name) (hE : xw_Ends e0 p l e R s m args below meth c D t A hl Γ X xs ws0 nL gh gz fh cs sl Q cc ret kr) (hN : xw_Nar Γ)
    (hd : decode cc pc = .ok (ins, len)) (hok : xv_lk own name ret I ins a b v) (hex : xw_ex own (pc, ins, len, a, b, p4, v)) (h : xw_step hl Γ call id k kr ins a b v pc L st S = true) : xw_Tj e0 D t A s.heap hl Γ X xs ws0 nL gh gz fh (fun pc ls vst H locs => W p l e R s m args below meth c H locs cs sl Q (F0 m pc ls vst)) act pc L st S := by
  have hRm2 : 1 ≤ R.frames ∧ 26 ≤ R.locals := ⟨by omega, by omega⟩
  obtain ⟨hlen, hex⟩ := hex
  cases ins
  case tableswitch d lo hi offs => exact xy_tableswitch C hk hd h
  all_goals first | (have hl := hlen.resolve_left (fun h0 => Nat.succ_ne_zero _ h0); dsimp only at hl; subst hl) | exact xy_bad h
  case iconst i => exact xy_iconst C hk hd h
  case bipush i => exact xy_bipush C hk hd h
  case sipush i => exact xy_sipush C hk hd h
  case lconst i => exact xy_lconst C hk hd h
  case iload i => exact xy_ldi hk h fun _ _ _ _ _ hx w => lv_iload C.1 C.2.1 hd hx w
  case iload_n i => exact xy_ldi hk h fun _ _ _ _ _ hx w => lv_iload_n C.1 C.2.1 hd rfl hx w
  case lload i => exact xy_ldl hk h fun _ _ _ _ _ hx w => lv_lload C.1 C.2.1 hd hx w
  case lload_n i => exact xy_ldl hk h fun _ _ _ _ _ hx w => lv_lload_n C.1 C.2.1 hd rfl hx w
  case aload_n i => exact xy_aload_n C hk hd h
  case istore i => exact xy_istore hk h fun _ _ _ _ _ _ h hi w => lv_istore C.1 C.2.1 hd h hi rfl w
  case istore_n i => exact xy_istore hk h fun _ _ _ _ _ _ h hi w => lv_istore_n C.1 C.2.1 hd rfl h hi rfl w
  case lstore i => exact xy_lstore hk h fun _ _ _ _ _ _ h hi w => lv_lstore C.1 C.2.1 hd h hi rfl w
  case lstore_n i => exact xy_lstore hk h fun _ _ _ _ _ _ h hi w => lv_lstore_n C.1 C.2.1 hd rfl h hi rfl w
  case astore_n i => exact xy_astore_n C hk hd h
  case iinc i n => exact xy_iinc C hk hd h
  case iadd => exact xy_iadd C hk hd h
  case isub => exact xy_isub C hk hd h
  case imul => exact xy_imul C hk hd h
  case iand => exact xy_iand C hk hd h
  case ior => exact xy_ior C hk hd h
  case ixor => exact xy_ixor C hk hd h
  case ishl => exact xy_ishl C hk hd h
  case ishr => exact xy_ishr C hk hd h
  case iushr => exact xy_iushr C hk hd h
  case irem => exact xy_irem C hk hd h
  case ladd => exact xy_ladd C hk hd h
  case lsub => exact xy_lsub C hk hd h
  case lmul => exact xy_lmul C hk hd h
  case ldiv => exact xy_ldiv C hk hd h
  case lrem => exact xy_lrem C hk hd h
  case land => exact xy_land C hk hd h
  case lor => exact xy_lor C hk hd h
  case lshl => exact xy_lshl C hk hd h
  case lcmp => exact xy_lcmp C hk hd h
  case i2l => exact xy_i2l C hk hd h
  case l2i => exact xy_l2i C hk hd h
  case i2b => exact xy_i2b C hk hd h
  case i2s => exact xy_i2s C hk hd h
  case dup => exact xy_dup C hk hd h
  case dup2 => exact xy_dup2 C hk hd h
  case pop => exact xy_pop C hk hd h
  case pop2 => exact xy_pop2 C hk hd h
  case goto off => exact xy_goto C hk hd h
  case ifCond q off => exact xy_ifCond C hk hd h
  case if_icmp q off => exact xy_icmp C hk hd h
  case ldc i =>
    have h : (bif Nat.beq b 6 then k (pc + 2) L ((6, (0, [])) :: st) S else bif xv_le (-2147483648) v && xv_le v 2147483647 then k (pc + 2) L ((0, (v, [])) :: st) S else false) = true := h
    rcases hex with ⟨e6, hw⟩ | ⟨e6, hw⟩
    · dsimp only at e6
      rw [e6] at h
      exact xy_ldcS C hk hd hw h
    · have hb : Nat.beq b 6 = false := by
        cases q : Nat.beq b 6 with
        | true => exact absurd (xv_beq q) e6
        | false => rfl
      rw [hb] at h
      exact xy_ldc C hk hd hw h
  case ldc_w i => exact xy_ldcw C hk hd hok h
  case ldc2_w i => exact xy_ldc2 C hk hd hok h
  case getfield i =>
    obtain ⟨q, h1, h2, h3⟩ := hok
    exact xy_getfield C hk hd h1 h2 h3 h
  case putfield i =>
    obtain ⟨q, h1, h2, h3, h4, h5⟩ := hok
    rw [hname] at h5
    exact xy_putfield C hk hd h1 h2 h3 h4 h5 h
  case arraylength => exact xy_alen C hk hd h
  case iaload => exact xy_ald C hk ⟨by omega, by omega⟩ (xy_l1 C hd) (fun _ => hd) h
  case baload =>
    match st, h with
    | [], h => exact xy_bad h
    | [_], h => exact xy_bad h
    | i :: o :: z, h =>
      have h : (match xv_get 14 Γ o.2.1.toNat with
        | some c => bif Nat.beq c.1 2 then xw_ald hl Γ 2 (i :: o :: z) S (fun v r S' => k (pc + 1) L (v :: r) S') else xw_ald hl Γ 3 (i :: o :: z) S (fun v r S' => k (pc + 1) L (v :: r) S')
        | none => false) = true := h
      cases hc : xv_get 14 Γ o.2.1.toNat with
      | none => rw [hc] at h; exact xy_bad h
      | some q =>
        rw [hc] at h
        dsimp only at h
        cases hb : Nat.beq q.1 2 with
        | true => rw [hb] at h; exact xy_ald C hk ⟨by omega, by omega⟩ (xy_l2 C hd) (fun w => by cases w) h
        | false => rw [hb] at h; exact xy_ald C hk ⟨by omega, by omega⟩ (xy_l3 C hd) (fun w => by cases w) h
  case laload => exact xy_ald C hk ⟨by omega, by omega⟩ (xy_l4 C hd) (fun w => by cases w) h
  case aaload => exact xy_aald C hk hd h
  case iastore => exact xy_ast C hk ⟨by omega, by omega⟩ (by omega) ⟨fun w => (by cases w), fun w => (by cases w)⟩ (fun r cl hc e => hN.2.1 r cl hc (by omega) (by omega)) (xy_s1 C hd) h
  case bastore =>
    match st, h with
    | [], h => exact xy_bad h
    | [_], h => exact xy_bad h
    | [_, _], h => exact xy_bad h
    | w :: i :: o :: z, h =>
      have h : (match xv_get 14 Γ o.2.1.toNat with
        | some c => bif Nat.beq c.1 2 then xw_ast hl Γ 2 0 (w :: i :: o :: z) S (fun r S' => k (pc + 1) L r S') else xw_ast hl Γ 3 0 (w :: i :: o :: z) S (fun r S' => k (pc + 1) L r S')
        | none => false) = true := h
      cases hc : xv_get 14 Γ o.2.1.toNat with
      | none => rw [hc] at h; exact xy_bad h
      | some q =>
        rw [hc] at h
        dsimp only at h
        cases hb : Nat.beq q.1 2 with
        | true => rw [hb] at h; exact xy_ast C hk ⟨by omega, by omega⟩ (by omega) ⟨fun _ => hN.1.1, fun w => (by cases w)⟩ (fun r cl hc e => hN.2.1 r cl hc (by omega) (by omega)) (xy_s2 C hd) h
        | false => rw [hb] at h; exact xy_ast C hk ⟨by omega, by omega⟩ (by omega) ⟨fun w => (by cases w), fun _ => hN.1.2⟩ (fun r cl hc e => hN.2.1 r cl hc (by omega) (by omega)) (xy_s3 C hd) h
  case lastore => exact xy_ast C hk ⟨by omega, by omega⟩ (by omega) ⟨fun w => (by cases w), fun w => (by cases w)⟩ (fun r cl hc e => hN.2.2 r cl hc e) (xy_s4 C hd) h
  case invokevirtual i => exact xy_invV C hk hCG hd hRm hCS hok h
  case invokestatic i =>
    rcases hok with ⟨ha, h1, h2, h3, h4⟩ | ⟨ha, h1⟩
    · subst ha
      exact xy_copy C hk hd hRm2 h1 h2 h3 h4 h
    · have hb : Nat.beq a 9999 = false := by
        cases q : Nat.beq a 9999 with
        | true => exact absurd (xv_beq q) ha
        | false => rfl
      unfold xw_step at h
      dsimp only at h
      rw [hb] at h
      exact xy_invS C hk hCG hd hRm hCS h1 h
  case ireturn =>
    match st, h with
    | [], h => exact xy_bad h
    | _ :: _ :: _, h => exact xy_bad h
    | [x], h =>
      have h : (bif Nat.beq x.1 0 && (Nat.beq a 0 || (xw_prove S x.2 && xw_prove S (xw_k (xw_neg x.2) 1))) then kr (some x) S else false) = true := h
      cases hb : (Nat.beq x.1 0 && (Nat.beq a 0 || (xw_prove S x.2 && xw_prove S (xw_k (xw_neg x.2) 1)))) with
      | false => rw [hb] at h; exact xy_bad h
      | true =>
        rw [hb] at h
        obtain ⟨b1, b2⟩ := xv_and_t hb
        refine hE act pc L _ S _ h (Or.inl ⟨hd, x, rfl, rfl, xv_beq b1, ?_⟩)
        rcases hok with ⟨ea, er⟩ | ⟨ea, er⟩
        · exact Or.inl er
        · refine Or.inr ⟨er, ?_⟩
          rw [ea] at b2
          exact xv_and_t (((Bool.or_eq_true _ _).mp b2).resolve_left (fun w => by cases w))
  case lreturn =>
    match st, h with
    | [], h => exact xy_bad h
    | _ :: _ :: _, h => exact xy_bad h
    | [x], h =>
      have h : (bif Nat.beq x.1 1 then kr (some x) S else false) = true := h
      cases hb : Nat.beq x.1 1 with
      | false => rw [hb] at h; exact xy_bad h
      | true =>
        rw [hb] at h
        exact hE act pc L _ S _ h (Or.inr (Or.inl ⟨hd, hok, x, rfl, rfl, xv_beq hb⟩))
  case return_ =>
    match st, h with
    | _ :: _, h => exact xy_bad h
    | [], h => exact hE act pc L _ S _ h (Or.inr (Or.inr ⟨hd, hok, rfl, rfl⟩))
  all_goals exact xy_bad h
end XY9
end
section
/-! a run -/
theorem xw_act_ok {p : Nat} {a : xw_A} : ∀ {l : List xw_A}, xw_act l p = some a → a ∈ l ∧ a.1 = p
  | [], h => by cases h
  | b :: l, h => by
    have h : (bif Nat.beq b.1 p then some b else xw_act l p) = some a := h
    cases hb : Nat.beq b.1 p with
    | true =>
      rw [hb] at h
      cases h
      exact ⟨List.mem_cons_self, xv_beq hb⟩
    | false =>
      rw [hb] at h
      obtain ⟨h1, h2⟩ := xw_act_ok h
      exact ⟨List.mem_cons_of_mem _ h1, h2⟩
theorem xw_run_eq {hl : Nat × Int} {Γ : xv_A} {gh : List xw_L} {Qd : xw_Q} {call : xw_Cl} {id : Nat} {hs : List Nat} {full : List xv_E} {kr : xw_Kr} {F : Nat} {rest : List xv_E} {pv : Nat} {act : List xw_A} {pc : Nat} {L st : List xw_V} {S : xw_S} : xw_run hl Γ gh Qd call id hs full kr (F + 1) rest pv act pc L st S = (bif xw_orl (fun h => Nat.beq h pc) hs then
    (match xw_find Qd.1 id pc with
    | some h => (match st with
      | [] => (match (bif Nat.ble (pc + 1) pv then xw_act act pc else none) with
        | some a => xw_back hl Γ gh h a L S
        | none => bif h.2.2.2.2 && Nat.ble pv pc then (match xv_fetch full rest pc with
            | some (e, t) => xw_step hl Γ call id (fun pc' L' st' S' => xw_run hl Γ gh Qd call id hs full kr F t (pc + 1) (xw_fil (fun a => !(Nat.beq a.1 pc)) act) pc' L' st' S') kr e.2.1 e.2.2.2.1 e.2.2.2.2.1 e.2.2.2.2.2.2 pc L [] S
            | none => false) else xw_ent hl Γ gh h pc L S (fun a L1 S1 => match xv_fetch full rest pc with
            | some (e, t) => xw_step hl Γ call id (fun pc' L' st' S' => xw_run hl Γ gh Qd call id hs full kr F t (pc + 1) (a :: act) pc' L' st' S') kr e.2.1 e.2.2.2.1 e.2.2.2.2.1 e.2.2.2.2.2.2 pc L1 [] S1
            | none => false))
      | _ :: _ => false)
    | none => (match xw_find Qd.2.1 id pc with
      | some f => xw_tv hl Γ gh L f.1 S (fun l S1 => xw_prove S1 (xw_k l (-f.2.1)) && (xw_prove S1 (xw_k (xw_neg l) (f.2.1 + Int.ofNat f.2.2 - 1)) && xw_part l S1 (fun S2 => match xv_fetch full rest pc with
          | some (e, t) => xw_step hl Γ call id (fun pc' L' st' S' => xw_run hl Γ gh Qd call id hs full kr F t (pc + 1) act pc' L' st' S') kr e.2.1 e.2.2.2.1 e.2.2.2.2.1 e.2.2.2.2.2.2 pc L st S2
          | none => false) f.2.1 f.2.2))
      | none => (match xv_fetch full rest pc with
        | some (e, t) => xw_step hl Γ call id (fun pc' L' st' S' => xw_run hl Γ gh Qd call id hs full kr F t (pc + 1) act pc' L' st' S') kr e.2.1 e.2.2.2.1 e.2.2.2.2.1 e.2.2.2.2.2.2 pc L st S
        | none => false)))
  else (match xv_fetch full rest pc with
    | some (e, t) => xw_step hl Γ call id (fun pc' L' st' S' => xw_run hl Γ gh Qd call id hs full kr F t (pc + 1) act pc' L' st' S') kr e.2.1 e.2.2.2.1 e.2.2.2.2.1 e.2.2.2.2.2.2 pc L st S
    | none => false)) := rfl
section XYa
variable {p : Program} {l : Launch} {e : Env} {R : Room} {s : State} {m : MethodId} {args : Array Value} {below : List Frame} {meth : Method} {c : Code}
variable {e0 : (Nat → Int) × Nat} {cc : ByteArray} {own : String} {nL : Nat} {D : va_G} {t : Nat → ClassId} {A : Nat → Prop} {hl : Nat × Int} {Γ : xv_A} {X : xw_X} {xs : Nat → Int32} {ws0 : va_W} {gh : List xw_L} {gz : Nat → Int} {fh : Nat → Option xw_H} {cs sl : Nat} {Q : State → Prop} {act : List xw_A} {k : xw_K} {pc : Nat} {L st : List xw_V} {S : xw_S}
/-- what is asked of a method's code -/
def xw_okM (cc : ByteArray) (own name : String) (ret : Option FieldType) (I : Nat → Option xv_I) (full : List xv_E) : Prop := ∀ x ∈ full, xv_okE cc own name ret I x ∧ xw_ex own x
theorem xy_fs {name : String} {ret : Option FieldType} {I : Nat → Option xv_I} {call : xw_Cl} {kr : xw_Kr} {dF id : Nat} {full rest : List xv_E} {g : List xv_E → xw_K} (C : xw_Cx p s m args c cc own nL D t A X xs Γ) (hCG : xw_CG l dF I hl Γ gh call) (hRm : dF + 1 ≤ R.frames ∧ 60 * dF + 60 ≤ R.locals) (hCS : cs ≤ R.cells ∧ sl ≤ R.slots) (hname : name = meth.name) (hE : xw_Ends e0 p l e R s m args below meth c D t A hl Γ X xs ws0 nL gh gz fh cs sl Q cc ret kr) (hN : xw_Nar Γ) (hfull : xw_okM cc own name ret I full) (hsub : ∀ x ∈ rest, x ∈ full)
    (ih : ∀ u : List xv_E, (∀ x ∈ u, x ∈ full) → ∀ pc' L' st' S', g u pc' L' st' S' = true → xw_Tj e0 D t A s.heap hl Γ X xs ws0 nL gh gz fh (fun pc ls vst H locs => W p l e R s m args below meth c H locs cs sl Q (F0 m pc ls vst)) act pc' L' st' S')
    (h : (match xv_fetch full rest pc with
    | some (e, t) => xw_step hl Γ call id (fun pc' L' st' S' => g t pc' L' st' S') kr e.2.1 e.2.2.2.1 e.2.2.2.2.1 e.2.2.2.2.2.2 pc L st S
    | none => false) = true) : xw_Tj e0 D t A s.heap hl Γ X xs ws0 nL gh gz fh (fun pc ls vst H locs => W p l e R s m args below meth c H locs cs sl Q (F0 m pc ls vst)) act pc L st S := by
  cases hf : xv_fetch full rest pc with
  | none => rw [hf] at h; cases h
  | some q =>
    obtain ⟨en, u⟩ := q
    rw [hf] at h
    obtain ⟨h1, h2, h3⟩ := xv_fetch_ok hsub hf
    obtain ⟨⟨d1, d2, d3⟩, d4⟩ := hfull en h1
    rw [h2] at d1
    obtain ⟨e1, ei, e3, e4, e5, e6, e7⟩ := en
    cases h2
    exact xy_step (k := fun pc' L' st' S' => g u pc' L' st' S') C (ih u h3) hCG hRm hCS hname hE hN d1 d3 d4 h
theorem xy_run {name : String} {ret : Option FieldType} {I : Nat → Option xv_I} {call : xw_Cl} {kr : xw_Kr} {dF id : Nat} {full : List xv_E} {Qd : xw_Q} {hs : List Nat} (C : xw_Cx p s m args c cc own nL D t A X xs Γ) (hCG : xw_CG l dF I hl Γ gh call) (hRm : dF + 1 ≤ R.frames ∧ 60 * dF + 60 ≤ R.locals) (hCS : cs ≤ R.cells ∧ sl ≤ R.slots) (hname : name = meth.name) (hfh : fh = xw_find Qd.1 id) (hE : xw_Ends e0 p l e R s m args below meth c D t A hl Γ X xs ws0 nL gh gz fh cs sl Q cc ret kr) (hN : xw_Nar Γ) (hfull : xw_okM cc own name ret I full) :
    ∀ (F : Nat) (rest : List xv_E) (pv : Nat) (act : List xw_A), (∀ x ∈ rest, x ∈ full) → ∀ pc L st S, xw_run hl Γ gh Qd call id hs full kr F rest pv act pc L st S = true → xw_Tj e0 D t A s.heap hl Γ X xs ws0 nL gh gz fh (fun pc ls vst H locs => W p l e R s m args below meth c H locs cs sl Q (F0 m pc ls vst)) act pc L st S
  | 0, _, _, _, _, _, _, _, _, h => by cases h
  | F + 1, rest, pv, act, hsub, pc, L, st, S, h => by
    have ih := xy_run C hCG hRm hCS hname hfh hE hN hfull F (Qd := Qd) (hs := hs) (id := id) (kr := kr) (call := call)
    have fs : ∀ (act' : List xw_A) (L : List xw_V) (st : List xw_V) (S : xw_S), (match xv_fetch full rest pc with
      | some (e, t) => xw_step hl Γ call id (fun pc' L' st' S' => xw_run hl Γ gh Qd call id hs full kr F t (pc + 1) act' pc' L' st' S') kr e.2.1 e.2.2.2.1 e.2.2.2.2.1 e.2.2.2.2.2.2 pc L st S
      | none => false) = true → xw_Tj e0 D t A s.heap hl Γ X xs ws0 nL gh gz fh (fun pc ls vst H locs => W p l e R s m args below meth c H locs cs sl Q (F0 m pc ls vst)) act' pc L st S := fun act' L st S h => xy_fs (g := fun t => xw_run hl Γ gh Qd call id hs full kr F t (pc + 1) act') C hCG hRm hCS hname hE hN hfull hsub (fun u hu pc' L' st' S' h' => ih u (pc + 1) act' hu pc' L' st' S' h') h
    rw [xw_run_eq] at h
    cases hb : xw_orl (fun h => Nat.beq h pc) hs with
    | false => rw [hb] at h; exact fs act L st S h
    | true =>
      rw [hb] at h
      simp only [cond_true] at h
      cases hq : xw_find Qd.1 id pc with
      | none =>
        rw [hq] at h
        dsimp only at h
        cases hq2 : xw_find Qd.2.1 id pc with
        | none => rw [hq2] at h; exact fs act L st S h
        | some f =>
          rw [hq2] at h
          exact xw_fork_ok h (fun S2 h2 => fs act L st S2 h2)
      | some hd =>
        rw [hq] at h
        have hf : fh pc = some hd := by rw [hfh]; exact hq
        match st, h with
        | _ :: _, h => exact xy_bad h
        | [], h =>
          dsimp only at h
          cases ha : (bif Nat.ble (pc + 1) pv then xw_act act pc else none) with
          | some a =>
            rw [ha] at h
            obtain ⟨-, ha⟩ := xv_bt ha
            obtain ⟨ha1, ha2⟩ := xw_act_ok ha
            subst ha2
            exact xw_back_ok h hf ha1
          | none =>
            rw [ha] at h
            dsimp only at h
            cases hp : (hd.2.2.2.2 && Nat.ble pv pc) with
            | true =>
              rw [hp] at h
              exact xw_Tj.sub (fun a hm => (xw_fil_mem hm).1) (fs _ L [] S h)
            | false =>
              rw [hp] at h
              simp only [cond_false] at h
              exact xw_ent_ok h hf (fun a L1 S1 _ h2 => fs (a :: act) L1 [] S1 h2)
end XYa
end
section
/-! a method out of a run of it -/
theorem xw_cat_ok {X : xw_X} {as : List Nat} {ρ : Nat → Int} {n : Nat} {v : xw_V} {x : Value} (h : xw_hv X as ρ n v x) (hc : xw_cat v < 100) : v.1 ≤ 7 ∧ x.category = xw_cat v := by
  unfold xw_cat at hc ⊢
  cases hb : Nat.beq v.1 1 with
  | true =>
    obtain ⟨i, rfl, -⟩ := h.2.1 (xv_beq hb)
    exact ⟨by have := xv_beq hb; omega, rfl⟩
  | false =>
    rw [hb] at hc
    simp only [cond_false] at hc ⊢
    cases hb2 : Nat.ble v.1 7 with
    | false => rw [hb2] at hc; simp only [cond_false] at hc; omega
    | true =>
      simp only [cond_true]
      have hne : v.1 ≠ 1 := fun q => by rw [q] at hb; cases hb
      exact ⟨xv_ble hb2, xy_cat1 h (xv_ble hb2) hne⟩
theorem xw_locs_ok {X : xw_X} {as : List Nat} {ρ : Nat → Int} {m : Nat} : ∀ (av : List xw_V) (vs : List Value) (n i0 : Nat), xw_sk X as ρ m av vs → xw_cats av ≤ n → n < 100 → (lg_sl vs).length ≤ n ∧ (xw_locs av n).length = n ∧ ∀ (i : Nat) (v : xw_V), (xw_locs av n)[i]? = some v → v.1 ≤ 7 → ∃ x, (i0 + i, x) ∈ lv_args i0 vs ∧ xw_hv X as ρ m v x
  | [], [], n, i0, _, _, _ => by
    refine ⟨Nat.zero_le _, xv_rep_len n _, fun i v hi hk => ?_⟩
    have hm : v ∈ xv_rep n xw_un := List.mem_of_getElem? hi
    have hz : ∀ {n : Nat}, v ∈ xv_rep n xw_un → v = xw_un := by
      intro n
      induction n with
      | zero => intro h; cases h
      | succ n ih =>
        intro h
        have h : v ∈ xw_un :: xv_rep n xw_un := h
        rcases List.mem_cons.mp h with q | q
        · exact q
        · exact ih q
    rw [hz hm] at hk
    exact absurd hk (by decide)
  | [], _ :: _, _, _, h, _, _ => False.elim h
  | _ :: _, [], _, _, h, _, _ => False.elim h
  | v :: av, x :: vs, n, i0, h, hc, hn => by
    have ec : xw_cats (v :: av) = xw_cat v + xw_cats av := rfl
    rw [ec] at hc
    obtain ⟨hkn, hcat⟩ := xw_cat_ok h.1 (by omega)
    have esl : lg_sl (x :: vs) = (if x.category = 2 then [.val x, .second] else [.val x]) ++ lg_sl vs := rfl
    have eargs : lv_args i0 (x :: vs) = (i0, x) :: lv_args (if x.category = 2 then i0 + 2 else i0 + 1) vs := rfl
    have elo : xw_locs (v :: av) n = bif Nat.beq v.1 1 then v :: xw_un :: xw_locs av (n - 2) else v :: xw_locs av (n - 1) := rfl
    rw [esl, eargs, elo]
    cases hb : Nat.beq v.1 1 with
    | true =>
      have e2 : xw_cat v = 2 := by unfold xw_cat; rw [hb]; rfl
      rw [e2] at hcat hc
      simp only [cond_true, hcat, if_true]
      obtain ⟨h1, h2, h3⟩ := xw_locs_ok av vs (n - 2) (i0 + 2) h.2 (by omega) (by omega)
      refine ⟨by simp; omega, by simp; omega, fun i w hi hk => ?_⟩
      match i, hi with
      | 0, hi => cases hi; exact ⟨x, List.mem_cons_self, h.1⟩
      | 1, hi => cases hi; exact absurd hk (by decide)
      | i + 2, hi =>
        obtain ⟨y, hy, hv⟩ := h3 i w hi hk
        exact ⟨y, List.mem_cons_of_mem _ (by rw [show i0 + (i + 2) = i0 + 2 + i by omega]; exact hy), hv⟩
    | false =>
      have hne : v.1 ≠ 1 := fun q => by rw [q] at hb; cases hb
      have e1 : x.category = 1 := xy_cat1 h.1 hkn hne
      have e2 : xw_cat v = 1 := hcat.symm.trans e1
      rw [e2] at hc
      simp only [cond_false, e1]
      rw [if_neg (by decide), if_neg (by decide)]
      obtain ⟨h1, h2, h3⟩ := xw_locs_ok av vs (n - 1) (i0 + 1) h.2 (by omega) (by omega)
      refine ⟨by simp; omega, by simp; omega, fun i w hi hk => ?_⟩
      match i, hi with
      | 0, hi => cases hi; exact ⟨x, List.mem_cons_self, h.1⟩
      | i + 1, hi =>
        obtain ⟨y, hy, hv⟩ := h3 i w hi hk
        exact ⟨y, List.mem_cons_of_mem _ (by rw [show i0 + (i + 1) = i0 + 1 + i by omega]; exact hy), hv⟩
/-- what is asked of a method that is run -/
def xw_okI (i : xv_I) (I : Nat → Option xv_I) (q : List xv_E × Nat) : Prop := q.2 = i.2.2.1 ∧ i.2.2.1 ≤ 41 ∧ plainName i.1.cls = true ∧ xw_okM i.2.1 i.1.cls i.1.name i.2.2.2 I q.1
theorem xy_meth {l : Launch} {I : Nat → Option xv_I} {hl : Nat × Int} {Γ : xv_A} {gh : List xw_L} {call : xw_Cl} {kr : xw_Kr} {d id F : Nat} {Qd : xw_Q} {hs : List Nat} {q : List xv_E × Nat} {i : xv_I} {av : List xw_V} {S : xw_S} (h9 : xv_get 14 Γ 9999 = none) (hN : xw_Nar Γ) (hCG : xw_CG l d I hl Γ gh call) (hok : xw_okI i I q) (hcats : xw_cats av ≤ q.2) (h : xw_run hl Γ gh Qd call id hs q.1 kr F q.1 0 [] 0 (xw_locs av q.2) [] S = true)
    (D : va_G) (t : Nat → ClassId) (X : xw_X) (xs : Nat → Int32) (ws0 ws : va_W) (vs : List Value) (sz : Nat) (ρ gz : Nat → Int) (hI : xw_Inv X) (hWd : xw_Wd hl Γ t X (xw_mu xs ws) ws) (hDt : xw_Dt S.2.2.2.2.2.2 (xw_mu xs ws0) (xw_mu xs ws)) (hDc : xw_Dc S.2.2.2.2.2.2 ws0 ws) (has : ws.map Prod.fst = ws0.map Prod.fst) (hS : xw_St ρ S) (hMe : xw_Me X (ws.map Prod.fst) (xw_mu xs ws) ρ S) (hG : xw_Gz ρ S.2.1 gh gz) (hsk : xw_sk X (ws.map Prod.fst) ρ S.2.1 av vs) (hD0 : va_D (fun _ => True) ws) :
    Met l i.1 (Cond.code i.1 i.2.1 i.2.2.1 i.2.2.2 :: xv_tb) { frames := d + 1, cells := 0, slots := 0, locals := 60 * (d + 1) } (xw_Pr D t X xs ws vs sz) (xw_Po D t hl Γ X xs ws0 ws sz ρ S.2.1 kr) 0 0 (va_A ws sz) := by
  obtain ⟨y, cc, mL, ret⟩ := i
  obtain ⟨e1, hmL, hpn, hcode⟩ := hok
  dsimp only at e1 hmL hpn hcode ⊢
  refine Met.ofW (cc := cc) (maxL := mL) (ret := ret) hpn rfl ?_
  intro p e s m args below meth c s₁ B hml hv
  obtain ⟨hargs, hsz, hP, hK, hEx, hX, hti⟩ := hv
  subst hargs
  subst hsz
  have hts := atoms_spec (ws := Cond.code y cc mL ret :: xv_tb) B.pre
  have hown : s.vm.findClass y.cls = some m.cls := findClass_of_methodNamed B.named
  have hnm : meth.name = y.name := (name_of_methodNamed B.named B.method).1
  have hret := B.returns
  rw [e1] at h hcats
  have hA : ∀ w : Nat, s.heap.size ≤ w → va_A ws s.heap.size w := fun w hw => Or.inr hw
  have C : xw_Cx p s m vs.toArray c cc y.cls mL D t (va_A ws s.heap.size) X xs Γ := ⟨B.exec, B.bytes, hml, hown, fun w hw => hts w (List.mem_cons_of_mem _ hw), hK, hA, hEx, hX, hti, hI, h9⟩
  obtain ⟨l1, l2, l3⟩ := xw_locs_ok av vs mL 0 hsk hcats (by omega)
  have hE : xw_Ends (ρ, S.2.1) p l e (headSpec (Cond.code y cc mL ret :: xv_tb) { frames := d + 1, cells := 0, slots := 0, locals := 60 * (d + 1) }).room s m vs.toArray below meth c D t (va_A ws s.heap.size) hl Γ X xs ws0 mL gh gz (xw_find Qd.1 id) 0 0 (MQ below (xw_Po D t hl Γ X xs ws0 ws s.heap.size ρ S.2.1 kr) vs.toArray s 0 0 (va_A ws s.heap.size)) cc ret kr := by
    intro act pc L st S' r hkr hcase ρ' ls vst H locs ws' hR hG' hH'
    have hfree : ∀ w ∈ locs, va_A ws s.heap.size w.base := hR.2.2.1.2.2.1.2.2
    have hq : ∀ rv : Option Value, xw_sk X (ws'.map Prod.fst) ρ' S'.2.1 r.toList rv.toList → ∀ tt : State, tt.heap = H → s.WarmedH tt.vm → xw_Po D t hl Γ X xs ws0 ws s.heap.size ρ S.2.1 kr vs.toArray s (.returned rv) tt := fun rv hrv tt htt hW =>
      ⟨⟨rv, ws', ρ', r, S', rfl, hkr, ⟨by rw [htt]; exact hR.2.2.1.1, hR.2.2.1.2.1, hR.2.2.1.2.2.2⟩, hG'.2, hR.2.2.2.1, hR.2.2.2.2, hrv⟩, hR.2.2.1.2.2.1.F htt⟩
    rcases hcase with ⟨hd, x, rfl, rfl, hx0, hcase⟩ | ⟨hd, hrt, x, rfl, rfl, hx1⟩ | ⟨hd, hrt, rfl, rfl⟩
    · obtain ⟨y0, vst, rfl, hy, hst⟩ := hR.2.1.un
      have ev := hst.nil
      subst ev
      obtain ⟨i, rfl, hi⟩ := hy.1 hx0
      rcases hcase with hrt | ⟨hrt, j1, j2⟩
      · exact W.iret B.exec B.bytes (by rw [hret, hrt]) (hq (some (.int i)) (xw_sk.cons hy True.intro)) hfree hd
      · have j1 := xw_prove_ok hR.2.2.2.1 j1 hi
        have j2 := xw_prove_ok hR.2.2.2.1 j2 (hi.neg.k 1)
        exact W.zret B.exec B.bytes (by rw [hret, hrt]) (xv_nar_z (by omega) (by omega)).2 (hq (some (.int i)) (xw_sk.cons hy True.intro)) hfree hd
    · obtain ⟨y0, vst, rfl, hy, hst⟩ := hR.2.1.un
      have ev := hst.nil
      subst ev
      obtain ⟨i, rfl, hi⟩ := hy.2.1 hx1
      exact W.lret B.exec B.bytes (by rw [hret, hrt]) (hq (some (.long i)) (xw_sk.cons hy True.intro)) hfree hd
    · have ev := hR.2.1.nil
      subst ev
      exact W.vret B.exec B.bytes (by rw [hret, hrt]) (hq none True.intro) hfree hd
  have hT := xy_run (e0 := (ρ, S.2.1)) (name := y.name) (ret := ret) (I := I) (full := q.1) (dF := d) C hCG ⟨Nat.le_refl _, by show 60 * d + 60 ≤ 60 * (d + 1); omega⟩ ⟨Nat.le_refl _, Nat.le_refl _⟩ hnm.symm rfl hE hN hcode F q.1 0 [] (fun _ h => h) 0 (xw_locs av mL) [] S h
  rw [lg_entry_eq]
  have hl' := lv_entry vs (n := mL) l1
  refine hT ρ _ [] s.heap [] ws ⟨⟨l2, _, hl', fun i v hi hk => ?_⟩, True.intro, ⟨hP, hD0.self, va_S.rf, hWd, hDt, hDc, has⟩, hS, hMe⟩ ⟨hG, xw_Up.rf⟩ (fun _ h => by cases h)
  obtain ⟨x, hx, hv⟩ := l3 i v hi hk
  rw [Nat.zero_add] at hx
  exact ⟨x, hx, hv⟩
end
section
/-! contracts -/
theorem xy_mono {l : Launch} {y : MethodName} {ws : List Cond} {rm : Room} {Pc : Array Value → State → Prop} {Qc Qc' : Array Value → State → Outcome → State → Prop} {mc ms : Nat} {free : Addr → Prop} (h : Met l y ws rm Pc Qc mc ms free) (hq : ∀ a st o t, Qc a st o t → Qc' a st o t) : Met l y ws rm Pc Qc' mc ms free := fun p e h1 h2 h3 s m args below h4 h5 h6 h7 => by
  obtain ⟨n, o, a, b, c, d, f⟩ := h p e h1 h2 h3 s m args below h4 h5 h6 h7
  exact ⟨n, o, a, b, c, hq _ _ _ _ d, f⟩
/-- a local of a method that is called, as a number -/
def xw_az (vs : List Value) (i : Nat) : Int := match (lg_sl vs)[i]? with
  | some (.val x) => xw_n0 x
  | _ => 0
theorem xw_az_ok {X : xw_X} {as : List Nat} {ρ : Nat → Int} {n : Nat} {rl : List xw_V} {rx : List Value} (hr : ∀ (i : Nat) (v : xw_V), rl[i]? = some v → v.1 ≤ 1 → ∃ x, (lg_sl rx)[i]? = some (Slot.val x) ∧ xw_hv X as ρ n v x) : ∀ (av : List xw_V) (vs : List Value), xw_sk X as ρ n av vs → (∀ w ∈ av, w.1 ≤ 7) → ∀ (i : Nat) (v : xw_V), (xw_locs av 0 ++ rl)[i]? = some v → v.1 ≤ 1 → ∃ x, (lg_sl (vs ++ rx))[i]? = some (Slot.val x) ∧ xw_hv X as ρ n v x
  | [], [], _, _, i, v, h, hk => hr i v h hk
  | [], _ :: _, h, _, _, _, _, _ => False.elim h
  | _ :: _, [], h, _, _, _, _, _ => False.elim h
  | w :: av, y :: vs, h, h7, i, v, hi, hk => by
    have elo : xw_locs (w :: av) 0 = bif Nat.beq w.1 1 then w :: xw_un :: xw_locs av 0 else w :: xw_locs av 0 := rfl
    have esl : lg_sl (y :: vs ++ rx) = (if y.category = 2 then [.val y, .second] else [.val y]) ++ lg_sl (vs ++ rx) := rfl
    rw [elo] at hi
    rw [esl]
    have ih := xw_az_ok hr av vs h.2 (fun u hu => h7 u (List.mem_cons_of_mem _ hu))
    cases hb : Nat.beq w.1 1 with
    | true =>
      rw [hb] at hi
      obtain ⟨j, ej, -⟩ := h.1.2.1 (xv_beq hb)
      have ec : y.category = 2 := by rw [ej]; rfl
      rw [if_pos ec]
      match i, hi with
      | 0, hi => cases hi; exact ⟨y, rfl, h.1⟩
      | 1, hi => cases hi; exact absurd hk (by decide)
      | i + 2, hi => exact ih i v hi hk
    | false =>
      rw [hb] at hi
      have hne : w.1 ≠ 1 := fun q => by rw [q] at hb; cases hb
      have ec := xy_cat1 h.1 (h7 w List.mem_cons_self) hne
      rw [if_neg (by omega)]
      match i, hi with
      | 0, hi => cases hi; exact ⟨y, rfl, h.1⟩
      | i + 1, hi => exact ih i v hi hk
theorem xw_az_lz {X : xw_X} {as : List Nat} {ρ : Nat → Int} {n : Nat} {r : Option xw_V} {rv : Option Value} {av : List xw_V} {vs : List Value} (hr : xw_sk X as ρ n r.toList rv.toList) (h : xw_sk X as ρ n av vs) (h7 : ∀ w ∈ av, w.1 ≤ 7) : xw_Lz ρ n (xw_locs av 0 ++ r.toList) (xw_az (vs ++ rv.toList)) := fun i l hi => by
  unfold xw_lv at hi
  rw [xv_nth_eq] at hi
  cases hv : (xw_locs av 0 ++ r.toList)[i]? with
  | none => rw [hv] at hi; cases hi
  | some v =>
    rw [hv] at hi
    obtain ⟨b, e⟩ := xv_bt hi
    cases e
    have b := xv_ble b
    obtain ⟨x, h1, h2⟩ := xw_az_ok (X := X) (as := as) (ρ := ρ) (n := n) (rl := r.toList) (rx := rv.toList) (fun j w hj hw => by
      cases r with
      | none => simp at hj
      | some u =>
        cases rv with
        | none => exact False.elim hr
        | some y =>
          match j, hj with
          | 0, hj =>
            cases hj
            refine ⟨y, ?_, hr.1⟩
            show ((if y.category = 2 then [Slot.val y, .second] else [.val y]) ++ lg_sl [])[0]? = _
            by_cases e : y.category = 2
            · rw [if_pos e]; rfl
            · rw [if_neg e]; rfl
          | j + 1, hj => simp at hj) av vs h h7 i v hv b
    obtain ⟨z, h3, h4⟩ := h2.num b
    unfold xw_az
    rw [h1]
    dsimp only
    unfold xw_n0
    rw [h3]; exact h4
theorem xw_az_lz0 {X : xw_X} {as : List Nat} {ρ : Nat → Int} {n : Nat} {av : List xw_V} {vs : List Value} (h : xw_sk X as ρ n av vs) (h7 : ∀ w ∈ av, w.1 ≤ 7) : xw_Lz ρ n (xw_locs av 0) (xw_az vs) := by
  have := xw_az_lz (r := none) (rv := none) (X := X) (as := as) (ρ := ρ) (n := n) True.intro h h7
  simpa using this
/-- numbers are as a contract's arguments -/
def xw_Sv (X : xw_X) (as : List Nat) : List (Nat × Int × Int) → List Value → Prop
  | [], [] => True
  | a :: sg, x :: vs => (((a.1 = 0 ∧ ∃ i : Int32, x = .int i ∧ a.2.1 ≤ i.toInt ∧ i.toInt ≤ a.2.2) ∨ (a.1 = 1 ∧ ∃ i : Int64, x = .long i ∧ a.2.1 ≤ i.toInt ∧ i.toInt ≤ a.2.2) ∨ (a.1 = 2 ∧ ∃ ad, as[a.2.1.toNat]? = some ad ∧ x = .ref ad) ∨ (a.1 = 4 ∧ ∃ j ad, j < a.2.2.toNat ∧ as[a.2.1.toNat + j]? = some ad ∧ x = .ref ad) ∨ (a.1 = 6 ∧ ∃ ad, x = .ref ad ∧ X.2.2.1 ad))) ∧ xw_Sv X as sg vs
  | _, _ => False
theorem xw_sig_ok {X : xw_X} {as : List Nat} {ρ : Nat → Int} {S : xw_S} (hS : xw_St ρ S) : ∀ {sg : List (Nat × Int × Int)} {av : List xw_V} {vs : List Value}, xw_sig S sg av = true → xw_sk X as ρ S.2.1 av vs → xw_Sv X as sg vs ∧ ∀ w ∈ av, w.1 ≤ 7
  | [], [], [], _, _ => ⟨True.intro, fun _ h => by cases h⟩
  | [], [], _ :: _, _, h => False.elim h
  | [], _ :: _, _, h, _ => by cases h
  | _ :: _, [], _, h, _ => by cases h
  | _ :: _, _ :: _, [], _, h => False.elim h
  | a :: sg, v :: av, x :: vs, h, hk => by
    have h : (Nat.beq v.1 a.1 && ((bif Nat.ble a.1 1 then xw_prove S (xw_k v.2 (-a.2.1)) && xw_prove S (xw_k (xw_neg v.2) a.2.2) else bif Nat.beq a.1 2 then xw_eqL v.2 (a.2.1, []) else bif Nat.beq a.1 4 then xw_eqL v.2 (a.2.1, [(a.2.2.toNat, 0)]) else Nat.beq a.1 6) && xw_sig S sg av)) = true := h
    obtain ⟨h1, h⟩ := xv_and_t h
    obtain ⟨h2, h3⟩ := xv_and_t h
    have h1 := xv_beq h1
    obtain ⟨g1, g2⟩ := xw_sig_ok hS h3 hk.2
    have fin : ∀ {P : Prop}, P → v.1 ≤ 7 → (P ∧ xw_Sv X as sg vs) ∧ ∀ w ∈ v :: av, w.1 ≤ 7 := fun p7 q7 => ⟨⟨p7, g1⟩, fun w hw => (List.mem_cons.mp hw).elim (fun e => by rw [e]; exact q7) (g2 w)⟩
    cases b1 : Nat.ble a.1 1 with
    | true =>
      rw [b1] at h2
      obtain ⟨c1, c2⟩ := xv_and_t h2
      have b1 := xv_ble b1
      rcases Nat.le_one_iff_eq_zero_or_eq_one.mp b1 with q | q
      · obtain ⟨i, e, hi⟩ := hk.1.1 (by omega)
        have c1 := xw_prove_ok hS c1 (hi.k _)
        have c2 := xw_prove_ok hS c2 (hi.neg.k _)
        exact fin (Or.inl ⟨q, i, e, by omega, by omega⟩) (by omega)
      · obtain ⟨i, e, hi⟩ := hk.1.2.1 (by omega)
        have c1 := xw_prove_ok hS c1 (hi.k _)
        have c2 := xw_prove_ok hS c2 (hi.neg.k _)
        exact fin (Or.inr (Or.inl ⟨q, i, e, by omega, by omega⟩)) (by omega)
    | false =>
      rw [b1] at h2
      simp only [cond_false] at h2
      cases b2 : Nat.beq a.1 2 with
      | true =>
        rw [b2] at h2
        have b2 := xv_beq b2
        obtain ⟨ad, e1, e2⟩ := hk.1.2.2.1 (by omega)
        rw [xw_eqL_ok h2] at e1
        exact fin (Or.inr (Or.inr (Or.inl ⟨b2, ad, e1, e2⟩))) (by omega)
      | false =>
        rw [b2] at h2
        simp only [cond_false] at h2
        cases b4 : Nat.beq a.1 4 with
        | true =>
          rw [b4] at h2
          have b4 := xv_beq b4
          obtain ⟨j, ad, e0, e1, e2⟩ := hk.1.2.2.2.2.1 (by omega)
          have hv := xw_eqL_ok h2
          unfold xw_cnt at e0
          rw [hv] at e0 e1
          exact fin (Or.inr (Or.inr (Or.inr (Or.inl ⟨b4, j, ad, e0, e1, e2⟩)))) (by omega)
        | false =>
          rw [b4] at h2
          have h2 := xv_beq h2
          obtain ⟨ad, e1, e2⟩ := hk.1.2.2.2.2.2.2.1 (by omega)
          exact fin (Or.inr (Or.inr (Or.inr (Or.inr ⟨h2, ad, e1, e2⟩)))) (by omega)
/-- an end of a contract -/
def xw_Pv (vs : List Value) (gz : Nat → Int) (μ : Nat → Nat → Value) (p : xw_P) (rv : Option Value) : Prop := ((p.1 = 9 ∧ rv = none) ∨ (p.1 = 0 ∧ ∃ i : Int32, rv = some (.int i) ∧ p.2.1 ≤ i.toInt ∧ i.toInt ≤ p.2.2.1) ∨ (p.1 = 1 ∧ ∃ i : Int64, rv = some (.long i) ∧ p.2.1 ≤ i.toInt ∧ i.toInt ≤ p.2.2.1)) ∧ ∀ T ∈ p.2.2.2, 0 ≤ xw_ttz (xw_az (vs ++ rv.toList)) gz μ T
def xw_gv (c : xw_C) (vs : List Value) (μ : Nat → Nat → Value) : Nat → Int := fun i => (c.2.2.2.1.map (xw_ttz (xw_az vs) (fun _ => 0) μ)).getD i 0
def xw_Pk (D : va_G) (t : Nat → ClassId) (hl : Nat × Int) (Γ : xv_A) (X : xw_X) (xs : Nat → Int32) (ws : va_W) (vs : List Value) (sz : Nat) (c : xw_C) : Array Value → State → Outcome → State → Prop := fun _ st oc tt => (∃ (rv : Option Value) (ws' : va_W), oc = .returned rv ∧ xw_Wb D t hl Γ X xs ws ws sz c.2.2.2.2.2.1 tt.heap ws' ∧ ∃ p ∈ c.2.2.2.2.1, xw_Pv vs (xw_gv c vs (xw_mu xs ws)) (xw_mu xs ws') p rv) ∧ va_F (va_A ws sz) st tt
/-- a contract holds -/
def xw_CV (l : Launch) (I : Nat → Option xv_I) (hl : Nat × Int) (Γ : xv_A) (c : xw_C) : Prop := ∃ i : xv_I, I c.1 = some i ∧ ∀ d, c.2.2.2.2.2.2 ≤ d → ∀ (D : va_G) (t : Nat → ClassId) (X : xw_X) (xs : Nat → Int32) (ws : va_W) (vs : List Value) (sz : Nat), xw_Inv X → xw_Wd hl Γ t X (xw_mu xs ws) ws → xw_Sv X (ws.map Prod.fst) c.2.1 vs → (∀ T ∈ c.2.2.1, 0 ≤ xw_ttz (xw_az vs) (fun _ => 0) (xw_mu xs ws) T) → va_D (fun _ => True) ws →
  Met l i.1 (Cond.code i.1 i.2.1 i.2.2.1 i.2.2.2 :: xv_tb) { frames := d, cells := 0, slots := 0, locals := 60 * d } (xw_Pr D t X xs ws vs sz) (xw_Pk D t hl Γ X xs ws vs sz c) 0 0 (va_A ws sz)
end
section
/-! a contract is used -/
theorem xw_Dt_kills {D1 : xw_D} {S : xw_S} {μ0 μ μ' : Nat → Nat → Value} (h1 : xw_Dt S.2.2.2.2.2.2 μ0 μ) (h2 : xw_Dt D1 μ μ') : xw_Dt (xw_kills D1 S).2.2.2.2.2.2 μ0 μ' := fun r j hf => by
  have f1 : xw_isin D1 r (j + 1) = false := by
    cases w : xw_isin D1 r (j + 1) with
    | false => rfl
    | true => rw [xw_kills_in D1 (Or.inr w)] at hf; cases hf
  have f2 : xw_isin S.2.2.2.2.2.2 r (j + 1) = false := by
    cases w : xw_isin S.2.2.2.2.2.2 r (j + 1) with
    | false => rfl
    | true => rw [xw_kills_in D1 (Or.inl w)] at hf; cases hf
  rw [h2 r j f1, h1 r j f2]
theorem xw_Dc_kills {D1 : xw_D} {S : xw_S} {ws0 ws ws' : va_W} (h1 : xw_Dc S.2.2.2.2.2.2 ws0 ws) (h2 : xw_Dc D1 ws ws') : xw_Dc (xw_kills D1 S).2.2.2.2.2.2 ws0 ws' := fun r hr => by
  rw [h2 r (fun c hc => ?_), h1 r (fun c hc => hr c (xw_kills_old D1 hc))]
  obtain ⟨c', hc'⟩ := xw_kills_cell D1 (S := S) hc
  exact hr c' hc'
theorem xw_Me.fr {X : xw_X} {as : List Nat} {μ : Nat → Nat → Value} {ρ ρ' : Nat → Int} {S S' : xw_S} (h : xw_Me X as μ ρ S) (hu : xw_Up ρ S.2.1 ρ' S'.2.1) (e : S'.2.2 = S.2.2) : xw_Me X as μ ρ' S' := by
  unfold xw_Me at h ⊢
  rw [e]
  exact ⟨h.1.more hu, h.2.more hu⟩
theorem xy_cc {l : Launch} {I : Nat → Option xv_I} {hl : Nat × Int} {Γ : xv_A} {c : xw_C} {av : List xw_V} {S : xw_S} {kr : xw_Kr} {d : Nat} (hV : xw_CV l I hl Γ c) (hd : c.2.2.2.2.2.2 ≤ d) (h : xw_cc hl Γ c av S kr = true) : ∃ i : xv_I, I c.1 = some i ∧ ∀ (D : va_G) (t : Nat → ClassId) (X : xw_X) (xs : Nat → Int32) (ws0 ws : va_W) (vs : List Value) (sz : Nat) (ρ : Nat → Int), xw_Inv X → xw_Wd hl Γ t X (xw_mu xs ws) ws → xw_Dt S.2.2.2.2.2.2 (xw_mu xs ws0) (xw_mu xs ws) → xw_Dc S.2.2.2.2.2.2 ws0 ws → ws.map Prod.fst = ws0.map Prod.fst → xw_St ρ S → xw_Me X (ws.map Prod.fst) (xw_mu xs ws) ρ S → xw_sk X (ws.map Prod.fst) ρ S.2.1 av vs → va_D (fun _ => True) ws →
    Met l i.1 (Cond.code i.1 i.2.1 i.2.2.1 i.2.2.2 :: xv_tb) { frames := d, cells := 0, slots := 0, locals := 60 * d } (xw_Pr D t X xs ws vs sz) (xw_Po D t hl Γ X xs ws0 ws sz ρ S.2.1 kr) 0 0 (va_A ws sz) := by
  obtain ⟨i, hi, hV⟩ := hV
  refine ⟨i, hi, fun D t X xs ws0 ws vs sz ρ hI hWd hDt hDc has hS hMe hsk hD0 => ?_⟩
  unfold xw_cc at h
  obtain ⟨h1, h2⟩ := xv_and_t h
  obtain ⟨hsv, h7⟩ := xw_sig_ok hS h1 hsk
  have hLz := xw_az_lz0 hsk h7
  have hg0 : xw_Gz ρ S.2.1 [] (fun _ => 0) := fun _ _ q => by cases q
  obtain ⟨hpre, ρ1, S1, k1, u1, hS1, hM1, e1⟩ := xw_tpr_ok hWd h2 hS hMe hLz hg0
  obtain ⟨ρ2, S2, ⟨gs, k2, hgz⟩, u2, hS2, hM2, e2⟩ := xw_tgs_ok (ps := []) hWd k1 hS1 hM1 (hLz.more u1) rfl (fun _ _ q => by cases q)
  refine xy_mono (hV d hd D t X xs ws vs sz hI hWd hsv hpre hD0) (fun a st o tt hQ => ?_)
  obtain ⟨⟨rv, ws', rfl, ⟨w1, w2, w3, w4, w5, w6⟩, pe, hpe, hpv⟩, hF⟩ := hQ
  refine ⟨?_, hF⟩
  have hu12 := u1.tr u2
  have ed : S2.2.2.2.2.2.2 = S.2.2.2.2.2.2 := e2.trans e1
  obtain ⟨hS3, hM3⟩ := xw_kills_ok (X := X) (as := ws.map Prod.fst) (μ' := xw_mu xs ws') c.2.2.2.2.2.1 hS2 hM2 w4
  have hn3 := xw_kills_n c.2.2.2.2.2.1 S2
  have hsk2 : xw_sk X (ws'.map Prod.fst) ρ2 (xw_kills c.2.2.2.2.2.1 S2).2.1 av vs := by rw [hn3, w6]; exact hsk.more hu12
  have hM3' : xw_Me X (ws'.map Prod.fst) (xw_mu xs ws') ρ2 (xw_kills c.2.2.2.2.2.1 S2) := by rw [w6]; exact hM3
  have hgz3 : xw_Gz ρ2 (xw_kills c.2.2.2.2.2.1 S2).2.1 gs (xw_gv c vs (xw_mu xs ws)) := by rw [hn3]; exact hgz
  have hu3 : xw_Up ρ S.2.1 ρ2 (xw_kills c.2.2.2.2.2.1 S2).2.1 := by rw [hn3]; exact hu12
  have hDt3 : xw_Dt (xw_kills c.2.2.2.2.2.1 S2).2.2.2.2.2.2 (xw_mu xs ws0) (xw_mu xs ws') := xw_Dt_kills (by rw [ed]; exact hDt) w4
  have hDc3 : xw_Dc (xw_kills c.2.2.2.2.2.1 S2).2.2.2.2.2.2 ws0 ws' := xw_Dc_kills (by rw [ed]; exact hDc) w5
  have k3 := xw_anl_ok k2 pe hpe
  obtain ⟨hcase, hfacts⟩ := hpv
  have num : ∀ (kd : Nat) (x : Value) (z : Int), kd ≤ 1 → pe.1 = kd → rv = some x → (∀ (ρ' : Nat → Int) (n' : Nat) (l : xw_L), xw_is ρ' n' l z → xw_hv X (ws'.map Prod.fst) ρ' n' (kd, l) x) → pe.2.1 ≤ z → z ≤ pe.2.2.1 → ∃ (rv' : Option Value) (ws'' : va_W) (ρ' : Nat → Int) (r : Option xw_V) (S' : xw_S), Outcome.returned rv = .returned rv' ∧ kr r S' = true ∧ xw_Wb D t hl Γ X xs ws0 ws sz S'.2.2.2.2.2.2 tt.heap ws'' ∧ xw_Up ρ S.2.1 ρ' S'.2.1 ∧ xw_St ρ' S' ∧ xw_Me X (ws''.map Prod.fst) (xw_mu xs ws'') ρ' S' ∧ xw_sk X (ws''.map Prod.fst) ρ' S'.2.1 r.toList rv'.toList := by
    intro kd x z hkd hpk hrv hx z1 z2
    have b9 : Nat.beq pe.1 9 = false := by
      cases q : Nat.beq pe.1 9 with
      | true => have := xv_beq q; omega
      | false => rfl
    have b1 : Nat.ble pe.1 1 = true := Nat.ble_eq.mpr (by omega)
    rw [b9, b1] at k3
    simp only [cond_false, cond_true] at k3
    obtain ⟨ρ4, lf, S4, k4, u4, hS4, hl4, e4, -⟩ := xw_fr_ok hS3 k3 z1 z2
    have hM4 := xw_Me.fr hM3' u4 e4
    have hx4 := hx ρ4 S4.2.1 lf hl4
    have hr4 : xw_sk X (ws'.map Prod.fst) ρ4 S4.2.1 (some (pe.1, lf)).toList rv.toList := by
      rw [hrv, hpk]; exact ⟨hx4, True.intro⟩
    have hLz4 := xw_az_lz (r := some (pe.1, lf)) hr4 (hsk2.more u4) h7
    obtain ⟨ρ5, S5, k5, u5, hS5, hM5, e5⟩ := xw_tas_ok w3 k4 hS4 hM4 hLz4 (hgz3.more u4) hfacts
    have ee : S5.2.2.2.2.2.2 = (xw_kills c.2.2.2.2.2.1 S2).2.2.2.2.2.2 := by rw [e5, e4]
    exact ⟨rv, ws', ρ5, some (pe.1, lf), S5, rfl, k5, ⟨w1, w2, w3, by rw [ee]; exact hDt3, by rw [ee]; exact hDc3, w6.trans has⟩, (hu3.tr u4).tr u5, hS5, hM5, hr4.more u5⟩
  rcases hcase with ⟨h9, hrv⟩ | ⟨h0, x, hrv, z1, z2⟩ | ⟨h1', x, hrv, z1, z2⟩
  · rw [h9] at k3
    simp only [show Nat.beq 9 9 = true from rfl, cond_true] at k3
    have hLz3 : xw_Lz ρ2 (xw_kills c.2.2.2.2.2.1 S2).2.1 (xw_locs av 0) (xw_az (vs ++ rv.toList)) := by
      rw [hrv]
      have := xw_az_lz0 hsk2 h7
      simpa using this
    obtain ⟨ρ5, S5, k5, u5, hS5, hM5, e5⟩ := xw_tas_ok w3 k3 hS3 hM3' hLz3 hgz3 hfacts
    exact ⟨rv, ws', ρ5, none, S5, rfl, k5, ⟨w1, w2, w3, by rw [e5]; exact hDt3, by rw [e5]; exact hDc3, w6.trans has⟩, hu3.tr u5, hS5, hM5, by rw [hrv]; exact True.intro⟩
  · exact num 0 _ x.toInt (by omega) h0 hrv (fun ρ' n' l hl' => xw_hv.i hl') z1 z2
  · exact num 1 _ x.toInt (by omega) h1' hrv (fun ρ' n' l hl' => xw_hv.l hl') z1 z2
end
section
/-! a table of calls; a contract is checked -/
section XYb
variable {l : Launch} {I : Nat → Option xv_I} {hl : Nat × Int} {Γ : xv_A} {M : xv_M} {HS : List (List (List Nat))} {CT : List (List xw_C)} {F : Nat} {Qd : xw_Q}
def xw_MOK (M : xv_M) (I : Nat → Option xv_I) : Prop := ∀ (id : Nat) (q : List xv_E × Nat), xv_get 20 M id = some q → ∃ i : xv_I, I id = some i ∧ xw_okI i I q
def xw_VOK (l : Launch) (I : Nat → Option xv_I) (hl : Nat × Int) (Γ : xv_A) (CT : List (List xw_C)) (Qd : xw_Q) : Prop := ∀ caller pc cs, xw_find Qd.2.2 caller pc = some cs → ∀ j ∈ cs, ∀ c, xv_get 20 CT j = some c → xw_CV l I hl Γ c
theorem xy_calls {gh : List xw_L} (h9 : xv_get 14 Γ 9999 = none) (hN : xw_Nar Γ) (hM : xw_MOK M I) (hV : xw_VOK l I hl Γ CT Qd) : ∀ d0 dF, d0 ≤ dF → xw_CG l dF I hl Γ gh (xw_calls hl Γ M HS CT F gh Qd d0)
  | 0, _, _ => fun _ _ _ _ _ _ h => by cases h
  | d0 + 1, 0, hle => by omega
  | d0 + 1, d + 1, hle => by
    have ih := xy_calls (gh := gh) h9 hN hM hV d0 d (by omega)
    intro caller pc id av S kr h
    have h : ((match xw_find Qd.2.2 caller pc with
      | some cs => xw_orl (fun j => match xv_get 20 CT j with
        | some c => Nat.beq c.1 id && (Nat.ble c.2.2.2.2.2.2 (d0 + 1) && xw_cc hl Γ c av S kr)
        | none => false) cs
      | none => false) || (match xv_get 20 M id with
        | some q => (match xv_get 20 HS id with
          | some hs => bif Nat.ble (xw_cats av) q.2 then xw_run hl Γ gh Qd (xw_calls hl Γ M HS CT F gh Qd d0) id hs q.1 kr F q.1 0 [] 0 (xw_locs av q.2) [] S else false
          | none => false)
        | none => false)) = true := h
    rcases (Bool.or_eq_true _ _).mp h with h | h
    · cases hf : xw_find Qd.2.2 caller pc with
     | none => rw [hf] at h; cases h
     | some cs =>
      rw [hf] at h
      obtain ⟨j, hj, h⟩ := xw_orl_ok h
      cases hc : xv_get 20 CT j with
      | none => rw [hc] at h; cases h
      | some c =>
        rw [hc] at h
        obtain ⟨b1, h⟩ := xv_and_t h
        obtain ⟨b2, h⟩ := xv_and_t h
        have b1 := xv_beq b1
        have b2 := xv_ble b2
        obtain ⟨i, hi, hm⟩ := xy_cc (d := d + 1) (hV caller pc cs hf j hj c hc) (by omega) h
        rw [b1] at hi
        exact ⟨i, hi, fun D t X xs ws0 ws vs sz ρ gz a1 a2 a3 a4 a5 a6 a7 a8 a9 a10 => hm D t X xs ws0 ws vs sz ρ a1 a2 a3 a4 a5 a6 a7 a9 a10⟩
    · cases hq : xv_get 20 M id with
      | none => rw [hq] at h; cases h
      | some q =>
        rw [hq] at h
        dsimp only at h
        cases hh : xv_get 20 HS id with
        | none => rw [hh] at h; cases h
        | some hs =>
          rw [hh] at h
          dsimp only at h
          cases hb : Nat.ble (xw_cats av) q.2 with
          | false => rw [hb] at h; cases h
          | true =>
            rw [hb] at h
            simp only [cond_true] at h
            obtain ⟨i, hi, hok⟩ := hM id q hq
            exact ⟨i, hi, fun D t X xs ws0 ws vs sz ρ gz a1 a2 a3 a4 a5 a6 a7 a8 a9 a10 => xy_meth h9 hN ih hok (xv_ble hb) h D t X xs ws0 ws vs sz ρ gz a1 a2 a3 a4 a5 a6 a7 a8 a9 a10⟩
theorem xv_rep_get {α : Type} {a : α} : ∀ {n i : Nat}, i < n → (xv_rep n a)[i]? = some a
  | 0, _, h => absurd h (Nat.not_lt_zero _)
  | n + 1, 0, _ => rfl
  | n + 1, i + 1, h => xv_rep_get (n := n) (i := i) (by omega)
theorem xw_S0_ok {ρ : Nat → Int} : xw_St ρ xw_S0 := by
  refine ⟨fun v hv => absurd hv (Nat.not_lt_zero _), fun _ h => (by cases h), fun _ h => (by cases h), fun v hv => ⟨(0, 0), ?_⟩⟩
  rw [xv_get_eq]
  have e : xw_S0.1 = xv_rep 16 (xv_rep 16 (0, 0)) := rfl
  rw [e, xv_rep_get (by omega), Option.bind_some, xv_rep_get (by omega)]
theorem xw_mka_ok {X : xw_X} {as : List Nat} {μ : Nat → Nat → Value} : ∀ {sg : List (Nat × Int × Int)} {S : xw_S} {ρ : Nat → Int} {acc : List xw_V} {va vs : List Value} {k : List xw_V → xw_S → Bool}, xw_mka sg S acc k = true → xw_Sv X as sg vs → xw_St ρ S → xw_Me X as μ ρ S → xw_sk X as ρ S.2.1 acc va → (∀ w ∈ acc, w.1 ≤ 7) → ∃ ρ' S' av, k av S' = true ∧ xw_St ρ' S' ∧ xw_Me X as μ ρ' S' ∧ xw_sk X as ρ' S'.2.1 av (va ++ vs) ∧ (∀ w ∈ av, w.1 ≤ 7)
  | [], S, ρ, acc, va, [], k, h, _, hS, hM, hk, h7 => ⟨ρ, S, acc, h, hS, hM, by rw [List.append_nil]; exact hk, h7⟩
  | [], _, _, _, _, _ :: _, _, _, hv, _, _, _, _ => False.elim hv
  | _ :: _, _, _, _, _, [], _, _, hv, _, _, _, _ => False.elim hv
  | a :: sg, S, ρ, acc, va, x :: vs, k, h, hv, hS, hM, hk, h7 => by
    have h : (bif Nat.ble a.1 1 then xw_fr S a.2.1 a.2.2 (fun l S' => xw_mka sg S' (acc ++ [(a.1, l)]) k) else bif Nat.beq a.1 2 then xw_mka sg S (acc ++ [(2, (a.2.1, []))]) k else bif Nat.beq a.1 4 then xw_mka sg S (acc ++ [(4, (a.2.1, [(a.2.2.toNat, 0)]))]) k else bif Nat.beq a.1 6 then xw_mka sg S (acc ++ [(6, (0, []))]) k else false) = true := h
    obtain ⟨hv1, hv2⟩ := hv
    have ea : va ++ x :: vs = (va ++ [x]) ++ vs := by simp
    have h77 : ∀ v : xw_V, v.1 ≤ 7 → ∀ w ∈ acc ++ [v], w.1 ≤ 7 := fun v q w hw => (List.mem_append.mp hw).elim (h7 w) (fun e => by rw [List.mem_singleton.mp e]; exact q)
    rw [ea]
    have num : ∀ z : Int, a.1 ≤ 1 → a.2.1 ≤ z → z ≤ a.2.2 → (∀ (ρ' : Nat → Int) (n' : Nat) (l : xw_L), xw_is ρ' n' l z → xw_hv X as ρ' n' (a.1, l) x) → ∃ ρ' S' av, k av S' = true ∧ xw_St ρ' S' ∧ xw_Me X as μ ρ' S' ∧ xw_sk X as ρ' S'.2.1 av (va ++ [x] ++ vs) ∧ (∀ w ∈ av, w.1 ≤ 7) := by
      intro z q1 z1 z2 hx
      rw [Nat.ble_eq.mpr q1] at h
      simp only [cond_true] at h
      obtain ⟨ρ4, lf, S4, k4, u4, hS4, hl4, e4, -⟩ := xw_fr_ok hS h z1 z2
      exact xw_mka_ok k4 hv2 hS4 (xw_Me.fr hM u4 e4) (xw_sk.app (hk.more u4) ⟨hx ρ4 S4.2.1 lf hl4, True.intro⟩) (h77 _ (by show a.1 ≤ 7; omega))
    have b1 : ¬ a.1 ≤ 1 → Nat.ble a.1 1 = false := fun q => by
      cases w : Nat.ble a.1 1 with
      | true => exact absurd (xv_ble w) q
      | false => rfl
    rcases hv1 with ⟨e, i, rfl, z1, z2⟩ | ⟨e, i, rfl, z1, z2⟩ | ⟨e, ad, e1, e2⟩ | ⟨e, j, ad, e0, e1, e2⟩ | ⟨e, ad, e1, e2⟩
    · exact num i.toInt (by omega) z1 z2 (fun ρ' n' l hl' => by rw [e]; exact xw_hv.i hl')
    · exact num i.toInt (by omega) z1 z2 (fun ρ' n' l hl' => by rw [e]; exact xw_hv.l hl')
    · rw [b1 (by omega), e] at h
      simp only [cond_false, show Nat.beq 2 2 = true from rfl, cond_true] at h
      exact xw_mka_ok h hv2 hS hM (xw_sk.app hk ⟨⟨fun q => (by cases q), fun q => (by cases q), fun _ => ⟨ad, e1, e2⟩, fun q => (by cases q), fun q => (by cases q), fun q => (by cases q), fun q => (by cases q), fun q => (by cases q)⟩, True.intro⟩) (h77 _ (by show 2 ≤ 7; omega))
    · rw [b1 (by omega), e] at h
      simp only [cond_false, show Nat.beq 4 2 = false from rfl, show Nat.beq 4 4 = true from rfl, cond_true] at h
      exact xw_mka_ok h hv2 hS hM (xw_sk.app hk ⟨⟨fun q => (by cases q), fun q => (by cases q), fun q => (by cases q), fun q => (by cases q), fun _ => ⟨j, ad, e0, e1, e2⟩, fun q => (by cases q), fun q => (by cases q), fun q => (by cases q)⟩, True.intro⟩) (h77 _ (by show 4 ≤ 7; omega))
    · rw [b1 (by omega), e] at h
      simp only [cond_false, show Nat.beq 6 2 = false from rfl, show Nat.beq 6 4 = false from rfl, show Nat.beq 6 6 = true from rfl, cond_true] at h
      exact xw_mka_ok h hv2 hS hM (xw_sk.app hk ⟨⟨fun q => (by cases q), fun q => (by cases q), fun q => (by cases q), fun q => (by cases q), fun q => (by cases q), fun q => (by cases q), fun _ => ⟨ad, e1, e2⟩, fun q => (by cases q)⟩, True.intro⟩) (h77 _ (by show 6 ≤ 7; omega))
end XYb
end
section
/-! a contract that was checked holds -/
section XYc
variable {l : Launch} {I : Nat → Option xv_I} {hl : Nat × Int} {Γ : xv_A} {M : xv_M} {HS : List (List (List Nat))} {CT : List (List xw_C)} {F : Nat} {Qd : xw_Q}
theorem xy_con {c : xw_C} (h9 : xv_get 14 Γ 9999 = none) (hN : xw_Nar Γ) (hM : xw_MOK M I) (hV : xw_VOK l I hl Γ CT Qd) (h1 : 1 ≤ c.2.2.2.2.2.2) (h : xw_con hl Γ M HS CT F Qd c = true) : xw_CV l I hl Γ c := by
  unfold xw_con at h
  cases hq : xv_get 20 M c.1 with
  | none => rw [hq] at h; cases h
  | some q =>
    cases hh : xv_get 20 HS c.1 with
    | none => rw [hq, hh] at h; cases h
    | some hs =>
      rw [hq, hh] at h
      dsimp only at h
      obtain ⟨i, hi, hok⟩ := hM c.1 q hq
      refine ⟨i, hi, fun d hd D t X xs ws vs sz hI hWd hsv hpre hD0 => ?_⟩
      obtain ⟨ρ1, S1, av, k1, hS1, hM1, hsk1, h7⟩ := xw_mka_ok (X := X) (as := ws.map Prod.fst) (μ := xw_mu xs ws) (ρ := fun _ => 0) (va := []) h hsv xw_S0_ok ⟨fun _ h => (by cases h), fun _ h => (by cases h)⟩ True.intro (fun _ h => by cases h)
      rw [List.nil_append] at hsk1
      have hLz1 := xw_az_lz0 hsk1 h7
      obtain ⟨ρ2, S2, k2, u2, hS2, hM2, e2⟩ := xw_tas_ok (gz := fun _ => 0) hWd k1 hS1 hM1 hLz1 (fun _ _ q => by cases q) hpre
      obtain ⟨ρ3, S3, ⟨gs, k3, hgz⟩, u3, hS3, hM3, e3⟩ := xw_tgs_ok (ps := []) hWd k2 hS2 hM2 (hLz1.more u2) rfl (fun _ _ q => by cases q)
      cases hb : Nat.ble (xw_cats av) q.2 with
      | false => rw [hb] at k3; cases k3
      | true =>
        rw [hb] at k3
        simp only [cond_true] at k3
        have hCG := xy_calls (gh := gs) (HS := HS) (F := F) h9 hN hM hV (c.2.2.2.2.2.2 - 1) (d - 1) (by omega)
        have hm := xy_meth h9 hN hCG hok (xv_ble hb) k3 D t X xs ws ws vs sz ρ3 (xw_gv c vs (xw_mu xs ws)) hI hWd (fun _ _ _ => rfl) (fun _ _ => rfl) rfl hS3 hM3 hgz (hsk1.more (u2.tr u3)) hD0
        rw [show d - 1 + 1 = d by omega] at hm
        refine xy_mono hm (fun a st o tt hQ => ?_)
        obtain ⟨⟨rv, ws', ρ', r, S', rfl, hkr, ⟨w1, w2, w3, w4, w5, w6⟩, hu, hS', hM', hskr⟩, hF⟩ := hQ
        refine ⟨⟨rv, ws', rfl, ⟨w1, w2, w3, fun r' j' hf => w4 r' j' ?_, fun r' hr => w5 r' (fun c' hc' => ?_), w6⟩, ?_⟩, hF⟩
        · cases w : xw_isin S'.2.2.2.2.2.2 r' (j' + 1) with
          | false => rfl
          | true =>
            obtain ⟨c', hc', q'⟩ := xw_isin_mem w
            have := xw_anl_ok (xv_and_t hkr).1 _ hc'
            obtain ⟨c2, hc2, q2⟩ := xw_isin_mem this
            rw [xw_isin_of (by dsimp only at q2; omega) hc2] at hf
            cases hf
        · have := xw_anl_ok (xv_and_t hkr).1 _ hc'
          obtain ⟨c2, hc2, -⟩ := xw_isin_mem this
          exact hr c2 hc2
        · obtain ⟨p, hp, hp2⟩ := xw_orl_ok (xv_and_t hkr).2
          refine ⟨p, hp, ?_⟩
          have hsk' : xw_sk X (ws'.map Prod.fst) ρ' S'.2.1 av vs := by rw [w6]; exact (hsk1.more (u2.tr u3)).more hu
          have hgz' : xw_Gz ρ' S'.2.1 gs (xw_gv c vs (xw_mu xs ws)) := hgz.more hu
          match r, hp2, hskr with
          | none, hp2, hskr =>
            obtain ⟨b1, hp2⟩ := xv_and_t hp2
            have erv : rv = none := by
              cases rv with
              | none => rfl
              | some y => exact False.elim hskr
            subst erv
            refine ⟨Or.inl ⟨xv_beq b1, rfl⟩, ?_⟩
            have hLz' := xw_az_lz0 hsk' h7
            have ht := (xw_tpr_ok w3 hp2 hS' hM' hLz' hgz').1
            intro T hT
            have := ht T hT
            simpa using this
          | some v, hp2, hskr =>
            obtain ⟨b1, hp2⟩ := xv_and_t hp2
            obtain ⟨b2, hp2⟩ := xv_and_t hp2
            obtain ⟨b3, hp2⟩ := xv_and_t hp2
            obtain ⟨b4, hp2⟩ := xv_and_t hp2
            have b1 := xv_beq b1
            have b2 := xv_ble b2
            cases rv with
            | none => exact False.elim hskr
            | some y =>
              have hy : xw_hv X (ws'.map Prod.fst) ρ' S'.2.1 v y := hskr.1
              refine ⟨Or.inr ?_, ?_⟩
              · rcases Nat.le_one_iff_eq_zero_or_eq_one.mp b2 with q0 | q0
                · obtain ⟨i, rfl, hi'⟩ := hy.1 q0
                  have z1 := xw_prove_ok hS' b3 (hi'.k _)
                  have z2 := xw_prove_ok hS' b4 (hi'.neg.k _)
                  exact Or.inl ⟨by omega, i, rfl, by omega, by omega⟩
                · obtain ⟨i, rfl, hi'⟩ := hy.2.1 q0
                  have z1 := xw_prove_ok hS' b3 (hi'.k _)
                  have z2 := xw_prove_ok hS' b4 (hi'.neg.k _)
                  exact Or.inr ⟨by omega, i, rfl, by omega, by omega⟩
              · have hLz' := xw_az_lz (r := some v) (rv := some y) hskr hsk' h7
                exact (xw_tpr_ok w3 hp2 hS' hM' hLz' hgz').1
end XYc
end
