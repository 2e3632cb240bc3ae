-- ===== PART A: goes FIRST, ahead of the names: the tables' words, and 'selects' of the private methods out of them =====
/-- a private method of a class that the tables say can be made, by its rows of tables_1 -/
def lw_okq (q : MethodName × Nat) : Prop := (q.1.cls ≠ "java/lang/invoke/MethodHandle" ∧ q.1.cls ≠ "java/lang/invoke/VarHandle") ∧ Cond.instantiable q.1.cls q.2 ∈ tables_1 ∧ Cond.privateMethod q.1 ∈ tables_1 ∧ Cond.instanceMethod q.1 ∈ tables_1
theorem lw_p0 : lw_okq (⟨"GoatAbacus$Tape", "isNext", "(I)Z"⟩, 5) := ⟨⟨by decide +kernel, by decide +kernel⟩, List.mem_of_getElem? (i := 136) (by decide +kernel), List.mem_of_getElem? (i := 372) (by decide +kernel), List.mem_of_getElem? (i := 373) (by decide +kernel)⟩
theorem lw_p1 : lw_okq (⟨"GoatAbacus$Tape", "readStep", "(I)Z"⟩, 5) := ⟨⟨by decide +kernel, by decide +kernel⟩, List.mem_of_getElem? (i := 136) (by decide +kernel), List.mem_of_getElem? (i := 376) (by decide +kernel), List.mem_of_getElem? (i := 377) (by decide +kernel)⟩
theorem lw_p2 : lw_okq (⟨"GoatAbacus$Tape", "skipBlanks", "()V"⟩, 5) := ⟨⟨by decide +kernel, by decide +kernel⟩, List.mem_of_getElem? (i := 136) (by decide +kernel), List.mem_of_getElem? (i := 380) (by decide +kernel), List.mem_of_getElem? (i := 381) (by decide +kernel)⟩
theorem lw_p3 : lw_okq (⟨"GoatAbacus$Tape", "readNumber", "(I)Z"⟩, 5) := ⟨⟨by decide +kernel, by decide +kernel⟩, List.mem_of_getElem? (i := 136) (by decide +kernel), List.mem_of_getElem? (i := 467) (by decide +kernel), List.mem_of_getElem? (i := 468) (by decide +kernel)⟩
theorem lw_p4 : lw_okq (⟨"GoatAbacus$Tape", "readOften", "(I)Z"⟩, 5) := ⟨⟨by decide +kernel, by decide +kernel⟩, List.mem_of_getElem? (i := 136) (by decide +kernel), List.mem_of_getElem? (i := 474) (by decide +kernel), List.mem_of_getElem? (i := 475) (by decide +kernel)⟩
theorem lw_p5 : lw_okq (⟨"GoatAbacus", "isRope", "(I)Z"⟩, 18) := ⟨⟨by decide +kernel, by decide +kernel⟩, List.mem_of_getElem? (i := 26) (by decide +kernel), List.mem_of_getElem? (i := 518) (by decide +kernel), List.mem_of_getElem? (i := 519) (by decide +kernel)⟩
theorem lw_p6 : lw_okq (⟨"GoatAbacus", "actOnce", "(II)I"⟩, 18) := ⟨⟨by decide +kernel, by decide +kernel⟩, List.mem_of_getElem? (i := 26) (by decide +kernel), List.mem_of_getElem? (i := 543) (by decide +kernel), List.mem_of_getElem? (i := 544) (by decide +kernel)⟩
theorem lw_p7 : lw_okq (⟨"GoatAbacus", "perform", "(LGoatAbacus$Valley;IILGoatAbacus$Ear;)V"⟩, 18) := ⟨⟨by decide +kernel, by decide +kernel⟩, List.mem_of_getElem? (i := 26) (by decide +kernel), List.mem_of_getElem? (i := 558) (by decide +kernel), List.mem_of_getElem? (i := 559) (by decide +kernel)⟩
theorem lw_p8 : lw_okq (⟨"GoatAbacus$Valley", "draw", "()I"⟩, 13) := ⟨⟨by decide +kernel, by decide +kernel⟩, List.mem_of_getElem? (i := 34) (by decide +kernel), List.mem_of_getElem? (i := 578) (by decide +kernel), List.mem_of_getElem? (i := 579) (by decide +kernel)⟩
theorem lw_p9 : lw_okq (⟨"GoatAbacus$Valley", "drive", "(II)V"⟩, 13) := ⟨⟨by decide +kernel, by decide +kernel⟩, List.mem_of_getElem? (i := 34) (by decide +kernel), List.mem_of_getElem? (i := 589) (by decide +kernel), List.mem_of_getElem? (i := 590) (by decide +kernel)⟩
theorem lw_p10 : lw_okq (⟨"GoatAbacus$Valley", "stand", "(II)V"⟩, 13) := ⟨⟨by decide +kernel, by decide +kernel⟩, List.mem_of_getElem? (i := 34) (by decide +kernel), List.mem_of_getElem? (i := 594) (by decide +kernel), List.mem_of_getElem? (i := 595) (by decide +kernel)⟩
theorem lw_p11 : lw_okq (⟨"GoatAbacus", "sumAt", "(I)LGoatAbacus$Sum;"⟩, 18) := ⟨⟨by decide +kernel, by decide +kernel⟩, List.mem_of_getElem? (i := 26) (by decide +kernel), List.mem_of_getElem? (i := 623) (by decide +kernel), List.mem_of_getElem? (i := 624) (by decide +kernel)⟩
theorem lw_p12 : lw_okq (⟨"GoatAbacus$Timetable", "planRope", "(IIII)I"⟩, 11) := ⟨⟨by decide +kernel, by decide +kernel⟩, List.mem_of_getElem? (i := 200) (by decide +kernel), List.mem_of_getElem? (i := 678) (by decide +kernel), List.mem_of_getElem? (i := 679) (by decide +kernel)⟩
theorem lw_p13 : lw_okq (⟨"GoatAbacus$Timetable", "driveFrom", "(IIII)V"⟩, 11) := ⟨⟨by decide +kernel, by decide +kernel⟩, List.mem_of_getElem? (i := 200) (by decide +kernel), List.mem_of_getElem? (i := 682) (by decide +kernel), List.mem_of_getElem? (i := 683) (by decide +kernel)⟩
theorem lw_p14 : lw_okq (⟨"GoatAbacus$Ear", "alike", "(II)J"⟩, 3) := ⟨⟨by decide +kernel, by decide +kernel⟩, List.mem_of_getElem? (i := 163) (by decide +kernel), List.mem_of_getElem? (i := 751) (by decide +kernel), List.mem_of_getElem? (i := 752) (by decide +kernel)⟩
theorem lw_p15 : lw_okq (⟨"GoatAbacus$Ear", "spread", "(IJI)V"⟩, 3) := ⟨⟨by decide +kernel, by decide +kernel⟩, List.mem_of_getElem? (i := 163) (by decide +kernel), List.mem_of_getElem? (i := 759) (by decide +kernel), List.mem_of_getElem? (i := 760) (by decide +kernel)⟩
def lw_privs_1 : List (MethodName × Nat) := [(⟨"GoatAbacus$Tape", "isNext", "(I)Z"⟩, 5), (⟨"GoatAbacus$Tape", "readStep", "(I)Z"⟩, 5), (⟨"GoatAbacus$Tape", "skipBlanks", "()V"⟩, 5), (⟨"GoatAbacus$Tape", "readNumber", "(I)Z"⟩, 5), (⟨"GoatAbacus$Tape", "readOften", "(I)Z"⟩, 5), (⟨"GoatAbacus", "isRope", "(I)Z"⟩, 18), (⟨"GoatAbacus", "actOnce", "(II)I"⟩, 18), (⟨"GoatAbacus", "perform", "(LGoatAbacus$Valley;IILGoatAbacus$Ear;)V"⟩, 18), (⟨"GoatAbacus$Valley", "draw", "()I"⟩, 13), (⟨"GoatAbacus$Valley", "drive", "(II)V"⟩, 13), (⟨"GoatAbacus$Valley", "stand", "(II)V"⟩, 13), (⟨"GoatAbacus", "sumAt", "(I)LGoatAbacus$Sum;"⟩, 18), (⟨"GoatAbacus$Timetable", "planRope", "(IIII)I"⟩, 11), (⟨"GoatAbacus$Timetable", "driveFrom", "(IIII)V"⟩, 11), (⟨"GoatAbacus$Ear", "alike", "(II)J"⟩, 3), (⟨"GoatAbacus$Ear", "spread", "(IJI)V"⟩, 3)]
theorem lw_r1 : ∀ q ∈ lw_privs_1, lw_okq q := List.forall_mem_cons.mpr ⟨lw_p0, List.forall_mem_cons.mpr ⟨lw_p1, List.forall_mem_cons.mpr ⟨lw_p2, List.forall_mem_cons.mpr ⟨lw_p3, List.forall_mem_cons.mpr ⟨lw_p4, List.forall_mem_cons.mpr ⟨lw_p5, List.forall_mem_cons.mpr ⟨lw_p6, List.forall_mem_cons.mpr ⟨lw_p7, List.forall_mem_cons.mpr ⟨lw_p8, List.forall_mem_cons.mpr ⟨lw_p9, List.forall_mem_cons.mpr ⟨lw_p10, List.forall_mem_cons.mpr ⟨lw_p11, List.forall_mem_cons.mpr ⟨lw_p12, List.forall_mem_cons.mpr ⟨lw_p13, List.forall_mem_cons.mpr ⟨lw_p14, List.forall_mem_cons.mpr ⟨lw_p15, fun _ h => absurd h List.not_mem_nil⟩⟩⟩⟩⟩⟩⟩⟩⟩⟩⟩⟩⟩⟩⟩⟩
theorem lw_p16 : lw_okq (⟨"GoatAbacus$Veil", "countWays", "()V"⟩, 5) := ⟨⟨by decide +kernel, by decide +kernel⟩, List.mem_of_getElem? (i := 775) (by decide +kernel), List.mem_of_getElem? (i := 806) (by decide +kernel), List.mem_of_getElem? (i := 807) (by decide +kernel)⟩
theorem lw_p17 : lw_okq (⟨"GoatAbacus$Veil", "restOf", "(J)I"⟩, 5) := ⟨⟨by decide +kernel, by decide +kernel⟩, List.mem_of_getElem? (i := 775) (by decide +kernel), List.mem_of_getElem? (i := 811) (by decide +kernel), List.mem_of_getElem? (i := 812) (by decide +kernel)⟩
theorem lw_p18 : lw_okq (⟨"GoatAbacus$Valley", "startCounts", "()V"⟩, 13) := ⟨⟨by decide +kernel, by decide +kernel⟩, List.mem_of_getElem? (i := 34) (by decide +kernel), List.mem_of_getElem? (i := 846) (by decide +kernel), List.mem_of_getElem? (i := 847) (by decide +kernel)⟩
theorem lw_p19 : lw_okq (⟨"GoatAbacus$Store", "walksBy", "(LGoatAbacus$Valley;II)I"⟩, 4) := ⟨⟨by decide +kernel, by decide +kernel⟩, List.mem_of_getElem? (i := 179) (by decide +kernel), List.mem_of_getElem? (i := 865) (by decide +kernel), List.mem_of_getElem? (i := 866) (by decide +kernel)⟩
theorem lw_p20 : lw_okq (⟨"GoatAbacus$Store", "firstBehind", "(LGoatAbacus$Valley;I)I"⟩, 4) := ⟨⟨by decide +kernel, by decide +kernel⟩, List.mem_of_getElem? (i := 179) (by decide +kernel), List.mem_of_getElem? (i := 883) (by decide +kernel), List.mem_of_getElem? (i := 884) (by decide +kernel)⟩
theorem lw_p21 : lw_okq (⟨"GoatAbacus", "multiply", "(III)I"⟩, 18) := ⟨⟨by decide +kernel, by decide +kernel⟩, List.mem_of_getElem? (i := 26) (by decide +kernel), List.mem_of_getElem? (i := 925) (by decide +kernel), List.mem_of_getElem? (i := 926) (by decide +kernel)⟩
theorem lw_p22 : lw_okq (⟨"GoatAbacus", "multiplyByBits", "(II)I"⟩, 18) := ⟨⟨by decide +kernel, by decide +kernel⟩, List.mem_of_getElem? (i := 26) (by decide +kernel), List.mem_of_getElem? (i := 929) (by decide +kernel), List.mem_of_getElem? (i := 930) (by decide +kernel)⟩
theorem lw_p23 : lw_okq (⟨"GoatAbacus", "goThrough", "(LGoatAbacus$Sum;)V"⟩, 18) := ⟨⟨by decide +kernel, by decide +kernel⟩, List.mem_of_getElem? (i := 26) (by decide +kernel), List.mem_of_getElem? (i := 964) (by decide +kernel), List.mem_of_getElem? (i := 965) (by decide +kernel)⟩
theorem lw_p24 : lw_okq (⟨"GoatAbacus", "walksByOrder", "(II)I"⟩, 18) := ⟨⟨by decide +kernel, by decide +kernel⟩, List.mem_of_getElem? (i := 26) (by decide +kernel), List.mem_of_getElem? (i := 980) (by decide +kernel), List.mem_of_getElem? (i := 981) (by decide +kernel)⟩
theorem lw_p25 : lw_okq (⟨"GoatAbacus", "restByRank", "(III)I"⟩, 18) := ⟨⟨by decide +kernel, by decide +kernel⟩, List.mem_of_getElem? (i := 26) (by decide +kernel), List.mem_of_getElem? (i := 995) (by decide +kernel), List.mem_of_getElem? (i := 996) (by decide +kernel)⟩
theorem lw_p26 : lw_okq (⟨"GoatAbacus$Dogs", "comeBack", "(I)V"⟩, 15) := ⟨⟨by decide +kernel, by decide +kernel⟩, List.mem_of_getElem? (i := 241) (by decide +kernel), List.mem_of_getElem? (i := 1012) (by decide +kernel), List.mem_of_getElem? (i := 1013) (by decide +kernel)⟩
theorem lw_p27 : lw_okq (⟨"GoatAbacus$Dogs", "work", "(II)V"⟩, 15) := ⟨⟨by decide +kernel, by decide +kernel⟩, List.mem_of_getElem? (i := 241) (by decide +kernel), List.mem_of_getElem? (i := 1016) (by decide +kernel), List.mem_of_getElem? (i := 1017) (by decide +kernel)⟩
theorem lw_p28 : lw_okq (⟨"GoatAbacus$Dogs", "endDrive", "(I)V"⟩, 15) := ⟨⟨by decide +kernel, by decide +kernel⟩, List.mem_of_getElem? (i := 241) (by decide +kernel), List.mem_of_getElem? (i := 1020) (by decide +kernel), List.mem_of_getElem? (i := 1021) (by decide +kernel)⟩
theorem lw_p29 : lw_okq (⟨"GoatAbacus$Dogs", "nextDrive", "(II)I"⟩, 15) := ⟨⟨by decide +kernel, by decide +kernel⟩, List.mem_of_getElem? (i := 241) (by decide +kernel), List.mem_of_getElem? (i := 1024) (by decide +kernel), List.mem_of_getElem? (i := 1025) (by decide +kernel)⟩
theorem lw_p30 : lw_okq (⟨"GoatAbacus$Dogs", "beginDrive", "(III)V"⟩, 15) := ⟨⟨by decide +kernel, by decide +kernel⟩, List.mem_of_getElem? (i := 241) (by decide +kernel), List.mem_of_getElem? (i := 1028) (by decide +kernel), List.mem_of_getElem? (i := 1029) (by decide +kernel)⟩
theorem lw_p31 : lw_okq (⟨"GoatAbacus$Dogs", "sendOut", "(II)V"⟩, 15) := ⟨⟨by decide +kernel, by decide +kernel⟩, List.mem_of_getElem? (i := 241) (by decide +kernel), List.mem_of_getElem? (i := 1034) (by decide +kernel), List.mem_of_getElem? (i := 1035) (by decide +kernel)⟩
def lw_privs_2 : List (MethodName × Nat) := [(⟨"GoatAbacus$Veil", "countWays", "()V"⟩, 5), (⟨"GoatAbacus$Veil", "restOf", "(J)I"⟩, 5), (⟨"GoatAbacus$Valley", "startCounts", "()V"⟩, 13), (⟨"GoatAbacus$Store", "walksBy", "(LGoatAbacus$Valley;II)I"⟩, 4), (⟨"GoatAbacus$Store", "firstBehind", "(LGoatAbacus$Valley;I)I"⟩, 4), (⟨"GoatAbacus", "multiply", "(III)I"⟩, 18), (⟨"GoatAbacus", "multiplyByBits", "(II)I"⟩, 18), (⟨"GoatAbacus", "goThrough", "(LGoatAbacus$Sum;)V"⟩, 18), (⟨"GoatAbacus", "walksByOrder", "(II)I"⟩, 18), (⟨"GoatAbacus", "restByRank", "(III)I"⟩, 18), (⟨"GoatAbacus$Dogs", "comeBack", "(I)V"⟩, 15), (⟨"GoatAbacus$Dogs", "work", "(II)V"⟩, 15), (⟨"GoatAbacus$Dogs", "endDrive", "(I)V"⟩, 15), (⟨"GoatAbacus$Dogs", "nextDrive", "(II)I"⟩, 15), (⟨"GoatAbacus$Dogs", "beginDrive", "(III)V"⟩, 15), (⟨"GoatAbacus$Dogs", "sendOut", "(II)V"⟩, 15)]
theorem lw_r2 : ∀ q ∈ lw_privs_2, lw_okq q := List.forall_mem_cons.mpr ⟨lw_p16, List.forall_mem_cons.mpr ⟨lw_p17, List.forall_mem_cons.mpr ⟨lw_p18, List.forall_mem_cons.mpr ⟨lw_p19, List.forall_mem_cons.mpr ⟨lw_p20, List.forall_mem_cons.mpr ⟨lw_p21, List.forall_mem_cons.mpr ⟨lw_p22, List.forall_mem_cons.mpr ⟨lw_p23, List.forall_mem_cons.mpr ⟨lw_p24, List.forall_mem_cons.mpr ⟨lw_p25, List.forall_mem_cons.mpr ⟨lw_p26, List.forall_mem_cons.mpr ⟨lw_p27, List.forall_mem_cons.mpr ⟨lw_p28, List.forall_mem_cons.mpr ⟨lw_p29, List.forall_mem_cons.mpr ⟨lw_p30, List.forall_mem_cons.mpr ⟨lw_p31, fun _ h => absurd h List.not_mem_nil⟩⟩⟩⟩⟩⟩⟩⟩⟩⟩⟩⟩⟩⟩⟩⟩
theorem lw_p32 : lw_okq (⟨"GoatAbacus$Dogs", "isAtRest", "()Z"⟩, 15) := ⟨⟨by decide +kernel, by decide +kernel⟩, List.mem_of_getElem? (i := 241) (by decide +kernel), List.mem_of_getElem? (i := 1038) (by decide +kernel), List.mem_of_getElem? (i := 1039) (by decide +kernel)⟩
theorem lw_p33 : lw_okq (⟨"java/lang/Throwable", "fillInStackTrace", "(I)Ljava/lang/Throwable;"⟩, 6) := ⟨⟨by decide +kernel, by decide +kernel⟩, List.mem_of_getElem? (i := 1114) (by decide +kernel), List.mem_of_getElem? (i := 1112) (by decide +kernel), List.mem_of_getElem? (i := 1113) (by decide +kernel)⟩
theorem lw_p34 : lw_okq (⟨"GoatAbacusModel", "read", "(I)I"⟩, 57) := ⟨⟨by decide +kernel, by decide +kernel⟩, List.mem_of_getElem? (i := 1144) (by decide +kernel), List.mem_of_getElem? (i := 1343) (by decide +kernel), List.mem_of_getElem? (i := 1344) (by decide +kernel)⟩
theorem lw_p35 : lw_okq (⟨"GoatAbacusModel", "stepOf", "(I)V"⟩, 57) := ⟨⟨by decide +kernel, by decide +kernel⟩, List.mem_of_getElem? (i := 1144) (by decide +kernel), List.mem_of_getElem? (i := 1347) (by decide +kernel), List.mem_of_getElem? (i := 1348) (by decide +kernel)⟩
theorem lw_p36 : lw_okq (⟨"GoatAbacusModel", "look", "()I"⟩, 57) := ⟨⟨by decide +kernel, by decide +kernel⟩, List.mem_of_getElem? (i := 1144) (by decide +kernel), List.mem_of_getElem? (i := 1351) (by decide +kernel), List.mem_of_getElem? (i := 1352) (by decide +kernel)⟩
theorem lw_p37 : lw_okq (⟨"GoatAbacusModel", "here", "()I"⟩, 57) := ⟨⟨by decide +kernel, by decide +kernel⟩, List.mem_of_getElem? (i := 1144) (by decide +kernel), List.mem_of_getElem? (i := 1355) (by decide +kernel), List.mem_of_getElem? (i := 1356) (by decide +kernel)⟩
theorem lw_p38 : lw_okq (⟨"GoatAbacusModel", "bad", "()V"⟩, 57) := ⟨⟨by decide +kernel, by decide +kernel⟩, List.mem_of_getElem? (i := 1144) (by decide +kernel), List.mem_of_getElem? (i := 1359) (by decide +kernel), List.mem_of_getElem? (i := 1360) (by decide +kernel)⟩
theorem lw_p39 : lw_okq (⟨"GoatAbacusModel", "numeral", "()I"⟩, 57) := ⟨⟨by decide +kernel, by decide +kernel⟩, List.mem_of_getElem? (i := 1144) (by decide +kernel), List.mem_of_getElem? (i := 1363) (by decide +kernel), List.mem_of_getElem? (i := 1364) (by decide +kernel)⟩
theorem lw_p40 : lw_okq (⟨"GoatAbacusModel", "isSum", "(I)Z"⟩, 57) := ⟨⟨by decide +kernel, by decide +kernel⟩, List.mem_of_getElem? (i := 1144) (by decide +kernel), List.mem_of_getElem? (i := 1378) (by decide +kernel), List.mem_of_getElem? (i := 1379) (by decide +kernel)⟩
theorem lw_p41 : lw_okq (⟨"GoatAbacusModel", "isRope", "(I)Z"⟩, 57) := ⟨⟨by decide +kernel, by decide +kernel⟩, List.mem_of_getElem? (i := 1144) (by decide +kernel), List.mem_of_getElem? (i := 1396) (by decide +kernel), List.mem_of_getElem? (i := 1397) (by decide +kernel)⟩
theorem lw_p42 : lw_okq (⟨"GoatAbacusModel", "addOf", "(II)V"⟩, 57) := ⟨⟨by decide +kernel, by decide +kernel⟩, List.mem_of_getElem? (i := 1144) (by decide +kernel), List.mem_of_getElem? (i := 1415) (by decide +kernel), List.mem_of_getElem? (i := 1416) (by decide +kernel)⟩
theorem lw_p43 : lw_okq (⟨"GoatAbacusModel", "keep", "()V"⟩, 57) := ⟨⟨by decide +kernel, by decide +kernel⟩, List.mem_of_getElem? (i := 1144) (by decide +kernel), List.mem_of_getElem? (i := 1419) (by decide +kernel), List.mem_of_getElem? (i := 1420) (by decide +kernel)⟩
theorem lw_p44 : lw_okq (⟨"GoatAbacusModel", "highest", "(J)I"⟩, 57) := ⟨⟨by decide +kernel, by decide +kernel⟩, List.mem_of_getElem? (i := 1144) (by decide +kernel), List.mem_of_getElem? (i := 1423) (by decide +kernel), List.mem_of_getElem? (i := 1424) (by decide +kernel)⟩
theorem lw_p45 : lw_okq (⟨"GoatAbacusModel", "heard", "(I)I"⟩, 57) := ⟨⟨by decide +kernel, by decide +kernel⟩, List.mem_of_getElem? (i := 1144) (by decide +kernel), List.mem_of_getElem? (i := 1431) (by decide +kernel), List.mem_of_getElem? (i := 1432) (by decide +kernel)⟩
theorem lw_p46 : lw_okq (⟨"GoatAbacusModel", "draw", "()I"⟩, 57) := ⟨⟨by decide +kernel, by decide +kernel⟩, List.mem_of_getElem? (i := 1144) (by decide +kernel), List.mem_of_getElem? (i := 1435) (by decide +kernel), List.mem_of_getElem? (i := 1436) (by decide +kernel)⟩
theorem lw_p47 : lw_okq (⟨"GoatAbacusModel", "drive", "(III)V"⟩, 57) := ⟨⟨by decide +kernel, by decide +kernel⟩, List.mem_of_getElem? (i := 1144) (by decide +kernel), List.mem_of_getElem? (i := 1441) (by decide +kernel), List.mem_of_getElem? (i := 1442) (by decide +kernel)⟩
def lw_privs_3 : List (MethodName × Nat) := [(⟨"GoatAbacus$Dogs", "isAtRest", "()Z"⟩, 15), (⟨"java/lang/Throwable", "fillInStackTrace", "(I)Ljava/lang/Throwable;"⟩, 6), (⟨"GoatAbacusModel", "read", "(I)I"⟩, 57), (⟨"GoatAbacusModel", "stepOf", "(I)V"⟩, 57), (⟨"GoatAbacusModel", "look", "()I"⟩, 57), (⟨"GoatAbacusModel", "here", "()I"⟩, 57), (⟨"GoatAbacusModel", "bad", "()V"⟩, 57), (⟨"GoatAbacusModel", "numeral", "()I"⟩, 57), (⟨"GoatAbacusModel", "isSum", "(I)Z"⟩, 57), (⟨"GoatAbacusModel", "isRope", "(I)Z"⟩, 57), (⟨"GoatAbacusModel", "addOf", "(II)V"⟩, 57), (⟨"GoatAbacusModel", "keep", "()V"⟩, 57), (⟨"GoatAbacusModel", "highest", "(J)I"⟩, 57), (⟨"GoatAbacusModel", "heard", "(I)I"⟩, 57), (⟨"GoatAbacusModel", "draw", "()I"⟩, 57), (⟨"GoatAbacusModel", "drive", "(III)V"⟩, 57)]
theorem lw_r3 : ∀ q ∈ lw_privs_3, lw_okq q := List.forall_mem_cons.mpr ⟨lw_p32, List.forall_mem_cons.mpr ⟨lw_p33, List.forall_mem_cons.mpr ⟨lw_p34, List.forall_mem_cons.mpr ⟨lw_p35, List.forall_mem_cons.mpr ⟨lw_p36, List.forall_mem_cons.mpr ⟨lw_p37, List.forall_mem_cons.mpr ⟨lw_p38, List.forall_mem_cons.mpr ⟨lw_p39, List.forall_mem_cons.mpr ⟨lw_p40, List.forall_mem_cons.mpr ⟨lw_p41, List.forall_mem_cons.mpr ⟨lw_p42, List.forall_mem_cons.mpr ⟨lw_p43, List.forall_mem_cons.mpr ⟨lw_p44, List.forall_mem_cons.mpr ⟨lw_p45, List.forall_mem_cons.mpr ⟨lw_p46, List.forall_mem_cons.mpr ⟨lw_p47, fun _ h => absurd h List.not_mem_nil⟩⟩⟩⟩⟩⟩⟩⟩⟩⟩⟩⟩⟩⟩⟩⟩
theorem lw_p48 : lw_okq (⟨"GoatAbacusModel", "become", "(II)V"⟩, 57) := ⟨⟨by decide +kernel, by decide +kernel⟩, List.mem_of_getElem? (i := 1144) (by decide +kernel), List.mem_of_getElem? (i := 1445) (by decide +kernel), List.mem_of_getElem? (i := 1446) (by decide +kernel)⟩
theorem lw_p49 : lw_okq (⟨"GoatAbacusModel", "actOf", "(I)V"⟩, 57) := ⟨⟨by decide +kernel, by decide +kernel⟩, List.mem_of_getElem? (i := 1144) (by decide +kernel), List.mem_of_getElem? (i := 1455) (by decide +kernel), List.mem_of_getElem? (i := 1456) (by decide +kernel)⟩
theorem lw_p50 : lw_okq (⟨"GoatAbacusModel", "runOf", "(I)V"⟩, 57) := ⟨⟨by decide +kernel, by decide +kernel⟩, List.mem_of_getElem? (i := 1144) (by decide +kernel), List.mem_of_getElem? (i := 1463) (by decide +kernel), List.mem_of_getElem? (i := 1464) (by decide +kernel)⟩
theorem lw_p51 : lw_okq (⟨"GoatAbacusModel", "seen", "(I)I"⟩, 57) := ⟨⟨by decide +kernel, by decide +kernel⟩, List.mem_of_getElem? (i := 1144) (by decide +kernel), List.mem_of_getElem? (i := 1478) (by decide +kernel), List.mem_of_getElem? (i := 1479) (by decide +kernel)⟩
theorem lw_p52 : lw_okq (⟨"GoatAbacusModel", "workAll", "(I)V"⟩, 57) := ⟨⟨by decide +kernel, by decide +kernel⟩, List.mem_of_getElem? (i := 1144) (by decide +kernel), List.mem_of_getElem? (i := 1495) (by decide +kernel), List.mem_of_getElem? (i := 1496) (by decide +kernel)⟩
theorem lw_p53 : lw_okq (⟨"GoatAbacusModel", "seenNumber", "()J"⟩, 57) := ⟨⟨by decide +kernel, by decide +kernel⟩, List.mem_of_getElem? (i := 1144) (by decide +kernel), List.mem_of_getElem? (i := 1513) (by decide +kernel), List.mem_of_getElem? (i := 1514) (by decide +kernel)⟩
theorem lw_p54 : lw_okq (⟨"GoatAbacusModel", "many", "(J)I"⟩, 57) := ⟨⟨by decide +kernel, by decide +kernel⟩, List.mem_of_getElem? (i := 1144) (by decide +kernel), List.mem_of_getElem? (i := 1524) (by decide +kernel), List.mem_of_getElem? (i := 1525) (by decide +kernel)⟩
theorem lw_p55 : lw_okq (⟨"GoatAbacusModel", "alike", "(II)J"⟩, 57) := ⟨⟨by decide +kernel, by decide +kernel⟩, List.mem_of_getElem? (i := 1144) (by decide +kernel), List.mem_of_getElem? (i := 1528) (by decide +kernel), List.mem_of_getElem? (i := 1529) (by decide +kernel)⟩
theorem lw_p56 : lw_okq (⟨"GoatAbacusModel", "itself", "(I)I"⟩, 57) := ⟨⟨by decide +kernel, by decide +kernel⟩, List.mem_of_getElem? (i := 1144) (by decide +kernel), List.mem_of_getElem? (i := 1532) (by decide +kernel), List.mem_of_getElem? (i := 1533) (by decide +kernel)⟩
theorem lw_p57 : lw_okq (⟨"GoatAbacusModel", "rightly", "(I)J"⟩, 57) := ⟨⟨by decide +kernel, by decide +kernel⟩, List.mem_of_getElem? (i := 1144) (by decide +kernel), List.mem_of_getElem? (i := 1536) (by decide +kernel), List.mem_of_getElem? (i := 1537) (by decide +kernel)⟩
theorem lw_p58 : lw_okq (⟨"GoatAbacusModel", "sumOf", "(I)J"⟩, 57) := ⟨⟨by decide +kernel, by decide +kernel⟩, List.mem_of_getElem? (i := 1144) (by decide +kernel), List.mem_of_getElem? (i := 1567) (by decide +kernel), List.mem_of_getElem? (i := 1568) (by decide +kernel)⟩
theorem lw_p59 : lw_okq (⟨"GoatAbacusModel", "lookOnward", "()V"⟩, 57) := ⟨⟨by decide +kernel, by decide +kernel⟩, List.mem_of_getElem? (i := 1144) (by decide +kernel), List.mem_of_getElem? (i := 1574) (by decide +kernel), List.mem_of_getElem? (i := 1575) (by decide +kernel)⟩
theorem lw_p60 : lw_okq (⟨"GoatAbacusModel", "comes", "(I)I"⟩, 57) := ⟨⟨by decide +kernel, by decide +kernel⟩, List.mem_of_getElem? (i := 1144) (by decide +kernel), List.mem_of_getElem? (i := 1578) (by decide +kernel), List.mem_of_getElem? (i := 1579) (by decide +kernel)⟩
theorem lw_p61 : lw_okq (⟨"GoatAbacusModel", "multiply", "(III)V"⟩, 57) := ⟨⟨by decide +kernel, by decide +kernel⟩, List.mem_of_getElem? (i := 1144) (by decide +kernel), List.mem_of_getElem? (i := 1595) (by decide +kernel), List.mem_of_getElem? (i := 1596) (by decide +kernel)⟩
theorem lw_p62 : lw_okq (⟨"GoatAbacusModel", "twice", "()V"⟩, 57) := ⟨⟨by decide +kernel, by decide +kernel⟩, List.mem_of_getElem? (i := 1144) (by decide +kernel), List.mem_of_getElem? (i := 1599) (by decide +kernel), List.mem_of_getElem? (i := 1600) (by decide +kernel)⟩
theorem lw_p63 : lw_okq (⟨"GoatAbacusModel", "addTo", "(J)V"⟩, 57) := ⟨⟨by decide +kernel, by decide +kernel⟩, List.mem_of_getElem? (i := 1144) (by decide +kernel), List.mem_of_getElem? (i := 1603) (by decide +kernel), List.mem_of_getElem? (i := 1604) (by decide +kernel)⟩
def lw_privs_4 : List (MethodName × Nat) := [(⟨"GoatAbacusModel", "become", "(II)V"⟩, 57), (⟨"GoatAbacusModel", "actOf", "(I)V"⟩, 57), (⟨"GoatAbacusModel", "runOf", "(I)V"⟩, 57), (⟨"GoatAbacusModel", "seen", "(I)I"⟩, 57), (⟨"GoatAbacusModel", "workAll", "(I)V"⟩, 57), (⟨"GoatAbacusModel", "seenNumber", "()J"⟩, 57), (⟨"GoatAbacusModel", "many", "(J)I"⟩, 57), (⟨"GoatAbacusModel", "alike", "(II)J"⟩, 57), (⟨"GoatAbacusModel", "itself", "(I)I"⟩, 57), (⟨"GoatAbacusModel", "rightly", "(I)J"⟩, 57), (⟨"GoatAbacusModel", "sumOf", "(I)J"⟩, 57), (⟨"GoatAbacusModel", "lookOnward", "()V"⟩, 57), (⟨"GoatAbacusModel", "comes", "(I)I"⟩, 57), (⟨"GoatAbacusModel", "multiply", "(III)V"⟩, 57), (⟨"GoatAbacusModel", "twice", "()V"⟩, 57), (⟨"GoatAbacusModel", "addTo", "(J)V"⟩, 57)]
theorem lw_r4 : ∀ q ∈ lw_privs_4, lw_okq q := List.forall_mem_cons.mpr ⟨lw_p48, List.forall_mem_cons.mpr ⟨lw_p49, List.forall_mem_cons.mpr ⟨lw_p50, List.forall_mem_cons.mpr ⟨lw_p51, List.forall_mem_cons.mpr ⟨lw_p52, List.forall_mem_cons.mpr ⟨lw_p53, List.forall_mem_cons.mpr ⟨lw_p54, List.forall_mem_cons.mpr ⟨lw_p55, List.forall_mem_cons.mpr ⟨lw_p56, List.forall_mem_cons.mpr ⟨lw_p57, List.forall_mem_cons.mpr ⟨lw_p58, List.forall_mem_cons.mpr ⟨lw_p59, List.forall_mem_cons.mpr ⟨lw_p60, List.forall_mem_cons.mpr ⟨lw_p61, List.forall_mem_cons.mpr ⟨lw_p62, List.forall_mem_cons.mpr ⟨lw_p63, fun _ h => absurd h List.not_mem_nil⟩⟩⟩⟩⟩⟩⟩⟩⟩⟩⟩⟩⟩⟩⟩⟩
theorem lw_p64 : lw_okq (⟨"GoatAbacusModel", "isOf", "(I)Z"⟩, 57) := ⟨⟨by decide +kernel, by decide +kernel⟩, List.mem_of_getElem? (i := 1144) (by decide +kernel), List.mem_of_getElem? (i := 1616) (by decide +kernel), List.mem_of_getElem? (i := 1617) (by decide +kernel)⟩
theorem lw_p65 : lw_okq (⟨"GoatAbacusModel", "makes", "(I)Z"⟩, 57) := ⟨⟨by decide +kernel, by decide +kernel⟩, List.mem_of_getElem? (i := 1144) (by decide +kernel), List.mem_of_getElem? (i := 1620) (by decide +kernel), List.mem_of_getElem? (i := 1621) (by decide +kernel)⟩
theorem lw_p66 : lw_okq (⟨"GoatAbacusModel", "nextRow", "(I)Z"⟩, 57) := ⟨⟨by decide +kernel, by decide +kernel⟩, List.mem_of_getElem? (i := 1144) (by decide +kernel), List.mem_of_getElem? (i := 1624) (by decide +kernel), List.mem_of_getElem? (i := 1625) (by decide +kernel)⟩
theorem lw_p67 : lw_okq (⟨"GoatAbacusModel", "tailFrom", "(I)I"⟩, 57) := ⟨⟨by decide +kernel, by decide +kernel⟩, List.mem_of_getElem? (i := 1144) (by decide +kernel), List.mem_of_getElem? (i := 1628) (by decide +kernel), List.mem_of_getElem? (i := 1629) (by decide +kernel)⟩
theorem lw_p68 : lw_okq (⟨"GoatAbacusModel", "begin", "(Z)V"⟩, 57) := ⟨⟨by decide +kernel, by decide +kernel⟩, List.mem_of_getElem? (i := 1144) (by decide +kernel), List.mem_of_getElem? (i := 1637) (by decide +kernel), List.mem_of_getElem? (i := 1638) (by decide +kernel)⟩
theorem lw_p69 : lw_okq (⟨"GoatAbacusModel", "over", "()V"⟩, 57) := ⟨⟨by decide +kernel, by decide +kernel⟩, List.mem_of_getElem? (i := 1144) (by decide +kernel), List.mem_of_getElem? (i := 1642) (by decide +kernel), List.mem_of_getElem? (i := 1643) (by decide +kernel)⟩
theorem lw_p70 : lw_okq (⟨"GoatAbacusModel", "standingAt", "(III)I"⟩, 57) := ⟨⟨by decide +kernel, by decide +kernel⟩, List.mem_of_getElem? (i := 1144) (by decide +kernel), List.mem_of_getElem? (i := 1662) (by decide +kernel), List.mem_of_getElem? (i := 1663) (by decide +kernel)⟩
theorem lw_p71 : lw_okq (⟨"GoatAbacusModel", "heardAs", "(IJ)J"⟩, 57) := ⟨⟨by decide +kernel, by decide +kernel⟩, List.mem_of_getElem? (i := 1144) (by decide +kernel), List.mem_of_getElem? (i := 1670) (by decide +kernel), List.mem_of_getElem? (i := 1671) (by decide +kernel)⟩
theorem lw_p72 : lw_okq (⟨"GoatAbacusModel", "relayOf", "(III)I"⟩, 57) := ⟨⟨by decide +kernel, by decide +kernel⟩, List.mem_of_getElem? (i := 1144) (by decide +kernel), List.mem_of_getElem? (i := 1704) (by decide +kernel), List.mem_of_getElem? (i := 1705) (by decide +kernel)⟩
theorem lw_p73 : lw_okq (⟨"GoatAbacusModel", "work", "(IIII)V"⟩, 57) := ⟨⟨by decide +kernel, by decide +kernel⟩, List.mem_of_getElem? (i := 1144) (by decide +kernel), List.mem_of_getElem? (i := 1708) (by decide +kernel), List.mem_of_getElem? (i := 1709) (by decide +kernel)⟩
theorem lw_p74 : lw_okq (⟨"GoatAbacusModel", "ends", "(IZ)V"⟩, 57) := ⟨⟨by decide +kernel, by decide +kernel⟩, List.mem_of_getElem? (i := 1144) (by decide +kernel), List.mem_of_getElem? (i := 1712) (by decide +kernel), List.mem_of_getElem? (i := 1713) (by decide +kernel)⟩
theorem lw_p75 : lw_okq (⟨"GoatAbacusModel", "areAtRest", "(II)Z"⟩, 57) := ⟨⟨by decide +kernel, by decide +kernel⟩, List.mem_of_getElem? (i := 1144) (by decide +kernel), List.mem_of_getElem? (i := 1716) (by decide +kernel), List.mem_of_getElem? (i := 1717) (by decide +kernel)⟩
theorem lw_p76 : lw_okq (⟨"GoatAbacusModel", "makeAll", "()V"⟩, 57) := ⟨⟨by decide +kernel, by decide +kernel⟩, List.mem_of_getElem? (i := 1144) (by decide +kernel), List.mem_of_getElem? (i := 1729) (by decide +kernel), List.mem_of_getElem? (i := 1730) (by decide +kernel)⟩
theorem lw_p77 : lw_okq (⟨"GoatAbacusModel", "relax", "(III)V"⟩, 57) := ⟨⟨by decide +kernel, by decide +kernel⟩, List.mem_of_getElem? (i := 1144) (by decide +kernel), List.mem_of_getElem? (i := 1733) (by decide +kernel), List.mem_of_getElem? (i := 1734) (by decide +kernel)⟩
def lw_privs_5 : List (MethodName × Nat) := [(⟨"GoatAbacusModel", "isOf", "(I)Z"⟩, 57), (⟨"GoatAbacusModel", "makes", "(I)Z"⟩, 57), (⟨"GoatAbacusModel", "nextRow", "(I)Z"⟩, 57), (⟨"GoatAbacusModel", "tailFrom", "(I)I"⟩, 57), (⟨"GoatAbacusModel", "begin", "(Z)V"⟩, 57), (⟨"GoatAbacusModel", "over", "()V"⟩, 57), (⟨"GoatAbacusModel", "standingAt", "(III)I"⟩, 57), (⟨"GoatAbacusModel", "heardAs", "(IJ)J"⟩, 57), (⟨"GoatAbacusModel", "relayOf", "(III)I"⟩, 57), (⟨"GoatAbacusModel", "work", "(IIII)V"⟩, 57), (⟨"GoatAbacusModel", "ends", "(IZ)V"⟩, 57), (⟨"GoatAbacusModel", "areAtRest", "(II)Z"⟩, 57), (⟨"GoatAbacusModel", "makeAll", "()V"⟩, 57), (⟨"GoatAbacusModel", "relax", "(III)V"⟩, 57)]
theorem lw_r5 : ∀ q ∈ lw_privs_5, lw_okq q := List.forall_mem_cons.mpr ⟨lw_p64, List.forall_mem_cons.mpr ⟨lw_p65, List.forall_mem_cons.mpr ⟨lw_p66, List.forall_mem_cons.mpr ⟨lw_p67, List.forall_mem_cons.mpr ⟨lw_p68, List.forall_mem_cons.mpr ⟨lw_p69, List.forall_mem_cons.mpr ⟨lw_p70, List.forall_mem_cons.mpr ⟨lw_p71, List.forall_mem_cons.mpr ⟨lw_p72, List.forall_mem_cons.mpr ⟨lw_p73, List.forall_mem_cons.mpr ⟨lw_p74, List.forall_mem_cons.mpr ⟨lw_p75, List.forall_mem_cons.mpr ⟨lw_p76, List.forall_mem_cons.mpr ⟨lw_p77, fun _ h => absurd h List.not_mem_nil⟩⟩⟩⟩⟩⟩⟩⟩⟩⟩⟩⟩⟩⟩
def lw_privs : List (MethodName × Nat) := lw_privs_1 ++ (lw_privs_2 ++ (lw_privs_3 ++ (lw_privs_4 ++ (lw_privs_5))))
def lw_tbl : List Cond := k2_sels lw_privs ++ tables_1
theorem lw_privs_ok : ∀ q ∈ lw_privs, lw_okq q := by
  show ∀ q ∈ lw_privs_1 ++ (lw_privs_2 ++ (lw_privs_3 ++ (lw_privs_4 ++ (lw_privs_5)))), lw_okq q
  exact List.forall_mem_append.mpr ⟨lw_r1, List.forall_mem_append.mpr ⟨lw_r2, List.forall_mem_append.mpr ⟨lw_r3, List.forall_mem_append.mpr ⟨lw_r4, lw_r5⟩⟩⟩⟩
def RX0 : String := "GoatAbacus$Dogs"
def TX0 : u_T := fun k => match k with
  | 0 => ("GoatAbacus$Dogs", "digits", "[I", true)
  | 1 => ("GoatAbacus$Dogs", "flock", "[I", true)
  | 2 => ("GoatAbacus$Dogs", "own", "[I", true)
  | 3 => ("GoatAbacus$Dogs", "came", "[I", true)
  | 4 => ("GoatAbacus$Dogs", "busy", "[Z", true)
  | 5 => ("GoatAbacus$Dogs", "ends", "[I", true)
  | 6 => ("GoatAbacus$Dogs", "tos", "[I", true)
  | 7 => ("GoatAbacus$Dogs", "carries", "[Z", true)
  | 8 => ("GoatAbacus$Dogs", "waits", "[Z", true)
  | 9 => ("GoatAbacus$Dogs", "comes", "[I", true)
  | 10 => ("GoatAbacus$Dogs", "ropes", "I", false)
  | 11 => ("GoatAbacus$Dogs", "shout", "I", false)
  | 12 => ("GoatAbacus$Dogs", "heardLast", "I", false)
  | 13 => ("GoatAbacus$Dogs", "pace", "I", false)
  | _ => ("GoatAbacus$Dogs", "freeDogs", "I", false)
def tyX0 : Nat → FieldType := fun k => match k with
  | 0 => .array .int
  | 1 => .array .int
  | 2 => .array .int
  | 3 => .array .int
  | 4 => .array .boolean
  | 5 => .array .int
  | 6 => .array .int
  | 7 => .array .boolean
  | 8 => .array .boolean
  | 9 => .array .int
  | 10 => .int
  | 11 => .int
  | 12 => .int
  | 13 => .int
  | _ => .int
abbrev wsX00 : List Cond := u_ws RX0 TX0 15
theorem nmX0 : ∀ a, a < 15 → ∀ b, b < 15 → a ≠ b → (TX0 a).2.1 ≠ (TX0 b).2.1 := by decide +kernel
theorem tyX0_ok : ∀ k, k < 15 → parseFieldDescriptor (TX0 k).2.2.1 = some (tyX0 k) := by decide +kernel
abbrev cX0_init : ByteArray := prog_2_method_1_code
def yX0_init : MethodName := ⟨RX0, "<init>", "()V"⟩
abbrev cX0_setOut : ByteArray := prog_2_method_2_code
def yX0_setOut : MethodName := ⟨RX0, "setOut", "(LGoatAbacus$Valley;II)V"⟩
abbrev cX0_minuteOfRest : ByteArray := prog_2_method_3_code
def yX0_minuteOfRest : MethodName := ⟨RX0, "minuteOfRest", "(IIII)I"⟩
abbrev cX0_comeBack : ByteArray := prog_2_method_4_code
def yX0_comeBack : MethodName := ⟨RX0, "comeBack", "(I)V"⟩
abbrev cX0_work : ByteArray := prog_2_method_5_code
def yX0_work : MethodName := ⟨RX0, "work", "(II)V"⟩
abbrev cX0_nextDrive : ByteArray := prog_2_method_6_code
def yX0_nextDrive : MethodName := ⟨RX0, "nextDrive", "(II)I"⟩
abbrev cX0_beginDrive : ByteArray := prog_2_method_7_code
def yX0_beginDrive : MethodName := ⟨RX0, "beginDrive", "(III)V"⟩
abbrev cX0_endDrive : ByteArray := prog_2_method_8_code
def yX0_endDrive : MethodName := ⟨RX0, "endDrive", "(I)V"⟩
abbrev cX0_sendOut : ByteArray := prog_2_method_9_code
def yX0_sendOut : MethodName := ⟨RX0, "sendOut", "(II)V"⟩
abbrev cX0_isAtRest : ByteArray := prog_2_method_10_code
def yX0_isAtRest : MethodName := ⟨RX0, "isAtRest", "()Z"⟩
def RX1 : String := "GoatAbacus$Ear"
def TX1 : u_T := fun k => match k with
  | 0 => ("GoatAbacus$Ear", "hundredths", "[I", true)
  | 1 => ("GoatAbacus$Ear", "shares", "[J", false)
  | _ => ("GoatAbacus$Ear", "nextShares", "[J", false)
def tyX1 : Nat → FieldType := fun k => match k with
  | 0 => .array .int
  | 1 => .array .long
  | _ => .array .long
abbrev wsX10 : List Cond := u_ws RX1 TX1 3
theorem nmX1 : ∀ a, a < 3 → ∀ b, b < 3 → a ≠ b → (TX1 a).2.1 ≠ (TX1 b).2.1 := by decide +kernel
theorem tyX1_ok : ∀ k, k < 3 → parseFieldDescriptor (TX1 k).2.2.1 = some (tyX1 k) := by decide +kernel
abbrev cX1_init : ByteArray := prog_3_method_1_code
def yX1_init : MethodName := ⟨RX1, "<init>", "()V"⟩
abbrev cX1_learn : ByteArray := prog_3_method_2_code
def yX1_learn : MethodName := ⟨RX1, "learn", "(III)Z"⟩
abbrev cX1_hears : ByteArray := prog_3_method_3_code
def yX1_hears : MethodName := ⟨RX1, "hears", "(II)I"⟩
abbrev cX1_likely : ByteArray := prog_3_method_4_code
def yX1_likely : MethodName := ⟨RX1, "likely", "(IJ)J"⟩
abbrev cX1_wrong : ByteArray := prog_3_method_5_code
def yX1_wrong : MethodName := ⟨RX1, "wrong", "(I)I"⟩
abbrev cX1_missed : ByteArray := prog_3_method_6_code
def yX1_missed : MethodName := ⟨RX1, "missed", "(II)I"⟩
abbrev cX1_alike : ByteArray := prog_3_method_7_code
def yX1_alike : MethodName := ⟨RX1, "alike", "(II)J"⟩
abbrev cX1_spread : ByteArray := prog_3_method_8_code
def yX1_spread : MethodName := ⟨RX1, "spread", "(IJI)V"⟩
def RX2 : String := "GoatAbacus$Past"
def TX2 : u_T := fun k => match k with
  | 0 => ("GoatAbacus$Past", "rows", "[J", true)
  | 1 => ("GoatAbacus$Past", "next", "I", false)
  | _ => ("GoatAbacus$Past", "size", "I", false)
def tyX2 : Nat → FieldType := fun k => match k with
  | 0 => .array .long
  | 1 => .int
  | _ => .int
abbrev wsX20 : List Cond := u_ws RX2 TX2 3
theorem nmX2 : ∀ a, a < 3 → ∀ b, b < 3 → a ≠ b → (TX2 a).2.1 ≠ (TX2 b).2.1 := by decide +kernel
theorem tyX2_ok : ∀ k, k < 3 → parseFieldDescriptor (TX2 k).2.2.1 = some (tyX2 k) := by decide +kernel
abbrev cX2_init : ByteArray := prog_4_method_1_code
def yX2_init : MethodName := ⟨RX2, "<init>", "()V"⟩
abbrev cX2_keep : ByteArray := prog_4_method_2_code
def yX2_keep : MethodName := ⟨RX2, "keep", "(LGoatAbacus$Valley;)V"⟩
abbrev cX2_takeBack : ByteArray := prog_4_method_3_code
def yX2_takeBack : MethodName := ⟨RX2, "takeBack", "(LGoatAbacus$Valley;)Z"⟩
abbrev cX2_forget : ByteArray := prog_4_method_4_code
def yX2_forget : MethodName := ⟨RX2, "forget", "()V"⟩
def RX3 : String := "GoatAbacus$Store"
def TX3 : u_T := fun k => match k with
  | 0 => ("GoatAbacus$Store", "numbers", "[I", true)
  | 1 => ("GoatAbacus$Store", "size", "I", false)
  | 2 => ("GoatAbacus$Store", "remaining", "[I", false)
  | _ => ("GoatAbacus$Store", "weighed", "I", false)
def tyX3 : Nat → FieldType := fun k => match k with
  | 0 => .array .int
  | 1 => .int
  | 2 => .array .int
  | _ => .int
abbrev wsX30 : List Cond := u_ws RX3 TX3 4
theorem nmX3 : ∀ a, a < 4 → ∀ b, b < 4 → a ≠ b → (TX3 a).2.1 ≠ (TX3 b).2.1 := by decide +kernel
theorem tyX3_ok : ∀ k, k < 4 → parseFieldDescriptor (TX3 k).2.2.1 = some (tyX3 k) := by decide +kernel
abbrev cX3_init : ByteArray := prog_5_method_1_code
def yX3_init : MethodName := ⟨RX3, "<init>", "()V"⟩
abbrev cX3_bringIn : ByteArray := prog_5_method_2_code
def yX3_bringIn : MethodName := ⟨RX3, "bringIn", "(I)V"⟩
abbrev cX3_sets : ByteArray := prog_5_method_3_code
def yX3_sets : MethodName := ⟨RX3, "sets", "()I"⟩
abbrev cX3_sumOf : ByteArray := prog_5_method_4_code
def yX3_sumOf : MethodName := ⟨RX3, "sumOf", "(I)J"⟩
abbrev cX3_walksAsTold : ByteArray := prog_5_method_5_code
def yX3_walksAsTold : MethodName := ⟨RX3, "walksAsTold", "(LGoatAbacus$Valley;)I"⟩
abbrev cX3_weigh : ByteArray := prog_5_method_6_code
def yX3_weigh : MethodName := ⟨RX3, "weigh", "(LGoatAbacus$Valley;)V"⟩
abbrev cX3_fewestWalks : ByteArray := prog_5_method_7_code
def yX3_fewestWalks : MethodName := ⟨RX3, "fewestWalks", "()I"⟩
abbrev cX3_comesAt : ByteArray := prog_5_method_8_code
def yX3_comesAt : MethodName := ⟨RX3, "comesAt", "(LGoatAbacus$Valley;I)I"⟩
abbrev cX3_firstBehind : ByteArray := prog_5_method_9_code
def yX3_firstBehind : MethodName := ⟨RX3, "firstBehind", "(LGoatAbacus$Valley;I)I"⟩
abbrev cX3_walksBy : ByteArray := prog_5_method_10_code
def yX3_walksBy : MethodName := ⟨RX3, "walksBy", "(LGoatAbacus$Valley;II)I"⟩
def RX4 : String := "GoatAbacus$Sum"
def TX4 : u_T := fun k => match k with
  | 0 => ("GoatAbacus$Sum", "steps", "I", true)
  | _ => ("GoatAbacus$Sum", "rows", "[I", true)
def tyX4 : Nat → FieldType := fun k => match k with
  | 0 => .int
  | _ => .array .int
abbrev wsX40 : List Cond := u_ws RX4 TX4 2
theorem nmX4 : ∀ a, a < 2 → ∀ b, b < 2 → a ≠ b → (TX4 a).2.1 ≠ (TX4 b).2.1 := by decide +kernel
theorem tyX4_ok : ∀ k, k < 2 → parseFieldDescriptor (TX4 k).2.2.1 = some (tyX4 k) := by decide +kernel
abbrev cX4_init : ByteArray := prog_6_method_1_code
def yX4_init : MethodName := ⟨RX4, "<init>", "([II)V"⟩
abbrev cX4_part : ByteArray := prog_6_method_2_code
def yX4_part : MethodName := ⟨RX4, "part", "(II)I"⟩
def RX5 : String := "GoatAbacus$Tape"
def TX5 : u_T := fun k => match k with
  | 0 => ("GoatAbacus$Tape", "bytes", "[I", true)
  | 1 => ("GoatAbacus$Tape", "size", "I", false)
  | 2 => ("GoatAbacus$Tape", "rows", "[I", true)
  | 3 => ("GoatAbacus$Tape", "steps", "I", false)
  | _ => ("GoatAbacus$Tape", "at", "I", false)
def tyX5 : Nat → FieldType := fun k => match k with
  | 0 => .array .int
  | 1 => .int
  | 2 => .array .int
  | 3 => .int
  | _ => .int
abbrev wsX50 : List Cond := u_ws RX5 TX5 5
theorem nmX5 : ∀ a, a < 5 → ∀ b, b < 5 → a ≠ b → (TX5 a).2.1 ≠ (TX5 b).2.1 := by decide +kernel
theorem tyX5_ok : ∀ k, k < 5 → parseFieldDescriptor (TX5 k).2.2.1 = some (tyX5 k) := by decide +kernel
abbrev cX5_init : ByteArray := prog_7_method_1_code
def yX5_init : MethodName := ⟨RX5, "<init>", "()V"⟩
abbrev cX5_write : ByteArray := prog_7_method_2_code
def yX5_write : MethodName := ⟨RX5, "write", "(I)V"⟩
abbrev cX5_look : ByteArray := prog_7_method_3_code
def yX5_look : MethodName := ⟨RX5, "look", "()I"⟩
abbrev cX5_readStep : ByteArray := prog_7_method_4_code
def yX5_readStep : MethodName := ⟨RX5, "readStep", "(I)Z"⟩
abbrev cX5_readNumber : ByteArray := prog_7_method_5_code
def yX5_readNumber : MethodName := ⟨RX5, "readNumber", "(I)Z"⟩
abbrev cX5_readOften : ByteArray := prog_7_method_6_code
def yX5_readOften : MethodName := ⟨RX5, "readOften", "(I)Z"⟩
abbrev cX5_skipBlanks : ByteArray := prog_7_method_7_code
def yX5_skipBlanks : MethodName := ⟨RX5, "skipBlanks", "()V"⟩
abbrev cX5_isNext : ByteArray := prog_7_method_8_code
def yX5_isNext : MethodName := ⟨RX5, "isNext", "(I)Z"⟩
def RX6 : String := "GoatAbacus$Timetable"
def TX6 : u_T := fun k => match k with
  | 0 => ("GoatAbacus$Timetable", "begins", "[I", true)
  | 1 => ("GoatAbacus$Timetable", "froms", "[I", true)
  | 2 => ("GoatAbacus$Timetable", "tos", "[I", true)
  | 3 => ("GoatAbacus$Timetable", "drives", "[I", true)
  | 4 => ("GoatAbacus$Timetable", "rests", "[I", true)
  | 5 => ("GoatAbacus$Timetable", "pace", "I", false)
  | 6 => ("GoatAbacus$Timetable", "dog", "I", false)
  | 7 => ("GoatAbacus$Timetable", "shout", "I", false)
  | 8 => ("GoatAbacus$Timetable", "digit", "I", false)
  | 9 => ("GoatAbacus$Timetable", "free", "I", false)
  | _ => ("GoatAbacus$Timetable", "sends", "I", false)
def tyX6 : Nat → FieldType := fun k => match k with
  | 0 => .array .int
  | 1 => .array .int
  | 2 => .array .int
  | 3 => .array .int
  | 4 => .array .int
  | 5 => .int
  | 6 => .int
  | 7 => .int
  | 8 => .int
  | 9 => .int
  | _ => .int
abbrev wsX60 : List Cond := u_ws RX6 TX6 11
theorem nmX6 : ∀ a, a < 11 → ∀ b, b < 11 → a ≠ b → (TX6 a).2.1 ≠ (TX6 b).2.1 := by decide +kernel
theorem tyX6_ok : ∀ k, k < 11 → parseFieldDescriptor (TX6 k).2.2.1 = some (tyX6 k) := by decide +kernel
abbrev cX6_init : ByteArray := prog_8_method_1_code
def yX6_init : MethodName := ⟨RX6, "<init>", "()V"⟩
abbrev cX6_plan : ByteArray := prog_8_method_2_code
def yX6_plan : MethodName := ⟨RX6, "plan", "(LGoatAbacus$Valley;IIII)V"⟩
abbrev cX6_planRope : ByteArray := prog_8_method_3_code
def yX6_planRope : MethodName := ⟨RX6, "planRope", "(IIII)I"⟩
abbrev cX6_driveFrom : ByteArray := prog_8_method_4_code
def yX6_driveFrom : MethodName := ⟨RX6, "driveFrom", "(IIII)V"⟩
abbrev cX6_lastRest : ByteArray := prog_8_method_5_code
def yX6_lastRest : MethodName := ⟨RX6, "lastRest", "(I)I"⟩
abbrev cX6_digitAt : ByteArray := prog_8_method_6_code
def yX6_digitAt : MethodName := ⟨RX6, "digitAt", "(III)I"⟩
def RX7 : String := "GoatAbacus$Valley"
def TX7 : u_T := fun k => match k with
  | 0 => ("GoatAbacus$Valley", "ropes", "I", false)
  | 1 => ("GoatAbacus$Valley", "digits", "[I", true)
  | 2 => ("GoatAbacus$Valley", "flock", "[I", true)
  | 3 => ("GoatAbacus$Valley", "greatest", "[I", true)
  | 4 => ("GoatAbacus$Valley", "twos", "I", false)
  | 5 => ("GoatAbacus$Valley", "fogs", "I", false)
  | 6 => ("GoatAbacus$Valley", "draws", "J", false)
  | 7 => ("GoatAbacus$Valley", "walks", "I", false)
  | 8 => ("GoatAbacus$Valley", "carries", "I", false)
  | 9 => ("GoatAbacus$Valley", "minutes", "I", false)
  | 10 => ("GoatAbacus$Valley", "overs", "I", false)
  | 11 => ("GoatAbacus$Valley", "lacks", "I", false)
  | _ => ("GoatAbacus$Valley", "left", "I", false)
def tyX7 : Nat → FieldType := fun k => match k with
  | 0 => .int
  | 1 => .array .int
  | 2 => .array .int
  | 3 => .array .int
  | 4 => .int
  | 5 => .int
  | 6 => .long
  | 7 => .int
  | 8 => .int
  | 9 => .int
  | 10 => .int
  | 11 => .int
  | _ => .int
abbrev wsX70 : List Cond := u_ws RX7 TX7 13
theorem nmX7 : ∀ a, a < 13 → ∀ b, b < 13 → a ≠ b → (TX7 a).2.1 ≠ (TX7 b).2.1 := by decide +kernel
theorem tyX7_ok : ∀ k, k < 13 → parseFieldDescriptor (TX7 k).2.2.1 = some (tyX7 k) := by decide +kernel
abbrev cX7_init : ByteArray := prog_9_method_1_code
def yX7_init : MethodName := ⟨RX7, "<init>", "(I)V"⟩
abbrev cX7_clear : ByteArray := prog_9_method_2_code
def yX7_clear : MethodName := ⟨RX7, "clear", "(I)V"⟩
abbrev cX7_beginAs : ByteArray := prog_9_method_3_code
def yX7_beginAs : MethodName := ⟨RX7, "beginAs", "(LGoatAbacus$Valley;)V"⟩
abbrev cX7_becomeAs : ByteArray := prog_9_method_4_code
def yX7_becomeAs : MethodName := ⟨RX7, "becomeAs", "(LGoatAbacus$Valley;)V"⟩
abbrev cX7_startCounts : ByteArray := prog_9_method_5_code
def yX7_startCounts : MethodName := ⟨RX7, "startCounts", "()V"⟩
abbrev cX7_standFor : ByteArray := prog_9_method_6_code
def yX7_standFor : MethodName := ⟨RX7, "standFor", "(J)V"⟩
abbrev cX7_value : ByteArray := prog_9_method_7_code
def yX7_value : MethodName := ⟨RX7, "value", "()J"⟩
abbrev cX7_valueSeen : ByteArray := prog_9_method_8_code
def yX7_valueSeen : MethodName := ⟨RX7, "valueSeen", "()J"⟩
abbrev cX7_seen : ByteArray := prog_9_method_9_code
def yX7_seen : MethodName := ⟨RX7, "seen", "(I)I"⟩
abbrev cX7_isFoggy : ByteArray := prog_9_method_10_code
def yX7_isFoggy : MethodName := ⟨RX7, "isFoggy", "(I)Z"⟩
abbrev cX7_bring : ByteArray := prog_9_method_11_code
def yX7_bring : MethodName := ⟨RX7, "bring", "(IZILGoatAbacus$Ear;)V"⟩
abbrev cX7_topRope : ByteArray := prog_9_method_12_code
def yX7_topRope : MethodName := ⟨RX7, "topRope", "(I)I"⟩
abbrev cX7_draw : ByteArray := prog_9_method_13_code
def yX7_draw : MethodName := ⟨RX7, "draw", "()I"⟩
abbrev cX7_drive : ByteArray := prog_9_method_14_code
def yX7_drive : MethodName := ⟨RX7, "drive", "(II)V"⟩
abbrev cX7_stand : ByteArray := prog_9_method_15_code
def yX7_stand : MethodName := ⟨RX7, "stand", "(II)V"⟩
abbrev cX7_twice : ByteArray := prog_9_method_16_code
def yX7_twice : MethodName := ⟨RX7, "twice", "()V"⟩
abbrev cX7_halve : ByteArray := prog_9_method_17_code
def yX7_halve : MethodName := ⟨RX7, "halve", "()V"⟩
abbrev cX7_empty : ByteArray := prog_9_method_18_code
def yX7_empty : MethodName := ⟨RX7, "empty", "()V"⟩
def RX8 : String := "GoatAbacus$Veil"
def TX8 : u_T := fun k => match k with
  | 0 => ("GoatAbacus$Veil", "hidden", "[I", true)
  | 1 => ("GoatAbacus$Veil", "ways", "[I", true)
  | 2 => ("GoatAbacus$Veil", "size", "I", false)
  | 3 => ("GoatAbacus$Veil", "m", "I", false)
  | _ => ("GoatAbacus$Veil", "clear", "J", false)
def tyX8 : Nat → FieldType := fun k => match k with
  | 0 => .array .int
  | 1 => .array .int
  | 2 => .int
  | 3 => .int
  | _ => .long
abbrev wsX80 : List Cond := u_ws RX8 TX8 5
theorem nmX8 : ∀ a, a < 5 → ∀ b, b < 5 → a ≠ b → (TX8 a).2.1 ≠ (TX8 b).2.1 := by decide +kernel
theorem tyX8_ok : ∀ k, k < 5 → parseFieldDescriptor (TX8 k).2.2.1 = some (tyX8 k) := by decide +kernel
abbrev cX8_init : ByteArray := prog_10_method_1_code
def yX8_init : MethodName := ⟨RX8, "<init>", "()V"⟩
abbrev cX8_look : ByteArray := prog_10_method_2_code
def yX8_look : MethodName := ⟨RX8, "look", "(LGoatAbacus$Valley;I)V"⟩
abbrev cX8_countWays : ByteArray := prog_10_method_3_code
def yX8_countWays : MethodName := ⟨RX8, "countWays", "()V"⟩
abbrev cX8_restOf : ByteArray := prog_10_method_4_code
def yX8_restOf : MethodName := ⟨RX8, "restOf", "(J)I"⟩
abbrev cX8_howMany : ByteArray := prog_10_method_5_code
def yX8_howMany : MethodName := ⟨RX8, "howMany", "(I)I"⟩
abbrev cX8_outermost : ByteArray := prog_10_method_6_code
def yX8_outermost : MethodName := ⟨RX8, "outermost", "(IZ)J"⟩
def RX9 : String := "GoatAbacus"
def TX9 : u_T := fun k => match k with
  | 0 => ("GoatAbacus", "valley", "LGoatAbacus$Valley;", true)
  | 1 => ("GoatAbacus", "side", "LGoatAbacus$Valley;", true)
  | 2 => ("GoatAbacus", "kept", "LGoatAbacus$Valley;", false)
  | 3 => ("GoatAbacus", "keptActs", "I", false)
  | 4 => ("GoatAbacus", "past", "LGoatAbacus$Past;", true)
  | 5 => ("GoatAbacus", "tape", "LGoatAbacus$Tape;", true)
  | 6 => ("GoatAbacus", "sums", "[LGoatAbacus$Sum;", true)
  | 7 => ("GoatAbacus", "sumCount", "I", false)
  | 8 => ("GoatAbacus", "ear", "LGoatAbacus$Ear;", true)
  | 9 => ("GoatAbacus", "store", "LGoatAbacus$Store;", true)
  | 10 => ("GoatAbacus", "timetable", "LGoatAbacus$Timetable;", true)
  | 11 => ("GoatAbacus", "pack", "LGoatAbacus$Dogs;", true)
  | 12 => ("GoatAbacus", "veil", "LGoatAbacus$Veil;", false)
  | 13 => ("GoatAbacus", "acts", "I", false)
  | 14 => ("GoatAbacus", "order", "I", false)
  | 15 => ("GoatAbacus", "pace", "I", false)
  | 16 => ("GoatAbacus", "dog", "I", false)
  | _ => ("GoatAbacus", "shout", "I", false)
def tyX9 : Nat → FieldType := fun k => match k with
  | 0 => .object "GoatAbacus$Valley"
  | 1 => .object "GoatAbacus$Valley"
  | 2 => .object "GoatAbacus$Valley"
  | 3 => .int
  | 4 => .object "GoatAbacus$Past"
  | 5 => .object "GoatAbacus$Tape"
  | 6 => .array (.object "GoatAbacus$Sum")
  | 7 => .int
  | 8 => .object "GoatAbacus$Ear"
  | 9 => .object "GoatAbacus$Store"
  | 10 => .object "GoatAbacus$Timetable"
  | 11 => .object "GoatAbacus$Dogs"
  | 12 => .object "GoatAbacus$Veil"
  | 13 => .int
  | 14 => .int
  | 15 => .int
  | 16 => .int
  | _ => .int
abbrev wsX90 : List Cond := u_ws RX9 TX9 18
theorem nmX9 : ∀ a, a < 18 → ∀ b, b < 18 → a ≠ b → (TX9 a).2.1 ≠ (TX9 b).2.1 := by decide +kernel
theorem tyX9_ok : ∀ k, k < 18 → parseFieldDescriptor (TX9 k).2.2.1 = some (tyX9 k) := by decide +kernel
abbrev cX9_init : ByteArray := prog_1_method_1_code
def yX9_init : MethodName := ⟨RX9, "<init>", "(I)V"⟩
abbrev cX9_feed : ByteArray := prog_1_method_2_code
def yX9_feed : MethodName := ⟨RX9, "feed", "(IIIII)I"⟩
abbrev cX9_end : ByteArray := prog_1_method_3_code
def yX9_end : MethodName := ⟨RX9, "end", "(I)Z"⟩
abbrev cX9_fault : ByteArray := prog_1_method_4_code
def yX9_fault : MethodName := ⟨RX9, "fault", "()I"⟩
abbrev cX9_text : ByteArray := prog_1_method_5_code
def yX9_text : MethodName := ⟨RX9, "text", "()I"⟩
abbrev cX9_step : ByteArray := prog_1_method_6_code
def yX9_step : MethodName := ⟨RX9, "step", "(III)I"⟩
abbrev cX9_set : ByteArray := prog_1_method_7_code
def yX9_set : MethodName := ⟨RX9, "set", "(II)Z"⟩
abbrev cX9_goats : ByteArray := prog_1_method_8_code
def yX9_goats : MethodName := ⟨RX9, "goats", "(II)Z"⟩
abbrev cX9_echo : ByteArray := prog_1_method_9_code
def yX9_echo : MethodName := ⟨RX9, "echo", "(III)Z"⟩
abbrev cX9_wind : ByteArray := prog_1_method_10_code
def yX9_wind : MethodName := ⟨RX9, "wind", "(J)V"⟩
abbrev cX9_add : ByteArray := prog_1_method_11_code
def yX9_add : MethodName := ⟨RX9, "add", "(IZ)I"⟩
abbrev cX9_act : ByteArray := prog_1_method_12_code
def yX9_act : MethodName := ⟨RX9, "act", "(I)I"⟩
abbrev cX9_run : ByteArray := prog_1_method_13_code
def yX9_run : MethodName := ⟨RX9, "run", "(I)I"⟩
abbrev cX9_undo : ByteArray := prog_1_method_14_code
def yX9_undo : MethodName := ⟨RX9, "undo", "()I"⟩
abbrev cX9_rope : ByteArray := prog_1_method_15_code
def yX9_rope : MethodName := ⟨RX9, "rope", "(II)I"⟩
abbrev cX9_number : ByteArray := prog_1_method_16_code
def yX9_number : MethodName := ⟨RX9, "number", "()J"⟩
abbrev cX9_told : ByteArray := prog_1_method_17_code
def yX9_told : MethodName := ⟨RX9, "told", "(I)I"⟩
abbrev cX9_done : ByteArray := prog_1_method_18_code
def yX9_done : MethodName := ⟨RX9, "done", "(II)I"⟩
abbrev cX9_standing : ByteArray := prog_1_method_19_code
def yX9_standing : MethodName := ⟨RX9, "standing", "(III)I"⟩
abbrev cX9_two : ByteArray := prog_1_method_20_code
def yX9_two : MethodName := ⟨RX9, "two", "(IZ)Z"⟩
abbrev cX9_fog : ByteArray := prog_1_method_21_code
def yX9_fog : MethodName := ⟨RX9, "fog", "(IZ)Z"⟩
abbrev cX9_bell : ByteArray := prog_1_method_22_code
def yX9_bell : MethodName := ⟨RX9, "bell", "(I)I"⟩
abbrev cX9_miss : ByteArray := prog_1_method_23_code
def yX9_miss : MethodName := ⟨RX9, "miss", "(II)I"⟩
abbrev cX9_safest : ByteArray := prog_1_method_24_code
def yX9_safest : MethodName := ⟨RX9, "safest", "(II)I"⟩
abbrev cX9_span : ByteArray := prog_1_method_25_code
def yX9_span : MethodName := ⟨RX9, "span", "(III)J"⟩
abbrev cX9_astray : ByteArray := prog_1_method_26_code
def yX9_astray : MethodName := ⟨RX9, "astray", "(III)I"⟩
abbrev cX9_harvest : ByteArray := prog_1_method_27_code
def yX9_harvest : MethodName := ⟨RX9, "harvest", "(I)I"⟩
abbrev cX9_fewest : ByteArray := prog_1_method_28_code
def yX9_fewest : MethodName := ⟨RX9, "fewest", "(I)I"⟩
abbrev cX9_added : ByteArray := prog_1_method_29_code
def yX9_added : MethodName := ⟨RX9, "added", "(I)I"⟩
abbrev cX9_near : ByteArray := prog_1_method_30_code
def yX9_near : MethodName := ⟨RX9, "near", "()I"⟩
abbrev cX9_as : ByteArray := prog_1_method_31_code
def yX9_as : MethodName := ⟨RX9, "as", "(II)I"⟩
abbrev cX9_guess : ByteArray := prog_1_method_32_code
def yX9_guess : MethodName := ⟨RX9, "guess", "(I)I"⟩
abbrev cX9_confused : ByteArray := prog_1_method_33_code
def yX9_confused : MethodName := ⟨RX9, "confused", "()I"⟩
abbrev cX9_odds : ByteArray := prog_1_method_34_code
def yX9_odds : MethodName := ⟨RX9, "odds", "(I)I"⟩
abbrev cX9_product : ByteArray := prog_1_method_35_code
def yX9_product : MethodName := ⟨RX9, "product", "(IIII)J"⟩
abbrev cX9_rival : ByteArray := prog_1_method_36_code
def yX9_rival : MethodName := ⟨RX9, "rival", "(II)I"⟩
abbrev cX9_all : ByteArray := prog_1_method_37_code
def yX9_all : MethodName := ⟨RX9, "all", "(III)I"⟩
abbrev cX9_make : ByteArray := prog_1_method_38_code
def yX9_make : MethodName := ⟨RX9, "make", "(II)I"⟩
abbrev cX9_tried : ByteArray := prog_1_method_39_code
def yX9_tried : MethodName := ⟨RX9, "tried", "(II)J"⟩
abbrev cX9_needs : ByteArray := prog_1_method_40_code
def yX9_needs : MethodName := ⟨RX9, "needs", "(II)I"⟩
abbrev cX9_herd : ByteArray := prog_1_method_41_code
def yX9_herd : MethodName := ⟨RX9, "herd", "(I)I"⟩
abbrev cX9_cheaper : ByteArray := prog_1_method_42_code
def yX9_cheaper : MethodName := ⟨RX9, "cheaper", "(I)I"⟩
abbrev cX9_kids : ByteArray := prog_1_method_43_code
def yX9_kids : MethodName := ⟨RX9, "kids", "(I)I"⟩
abbrev cX9_relay : ByteArray := prog_1_method_44_code
def yX9_relay : MethodName := ⟨RX9, "relay", "(III)I"⟩
abbrev cX9_ranked : ByteArray := prog_1_method_45_code
def yX9_ranked : MethodName := ⟨RX9, "ranked", "(II)I"⟩
abbrev cX9_image : ByteArray := prog_1_method_46_code
def yX9_image : MethodName := ⟨RX9, "image", "()I"⟩
abbrev cX9_back : ByteArray := prog_1_method_47_code
def yX9_back : MethodName := ⟨RX9, "back", "()I"⟩
abbrev cX9_count : ByteArray := prog_1_method_48_code
def yX9_count : MethodName := ⟨RX9, "count", "(I)I"⟩
abbrev cX9_isRope : ByteArray := prog_1_method_49_code
def yX9_isRope : MethodName := ⟨RX9, "isRope", "(I)Z"⟩
abbrev cX9_sumAt : ByteArray := prog_1_method_50_code
def yX9_sumAt : MethodName := ⟨RX9, "sumAt", "(I)LGoatAbacus$Sum;"⟩
abbrev cX9_isNumber : ByteArray := prog_1_method_51_code
def yX9_isNumber : MethodName := ⟨RX9, "isNumber", "(I)Z"⟩
abbrev cX9_isDigit : ByteArray := prog_1_method_52_code
def yX9_isDigit : MethodName := ⟨RX9, "isDigit", "(I)Z"⟩
abbrev cX9_isBell : ByteArray := prog_1_method_53_code
def yX9_isBell : MethodName := ⟨RX9, "isBell", "(I)Z"⟩
abbrev cX9_isRest : ByteArray := prog_1_method_54_code
def yX9_isRest : MethodName := ⟨RX9, "isRest", "(II)Z"⟩
abbrev cX9_isFactor : ByteArray := prog_1_method_55_code
def yX9_isFactor : MethodName := ⟨RX9, "isFactor", "(I)Z"⟩
abbrev cX9_isPack : ByteArray := prog_1_method_56_code
def yX9_isPack : MethodName := ⟨RX9, "isPack", "(I)Z"⟩
abbrev cX9_actOnce : ByteArray := prog_1_method_57_code
def yX9_actOnce : MethodName := ⟨RX9, "actOnce", "(II)I"⟩
abbrev cX9_goThrough : ByteArray := prog_1_method_58_code
def yX9_goThrough : MethodName := ⟨RX9, "goThrough", "(LGoatAbacus$Sum;)V"⟩
abbrev cX9_perform : ByteArray := prog_1_method_59_code
def yX9_perform : MethodName := ⟨RX9, "perform", "(LGoatAbacus$Valley;IILGoatAbacus$Ear;)V"⟩
abbrev cX9_walksByOrder : ByteArray := prog_1_method_60_code
def yX9_walksByOrder : MethodName := ⟨RX9, "walksByOrder", "(II)I"⟩
abbrev cX9_restByRank : ByteArray := prog_1_method_61_code
def yX9_restByRank : MethodName := ⟨RX9, "restByRank", "(III)I"⟩
abbrev cX9_multiply : ByteArray := prog_1_method_62_code
def yX9_multiply : MethodName := ⟨RX9, "multiply", "(III)I"⟩
abbrev cX9_multiplyByBits : ByteArray := prog_1_method_63_code
def yX9_multiplyByBits : MethodName := ⟨RX9, "multiplyByBits", "(II)I"⟩
abbrev cX9_leastHerd : ByteArray := prog_1_method_64_code
def yX9_leastHerd : MethodName := ⟨RX9, "leastHerd", "(IIIII)I"⟩
abbrev cX9_bytesIn : ByteArray := prog_1_method_65_code
def yX9_bytesIn : MethodName := ⟨RX9, "bytesIn", "(I)I"⟩
abbrev cX9_hasBit : ByteArray := prog_1_method_66_code
def yX9_hasBit : MethodName := ⟨RX9, "hasBit", "(II)Z"⟩
abbrev cX9_withBit : ByteArray := prog_1_method_67_code
def yX9_withBit : MethodName := ⟨RX9, "withBit", "(IIZ)I"⟩
abbrev cX9_digitOf : ByteArray := prog_1_method_68_code
def yX9_digitOf : MethodName := ⟨RX9, "digitOf", "(JI)I"⟩
abbrev cX9_topPlace : ByteArray := prog_1_method_69_code
def yX9_topPlace : MethodName := ⟨RX9, "topPlace", "(J)I"⟩
abbrev cX9_millionths : ByteArray := prog_1_method_70_code
def yX9_millionths : MethodName := ⟨RX9, "millionths", "(JJ)I"⟩
def RX10 : String := "GoatAbacusModel"
def TX10 : u_T := fun k => match k with
  | 0 => ("GoatAbacusModel", "thrown", "I", false)
  | 1 => ("GoatAbacusModel", "ropes", "I", true)
  | 2 => ("GoatAbacusModel", "tape", "[I", true)
  | 3 => ("GoatAbacusModel", "size", "I", false)
  | 4 => ("GoatAbacusModel", "at", "I", false)
  | 5 => ("GoatAbacusModel", "wrong", "I", false)
  | 6 => ("GoatAbacusModel", "letter", "[I", true)
  | 7 => ("GoatAbacusModel", "value", "[I", true)
  | 8 => ("GoatAbacusModel", "often", "[I", true)
  | 9 => ("GoatAbacusModel", "steps", "[I", true)
  | 10 => ("GoatAbacusModel", "sums", "I", false)
  | 11 => ("GoatAbacusModel", "order", "I", false)
  | 12 => ("GoatAbacusModel", "pace", "I", false)
  | 13 => ("GoatAbacusModel", "dog", "I", false)
  | 14 => ("GoatAbacusModel", "shout", "I", false)
  | 15 => ("GoatAbacusModel", "goats", "[I", true)
  | 16 => ("GoatAbacusModel", "echoes", "[I", true)
  | 17 => ("GoatAbacusModel", "now", "[I", true)
  | 18 => ("GoatAbacusModel", "draws", "J", false)
  | 19 => ("GoatAbacusModel", "twos", "I", false)
  | 20 => ("GoatAbacusModel", "fogs", "I", false)
  | 21 => ("GoatAbacusModel", "isPlain", "Z", false)
  | 22 => ("GoatAbacusModel", "isEnough", "Z", false)
  | 23 => ("GoatAbacusModel", "greatest", "[I", true)
  | 24 => ("GoatAbacusModel", "ahead", "[I", true)
  | 25 => ("GoatAbacusModel", "kept", "[I", true)
  | 26 => ("GoatAbacusModel", "keptDraws", "[J", true)
  | 27 => ("GoatAbacusModel", "keptMany", "I", false)
  | 28 => ("GoatAbacusModel", "keptNext", "I", false)
  | 29 => ("GoatAbacusModel", "doneAt", "[I", true)
  | 30 => ("GoatAbacusModel", "rests", "[J", true)
  | 31 => ("GoatAbacusModel", "next", "[J", true)
  | 32 => ("GoatAbacusModel", "harvest", "[I", true)
  | 33 => ("GoatAbacusModel", "harvests", "I", false)
  | 34 => ("GoatAbacusModel", "onward", "[I", true)
  | 35 => ("GoatAbacusModel", "product", "J", false)
  | 36 => ("GoatAbacusModel", "productWalks", "I", false)
  | 37 => ("GoatAbacusModel", "productActs", "I", false)
  | 38 => ("GoatAbacusModel", "counts", "[I", true)
  | 39 => ("GoatAbacusModel", "aside", "[I", true)
  | 40 => ("GoatAbacusModel", "busyTill", "[I", true)
  | 41 => ("GoatAbacusModel", "becomes", "[I", true)
  | 42 => ("GoatAbacusModel", "carrying", "[Z", true)
  | 43 => ("GoatAbacusModel", "begun", "[Z", true)
  | 44 => ("GoatAbacusModel", "waiting", "[I", true)
  | 45 => ("GoatAbacusModel", "arrived", "[I", true)
  | 46 => ("GoatAbacusModel", "stand", "[I", true)
  | 47 => ("GoatAbacusModel", "dogTill", "[I", true)
  | 48 => ("GoatAbacusModel", "dogFrom", "[I", true)
  | 49 => ("GoatAbacusModel", "cheap", "[I", true)
  | 50 => ("GoatAbacusModel", "isSure", "[Z", true)
  | 51 => ("GoatAbacusModel", "image", "[I", true)
  | 52 => ("GoatAbacusModel", "imageGoats", "[I", true)
  | 53 => ("GoatAbacusModel", "imageTwos", "I", false)
  | 54 => ("GoatAbacusModel", "imageFogs", "I", false)
  | 55 => ("GoatAbacusModel", "imageDraws", "J", false)
  | _ => ("GoatAbacusModel", "hasImage", "Z", false)
def tyX10 : Nat → FieldType := fun k => match k with
  | 0 => .int
  | 1 => .int
  | 2 => .array .int
  | 3 => .int
  | 4 => .int
  | 5 => .int
  | 6 => .array .int
  | 7 => .array .int
  | 8 => .array .int
  | 9 => .array .int
  | 10 => .int
  | 11 => .int
  | 12 => .int
  | 13 => .int
  | 14 => .int
  | 15 => .array .int
  | 16 => .array .int
  | 17 => .array .int
  | 18 => .long
  | 19 => .int
  | 20 => .int
  | 21 => .boolean
  | 22 => .boolean
  | 23 => .array .int
  | 24 => .array .int
  | 25 => .array .int
  | 26 => .array .long
  | 27 => .int
  | 28 => .int
  | 29 => .array .int
  | 30 => .array .long
  | 31 => .array .long
  | 32 => .array .int
  | 33 => .int
  | 34 => .array .int
  | 35 => .long
  | 36 => .int
  | 37 => .int
  | 38 => .array .int
  | 39 => .array .int
  | 40 => .array .int
  | 41 => .array .int
  | 42 => .array .boolean
  | 43 => .array .boolean
  | 44 => .array .int
  | 45 => .array .int
  | 46 => .array .int
  | 47 => .array .int
  | 48 => .array .int
  | 49 => .array .int
  | 50 => .array .boolean
  | 51 => .array .int
  | 52 => .array .int
  | 53 => .int
  | 54 => .int
  | 55 => .long
  | _ => .boolean
abbrev wsX100 : List Cond := u_ws RX10 TX10 57
theorem nmX10 : ∀ a, a < 57 → ∀ b, b < 57 → a ≠ b → (TX10 a).2.1 ≠ (TX10 b).2.1 := by decide +kernel
theorem tyX10_ok : ∀ k, k < 57 → parseFieldDescriptor (TX10 k).2.2.1 = some (tyX10 k) := by decide +kernel
abbrev cX10_in : ByteArray := prog_12_method_1_code
def yX10_in : MethodName := ⟨RX10, "in", "(JJJ)Z"⟩
abbrev cX10_has : ByteArray := prog_12_method_2_code
def yX10_has : MethodName := ⟨RX10, "has", "(II)Z"⟩
abbrev cX10_init : ByteArray := prog_12_method_3_code
def yX10_init : MethodName := ⟨RX10, "<init>", "(I)V"⟩
abbrev cX10_thrown : ByteArray := prog_12_method_4_code
def yX10_thrown : MethodName := ⟨RX10, "thrown", "()I"⟩
abbrev cX10_byteOf : ByteArray := prog_12_method_5_code
def yX10_byteOf : MethodName := ⟨RX10, "byteOf", "(IIIIII)I"⟩
abbrev cX10_feed : ByteArray := prog_12_method_6_code
def yX10_feed : MethodName := ⟨RX10, "feed", "(IIIII)I"⟩
abbrev cX10_end : ByteArray := prog_12_method_7_code
def yX10_end : MethodName := ⟨RX10, "end", "(I)Z"⟩
abbrev cX10_here : ByteArray := prog_12_method_8_code
def yX10_here : MethodName := ⟨RX10, "here", "()I"⟩
abbrev cX10_look : ByteArray := prog_12_method_9_code
def yX10_look : MethodName := ⟨RX10, "look", "()I"⟩
abbrev cX10_bad : ByteArray := prog_12_method_10_code
def yX10_bad : MethodName := ⟨RX10, "bad", "()V"⟩
abbrev cX10_isDigit : ByteArray := prog_12_method_11_code
def yX10_isDigit : MethodName := ⟨RX10, "isDigit", "(I)Z"⟩
abbrev cX10_numeral : ByteArray := prog_12_method_12_code
def yX10_numeral : MethodName := ⟨RX10, "numeral", "()I"⟩
abbrev cX10_stepOf : ByteArray := prog_12_method_13_code
def yX10_stepOf : MethodName := ⟨RX10, "stepOf", "(I)V"⟩
abbrev cX10_read : ByteArray := prog_12_method_14_code
def yX10_read : MethodName := ⟨RX10, "read", "(I)I"⟩
abbrev cX10_fault : ByteArray := prog_12_method_15_code
def yX10_fault : MethodName := ⟨RX10, "fault", "()I"⟩
abbrev cX10_text : ByteArray := prog_12_method_16_code
def yX10_text : MethodName := ⟨RX10, "text", "()I"⟩
abbrev cX10_isSum : ByteArray := prog_12_method_17_code
def yX10_isSum : MethodName := ⟨RX10, "isSum", "(I)Z"⟩
abbrev cX10_step : ByteArray := prog_12_method_18_code
def yX10_step : MethodName := ⟨RX10, "step", "(III)I"⟩
abbrev cX10_set : ByteArray := prog_12_method_19_code
def yX10_set : MethodName := ⟨RX10, "set", "(II)Z"⟩
abbrev cX10_isRope : ByteArray := prog_12_method_20_code
def yX10_isRope : MethodName := ⟨RX10, "isRope", "(I)Z"⟩
abbrev cX10_goats : ByteArray := prog_12_method_21_code
def yX10_goats : MethodName := ⟨RX10, "goats", "(II)Z"⟩
abbrev cX10_echo : ByteArray := prog_12_method_22_code
def yX10_echo : MethodName := ⟨RX10, "echo", "(III)Z"⟩
abbrev cX10_wind : ByteArray := prog_12_method_23_code
def yX10_wind : MethodName := ⟨RX10, "wind", "(J)V"⟩
abbrev cX10_draw : ByteArray := prog_12_method_24_code
def yX10_draw : MethodName := ⟨RX10, "draw", "()I"⟩
abbrev cX10_heard : ByteArray := prog_12_method_25_code
def yX10_heard : MethodName := ⟨RX10, "heard", "(I)I"⟩
abbrev cX10_become : ByteArray := prog_12_method_26_code
def yX10_become : MethodName := ⟨RX10, "become", "(II)V"⟩
abbrev cX10_drive : ByteArray := prog_12_method_27_code
def yX10_drive : MethodName := ⟨RX10, "drive", "(III)V"⟩
abbrev cX10_digitOf : ByteArray := prog_12_method_28_code
def yX10_digitOf : MethodName := ⟨RX10, "digitOf", "(JI)I"⟩
abbrev cX10_highest : ByteArray := prog_12_method_29_code
def yX10_highest : MethodName := ⟨RX10, "highest", "(J)I"⟩
abbrev cX10_addOf : ByteArray := prog_12_method_30_code
def yX10_addOf : MethodName := ⟨RX10, "addOf", "(II)V"⟩
abbrev cX10_actOf : ByteArray := prog_12_method_31_code
def yX10_actOf : MethodName := ⟨RX10, "actOf", "(I)V"⟩
abbrev cX10_add : ByteArray := prog_12_method_32_code
def yX10_add : MethodName := ⟨RX10, "add", "(IZ)I"⟩
abbrev cX10_act : ByteArray := prog_12_method_33_code
def yX10_act : MethodName := ⟨RX10, "act", "(I)I"⟩
abbrev cX10_runOf : ByteArray := prog_12_method_34_code
def yX10_runOf : MethodName := ⟨RX10, "runOf", "(I)V"⟩
abbrev cX10_run : ByteArray := prog_12_method_35_code
def yX10_run : MethodName := ⟨RX10, "run", "(I)I"⟩
abbrev cX10_keep : ByteArray := prog_12_method_36_code
def yX10_keep : MethodName := ⟨RX10, "keep", "()V"⟩
abbrev cX10_undo : ByteArray := prog_12_method_37_code
def yX10_undo : MethodName := ⟨RX10, "undo", "()I"⟩
abbrev cX10_seen : ByteArray := prog_12_method_38_code
def yX10_seen : MethodName := ⟨RX10, "seen", "(I)I"⟩
abbrev cX10_rope : ByteArray := prog_12_method_39_code
def yX10_rope : MethodName := ⟨RX10, "rope", "(II)I"⟩
abbrev cX10_number : ByteArray := prog_12_method_40_code
def yX10_number : MethodName := ⟨RX10, "number", "()J"⟩
abbrev cX10_told : ByteArray := prog_12_method_41_code
def yX10_told : MethodName := ⟨RX10, "told", "(I)I"⟩
abbrev cX10_workAll : ByteArray := prog_12_method_42_code
def yX10_workAll : MethodName := ⟨RX10, "workAll", "(I)V"⟩
abbrev cX10_done : ByteArray := prog_12_method_43_code
def yX10_done : MethodName := ⟨RX10, "done", "(II)I"⟩
abbrev cX10_two : ByteArray := prog_12_method_44_code
def yX10_two : MethodName := ⟨RX10, "two", "(IZ)Z"⟩
abbrev cX10_fog : ByteArray := prog_12_method_45_code
def yX10_fog : MethodName := ⟨RX10, "fog", "(IZ)Z"⟩
abbrev cX10_ten : ByteArray := prog_12_method_46_code
def yX10_ten : MethodName := ⟨RX10, "ten", "(I)J"⟩
abbrev cX10_seenNumber : ByteArray := prog_12_method_47_code
def yX10_seenNumber : MethodName := ⟨RX10, "seenNumber", "()J"⟩
abbrev cX10_bell : ByteArray := prog_12_method_48_code
def yX10_bell : MethodName := ⟨RX10, "bell", "(I)I"⟩
abbrev cX10_itself : ByteArray := prog_12_method_49_code
def yX10_itself : MethodName := ⟨RX10, "itself", "(I)I"⟩
abbrev cX10_many : ByteArray := prog_12_method_50_code
def yX10_many : MethodName := ⟨RX10, "many", "(J)I"⟩
abbrev cX10_rightly : ByteArray := prog_12_method_51_code
def yX10_rightly : MethodName := ⟨RX10, "rightly", "(I)J"⟩
abbrev cX10_alike : ByteArray := prog_12_method_52_code
def yX10_alike : MethodName := ⟨RX10, "alike", "(II)J"⟩
abbrev cX10_miss : ByteArray := prog_12_method_53_code
def yX10_miss : MethodName := ⟨RX10, "miss", "(II)I"⟩
abbrev cX10_isRest : ByteArray := prog_12_method_54_code
def yX10_isRest : MethodName := ⟨RX10, "isRest", "(II)Z"⟩
abbrev cX10_span : ByteArray := prog_12_method_55_code
def yX10_span : MethodName := ⟨RX10, "span", "(III)J"⟩
abbrev cX10_astray : ByteArray := prog_12_method_56_code
def yX10_astray : MethodName := ⟨RX10, "astray", "(III)I"⟩
abbrev cX10_harvest : ByteArray := prog_12_method_57_code
def yX10_harvest : MethodName := ⟨RX10, "harvest", "(I)I"⟩
abbrev cX10_walksOf : ByteArray := prog_12_method_58_code
def yX10_walksOf : MethodName := ⟨RX10, "walksOf", "(JJI)I"⟩
abbrev cX10_sumOf : ByteArray := prog_12_method_59_code
def yX10_sumOf : MethodName := ⟨RX10, "sumOf", "(I)J"⟩
abbrev cX10_lookOnward : ByteArray := prog_12_method_60_code
def yX10_lookOnward : MethodName := ⟨RX10, "lookOnward", "()V"⟩
abbrev cX10_comes : ByteArray := prog_12_method_61_code
def yX10_comes : MethodName := ⟨RX10, "comes", "(I)I"⟩
abbrev cX10_fewest : ByteArray := prog_12_method_62_code
def yX10_fewest : MethodName := ⟨RX10, "fewest", "(I)I"⟩
abbrev cX10_added : ByteArray := prog_12_method_63_code
def yX10_added : MethodName := ⟨RX10, "added", "(I)I"⟩
abbrev cX10_near : ByteArray := prog_12_method_64_code
def yX10_near : MethodName := ⟨RX10, "near", "()I"⟩
abbrev cX10_addTo : ByteArray := prog_12_method_65_code
def yX10_addTo : MethodName := ⟨RX10, "addTo", "(J)V"⟩
abbrev cX10_twice : ByteArray := prog_12_method_66_code
def yX10_twice : MethodName := ⟨RX10, "twice", "()V"⟩
abbrev cX10_multiply : ByteArray := prog_12_method_67_code
def yX10_multiply : MethodName := ⟨RX10, "multiply", "(III)V"⟩
abbrev cX10_product : ByteArray := prog_12_method_68_code
def yX10_product : MethodName := ⟨RX10, "product", "(IIII)J"⟩
abbrev cX10_rival : ByteArray := prog_12_method_69_code
def yX10_rival : MethodName := ⟨RX10, "rival", "(II)I"⟩
abbrev cX10_makes : ByteArray := prog_12_method_70_code
def yX10_makes : MethodName := ⟨RX10, "makes", "(I)Z"⟩
abbrev cX10_nextRow : ByteArray := prog_12_method_71_code
def yX10_nextRow : MethodName := ⟨RX10, "nextRow", "(I)Z"⟩
abbrev cX10_tailFrom : ByteArray := prog_12_method_72_code
def yX10_tailFrom : MethodName := ⟨RX10, "tailFrom", "(I)I"⟩
abbrev cX10_isOf : ByteArray := prog_12_method_73_code
def yX10_isOf : MethodName := ⟨RX10, "isOf", "(I)Z"⟩
abbrev cX10_all : ByteArray := prog_12_method_74_code
def yX10_all : MethodName := ⟨RX10, "all", "(III)I"⟩
abbrev cX10_begin : ByteArray := prog_12_method_75_code
def yX10_begin : MethodName := ⟨RX10, "begin", "(Z)V"⟩
abbrev cX10_over : ByteArray := prog_12_method_76_code
def yX10_over : MethodName := ⟨RX10, "over", "()V"⟩
abbrev cX10_tried : ByteArray := prog_12_method_77_code
def yX10_tried : MethodName := ⟨RX10, "tried", "(II)J"⟩
abbrev cX10_needs : ByteArray := prog_12_method_78_code
def yX10_needs : MethodName := ⟨RX10, "needs", "(II)I"⟩
abbrev cX10_herd : ByteArray := prog_12_method_79_code
def yX10_herd : MethodName := ⟨RX10, "herd", "(I)I"⟩
abbrev cX10_cheaper : ByteArray := prog_12_method_80_code
def yX10_cheaper : MethodName := ⟨RX10, "cheaper", "(I)I"⟩
abbrev cX10_standingAt : ByteArray := prog_12_method_81_code
def yX10_standingAt : MethodName := ⟨RX10, "standingAt", "(III)I"⟩
abbrev cX10_standing : ByteArray := prog_12_method_82_code
def yX10_standing : MethodName := ⟨RX10, "standing", "(III)I"⟩
abbrev cX10_heardAs : ByteArray := prog_12_method_83_code
def yX10_heardAs : MethodName := ⟨RX10, "heardAs", "(IJ)J"⟩
abbrev cX10_as : ByteArray := prog_12_method_84_code
def yX10_as : MethodName := ⟨RX10, "as", "(II)I"⟩
abbrev cX10_guess : ByteArray := prog_12_method_85_code
def yX10_guess : MethodName := ⟨RX10, "guess", "(I)I"⟩
abbrev cX10_safest : ByteArray := prog_12_method_86_code
def yX10_safest : MethodName := ⟨RX10, "safest", "(II)I"⟩
abbrev cX10_confused : ByteArray := prog_12_method_87_code
def yX10_confused : MethodName := ⟨RX10, "confused", "()I"⟩
abbrev cX10_partOf : ByteArray := prog_12_method_88_code
def yX10_partOf : MethodName := ⟨RX10, "partOf", "(JJ)I"⟩
abbrev cX10_odds : ByteArray := prog_12_method_89_code
def yX10_odds : MethodName := ⟨RX10, "odds", "(I)I"⟩
abbrev cX10_ends : ByteArray := prog_12_method_90_code
def yX10_ends : MethodName := ⟨RX10, "ends", "(IZ)V"⟩
abbrev cX10_work : ByteArray := prog_12_method_91_code
def yX10_work : MethodName := ⟨RX10, "work", "(IIII)V"⟩
abbrev cX10_areAtRest : ByteArray := prog_12_method_92_code
def yX10_areAtRest : MethodName := ⟨RX10, "areAtRest", "(II)Z"⟩
abbrev cX10_relayOf : ByteArray := prog_12_method_93_code
def yX10_relayOf : MethodName := ⟨RX10, "relayOf", "(III)I"⟩
abbrev cX10_relay : ByteArray := prog_12_method_94_code
def yX10_relay : MethodName := ⟨RX10, "relay", "(III)I"⟩
abbrev cX10_ranked : ByteArray := prog_12_method_95_code
def yX10_ranked : MethodName := ⟨RX10, "ranked", "(II)I"⟩
abbrev cX10_walksTwice : ByteArray := prog_12_method_96_code
def yX10_walksTwice : MethodName := ⟨RX10, "walksTwice", "(JI)I"⟩
abbrev cX10_relax : ByteArray := prog_12_method_97_code
def yX10_relax : MethodName := ⟨RX10, "relax", "(III)V"⟩
abbrev cX10_makeAll : ByteArray := prog_12_method_98_code
def yX10_makeAll : MethodName := ⟨RX10, "makeAll", "()V"⟩
abbrev cX10_make : ByteArray := prog_12_method_99_code
def yX10_make : MethodName := ⟨RX10, "make", "(II)I"⟩
abbrev cX10_kids : ByteArray := prog_12_method_100_code
def yX10_kids : MethodName := ⟨RX10, "kids", "(I)I"⟩
abbrev cX10_image : ByteArray := prog_12_method_101_code
def yX10_image : MethodName := ⟨RX10, "image", "()I"⟩
abbrev cX10_back : ByteArray := prog_12_method_102_code
def yX10_back : MethodName := ⟨RX10, "back", "()I"⟩
abbrev cX10_count : ByteArray := prog_12_method_103_code
def yX10_count : MethodName := ⟨RX10, "count", "(I)I"⟩
def RJx145de : String := "java/io/Serializable"
def TJx145de : u_T := fun k => match k with
  | _ => ("", "", "", false)
def tyJx145de : Nat → FieldType := fun k => match k with
  | _ => .int
abbrev wsJx145de0 : List Cond := u_ws RJx145de TJx145de 0
theorem nmJx145de : ∀ a, a < 0 → ∀ b, b < 0 → a ≠ b → (TJx145de a).2.1 ≠ (TJx145de b).2.1 := by decide +kernel
theorem tyJx145de_ok : ∀ k, k < 0 → parseFieldDescriptor (TJx145de k).2.2.1 = some (tyJx145de k) := by decide +kernel
def RJx9f9b0 : String := "java/lang/CharSequence"
def TJx9f9b0 : u_T := fun k => match k with
  | _ => ("", "", "", false)
def tyJx9f9b0 : Nat → FieldType := fun k => match k with
  | _ => .int
abbrev wsJx9f9b00 : List Cond := u_ws RJx9f9b0 TJx9f9b0 0
theorem nmJx9f9b0 : ∀ a, a < 0 → ∀ b, b < 0 → a ≠ b → (TJx9f9b0 a).2.1 ≠ (TJx9f9b0 b).2.1 := by decide +kernel
theorem tyJx9f9b0_ok : ∀ k, k < 0 → parseFieldDescriptor (TJx9f9b0 k).2.2.1 = some (tyJx9f9b0 k) := by decide +kernel
def RJ11 : String := "java/lang/Character"
def TJ11 : u_T := fun k => match k with
  | _ => ("", "", "", false)
def tyJ11 : Nat → FieldType := fun k => match k with
  | _ => .int
abbrev wsJ110 : List Cond := u_ws RJ11 TJ11 0
theorem nmJ11 : ∀ a, a < 0 → ∀ b, b < 0 → a ≠ b → (TJ11 a).2.1 ≠ (TJ11 b).2.1 := by decide +kernel
theorem tyJ11_ok : ∀ k, k < 0 → parseFieldDescriptor (TJ11 k).2.2.1 = some (tyJ11 k) := by decide +kernel
abbrev cJ11_isValidCodePoint_9a6ad : ByteArray := prog_15_method_11_code
def yJ11_isValidCodePoint_9a6ad : MethodName := ⟨RJ11, "isValidCodePoint", "(I)Z"⟩
abbrev cJ11_highSurrogate_5068e : ByteArray := prog_15_method_28_code
def yJ11_highSurrogate_5068e : MethodName := ⟨RJ11, "highSurrogate", "(I)C"⟩
abbrev cJ11_lowSurrogate_5068e : ByteArray := prog_15_method_29_code
def yJ11_lowSurrogate_5068e : MethodName := ⟨RJ11, "lowSurrogate", "(I)C"⟩
def RJx8e188 : String := "java/lang/Cloneable"
def TJx8e188 : u_T := fun k => match k with
  | _ => ("", "", "", false)
def tyJx8e188 : Nat → FieldType := fun k => match k with
  | _ => .int
abbrev wsJx8e1880 : List Cond := u_ws RJx8e188 TJx8e188 0
theorem nmJx8e188 : ∀ a, a < 0 → ∀ b, b < 0 → a ≠ b → (TJx8e188 a).2.1 ≠ (TJx8e188 b).2.1 := by decide +kernel
theorem tyJx8e188_ok : ∀ k, k < 0 → parseFieldDescriptor (TJx8e188 k).2.2.1 = some (tyJx8e188 k) := by decide +kernel
def RJxb160c : String := "java/lang/Comparable"
def TJxb160c : u_T := fun k => match k with
  | _ => ("", "", "", false)
def tyJxb160c : Nat → FieldType := fun k => match k with
  | _ => .int
abbrev wsJxb160c0 : List Cond := u_ws RJxb160c TJxb160c 0
theorem nmJxb160c : ∀ a, a < 0 → ∀ b, b < 0 → a ≠ b → (TJxb160c a).2.1 ≠ (TJxb160c b).2.1 := by decide +kernel
theorem tyJxb160c_ok : ∀ k, k < 0 → parseFieldDescriptor (TJxb160c k).2.2.1 = some (tyJxb160c k) := by decide +kernel
def RJ6 : String := "java/lang/Integer"
def TJ6 : u_T := fun k => match k with
  | _ => ("", "", "", false)
def tyJ6 : Nat → FieldType := fun k => match k with
  | _ => .int
abbrev wsJ60 : List Cond := u_ws RJ6 TJ6 0
theorem nmJ6 : ∀ a, a < 0 → ∀ b, b < 0 → a ≠ b → (TJ6 a).2.1 ≠ (TJ6 b).2.1 := by decide +kernel
theorem tyJ6_ok : ∀ k, k < 0 → parseFieldDescriptor (TJ6 k).2.2.1 = some (tyJ6 k) := by decide +kernel
abbrev cJ6_numberOfLeadingZeros_0f7a4 : ByteArray := prog_19_method_47_code
def yJ6_numberOfLeadingZeros_0f7a4 : MethodName := ⟨RJ6, "numberOfLeadingZeros", "(I)I"⟩
abbrev cJ6_bitCount_0f7a4 : ByteArray := prog_19_method_49_code
def yJ6_bitCount_0f7a4 : MethodName := ⟨RJ6, "bitCount", "(I)I"⟩
def RJ9 : String := "java/lang/Math"
def TJ9 : u_T := fun k => match k with
  | _ => ("", "", "", false)
def tyJ9 : Nat → FieldType := fun k => match k with
  | _ => .int
abbrev wsJ90 : List Cond := u_ws RJ9 TJ9 0
theorem nmJ9 : ∀ a, a < 0 → ∀ b, b < 0 → a ≠ b → (TJ9 a).2.1 ≠ (TJ9 b).2.1 := by decide +kernel
theorem tyJ9_ok : ∀ k, k < 0 → parseFieldDescriptor (TJ9 k).2.2.1 = some (tyJ9 k) := by decide +kernel
abbrev cJ9_multiplyHigh_f86c9 : ByteArray := prog_20_method_45_code
def yJ9_multiplyHigh_f86c9 : MethodName := ⟨RJ9, "multiplyHigh", "(JJ)J"⟩
abbrev cJ9_floorMod_f86c9 : ByteArray := prog_20_method_52_code
def yJ9_floorMod_f86c9 : MethodName := ⟨RJ9, "floorMod", "(JJ)J"⟩
abbrev cJ9_abs_0f7a4 : ByteArray := prog_20_method_59_code
def yJ9_abs_0f7a4 : MethodName := ⟨RJ9, "abs", "(I)I"⟩
abbrev cJ9_max_7cf53 : ByteArray := prog_20_method_65_code
def yJ9_max_7cf53 : MethodName := ⟨RJ9, "max", "(II)I"⟩
abbrev cJ9_max_f86c9 : ByteArray := prog_20_method_66_code
def yJ9_max_f86c9 : MethodName := ⟨RJ9, "max", "(JJ)J"⟩
abbrev cJ9_min_7cf53 : ByteArray := prog_20_method_69_code
def yJ9_min_7cf53 : MethodName := ⟨RJ9, "min", "(II)I"⟩
abbrev cJ9_min_f86c9 : ByteArray := prog_20_method_70_code
def yJ9_min_f86c9 : MethodName := ⟨RJ9, "min", "(JJ)J"⟩
def RJ0 : String := "java/lang/String"
def TJ0 : u_T := fun k => match k with
  | _ => ("", "", "", false)
def tyJ0 : Nat → FieldType := fun k => match k with
  | _ => .int
abbrev wsJ00 : List Cond := u_ws RJ0 TJ0 0
theorem nmJ0 : ∀ a, a < 0 → ∀ b, b < 0 → a ≠ b → (TJ0 a).2.1 ≠ (TJ0 b).2.1 := by decide +kernel
theorem tyJ0_ok : ∀ k, k < 0 → parseFieldDescriptor (TJ0 k).2.2.1 = some (tyJ0 k) := by decide +kernel
abbrev cJ0_length_8abf5 : ByteArray := prog_22_method_54_code
def yJ0_length_8abf5 : MethodName := ⟨RJ0, "length", "()I"⟩
abbrev cJ0_indexOf_0f7a4 : ByteArray := prog_22_method_79_code
def yJ0_indexOf_0f7a4 : MethodName := ⟨RJ0, "indexOf", "(I)I"⟩
abbrev cJ0_indexOf_7cf53 : ByteArray := prog_22_method_80_code
def yJ0_indexOf_7cf53 : MethodName := ⟨RJ0, "indexOf", "(II)I"⟩
abbrev cJ0_coder_7d493 : ByteArray := prog_22_method_152_code
def yJ0_coder_7d493 : MethodName := ⟨RJ0, "coder", "()B"⟩
abbrev cJ0_isLatin1_aae02 : ByteArray := prog_22_method_154_code
def yJ0_isLatin1_aae02 : MethodName := ⟨RJ0, "isLatin1", "()Z"⟩
abbrev cJ0_checkBoundsBeginEnd_23922 : ByteArray := prog_22_method_158_code
def yJ0_checkBoundsBeginEnd_23922 : MethodName := ⟨RJ0, "checkBoundsBeginEnd", "(III)V"⟩
def RJ1 : String := "java/lang/StringLatin1"
def TJ1 : u_T := fun k => match k with
  | _ => ("", "", "", false)
def tyJ1 : Nat → FieldType := fun k => match k with
  | _ => .int
abbrev wsJ10 : List Cond := u_ws RJ1 TJ1 0
theorem nmJ1 : ∀ a, a < 0 → ∀ b, b < 0 → a ≠ b → (TJ1 a).2.1 ≠ (TJ1 b).2.1 := by decide +kernel
theorem tyJ1_ok : ∀ k, k < 0 → parseFieldDescriptor (TJ1 k).2.2.1 = some (tyJ1 k) := by decide +kernel
abbrev cJ1_canEncode_9a6ad : ByteArray := prog_23_method_4_code
def yJ1_canEncode_9a6ad : MethodName := ⟨RJ1, "canEncode", "(I)Z"⟩
abbrev cJ1_indexOf_4cfef : ByteArray := prog_23_method_22_code
def yJ1_indexOf_4cfef : MethodName := ⟨RJ1, "indexOf", "([BIII)I"⟩
abbrev cJ1_indexOfChar_4cfef : ByteArray := prog_23_method_23_code
def yJ1_indexOfChar_4cfef : MethodName := ⟨RJ1, "indexOfChar", "([BIII)I"⟩
def RJ2 : String := "java/lang/StringUTF16"
def TJ2 : u_T := fun k => match k with
  | _ => ("", "", "", false)
def tyJ2 : Nat → FieldType := fun k => match k with
  | _ => .int
abbrev wsJ20 : List Cond := u_ws RJ2 TJ2 0
theorem nmJ2 : ∀ a, a < 0 → ∀ b, b < 0 → a ≠ b → (TJ2 a).2.1 ≠ (TJ2 b).2.1 := by decide +kernel
theorem tyJ2_ok : ∀ k, k < 0 → parseFieldDescriptor (TJ2 k).2.2.1 = some (tyJ2 k) := by decide +kernel
abbrev cJ2_getChar_3b067 : ByteArray := prog_24_method_5_code
def yJ2_getChar_3b067 : MethodName := ⟨RJ2, "getChar", "([BI)C"⟩
abbrev cJ2_length_9d52b : ByteArray := prog_24_method_6_code
def yJ2_length_9d52b : MethodName := ⟨RJ2, "length", "([B)I"⟩
abbrev cJ2_indexOf_4cfef : ByteArray := prog_24_method_40_code
def yJ2_indexOf_4cfef : MethodName := ⟨RJ2, "indexOf", "([BIII)I"⟩
abbrev cJ2_indexOfChar_4cfef : ByteArray := prog_24_method_47_code
def yJ2_indexOfChar_4cfef : MethodName := ⟨RJ2, "indexOfChar", "([BIII)I"⟩
abbrev cJ2_indexOfCharUnsafe_4cfef : ByteArray := prog_24_method_48_code
def yJ2_indexOfCharUnsafe_4cfef : MethodName := ⟨RJ2, "indexOfCharUnsafe", "([BIII)I"⟩
abbrev cJ2_indexOfSupplementary_4cfef : ByteArray := prog_24_method_49_code
def yJ2_indexOfSupplementary_4cfef : MethodName := ⟨RJ2, "indexOfSupplementary", "([BIII)I"⟩
abbrev cJ2_checkBoundsBeginEnd_d044e : ByteArray := prog_24_method_93_code
def yJ2_checkBoundsBeginEnd_d044e : MethodName := ⟨RJ2, "checkBoundsBeginEnd", "(II[B)V"⟩
def RJ10 : String := "java/lang/System"
def TJ10 : u_T := fun k => match k with
  | _ => ("", "", "", false)
def tyJ10 : Nat → FieldType := fun k => match k with
  | _ => .int
abbrev wsJ100 : List Cond := u_ws RJ10 TJ10 0
theorem nmJ10 : ∀ a, a < 0 → ∀ b, b < 0 → a ≠ b → (TJ10 a).2.1 ≠ (TJ10 b).2.1 := by decide +kernel
theorem tyJ10_ok : ∀ k, k < 0 → parseFieldDescriptor (TJ10 k).2.2.1 = some (tyJ10 k) := by decide +kernel
def RJxfd54e : String := "java/lang/constant/Constable"
def TJxfd54e : u_T := fun k => match k with
  | _ => ("", "", "", false)
def tyJxfd54e : Nat → FieldType := fun k => match k with
  | _ => .int
abbrev wsJxfd54e0 : List Cond := u_ws RJxfd54e TJxfd54e 0
theorem nmJxfd54e : ∀ a, a < 0 → ∀ b, b < 0 → a ≠ b → (TJxfd54e a).2.1 ≠ (TJxfd54e b).2.1 := by decide +kernel
theorem tyJxfd54e_ok : ∀ k, k < 0 → parseFieldDescriptor (TJxfd54e k).2.2.1 = some (tyJxfd54e k) := by decide +kernel
def RJx3cf43 : String := "java/lang/constant/ConstantDesc"
def TJx3cf43 : u_T := fun k => match k with
  | _ => ("", "", "", false)
def tyJx3cf43 : Nat → FieldType := fun k => match k with
  | _ => .int
abbrev wsJx3cf430 : List Cond := u_ws RJx3cf43 TJx3cf43 0
theorem nmJx3cf43 : ∀ a, a < 0 → ∀ b, b < 0 → a ≠ b → (TJx3cf43 a).2.1 ≠ (TJx3cf43 b).2.1 := by decide +kernel
theorem tyJx3cf43_ok : ∀ k, k < 0 → parseFieldDescriptor (TJx3cf43 k).2.2.1 = some (tyJx3cf43 k) := by decide +kernel
def RJ7 : String := "java/util/Arrays"
def TJ7 : u_T := fun k => match k with
  | _ => ("", "", "", false)
def tyJ7 : Nat → FieldType := fun k => match k with
  | _ => .int
abbrev wsJ70 : List Cond := u_ws RJ7 TJ7 0
theorem nmJ7 : ∀ a, a < 0 → ∀ b, b < 0 → a ≠ b → (TJ7 a).2.1 ≠ (TJ7 b).2.1 := by decide +kernel
theorem tyJ7_ok : ∀ k, k < 0 → parseFieldDescriptor (TJ7 k).2.2.1 = some (tyJ7 k) := by decide +kernel
abbrev cJ7_fill_d0a16 : ByteArray := prog_29_method_101_code
def yJ7_fill_d0a16 : MethodName := ⟨RJ7, "fill", "([JJ)V"⟩
abbrev cJ7_fill_53178 : ByteArray := prog_29_method_103_code
def yJ7_fill_53178 : MethodName := ⟨RJ7, "fill", "([II)V"⟩
abbrev cJ7_copyOf_59c91 : ByteArray := prog_29_method_123_code
def yJ7_copyOf_59c91 : MethodName := ⟨RJ7, "copyOf", "([II)[I"⟩
def RJ3 : String := "jdk/internal/util/Preconditions"
def TJ3 : u_T := fun k => match k with
  | _ => ("", "", "", false)
def tyJ3 : Nat → FieldType := fun k => match k with
  | _ => .int
abbrev wsJ30 : List Cond := u_ws RJ3 TJ3 0
theorem nmJ3 : ∀ a, a < 0 → ∀ b, b < 0 → a ≠ b → (TJ3 a).2.1 ≠ (TJ3 b).2.1 := by decide +kernel
theorem tyJ3_ok : ∀ k, k < 0 → parseFieldDescriptor (TJ3 k).2.2.1 = some (tyJ3 k) := by decide +kernel
abbrev cJ3_checkFromToIndex_8c36e : ByteArray := prog_31_method_12_code
def yJ3_checkFromToIndex_8c36e : MethodName := ⟨RJ3, "checkFromToIndex", "(IIILjava/util/function/BiFunction;)I"⟩
def RL : String := "GoatAbacusLaw"
abbrev cL_cell : ByteArray := method_2_code
def yL_cell : MethodName := ⟨RL, "cell", "([II)I"⟩
abbrev cL_step : ByteArray := method_3_code
def yL_step : MethodName := ⟨RL, "step", "(LGoatAbacus;III[J)I"⟩
abbrev cL_law : ByteArray := code
def yL_law : MethodName := ⟨RL, "law", "([I)Z"⟩
abbrev vwCl : List vw_C := [(RX0, TX0, 15), (RX1, TX1, 3), (RX2, TX2, 3), (RX3, TX3, 4), (RX4, TX4, 2), (RX5, TX5, 5), (RX6, TX6, 11), (RX7, TX7, 13), (RX8, TX8, 5), (RX9, TX9, 18), (RX10, TX10, 57)]
