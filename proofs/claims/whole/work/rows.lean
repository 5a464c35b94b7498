section
-- ===== PART A: goes FIRST, ahead of the names: the tables' words, and 'selects' of the private methods out of them =====
/-- a private method of a class that the tables say can be made, by its rows of tables_1 -/
def lw_okq (q : MethodName × Nat) : Prop := (q.1.cls ≠ "java/lang/invoke/MethodHandle" ∧ q.1.cls ≠ "java/lang/invoke/VarHandle") ∧ Cond.instantiable q.1.cls q.2 ∈ tables_1 ∧ Cond.privateMethod q.1 ∈ tables_1 ∧ Cond.instanceMethod q.1 ∈ tables_1
theorem lw_p0 : lw_okq (⟨"NumberedByAge", "shelfAt", "(I)LNumberedByAge$Shelf;"⟩, 5) := ⟨⟨by decide +kernel, by decide +kernel⟩, List.mem_of_getElem? (i := 23) (by decide +kernel), List.mem_of_getElem? (i := 142) (by decide +kernel), List.mem_of_getElem? (i := 143) (by decide +kernel)⟩
theorem lw_p1 : lw_okq (⟨"NumberedByAge", "carryOut", "(LNumberedByAge$Shelf;)I"⟩, 5) := ⟨⟨by decide +kernel, by decide +kernel⟩, List.mem_of_getElem? (i := 23) (by decide +kernel), List.mem_of_getElem? (i := 174) (by decide +kernel), List.mem_of_getElem? (i := 175) (by decide +kernel)⟩
theorem lw_p2 : lw_okq (⟨"NumberedByAge", "isCarriedOut", "(LNumberedByAge$Shelf;I)Z"⟩, 5) := ⟨⟨by decide +kernel, by decide +kernel⟩, List.mem_of_getElem? (i := 23) (by decide +kernel), List.mem_of_getElem? (i := 185) (by decide +kernel), List.mem_of_getElem? (i := 186) (by decide +kernel)⟩
theorem lw_p3 : lw_okq (⟨"NumberedByAge$Street", "addEvent", "(II)V"⟩, 10) := ⟨⟨by decide +kernel, by decide +kernel⟩, List.mem_of_getElem? (i := 31) (by decide +kernel), List.mem_of_getElem? (i := 258) (by decide +kernel), List.mem_of_getElem? (i := 259) (by decide +kernel)⟩
theorem lw_p4 : lw_okq (⟨"NumberedByAge", "wayBy", "(IIZ)I"⟩, 5) := ⟨⟨by decide +kernel, by decide +kernel⟩, List.mem_of_getElem? (i := 23) (by decide +kernel), List.mem_of_getElem? (i := 401) (by decide +kernel), List.mem_of_getElem? (i := 402) (by decide +kernel)⟩
theorem lw_p5 : lw_okq (⟨"NumberedByAge", "comesByAll", "(LNumberedByAge$Shelf;I)Z"⟩, 5) := ⟨⟨by decide +kernel, by decide +kernel⟩, List.mem_of_getElem? (i := 23) (by decide +kernel), List.mem_of_getElem? (i := 405) (by decide +kernel), List.mem_of_getElem? (i := 406) (by decide +kernel)⟩
theorem lw_p6 : lw_okq (⟨"NumberedByAge", "leastWay", "(LNumberedByAge$Shelf;I)I"⟩, 5) := ⟨⟨by decide +kernel, by decide +kernel⟩, List.mem_of_getElem? (i := 23) (by decide +kernel), List.mem_of_getElem? (i := 409) (by decide +kernel), List.mem_of_getElem? (i := 410) (by decide +kernel)⟩
theorem lw_p7 : lw_okq (⟨"NumberedByAge", "wayOfSearch", "(LNumberedByAge$Shelf;I)I"⟩, 5) := ⟨⟨by decide +kernel, by decide +kernel⟩, List.mem_of_getElem? (i := 23) (by decide +kernel), List.mem_of_getElem? (i := 419) (by decide +kernel), List.mem_of_getElem? (i := 420) (by decide +kernel)⟩
theorem lw_p8 : lw_okq (⟨"NumberedByAge$Street", "longestRiseBelow", "(I)I"⟩, 10) := ⟨⟨by decide +kernel, by decide +kernel⟩, List.mem_of_getElem? (i := 31) (by decide +kernel), List.mem_of_getElem? (i := 435) (by decide +kernel), List.mem_of_getElem? (i := 436) (by decide +kernel)⟩
theorem lw_p9 : lw_okq (⟨"NumberedByAge", "firstInOrder", "(I)I"⟩, 5) := ⟨⟨by decide +kernel, by decide +kernel⟩, List.mem_of_getElem? (i := 23) (by decide +kernel), List.mem_of_getElem? (i := 493) (by decide +kernel), List.mem_of_getElem? (i := 494) (by decide +kernel)⟩
theorem lw_p10 : lw_okq (⟨"NumberedByAge", "sharedIfRaised", "(LNumberedByAge$Shelf;I)I"⟩, 5) := ⟨⟨by decide +kernel, by decide +kernel⟩, List.mem_of_getElem? (i := 23) (by decide +kernel), List.mem_of_getElem? (i := 504) (by decide +kernel), List.mem_of_getElem? (i := 505) (by decide +kernel)⟩
theorem lw_p11 : lw_okq (⟨"NumberedByAge", "leastRaise", "(LNumberedByAge$Shelf;)I"⟩, 5) := ⟨⟨by decide +kernel, by decide +kernel⟩, List.mem_of_getElem? (i := 23) (by decide +kernel), List.mem_of_getElem? (i := 508) (by decide +kernel), List.mem_of_getElem? (i := 509) (by decide +kernel)⟩
theorem lw_p12 : lw_okq (⟨"NumberedByAge$Shelf", "kept", "(I)I"⟩, 4) := ⟨⟨by decide +kernel, by decide +kernel⟩, List.mem_of_getElem? (i := 99) (by decide +kernel), List.mem_of_getElem? (i := 580) (by decide +kernel), List.mem_of_getElem? (i := 581) (by decide +kernel)⟩
theorem lw_p13 : lw_okq (⟨"java/lang/Throwable", "fillInStackTrace", "(I)Ljava/lang/Throwable;"⟩, 6) := ⟨⟨by decide +kernel, by decide +kernel⟩, List.mem_of_getElem? (i := 686) (by decide +kernel), List.mem_of_getElem? (i := 684) (by decide +kernel), List.mem_of_getElem? (i := 685) (by decide +kernel)⟩
theorem lw_p14 : lw_okq (⟨"NumberedByAgeModel", "wrongSort", "(II)I"⟩, 35) := ⟨⟨by decide +kernel, by decide +kernel⟩, List.mem_of_getElem? (i := 770) (by decide +kernel), List.mem_of_getElem? (i := 891) (by decide +kernel), List.mem_of_getElem? (i := 892) (by decide +kernel)⟩
theorem lw_p15 : lw_okq (⟨"NumberedByAgeModel", "wrongRow", "(I)I"⟩, 35) := ⟨⟨by decide +kernel, by decide +kernel⟩, List.mem_of_getElem? (i := 770) (by decide +kernel), List.mem_of_getElem? (i := 895) (by decide +kernel), List.mem_of_getElem? (i := 896) (by decide +kernel)⟩
def lw_privs_1 : List (MethodName × Nat) := [(⟨"NumberedByAge", "shelfAt", "(I)LNumberedByAge$Shelf;"⟩, 5), (⟨"NumberedByAge", "carryOut", "(LNumberedByAge$Shelf;)I"⟩, 5), (⟨"NumberedByAge", "isCarriedOut", "(LNumberedByAge$Shelf;I)Z"⟩, 5), (⟨"NumberedByAge$Street", "addEvent", "(II)V"⟩, 10), (⟨"NumberedByAge", "wayBy", "(IIZ)I"⟩, 5), (⟨"NumberedByAge", "comesByAll", "(LNumberedByAge$Shelf;I)Z"⟩, 5), (⟨"NumberedByAge", "leastWay", "(LNumberedByAge$Shelf;I)I"⟩, 5), (⟨"NumberedByAge", "wayOfSearch", "(LNumberedByAge$Shelf;I)I"⟩, 5), (⟨"NumberedByAge$Street", "longestRiseBelow", "(I)I"⟩, 10), (⟨"NumberedByAge", "firstInOrder", "(I)I"⟩, 5), (⟨"NumberedByAge", "sharedIfRaised", "(LNumberedByAge$Shelf;I)I"⟩, 5), (⟨"NumberedByAge", "leastRaise", "(LNumberedByAge$Shelf;)I"⟩, 5), (⟨"NumberedByAge$Shelf", "kept", "(I)I"⟩, 4), (⟨"java/lang/Throwable", "fillInStackTrace", "(I)Ljava/lang/Throwable;"⟩, 6), (⟨"NumberedByAgeModel", "wrongSort", "(II)I"⟩, 35), (⟨"NumberedByAgeModel", "wrongRow", "(I)I"⟩, 35)]
theorem lw_r1 : ∀ q ∈ lw_privs_1, lw_okq q := List.forall_mem_cons.mpr ⟨lw_p0, List.forall_mem_cons.mpr ⟨lw_p1, List.forall_mem_cons.mpr ⟨lw_p2, List.forall_mem_cons.mpr ⟨lw_p3, List.forall_mem_cons.mpr ⟨lw_p4, List.forall_mem_cons.mpr ⟨lw_p5, List.forall_mem_cons.mpr ⟨lw_p6, List.forall_mem_cons.mpr ⟨lw_p7, List.forall_mem_cons.mpr ⟨lw_p8, List.forall_mem_cons.mpr ⟨lw_p9, List.forall_mem_cons.mpr ⟨lw_p10, List.forall_mem_cons.mpr ⟨lw_p11, List.forall_mem_cons.mpr ⟨lw_p12, List.forall_mem_cons.mpr ⟨lw_p13, List.forall_mem_cons.mpr ⟨lw_p14, List.forall_mem_cons.mpr ⟨lw_p15, fun _ h => absurd h List.not_mem_nil⟩⟩⟩⟩⟩⟩⟩⟩⟩⟩⟩⟩⟩⟩⟩⟩
theorem lw_p16 : lw_okq (⟨"NumberedByAgeModel", "readStatement", "()V"⟩, 35) := ⟨⟨by decide +kernel, by decide +kernel⟩, List.mem_of_getElem? (i := 770) (by decide +kernel), List.mem_of_getElem? (i := 903) (by decide +kernel), List.mem_of_getElem? (i := 904) (by decide +kernel)⟩
theorem lw_p17 : lw_okq (⟨"NumberedByAgeModel", "here", "()I"⟩, 35) := ⟨⟨by decide +kernel, by decide +kernel⟩, List.mem_of_getElem? (i := 770) (by decide +kernel), List.mem_of_getElem? (i := 907) (by decide +kernel), List.mem_of_getElem? (i := 908) (by decide +kernel)⟩
theorem lw_p18 : lw_okq (⟨"NumberedByAgeModel", "readDigit", "()I"⟩, 35) := ⟨⟨by decide +kernel, by decide +kernel⟩, List.mem_of_getElem? (i := 770) (by decide +kernel), List.mem_of_getElem? (i := 911) (by decide +kernel), List.mem_of_getElem? (i := 912) (by decide +kernel)⟩
theorem lw_p19 : lw_okq (⟨"NumberedByAgeModel", "carryAll", "([IZ)V"⟩, 35) := ⟨⟨by decide +kernel, by decide +kernel⟩, List.mem_of_getElem? (i := 770) (by decide +kernel), List.mem_of_getElem? (i := 917) (by decide +kernel), List.mem_of_getElem? (i := 918) (by decide +kernel)⟩
theorem lw_p20 : lw_okq (⟨"NumberedByAgeModel", "carry", "(I)I"⟩, 35) := ⟨⟨by decide +kernel, by decide +kernel⟩, List.mem_of_getElem? (i := 770) (by decide +kernel), List.mem_of_getElem? (i := 921) (by decide +kernel), List.mem_of_getElem? (i := 922) (by decide +kernel)⟩
theorem lw_p21 : lw_okq (⟨"NumberedByAgeModel", "comes", "(I)Z"⟩, 35) := ⟨⟨by decide +kernel, by decide +kernel⟩, List.mem_of_getElem? (i := 770) (by decide +kernel), List.mem_of_getElem? (i := 925) (by decide +kernel), List.mem_of_getElem? (i := 926) (by decide +kernel)⟩
theorem lw_p22 : lw_okq (⟨"NumberedByAgeModel", "builds", "(II)V"⟩, 35) := ⟨⟨by decide +kernel, by decide +kernel⟩, List.mem_of_getElem? (i := 770) (by decide +kernel), List.mem_of_getElem? (i := 929) (by decide +kernel), List.mem_of_getElem? (i := 930) (by decide +kernel)⟩
theorem lw_p23 : lw_okq (⟨"NumberedByAgeModel", "lookNow", "()V"⟩, 35) := ⟨⟨by decide +kernel, by decide +kernel⟩, List.mem_of_getElem? (i := 770) (by decide +kernel), List.mem_of_getElem? (i := 933) (by decide +kernel), List.mem_of_getElem? (i := 934) (by decide +kernel)⟩
theorem lw_p24 : lw_okq (⟨"NumberedByAgeModel", "lookEmpty", "()V"⟩, 35) := ⟨⟨by decide +kernel, by decide +kernel⟩, List.mem_of_getElem? (i := 770) (by decide +kernel), List.mem_of_getElem? (i := 937) (by decide +kernel), List.mem_of_getElem? (i := 938) (by decide +kernel)⟩
theorem lw_p25 : lw_okq (⟨"NumberedByAgeModel", "numberBy", "(IIII)I"⟩, 35) := ⟨⟨by decide +kernel, by decide +kernel⟩, List.mem_of_getElem? (i := 770) (by decide +kernel), List.mem_of_getElem? (i := 941) (by decide +kernel), List.mem_of_getElem? (i := 942) (by decide +kernel)⟩
theorem lw_p26 : lw_okq (⟨"NumberedByAgeModel", "firstGap", "()I"⟩, 35) := ⟨⟨by decide +kernel, by decide +kernel⟩, List.mem_of_getElem? (i := 770) (by decide +kernel), List.mem_of_getElem? (i := 945) (by decide +kernel), List.mem_of_getElem? (i := 946) (by decide +kernel)⟩
theorem lw_p27 : lw_okq (⟨"NumberedByAgeModel", "isHad", "(I)Z"⟩, 35) := ⟨⟨by decide +kernel, by decide +kernel⟩, List.mem_of_getElem? (i := 770) (by decide +kernel), List.mem_of_getElem? (i := 949) (by decide +kernel), List.mem_of_getElem? (i := 950) (by decide +kernel)⟩
theorem lw_p28 : lw_okq (⟨"NumberedByAgeModel", "greatest", "()I"⟩, 35) := ⟨⟨by decide +kernel, by decide +kernel⟩, List.mem_of_getElem? (i := 770) (by decide +kernel), List.mem_of_getElem? (i := 956) (by decide +kernel), List.mem_of_getElem? (i := 957) (by decide +kernel)⟩
theorem lw_p29 : lw_okq (⟨"NumberedByAgeModel", "burns", "(I)V"⟩, 35) := ⟨⟨by decide +kernel, by decide +kernel⟩, List.mem_of_getElem? (i := 770) (by decide +kernel), List.mem_of_getElem? (i := 960) (by decide +kernel), List.mem_of_getElem? (i := 961) (by decide +kernel)⟩
theorem lw_p30 : lw_okq (⟨"NumberedByAgeModel", "wrongLaw", "(I)I"⟩, 35) := ⟨⟨by decide +kernel, by decide +kernel⟩, List.mem_of_getElem? (i := 770) (by decide +kernel), List.mem_of_getElem? (i := 989) (by decide +kernel), List.mem_of_getElem? (i := 990) (by decide +kernel)⟩
theorem lw_p31 : lw_okq (⟨"NumberedByAgeModel", "builtAt", "(I)I"⟩, 35) := ⟨⟨by decide +kernel, by decide +kernel⟩, List.mem_of_getElem? (i := 770) (by decide +kernel), List.mem_of_getElem? (i := 998) (by decide +kernel), List.mem_of_getElem? (i := 999) (by decide +kernel)⟩
def lw_privs_2 : List (MethodName × Nat) := [(⟨"NumberedByAgeModel", "readStatement", "()V"⟩, 35), (⟨"NumberedByAgeModel", "here", "()I"⟩, 35), (⟨"NumberedByAgeModel", "readDigit", "()I"⟩, 35), (⟨"NumberedByAgeModel", "carryAll", "([IZ)V"⟩, 35), (⟨"NumberedByAgeModel", "carry", "(I)I"⟩, 35), (⟨"NumberedByAgeModel", "comes", "(I)Z"⟩, 35), (⟨"NumberedByAgeModel", "builds", "(II)V"⟩, 35), (⟨"NumberedByAgeModel", "lookNow", "()V"⟩, 35), (⟨"NumberedByAgeModel", "lookEmpty", "()V"⟩, 35), (⟨"NumberedByAgeModel", "numberBy", "(IIII)I"⟩, 35), (⟨"NumberedByAgeModel", "firstGap", "()I"⟩, 35), (⟨"NumberedByAgeModel", "isHad", "(I)Z"⟩, 35), (⟨"NumberedByAgeModel", "greatest", "()I"⟩, 35), (⟨"NumberedByAgeModel", "burns", "(I)V"⟩, 35), (⟨"NumberedByAgeModel", "wrongLaw", "(I)I"⟩, 35), (⟨"NumberedByAgeModel", "builtAt", "(I)I"⟩, 35)]
theorem lw_r2 : ∀ q ∈ lw_privs_2, lw_okq q := List.forall_mem_cons.mpr ⟨lw_p16, List.forall_mem_cons.mpr ⟨lw_p17, List.forall_mem_cons.mpr ⟨lw_p18, List.forall_mem_cons.mpr ⟨lw_p19, List.forall_mem_cons.mpr ⟨lw_p20, List.forall_mem_cons.mpr ⟨lw_p21, List.forall_mem_cons.mpr ⟨lw_p22, List.forall_mem_cons.mpr ⟨lw_p23, List.forall_mem_cons.mpr ⟨lw_p24, List.forall_mem_cons.mpr ⟨lw_p25, List.forall_mem_cons.mpr ⟨lw_p26, List.forall_mem_cons.mpr ⟨lw_p27, List.forall_mem_cons.mpr ⟨lw_p28, List.forall_mem_cons.mpr ⟨lw_p29, List.forall_mem_cons.mpr ⟨lw_p30, List.forall_mem_cons.mpr ⟨lw_p31, fun _ h => absurd h List.not_mem_nil⟩⟩⟩⟩⟩⟩⟩⟩⟩⟩⟩⟩⟩⟩⟩⟩
theorem lw_p32 : lw_okq (⟨"NumberedByAgeModel", "gapsLooked", "()I"⟩, 35) := ⟨⟨by decide +kernel, by decide +kernel⟩, List.mem_of_getElem? (i := 770) (by decide +kernel), List.mem_of_getElem? (i := 1023) (by decide +kernel), List.mem_of_getElem? (i := 1024) (by decide +kernel)⟩
theorem lw_p33 : lw_okq (⟨"NumberedByAgeModel", "areMet", "(III)Z"⟩, 35) := ⟨⟨by decide +kernel, by decide +kernel⟩, List.mem_of_getElem? (i := 770) (by decide +kernel), List.mem_of_getElem? (i := 1031) (by decide +kernel), List.mem_of_getElem? (i := 1032) (by decide +kernel)⟩
theorem lw_p34 : lw_okq (⟨"NumberedByAgeModel", "isIn", "(JII)Z"⟩, 35) := ⟨⟨by decide +kernel, by decide +kernel⟩, List.mem_of_getElem? (i := 770) (by decide +kernel), List.mem_of_getElem? (i := 1035) (by decide +kernel), List.mem_of_getElem? (i := 1036) (by decide +kernel)⟩
theorem lw_p35 : lw_okq (⟨"NumberedByAgeModel", "riseLooked", "()I"⟩, 35) := ⟨⟨by decide +kernel, by decide +kernel⟩, List.mem_of_getElem? (i := 770) (by decide +kernel), List.mem_of_getElem? (i := 1047) (by decide +kernel), List.mem_of_getElem? (i := 1048) (by decide +kernel)⟩
theorem lw_p36 : lw_okq (⟨"NumberedByAgeModel", "replay", "(II)V"⟩, 35) := ⟨⟨by decide +kernel, by decide +kernel⟩, List.mem_of_getElem? (i := 770) (by decide +kernel), List.mem_of_getElem? (i := 1059) (by decide +kernel), List.mem_of_getElem? (i := 1060) (by decide +kernel)⟩
theorem lw_p37 : lw_okq (⟨"NumberedByAgeModel", "buildLooked", "(IIII)V"⟩, 35) := ⟨⟨by decide +kernel, by decide +kernel⟩, List.mem_of_getElem? (i := 770) (by decide +kernel), List.mem_of_getElem? (i := 1063) (by decide +kernel), List.mem_of_getElem? (i := 1064) (by decide +kernel)⟩
theorem lw_p38 : lw_okq (⟨"NumberedByAgeModel", "areAsNow", "()Z"⟩, 35) := ⟨⟨by decide +kernel, by decide +kernel⟩, List.mem_of_getElem? (i := 770) (by decide +kernel), List.mem_of_getElem? (i := 1071) (by decide +kernel), List.mem_of_getElem? (i := 1072) (by decide +kernel)⟩
theorem lw_p39 : lw_okq (⟨"NumberedByAgeModel", "houseMany", "()I"⟩, 35) := ⟨⟨by decide +kernel, by decide +kernel⟩, List.mem_of_getElem? (i := 770) (by decide +kernel), List.mem_of_getElem? (i := 1079) (by decide +kernel), List.mem_of_getElem? (i := 1080) (by decide +kernel)⟩
theorem lw_p40 : lw_okq (⟨"NumberedByAgeModel", "nextOrder", "(I)Z"⟩, 35) := ⟨⟨by decide +kernel, by decide +kernel⟩, List.mem_of_getElem? (i := 770) (by decide +kernel), List.mem_of_getElem? (i := 1083) (by decide +kernel), List.mem_of_getElem? (i := 1084) (by decide +kernel)⟩
theorem lw_p41 : lw_okq (⟨"NumberedByAgeModel", "hadOf", "(II)I"⟩, 35) := ⟨⟨by decide +kernel, by decide +kernel⟩, List.mem_of_getElem? (i := 770) (by decide +kernel), List.mem_of_getElem? (i := 1092) (by decide +kernel), List.mem_of_getElem? (i := 1093) (by decide +kernel)⟩
theorem lw_p42 : lw_okq (⟨"NumberedByAgeModel", "draw", "(I)I"⟩, 35) := ⟨⟨by decide +kernel, by decide +kernel⟩, List.mem_of_getElem? (i := 770) (by decide +kernel), List.mem_of_getElem? (i := 1101) (by decide +kernel), List.mem_of_getElem? (i := 1102) (by decide +kernel)⟩
theorem lw_p43 : lw_okq (⟨"NumberedByAgeModel", "skippedIn", "(I)J"⟩, 35) := ⟨⟨by decide +kernel, by decide +kernel⟩, List.mem_of_getElem? (i := 770) (by decide +kernel), List.mem_of_getElem? (i := 1112) (by decide +kernel), List.mem_of_getElem? (i := 1113) (by decide +kernel)⟩
def lw_privs_3 : List (MethodName × Nat) := [(⟨"NumberedByAgeModel", "gapsLooked", "()I"⟩, 35), (⟨"NumberedByAgeModel", "areMet", "(III)Z"⟩, 35), (⟨"NumberedByAgeModel", "isIn", "(JII)Z"⟩, 35), (⟨"NumberedByAgeModel", "riseLooked", "()I"⟩, 35), (⟨"NumberedByAgeModel", "replay", "(II)V"⟩, 35), (⟨"NumberedByAgeModel", "buildLooked", "(IIII)V"⟩, 35), (⟨"NumberedByAgeModel", "areAsNow", "()Z"⟩, 35), (⟨"NumberedByAgeModel", "houseMany", "()I"⟩, 35), (⟨"NumberedByAgeModel", "nextOrder", "(I)Z"⟩, 35), (⟨"NumberedByAgeModel", "hadOf", "(II)I"⟩, 35), (⟨"NumberedByAgeModel", "draw", "(I)I"⟩, 35), (⟨"NumberedByAgeModel", "skippedIn", "(I)J"⟩, 35)]
theorem lw_r3 : ∀ q ∈ lw_privs_3, lw_okq q := List.forall_mem_cons.mpr ⟨lw_p32, List.forall_mem_cons.mpr ⟨lw_p33, List.forall_mem_cons.mpr ⟨lw_p34, List.forall_mem_cons.mpr ⟨lw_p35, List.forall_mem_cons.mpr ⟨lw_p36, List.forall_mem_cons.mpr ⟨lw_p37, List.forall_mem_cons.mpr ⟨lw_p38, List.forall_mem_cons.mpr ⟨lw_p39, List.forall_mem_cons.mpr ⟨lw_p40, List.forall_mem_cons.mpr ⟨lw_p41, List.forall_mem_cons.mpr ⟨lw_p42, List.forall_mem_cons.mpr ⟨lw_p43, fun _ h => absurd h List.not_mem_nil⟩⟩⟩⟩⟩⟩⟩⟩⟩⟩⟩⟩
def lw_privs : List (MethodName × Nat) := lw_privs_1 ++ (lw_privs_2 ++ (lw_privs_3))
def lw_tbl : List Cond := k2_sels lw_privs ++ tables_1
theorem lw_privs_ok : ∀ q ∈ lw_privs, lw_okq q := by
  show ∀ q ∈ lw_privs_1 ++ (lw_privs_2 ++ (lw_privs_3)), lw_okq q
  exact List.forall_mem_append.mpr ⟨lw_r1, List.forall_mem_append.mpr ⟨lw_r2, lw_r3⟩⟩
-- ===== end of PART A; then your names; then what follows =====
end
section
/-! ===== BEGIN words of one list among another's, by their places ===== -/
theorem goodIn_r {big : List Cond} (ws : List Cond) (ps : List Nat) (hp : ws = ps.filterMap (fun i => big[i]?)) (h : ws.all goodWord = true) : GoodIn big ws := by
  intro w hw
  have h1 := List.all_eq_true.mp h w hw
  rw [hp] at hw
  obtain ⟨i, -, hi⟩ := List.mem_filterMap.mp hw
  have hm : w ∈ big := by first | exact List.mem_of_getElem? hi | exact List.getElem?_mem hi
  exact ⟨hm, good_of_word h1⟩
theorem goodIn_app {big a b : List Cond} (ha : GoodIn big a) (hb : GoodIn big b) : GoodIn big (a ++ b) := fun w h => (List.mem_append.mp h).elim (ha w) (hb w)
theorem goodIn_ca {big a b : List Cond} {c : Cond} (ha : GoodIn big (c :: a)) (hb : GoodIn big b) : GoodIn big (c :: (a ++ b)) := fun w h => (List.mem_cons.mp h).elim (fun e => ha w (List.mem_cons.mpr (Or.inl e))) (fun h => (List.mem_append.mp h).elim (fun h => ha w (List.mem_cons.mpr (Or.inr h))) (hb w))
theorem goodIn_sub {big ws : List Cond} (hm : ∀ w ∈ ws, w ∈ big) (h : ws.all goodWord = true) : GoodIn big ws := fun w hw => ⟨hm w hw, good_of_word (List.all_eq_true.mp h w hw)⟩
/-! ===== END ===== -/

/-! ===== BEGIN exceptions that leave a method, and their catching by the caller (launches without stack traces) ===== -/
section VXA
/-! The laws vx_back, vx_callV, vx_callS, vx_callSW, vx_throw0, vx_throwS follow proofs of the library, with one case more: JvmDerived/Free/Laws.lean (Back.of_free), Shelf42/LK1.lean (callV, callS), Shelf/KitTraced.lean (throwNew0V, throwNewS). -/
/-- where a method has thrown q: the class by its name, the cell, what was written, the world -/
def vx_T (XC : String → State → State → Prop) (st : State) (q : Addr) (t : State) (mc ms : Nat) (free : Addr → Prop) : Prop :=
  ∃ (E : String) (ce : Cell) (L : List Loc), XC E st t ∧ t.heap[q]? = some ce ∧ ce.vm = .none ∧ st.vm.findClass E = some ce.cls ∧ st.WarmedH t.vm ∧ st.sameButNew ({ t with vm := st.vm } : State) L mc ms ∧ ∀ z ∈ L, free z.base
def vx_Q (Qc : Array Value → State → Outcome → State → Prop) (XC : String → State → State → Prop) (mc ms : Nat) (free : Addr → Prop) : Array Value → State → Outcome → State → Prop := fun a st o t =>
  (Qc a st o t ∧ ∃ L, FrameEnd st o t L mc ms ∧ ∀ q ∈ L, free q.base) ∨ ∃ q, o = .threw q ∧ vx_T XC st q t mc ms free
/-- a callee that returns or throws -/
def vx_Met (l : Launch) (y : MethodName) (ws : List Cond) (rm : Room) (Pc : Array Value → State → Prop) (Qc : Array Value → State → Outcome → State → Prop) (XC : String → State → State → Prop) (mc ms : Nat) (free : Addr → Prop) : Prop :=
  MetFree l y (headSpec ws rm) Pc (fun _ _ _ _ _ => True) (vx_Q Qc XC mc ms free)
def vx_Post (XC : String → State → State → Prop) (mc ms : Nat) (free : Addr → Prop) : Pt → Array Value → Addr → Pt → Prop := fun A a q B =>
  ∃ (g : JFrame) (mk : MethodId) (t : State) (L : List Loc) (E : String) (ce : Cell), B.U.heap = t.heap ∧ B.U.vm = t.vm ∧ XC E (A.U.calling g mk a) t ∧ t.heap[q]? = some ce ∧ ce.vm = .none ∧ A.U.vm.findClass E = some ce.cls ∧ B.locs = A.locs ++ L ∧ (∀ z ∈ L, free z.base) ∧ B.cells = A.cells + mc ∧ B.slots = A.slots + ms
def vx_Back (l : Launch) (R : Room) (p : Program) (e : Env) (below : List Frame) (s : State) (sargs : Array Value) (y : MethodName) (len W9 : Nat)
    (Pre : Pt → Array Value → Prop) (Post : Pt → Array Value → Option Value → Pt → Prop) (PostX : Pt → Array Value → Addr → Pt → Prop) : Prop :=
  ∀ (m : MethodId) (meth : Method) (c : Code) (A : Pt) (g : JFrame) (ig : Instr) (mk : MethodId) (a : Array Value),
    Stand p l e R s m sargs below meth c A.U A.locs A.cells A.slots → g.method = m → g.locals.size = c.maxLocals → decode c.code g.pc = .ok (ig, len) →
    2 * g.monitorRoom + (g.stack.map fun v => v.category).sum ≤ W9 → A.U.methodNamed? y = some mk → Pre A a →
    (∃ (v : Option Value) (B : Pt), Stand p l e R s m sargs below meth c B.U B.locs B.cells B.slots ∧ Post A a v B ∧
      Steps p.tables e below (doInvoke e (A.U.setTop g) [] mk a).1 (B.U.setTop { g with pc := g.pc + len, stack := v.toList ++ g.stack })) ∨
    (∃ (q : Addr) (B : Pt), Stand p l e R s m sargs below meth c B.U B.locs B.cells B.slots ∧ PostX A a q B ∧
      Steps p.tables e below (doInvoke e (A.U.setTop g) [] mk a).1 ((B.U.setTop g).pushFrame (.throwing q)))
section Payer
variable {l : Launch} {R : Room} {p : Program} {e : Env} {below : List Frame} {s : State} {sargs : Array Value} {y : MethodName} {len W9 : Nat}
theorem vx_back {ws : List Cond} {rm : Room} {Pc : Array Value → State → Prop} {Qc : Array Value → State → Outcome → State → Prop} {XC : String → State → State → Prop} {mc ms : Nat} {free : Addr → Prop} {bytes : ByteArray} {maxL : Nat} {ret : Option FieldType}
    (hM : vx_Met l y ws rm Pc Qc XC mc ms free) (hblind : FrameBlind Pc) (hrc : rm.cells = mc) (hrs : rm.slots = ms)
    (hframes : rm.frames + 1 ≤ R.frames) (hlocals : W9 + (maxL + 11) + rm.locals ≤ R.locals)
    (hws : ∀ w ∈ ws, ∀ a' U, s.WarmedH U.vm → w.before a' U = true) (hcode : Cond.code y bytes maxL ret ∈ ws) (hinit : ∀ a' U, s.WarmedH U.vm → (Cond.initialized y.cls).before a' U = true) :
    vx_Back l R p e below s sargs y len W9 (PreOf R mc ms Pc) (PostOf Qc mc ms free) (vx_Post XC mc ms free) := by
  intro m meth c A g ig mk a X hg hsize hdg hW hn hp
  have h1 : (headSpec ws rm).pre.before a A.U = true := atoms_intro fun w hw => hws w hw _ _ X.warmed
  have h2 : (Cond.code y bytes maxL ret).before a A.U = true := hws _ hcode _ _ X.warmed
  have h3 : (Cond.initialized y.cls).before a A.U = true := hinit _ _ X.warmed
  have h4 : A.cells + (headSpec ws rm).room.cells ≤ R.cells := by rw [show (headSpec ws rm).room.cells = mc from hrc]; exact hp.1
  have h5 : A.slots + (headSpec ws rm).room.slots ≤ R.slots := by rw [show (headSpec ws rm).room.slots = ms from hrs]; exact hp.2.1
  have hPc : Pc a (A.U.calling g mk a) := hblind _ _ _ _ hp.2.2
  obtain ⟨U, Ls, c0, s0⟩ := A
  dsimp only [Pt.U, Pt.locs, Pt.cells, Pt.slots] at h1 h2 h3 h4 h5 X hn hPc ⊢
  obtain ⟨methY, cY, hmY, hcY, -, hlY, -, -, -, -⟩ := Cond.code_spec hn h2
  obtain ⟨kY, hkY, -⟩ := className_of_methodNamed hn
  have hinitY : kY.init = .initialized := Cond.initialized_spec (findClass_of_methodNamed hn) hkY h3
  have h : At U g.method c below := by rw [hg]; exact X.here
  have hlocals9 : W9 + (maxL + 11) + (headSpec ws rm).room.locals ≤ R.locals := hlocals
  have happ : (headSpec ws rm).appliesLoose y e.platform (U.calling g mk a) = true :=
    Spec.appliesLoose_calling (g := g) h hdg hn hkY hinitY
      (X.room_calling (g := g) (R' := (headSpec ws rm).room) hsize hmY hcY hframes (by rw [hlY]; omega) h4 h5) h1
  obtain ⟨mid, hmid⟩ := h.above
  have hfr : (U.setTop g).frames = (.java g :: mid) ++ below := by rw [State.frames_setTop' g h.top, hmid]; rfl
  obtain ⟨o, s₂, hsteps, -, hend, hq⟩ := Steps.callFree hM p X.admits X.cas X.clock (acts := []) hfr happ hPc trivial
  have hq' : vx_Q Qc XC mc ms free a (U.calling g mk a) o s₂ := hq
  rw [State.frames_setTop' g h.top] at hend
  obtain ⟨g₀, hg0⟩ := Option.isSome_iff_exists.mp h.top
  obtain ⟨r, hr⟩ := State.topJava?_eq_some.mp hg0
  have hr' : (({ U with heap := s₂.heap, slotsUsed := s₂.slotsUsed } : State).setVm s₂.vm).frames = .java g₀ :: r := hr
  rcases hq' with ⟨hqc, L, hfe, hL⟩ | ⟨q, rfl, E, ce, L, hx, hce, hcv, hcl, hW₂, hsm, hL⟩
  · obtain ⟨⟨v, rfl⟩, hW₂, e2, q2, q3, q4, q5, q6⟩ := id hfe
    have e3 : s₂ = ({ (U.calling g mk a).setFrames s₂.frames with heap := s₂.heap, slotsUsed := s₂.slotsUsed } : State).setVm s₂.vm := by
      have : s₂ = ({ s₂ with vm := (U.calling g mk a).vm } : State).setVm s₂.vm := rfl
      rw [e2] at this
      exact this
    obtain ⟨c₂, i₂, len₂, hc₂, hd₂, hf₂⟩ := hend
    have hW' : U.WarmedH s₂.vm := hW₂
    have hcc : c₂ = c := by
      have h1 : s₂.code? g.method = U.code? g.method := by
        rw [State.code?_eq, State.code?_eq, hW'.alike.method?]
      exact Option.some.inj (hc₂.symm.trans (h1.trans h.code))
    subst hcc
    have hlen : len₂ = len := by rw [hdg] at hd₂; cases hd₂; rfl
    subst hlen
    have hs₂ : s₂ = (({ U with heap := s₂.heap, slotsUsed := s₂.slotsUsed } : State).setVm s₂.vm).setTop { g with pc := g.pc + len₂, stack := v.toList ++ g.stack } := by
      refine e3.trans ?_
      rw [hf₂, State.calling_eq h.top, State.setFrames_setFrames, State.setTop_of_frames _ hr', hr]
      rfl
    have hsame : U.sameButNew ({ U with heap := s₂.heap, slotsUsed := s₂.slotsUsed } : State) L mc ms := by
      refine ⟨?_, q2, q3, q4, q5, q6⟩
      obtain ⟨t, ht, -⟩ := State.frames_cons hr
      show ({ U with heap := s₂.heap, slotsUsed := s₂.slotsUsed } : State) = { U.setFrames U.frames with heap := s₂.heap, slotsUsed := s₂.slotsUsed }
      rw [State.setFrames_self ht]
    subst hg
    refine Or.inl ⟨v, ⟨(({ U with heap := s₂.heap, slotsUsed := s₂.slotsUsed } : State).setVm s₂.vm), Ls ++ L, c0 + mc, s0 + ms⟩,
      ⟨X.admits, X.cas, X.clock, X.frames, X.room, X.hears, X.method, X.code, (X.here.setHeapUsed s₂.heap s₂.slotsUsed).setVm hW'.alike, X.tail, State.WarmedH.trans X.warmed hW', X.limits, X.bytes, X.same.trans (hsame.setVm s.vm)⟩,
      ⟨g, mk, s₂, L, rfl, rfl, hqc, rfl, hL, rfl, rfl⟩, ?_⟩
    show Steps p.tables e below _ ((({ U with heap := s₂.heap, slotsUsed := s₂.slotsUsed } : State).setVm s₂.vm).setTop { g with pc := g.pc + len₂, stack := v.toList ++ g.stack })
    rw [← hs₂]
    exact hsteps
  · obtain ⟨e2, q2, q3, q4, q5, q6⟩ := id hsm
    have e3 : s₂ = ({ (U.calling g mk a).setFrames s₂.frames with heap := s₂.heap, slotsUsed := s₂.slotsUsed } : State).setVm s₂.vm := by
      have : s₂ = ({ s₂ with vm := (U.calling g mk a).vm } : State).setVm s₂.vm := rfl
      rw [e2] at this
      exact this
    have hf₂ : s₂.frames = .throwing q :: .java g :: U.frames.tail := hend
    have hW' : U.WarmedH s₂.vm := hW₂
    have hs₂ : s₂ = ((({ U with heap := s₂.heap, slotsUsed := s₂.slotsUsed } : State).setVm s₂.vm).setTop g).pushFrame (.throwing q) := by
      refine e3.trans ?_
      rw [hf₂, State.calling_eq h.top, State.setFrames_setFrames, State.pushFrame, State.frames_setTop _ hr', State.setTop_of_frames _ hr', State.setFrames_setFrames, hr]
      rfl
    have hsame : U.sameButNew ({ U with heap := s₂.heap, slotsUsed := s₂.slotsUsed } : State) L mc ms := by
      refine ⟨?_, q2, q3, q4, q5, q6⟩
      obtain ⟨t, ht, -⟩ := State.frames_cons hr
      show ({ U with heap := s₂.heap, slotsUsed := s₂.slotsUsed } : State) = { U.setFrames U.frames with heap := s₂.heap, slotsUsed := s₂.slotsUsed }
      rw [State.setFrames_self ht]
    subst hg
    refine Or.inr ⟨q, ⟨(({ U with heap := s₂.heap, slotsUsed := s₂.slotsUsed } : State).setVm s₂.vm), Ls ++ L, c0 + mc, s0 + ms⟩,
      ⟨X.admits, X.cas, X.clock, X.frames, X.room, X.hears, X.method, X.code, (X.here.setHeapUsed s₂.heap s₂.slotsUsed).setVm hW'.alike, X.tail, State.WarmedH.trans X.warmed hW', X.limits, X.bytes, X.same.trans (hsame.setVm s.vm)⟩,
      ⟨g, mk, s₂, L, E, ce, rfl, rfl, hx, hce, hcv, hcl, rfl, hL, rfl, rfl⟩, ?_⟩
    show Steps p.tables e below _ (((({ U with heap := s₂.heap, slotsUsed := s₂.slotsUsed } : State).setVm s₂.vm).setTop g).pushFrame (.throwing q))
    rw [← hs₂]
    exact hsteps
end Payer
section Calls
variable {p : Program} {l : Launch} {e : Env} {R : Room} {s : State} {m : MethodId} {args : Array Value} {below : List Frame} {meth : Method} {c : Code} {T : State} {locs : List Loc} {cells slots : Nat}
theorem vx_callV (X : Stand p l e R s m args below meth c T locs cells slots) (hexec : p.tables.exec = Jvm.exec) {own C : String} {index : Nat} {y : MethodName} {bytes : ByteArray} {maxL : Nat} {ret : Option FieldType}
    (hown : s.vm.findClass own = some m.cls) (hlink : (Cond.methodLink own index y).before args s = true) (hinst : (Cond.instanceMethod y).before args s = true) (hsel : (Cond.selects C y y).before args s = true)
    (hcode : (Cond.code y bytes maxL ret).before args s = true) (hy : y.cls ≠ "java/lang/invoke/MethodHandle" ∧ y.cls ≠ "java/lang/invoke/VarHandle")
    {W9 : Nat} {Pre : Pt → Array Value → Prop} {Post : Pt → Array Value → Option Value → Pt → Prop} {PostX : Pt → Array Value → Addr → Pt → Prop} (hK : vx_Back l R p e below s args y 3 W9 Pre Post PostX)
    {b : Addr} {cellB : Cell} (hcell : T.heap[b]? = some cellB) (hobj : cellB.vm.isStatics = false) (hcls : s.vm.findClass C = some cellB.cls)
    {g : JFrame} (hg : g.method = m) (hsize : g.locals.size = c.maxLocals) {argsL rest : List Value} (hlen : ∀ sig, parseMethodDescriptor y.desc = some sig → argsL.length = sig.parameters.length)
    (hstack : g.stack = argsL.reverse ++ .ref b :: rest) (hW : 2 * g.monitorRoom + (rest.map fun v => v.category).sum ≤ W9) (hdg : decode c.code g.pc = .ok (.invokevirtual index, 3))
    (hpre : ∀ vm₁, s.WarmedH vm₁ → Pre ⟨T.setVm vm₁, locs, cells, slots⟩ (Value.ref b :: argsL).toArray) :
    (∃ (v : Option Value) (vm₁ : Vm) (B : Pt), s.WarmedH vm₁ ∧ Stand p l e R s m args below meth c B.U B.locs B.cells B.slots ∧ Post ⟨T.setVm vm₁, locs, cells, slots⟩ (Value.ref b :: argsL).toArray v B ∧
      ∀ target, Steps p.tables e below (B.U.setTop { g with pc := g.pc + 3, stack := v.toList ++ rest }) target → Steps p.tables e below (T.setTop g) target) ∨
    (∃ (q : Addr) (vm₁ : Vm) (B : Pt), s.WarmedH vm₁ ∧ Stand p l e R s m args below meth c B.U B.locs B.cells B.slots ∧ PostX ⟨T.setVm vm₁, locs, cells, slots⟩ (Value.ref b :: argsL).toArray q B ∧
      Steps p.tables e below (T.setTop g) ((B.U.setTop { g with stack := rest }).pushFrame (.throwing q))) := by
  obtain ⟨mk, methM, hnamed, hmethM, hstM, habM⟩ := Cond.instanceMethod_spec hinst
  obtain ⟨methM', cM, hmethM', -, -, -, -, -, -, hsigM⟩ := Cond.code_spec hnamed hcode
  cases hmethM.symm.trans hmethM'
  obtain ⟨c2, r2, m2, q1, q2, q3, q4, kP, hkP, hkPi⟩ := Cond.selects_spec hsel
  cases hcls.symm.trans q1
  cases (State.methodFound?_of_named hnamed hy).symm.trans q2
  cases hnamed.symm.trans q3
  have hselP : selectMethod e.platform s.vm cellB.cls mk = .method mk := by rw [Launch.admits_selectMethod X.admits]; exact q4
  obtain ⟨vm₁, X₁, hstep₁⟩ := X.invokevirtual hexec hown hlink hnamed hmethM hstM hkP hkPi hy (a := b) (cell := cellB) hcell
    (fun z h => by rw [h] at hobj; cases hobj) hselP hmethM habM hkP hkPi (g := g) hg (argsL := argsL) (rest := rest) (hlen _ hsigM) hstack hdg
  rcases hK m meth c ⟨T.setVm vm₁, locs, cells, slots⟩ { g with stack := rest } (.invokevirtual index) mk (Value.ref b :: argsL).toArray X₁ hg hsize hdg hW (X₁.named hnamed) (hpre vm₁ X₁.warmed) with ⟨v, B, X', hpost, hsteps⟩ | ⟨q, B, X', hpost, hsteps⟩
  · exact Or.inl ⟨v, vm₁, B, X₁.warmed, X', hpost, fun target h => hstep₁ _ fun acts => by rw [doInvoke_state]; exact hsteps.trans h⟩
  · exact Or.inr ⟨q, vm₁, B, X₁.warmed, X', hpost, hstep₁ _ fun acts => by rw [doInvoke_state]; exact hsteps⟩
theorem vx_callS (X : Stand p l e R s m args below meth c T locs cells slots) (hexec : p.tables.exec = Jvm.exec) {own : String} {index : Nat} {y : MethodName} {bytes : ByteArray} {maxL : Nat} {ret : Option FieldType}
    (hown : s.vm.findClass own = some m.cls) (hlink : (Cond.methodLink own index y).before args s = true) (hstat : (Cond.static y).before args s = true) (hinit : (Cond.initialized y.cls).before args s = true)
    (hcode : (Cond.code y bytes maxL ret).before args s = true) (hy : y.cls ≠ "java/lang/invoke/MethodHandle" ∧ y.cls ≠ "java/lang/invoke/VarHandle")
    {W9 : Nat} {Pre : Pt → Array Value → Prop} {Post : Pt → Array Value → Option Value → Pt → Prop} {PostX : Pt → Array Value → Addr → Pt → Prop} (hK : vx_Back l R p e below s args y 3 W9 Pre Post PostX)
    {g : JFrame} (hg : g.method = m) (hsize : g.locals.size = c.maxLocals) {argsL rest : List Value} (hlen : ∀ sig, parseMethodDescriptor y.desc = some sig → argsL.length = sig.parameters.length)
    (hstack : g.stack = argsL.reverse ++ rest) (hW : 2 * g.monitorRoom + (rest.map fun v => v.category).sum ≤ W9) (hdg : decode c.code g.pc = .ok (.invokestatic index, 3))
    (hpre : ∀ vm₁, s.WarmedH vm₁ → Pre ⟨T.setVm vm₁, locs, cells, slots⟩ argsL.toArray) :
    (∃ (v : Option Value) (vm₁ : Vm) (B : Pt), s.WarmedH vm₁ ∧ Stand p l e R s m args below meth c B.U B.locs B.cells B.slots ∧ Post ⟨T.setVm vm₁, locs, cells, slots⟩ argsL.toArray v B ∧
      ∀ target, Steps p.tables e below (B.U.setTop { g with pc := g.pc + 3, stack := v.toList ++ rest }) target → Steps p.tables e below (T.setTop g) target) ∨
    (∃ (q : Addr) (vm₁ : Vm) (B : Pt), s.WarmedH vm₁ ∧ Stand p l e R s m args below meth c B.U B.locs B.cells B.slots ∧ PostX ⟨T.setVm vm₁, locs, cells, slots⟩ argsL.toArray q B ∧
      Steps p.tables e below (T.setTop g) ((B.U.setTop { g with stack := rest }).pushFrame (.throwing q))) := by
  obtain ⟨mk, hnamed⟩ := Cond.code_named hcode
  obtain ⟨methM, cM, hmethM, -, -, -, -, -, -, hsigM⟩ := Cond.code_spec hnamed hcode
  have hstatic : methM.isStatic = true := Cond.static_spec hnamed hmethM hstat
  obtain ⟨kP, hkP, -⟩ := className_of_methodNamed hnamed
  have hinitP : kP.init = .initialized := Cond.initialized_spec (findClass_of_methodNamed hnamed) hkP hinit
  obtain ⟨vm₁, X₁, hstep₁⟩ := X.invokestatic hexec hown hlink hnamed hmethM hstatic hkP hinitP hy (g := g) hg (argsL := argsL) (rest := rest) (hlen _ hsigM) hstack hdg
  rcases hK m meth c ⟨T.setVm vm₁, locs, cells, slots⟩ { g with stack := rest } (.invokestatic index) mk argsL.toArray X₁ hg hsize hdg hW (X₁.named hnamed) (hpre vm₁ X₁.warmed) with ⟨v, B, X', hpost, hsteps⟩ | ⟨q, B, X', hpost, hsteps⟩
  · exact Or.inl ⟨v, vm₁, B, X₁.warmed, X', hpost, fun target h => hstep₁ _ fun acts => by rw [doInvoke_state]; exact hsteps.trans h⟩
  · exact Or.inr ⟨q, vm₁, B, X₁.warmed, X', hpost, hstep₁ _ fun acts => by rw [doInvoke_state]; exact hsteps⟩
end Calls
theorem vx_cls {s : State} {T : State} {vm₁ : Vm} {E : String} {k : ClassId} (hW : s.WarmedH vm₁) (h : (T.setVm vm₁).vm.findClass E = some k) : s.vm.findClass E = some k := by
  have h1 : vm₁.findClass E = some k := h
  rw [hW.alike.findClass] at h1
  exact h1
/-- the method's frame g, with q thrown over it -/
def vx_W (p : Program) (l : Launch) (e : Env) (R : Room) (s : State) (m : MethodId) (args : Array Value) (below : List Frame) (meth : Method) (c : Code) (H : Heap) (locs : List Loc) (cells slots : Nat) (Q : State → Prop) (g : JFrame) (q : Addr) : Prop :=
  ∀ T : State, T.heap = H → Stand p l e R s m args below meth c T locs cells slots → ∃ t, Steps p.tables e below ((T.setTop g).pushFrame (.throwing q)) t ∧ Q t
def vx_Run (p : Program) (l : Launch) (e : Env) (R : Room) (s : State) (m : MethodId) (args : Array Value) (below : List Frame) (meth : Method) (c : Code) (H : Heap) (locs : List Loc) (cells slots mc ms : Nat) (g : JFrame) (rest : List Value) (Qa : State → Outcome → State → Prop) (XC : String → State → State → Prop) (free : Addr → Prop) : Prop :=
  ∀ T : State, T.heap = H → Stand p l e R s m args below meth c T locs cells slots →
    (∃ (v : Option Value) (st₀ t T' : State) (L : List Loc), st₀.heap = H ∧ Stand p l e R s m args below meth c T' (locs ++ L) (cells + mc) (slots + ms) ∧ (∀ q ∈ L, free q.base) ∧ T'.heap = t.heap ∧ T'.vm = t.vm ∧ Qa st₀ (.returned v) t ∧
      Goes p e below T g T' { g with pc := g.pc + 3, stack := v.toList ++ rest }) ∨
    (∃ (q : Addr) (st₀ t T' : State) (L : List Loc) (E : String) (ce : Cell), st₀.heap = H ∧ Stand p l e R s m args below meth c T' (locs ++ L) (cells + mc) (slots + ms) ∧ (∀ z ∈ L, free z.base) ∧ T'.heap = t.heap ∧ T'.vm = t.vm ∧ XC E st₀ t ∧ t.heap[q]? = some ce ∧ ce.vm = .none ∧ s.vm.findClass E = some ce.cls ∧
      Steps p.tables e below (T.setTop g) ((T'.setTop { g with stack := rest }).pushFrame (.throwing q)))
def vx_X {S : Type} (px : S → Prop) (B : String → S → State → Prop) (A : Nat → Prop) : String → State → State → Prop := fun E st t => ∃ u : S, px u ∧ B E u t ∧ va_F A st t
section Runs
variable {p : Program} {l : Launch} {e : Env} {R : Room} {s : State} {m : MethodId} {args : Array Value} {below : List Frame} {meth : Method} {c : Code} {H : Heap} {locs : List Loc} {cells slots : Nat}
variable {y : MethodName} {bytes cc : ByteArray} {maxL nL mc ms n index : Nat} {ret : Option FieldType} {ws : List Cond} {rm : Room} {Pc : Array Value → State → Prop} {Qc : Array Value → State → Outcome → State → Prop} {XC : String → State → State → Prop} {free : Addr → Prop} {Ts : List Cond} {own C : String} {b : Addr} {As rest : List Value} {g : JFrame}
theorem vx_callBack (cb : CallB R s args own index y bytes maxL ret ws rm mc ms n) (hM : vx_Met l y ws rm Pc Qc XC mc ms free) (hbl : FrameBlind Pc) : vx_Back l R p e below s args y 3 8 (PreOf R mc ms Pc) (PostOf Qc mc ms free) (vx_Post XC mc ms free) := by
  obtain ⟨hrc, hrs, hfr, hlo, hws, hcw, -, hini, -⟩ := cb
  exact vx_back (bytes := bytes) (maxL := maxL) (ret := ret) hM hbl hrc hrs hfr hlo hws hcw (fun a' U hW => word_at hW (Or.inl (by first | rfl | simp [Cond.onTables, Cond.keeps, Cond.steady])) hini)
theorem vx_runV (S : CallFix p m c cc nL s args Ts own) (hM : vx_Met l y ws rm Pc Qc XC mc ms free) (cw : CallW R s args own C index y bytes maxL ret ws rm mc ms n) (hp : PreV s H C b Pc As)
    (hg : g.method = m) (hn : As.length = n) (hsize : g.locals.size = nL) (hstack : g.stack = As.reverse ++ .ref b :: rest) (hW : 2 * g.monitorRoom + (rest.map fun v => v.category).sum ≤ 8) (hdg : decode cc g.pc = .ok (.invokevirtual index, 3)) (hf : cells + mc ≤ R.cells ∧ slots + ms ≤ R.slots) :
    vx_Run p l e R s m args below meth c H locs cells slots mc ms g rest (Qc (Value.ref b :: As).toArray) XC free := by
  have hK : vx_Back l R p e below s args y 3 8 (PreOf R mc ms Pc) (PostOf Qc mc ms free) (vx_Post XC mc ms free) := vx_callBack cw.1 hM hp.1
  obtain ⟨⟨-, -, -, -, -, -, hcode, -, hy, hlen, hl⟩, hin, hse⟩ := cw
  obtain ⟨hx, hb, hml, ho, -⟩ := S
  obtain ⟨-, ⟨cellB, hcB, hoB, hclB⟩, hPc⟩ := hp
  intro T hT X
  rcases vx_callV X hx (C := C) (bytes := bytes) (maxL := maxL) (ret := ret) ho hl hin hse hcode hy hK (by rw [hT]; exact hcB) hoB hclB hg (hsize.trans hml.symm) (argsL := As) (rest := rest) (fun sig h => hn.trans (hlen sig h)) hstack hW (by rw [hb]; exact hdg)
    (fun vm₁ hW₁ => ⟨hf.1, hf.2, hPc (T.setVm vm₁) hT hW₁⟩) with ⟨v, vm₁, ⟨U', l2, c2, s2⟩, hW₁, X', ⟨g', mk, t, L, e1, e2, hq, h1, hL, h2, h3⟩, st⟩ | ⟨q, vm₁, ⟨U', l2, c2, s2⟩, hW₁, X', ⟨g', mk, t, L, E, ce, e1, e2, hq, hce, hcv, hcl, h1, hL, h2, h3⟩, st⟩
  · dsimp only [Pt.U, Pt.locs, Pt.cells, Pt.slots] at X' e1 e2 h1 h2 h3 st
    subst h1; subst h2; subst h3
    exact Or.inl ⟨v, (T.setVm vm₁).calling g' mk (Value.ref b :: As).toArray, t, U', L, hT, X', hL, e1, e2, hq, st⟩
  · dsimp only [Pt.U, Pt.locs, Pt.cells, Pt.slots] at X' e1 e2 h1 h2 h3 st hcl
    subst h1; subst h2; subst h3
    exact Or.inr ⟨q, (T.setVm vm₁).calling g' mk (Value.ref b :: As).toArray, t, U', L, E, ce, hT, X', hL, e1, e2, hq, hce, hcv, vx_cls hW₁ hcl, st⟩
theorem vx_runS (S : CallFix p m c cc nL s args Ts own) (hM : vx_Met l y ws rm Pc Qc XC mc ms free) (cw : CallB R s args own index y bytes maxL ret ws rm mc ms n ∧ (Cond.static y).before args s = true) (hp : PreS s H Pc As)
    (hg : g.method = m) (hn : As.length = n) (hsize : g.locals.size = nL) (hstack : g.stack = As.reverse ++ rest) (hW : 2 * g.monitorRoom + (rest.map fun v => v.category).sum ≤ 8) (hdg : decode cc g.pc = .ok (.invokestatic index, 3)) (hf : cells + mc ≤ R.cells ∧ slots + ms ≤ R.slots) :
    vx_Run p l e R s m args below meth c H locs cells slots mc ms g rest (Qc As.toArray) XC free := by
  have hK : vx_Back l R p e below s args y 3 8 (PreOf R mc ms Pc) (PostOf Qc mc ms free) (vx_Post XC mc ms free) := vx_callBack cw.1 hM hp.1
  obtain ⟨⟨-, -, -, -, -, -, hcode, hini, hy, hlen, hl⟩, hstt⟩ := cw
  obtain ⟨hx, hb, hml, ho, -⟩ := S
  intro T hT X
  rcases vx_callS X hx (bytes := bytes) (maxL := maxL) (ret := ret) ho hl hstt hini hcode hy hK hg (hsize.trans hml.symm) (argsL := As) (rest := rest) (fun sig h => hn.trans (hlen sig h)) hstack hW (by rw [hb]; exact hdg)
    (fun vm₁ hW₁ => ⟨hf.1, hf.2, hp.2 (T.setVm vm₁) hT hW₁⟩) with ⟨v, vm₁, ⟨U', l2, c2, s2⟩, hW₁, X', ⟨g', mk, t, L, e1, e2, hq, h1, hL, h2, h3⟩, st⟩ | ⟨q, vm₁, ⟨U', l2, c2, s2⟩, hW₁, X', ⟨g', mk, t, L, E, ce, e1, e2, hq, hce, hcv, hcl, h1, hL, h2, h3⟩, st⟩
  · dsimp only [Pt.U, Pt.locs, Pt.cells, Pt.slots] at X' e1 e2 h1 h2 h3 st
    subst h1; subst h2; subst h3
    exact Or.inl ⟨v, (T.setVm vm₁).calling g' mk As.toArray, t, U', L, hT, X', hL, e1, e2, hq, st⟩
  · dsimp only [Pt.U, Pt.locs, Pt.cells, Pt.slots] at X' e1 e2 h1 h2 h3 st hcl
    subst h1; subst h2; subst h3
    exact Or.inr ⟨q, (T.setVm vm₁).calling g' mk As.toArray, t, U', L, E, ce, hT, X', hL, e1, e2, hq, hce, hcv, vx_cls hW₁ hcl, st⟩
end Runs
section Rows
variable {p : Program} {l : Launch} {e : Env} {R : Room} {s : State} {m : MethodId} {args : Array Value} {below : List Frame} {meth : Method} {c : Code} {H : Heap} {locs : List Loc} {cells slots : Nat} {Q : State → Prop}
variable {mc ms : Nat} {free : Addr → Prop} {A0 A1 : Nat → Prop} {H0 : Heap} {a : Array Value} {pc : Nat} {ls : Array Slot} {st0 rest : List Value}
theorem vx_keep {st₀ t T' : State} {L : List Loc} (h0 : st₀.heap = H) (e1 : T'.heap = t.heap) (hS : va_S A0 H0 H locs) (hA : ∀ q, q < H.size → A1 q → A0 q) (hf : ∀ q, free q → A0 q) (hL : ∀ q ∈ L, free q.base) (hF : va_F A1 st₀ t) :
    H.size ≤ T'.heap.size ∧ (∀ q : Nat, q < H.size → ¬ A1 q → T'.heap[q]? = H[q]?) ∧ va_S A0 H0 T'.heap (locs ++ L) := by
  obtain ⟨hz, hk⟩ := hF
  rw [h0] at hz hk
  exact ⟨by rw [e1]; exact hz, fun q h1 h2 => by rw [e1]; exact hk q h1 h2,
    ⟨Nat.le_trans hS.1 (by rw [e1]; exact hz), fun q h1 h2 => by rw [e1, hk q (Nat.lt_of_lt_of_le h1 hS.1) (fun z => h2 (hA q (Nat.lt_of_lt_of_le h1 hS.1) z))]; exact hS.2.1 q h1 h2, fun q hq => by
      rcases List.mem_append.mp hq with h | h
      · exact hS.2.2 q h
      · exact hf _ (hL q h)⟩⟩
theorem vx_calli {S SX : Type} {post : Int32 → S → Prop} {px : SX → Prop} {B : S → State → Prop} {BX : String → SX → State → Prop} {AX : Nat → Prop} (hr : vx_Run p l e R s m args below meth c H locs cells slots mc ms (F0 m pc ls st0) rest (va_Qi post B A1 a) (vx_X px BX AX) free) (hS : va_S A0 H0 H locs) (hA : ∀ q, q < H.size → A1 q → A0 q) (hf : ∀ q, free q → A0 q) (hAX : ∀ q, q < H.size → AX q → A0 q)
    (kx : ∀ (E : String) (ce : Cell) (q9 : Addr) (u : SX) (t : State) (H1 : Heap) (locs1 : List Loc), t.heap = H1 → s.vm.Alike t.vm → px u → BX E u t → H.size ≤ H1.size → (∀ q : Nat, q < H.size → ¬ AX q → H1[q]? = H[q]?) → va_S A0 H0 H1 locs1 → H1[q9]? = some ce → ce.vm = .none → s.vm.findClass E = some ce.cls → vx_W p l e R s m args below meth c H1 locs1 (cells + mc) (slots + ms) Q (F0 m pc ls rest) q9)
    (kk : ∀ (r : Int32) (u : S) (t : State) (H1 : Heap) (locs1 : List Loc), t.heap = H1 → s.vm.Alike t.vm → post r u → B u t → H.size ≤ H1.size → (∀ q : Nat, q < H.size → ¬ A1 q → H1[q]? = H[q]?) → va_S A0 H0 H1 locs1 → W p l e R s m args below meth c H1 locs1 (cells + mc) (slots + ms) Q (F0 m (pc + 3) ls (.int r :: rest))) : W p l e R s m args below meth c H locs cells slots Q (F0 m pc ls st0) := by
  intro T hT X
  rcases hr T hT X with ⟨v, st₀, t, T', L, h0, X', hL, e1, e2, ⟨⟨r, u, hv, hp, hb⟩, hF⟩, st⟩ | ⟨q, st₀, t, T', L, E, ce, h0, X', hL, e1, e2, ⟨u, hp, hb, hF⟩, hce, hcv, hcl, st⟩
  · cases hv
    obtain ⟨k1, k2, k3⟩ := vx_keep h0 e1 hS hA hf hL hF
    obtain ⟨t2, a1, b1⟩ := kk r u t T'.heap (locs ++ L) e1.symm (by rw [← e2]; exact X'.warmed.alike) hp hb k1 k2 k3 T' rfl X'
    exact ⟨t2, st t2 a1, b1⟩
  · obtain ⟨k1, k2, k3⟩ := vx_keep h0 e1 hS hAX hf hL hF
    obtain ⟨t2, a1, b1⟩ := kx E ce q u t T'.heap (locs ++ L) e1.symm (by rw [← e2]; exact X'.warmed.alike) hp hb k1 k2 k3 (by rw [e1]; exact hce) hcv hcl T' rfl X'
    exact ⟨t2, st.trans a1, b1⟩
theorem vx_calll {S SX : Type} {post : Int64 → S → Prop} {px : SX → Prop} {B : S → State → Prop} {BX : String → SX → State → Prop} {AX : Nat → Prop} (hr : vx_Run p l e R s m args below meth c H locs cells slots mc ms (F0 m pc ls st0) rest (va_Ql post B A1 a) (vx_X px BX AX) free) (hS : va_S A0 H0 H locs) (hA : ∀ q, q < H.size → A1 q → A0 q) (hf : ∀ q, free q → A0 q) (hAX : ∀ q, q < H.size → AX q → A0 q)
    (kx : ∀ (E : String) (ce : Cell) (q9 : Addr) (u : SX) (t : State) (H1 : Heap) (locs1 : List Loc), t.heap = H1 → s.vm.Alike t.vm → px u → BX E u t → H.size ≤ H1.size → (∀ q : Nat, q < H.size → ¬ AX q → H1[q]? = H[q]?) → va_S A0 H0 H1 locs1 → H1[q9]? = some ce → ce.vm = .none → s.vm.findClass E = some ce.cls → vx_W p l e R s m args below meth c H1 locs1 (cells + mc) (slots + ms) Q (F0 m pc ls rest) q9)
    (kk : ∀ (r : Int64) (u : S) (t : State) (H1 : Heap) (locs1 : List Loc), t.heap = H1 → s.vm.Alike t.vm → post r u → B u t → H.size ≤ H1.size → (∀ q : Nat, q < H.size → ¬ A1 q → H1[q]? = H[q]?) → va_S A0 H0 H1 locs1 → W p l e R s m args below meth c H1 locs1 (cells + mc) (slots + ms) Q (F0 m (pc + 3) ls (.long r :: rest))) : W p l e R s m args below meth c H locs cells slots Q (F0 m pc ls st0) := by
  intro T hT X
  rcases hr T hT X with ⟨v, st₀, t, T', L, h0, X', hL, e1, e2, ⟨⟨r, u, hv, hp, hb⟩, hF⟩, st⟩ | ⟨q, st₀, t, T', L, E, ce, h0, X', hL, e1, e2, ⟨u, hp, hb, hF⟩, hce, hcv, hcl, st⟩
  · cases hv
    obtain ⟨k1, k2, k3⟩ := vx_keep h0 e1 hS hA hf hL hF
    obtain ⟨t2, a1, b1⟩ := kk r u t T'.heap (locs ++ L) e1.symm (by rw [← e2]; exact X'.warmed.alike) hp hb k1 k2 k3 T' rfl X'
    exact ⟨t2, st t2 a1, b1⟩
  · obtain ⟨k1, k2, k3⟩ := vx_keep h0 e1 hS hAX hf hL hF
    obtain ⟨t2, a1, b1⟩ := kx E ce q u t T'.heap (locs ++ L) e1.symm (by rw [← e2]; exact X'.warmed.alike) hp hb k1 k2 k3 (by rw [e1]; exact hce) hcv hcl T' rfl X'
    exact ⟨t2, st.trans a1, b1⟩
theorem vx_callf {S SX : Type} {post : UInt32 → S → Prop} {px : SX → Prop} {B : S → State → Prop} {BX : String → SX → State → Prop} {AX : Nat → Prop} (hr : vx_Run p l e R s m args below meth c H locs cells slots mc ms (F0 m pc ls st0) rest (va_Qf post B A1 a) (vx_X px BX AX) free) (hS : va_S A0 H0 H locs) (hA : ∀ q, q < H.size → A1 q → A0 q) (hf : ∀ q, free q → A0 q) (hAX : ∀ q, q < H.size → AX q → A0 q)
    (kx : ∀ (E : String) (ce : Cell) (q9 : Addr) (u : SX) (t : State) (H1 : Heap) (locs1 : List Loc), t.heap = H1 → s.vm.Alike t.vm → px u → BX E u t → H.size ≤ H1.size → (∀ q : Nat, q < H.size → ¬ AX q → H1[q]? = H[q]?) → va_S A0 H0 H1 locs1 → H1[q9]? = some ce → ce.vm = .none → s.vm.findClass E = some ce.cls → vx_W p l e R s m args below meth c H1 locs1 (cells + mc) (slots + ms) Q (F0 m pc ls rest) q9)
    (kk : ∀ (r : UInt32) (u : S) (t : State) (H1 : Heap) (locs1 : List Loc), t.heap = H1 → s.vm.Alike t.vm → post r u → B u t → H.size ≤ H1.size → (∀ q : Nat, q < H.size → ¬ A1 q → H1[q]? = H[q]?) → va_S A0 H0 H1 locs1 → W p l e R s m args below meth c H1 locs1 (cells + mc) (slots + ms) Q (F0 m (pc + 3) ls (.float r :: rest))) : W p l e R s m args below meth c H locs cells slots Q (F0 m pc ls st0) := by
  intro T hT X
  rcases hr T hT X with ⟨v, st₀, t, T', L, h0, X', hL, e1, e2, ⟨⟨r, u, hv, hp, hb⟩, hF⟩, st⟩ | ⟨q, st₀, t, T', L, E, ce, h0, X', hL, e1, e2, ⟨u, hp, hb, hF⟩, hce, hcv, hcl, st⟩
  · cases hv
    obtain ⟨k1, k2, k3⟩ := vx_keep h0 e1 hS hA hf hL hF
    obtain ⟨t2, a1, b1⟩ := kk r u t T'.heap (locs ++ L) e1.symm (by rw [← e2]; exact X'.warmed.alike) hp hb k1 k2 k3 T' rfl X'
    exact ⟨t2, st t2 a1, b1⟩
  · obtain ⟨k1, k2, k3⟩ := vx_keep h0 e1 hS hAX hf hL hF
    obtain ⟨t2, a1, b1⟩ := kx E ce q u t T'.heap (locs ++ L) e1.symm (by rw [← e2]; exact X'.warmed.alike) hp hb k1 k2 k3 (by rw [e1]; exact hce) hcv hcl T' rfl X'
    exact ⟨t2, st.trans a1, b1⟩
theorem vx_calld {S SX : Type} {post : UInt64 → S → Prop} {px : SX → Prop} {B : S → State → Prop} {BX : String → SX → State → Prop} {AX : Nat → Prop} (hr : vx_Run p l e R s m args below meth c H locs cells slots mc ms (F0 m pc ls st0) rest (va_Qd post B A1 a) (vx_X px BX AX) free) (hS : va_S A0 H0 H locs) (hA : ∀ q, q < H.size → A1 q → A0 q) (hf : ∀ q, free q → A0 q) (hAX : ∀ q, q < H.size → AX q → A0 q)
    (kx : ∀ (E : String) (ce : Cell) (q9 : Addr) (u : SX) (t : State) (H1 : Heap) (locs1 : List Loc), t.heap = H1 → s.vm.Alike t.vm → px u → BX E u t → H.size ≤ H1.size → (∀ q : Nat, q < H.size → ¬ AX q → H1[q]? = H[q]?) → va_S A0 H0 H1 locs1 → H1[q9]? = some ce → ce.vm = .none → s.vm.findClass E = some ce.cls → vx_W p l e R s m args below meth c H1 locs1 (cells + mc) (slots + ms) Q (F0 m pc ls rest) q9)
    (kk : ∀ (r : UInt64) (u : S) (t : State) (H1 : Heap) (locs1 : List Loc), t.heap = H1 → s.vm.Alike t.vm → post r u → B u t → H.size ≤ H1.size → (∀ q : Nat, q < H.size → ¬ A1 q → H1[q]? = H[q]?) → va_S A0 H0 H1 locs1 → W p l e R s m args below meth c H1 locs1 (cells + mc) (slots + ms) Q (F0 m (pc + 3) ls (.double r :: rest))) : W p l e R s m args below meth c H locs cells slots Q (F0 m pc ls st0) := by
  intro T hT X
  rcases hr T hT X with ⟨v, st₀, t, T', L, h0, X', hL, e1, e2, ⟨⟨r, u, hv, hp, hb⟩, hF⟩, st⟩ | ⟨q, st₀, t, T', L, E, ce, h0, X', hL, e1, e2, ⟨u, hp, hb, hF⟩, hce, hcv, hcl, st⟩
  · cases hv
    obtain ⟨k1, k2, k3⟩ := vx_keep h0 e1 hS hA hf hL hF
    obtain ⟨t2, a1, b1⟩ := kk r u t T'.heap (locs ++ L) e1.symm (by rw [← e2]; exact X'.warmed.alike) hp hb k1 k2 k3 T' rfl X'
    exact ⟨t2, st t2 a1, b1⟩
  · obtain ⟨k1, k2, k3⟩ := vx_keep h0 e1 hS hAX hf hL hF
    obtain ⟨t2, a1, b1⟩ := kx E ce q u t T'.heap (locs ++ L) e1.symm (by rw [← e2]; exact X'.warmed.alike) hp hb k1 k2 k3 (by rw [e1]; exact hce) hcv hcl T' rfl X'
    exact ⟨t2, st.trans a1, b1⟩
theorem vx_callv {S SX : Type} {post : S → Prop} {px : SX → Prop} {B : S → State → Prop} {BX : String → SX → State → Prop} {AX : Nat → Prop} (hr : vx_Run p l e R s m args below meth c H locs cells slots mc ms (F0 m pc ls st0) rest (va_Qv post B A1 a) (vx_X px BX AX) free) (hS : va_S A0 H0 H locs) (hA : ∀ q, q < H.size → A1 q → A0 q) (hf : ∀ q, free q → A0 q) (hAX : ∀ q, q < H.size → AX q → A0 q)
    (kx : ∀ (E : String) (ce : Cell) (q9 : Addr) (u : SX) (t : State) (H1 : Heap) (locs1 : List Loc), t.heap = H1 → s.vm.Alike t.vm → px u → BX E u t → H.size ≤ H1.size → (∀ q : Nat, q < H.size → ¬ AX q → H1[q]? = H[q]?) → va_S A0 H0 H1 locs1 → H1[q9]? = some ce → ce.vm = .none → s.vm.findClass E = some ce.cls → vx_W p l e R s m args below meth c H1 locs1 (cells + mc) (slots + ms) Q (F0 m pc ls rest) q9)
    (kk : ∀ (u : S) (t : State) (H1 : Heap) (locs1 : List Loc), t.heap = H1 → s.vm.Alike t.vm → post u → B u t → H.size ≤ H1.size → (∀ q : Nat, q < H.size → ¬ A1 q → H1[q]? = H[q]?) → va_S A0 H0 H1 locs1 → W p l e R s m args below meth c H1 locs1 (cells + mc) (slots + ms) Q (F0 m (pc + 3) ls (rest))) : W p l e R s m args below meth c H locs cells slots Q (F0 m pc ls st0) := by
  intro T hT X
  rcases hr T hT X with ⟨v, st₀, t, T', L, h0, X', hL, e1, e2, ⟨⟨u, hv, hp, hb⟩, hF⟩, st⟩ | ⟨q, st₀, t, T', L, E, ce, h0, X', hL, e1, e2, ⟨u, hp, hb, hF⟩, hce, hcv, hcl, st⟩
  · cases hv
    obtain ⟨k1, k2, k3⟩ := vx_keep h0 e1 hS hA hf hL hF
    obtain ⟨t2, a1, b1⟩ := kk u t T'.heap (locs ++ L) e1.symm (by rw [← e2]; exact X'.warmed.alike) hp hb k1 k2 k3 T' rfl X'
    exact ⟨t2, st t2 a1, b1⟩
  · obtain ⟨k1, k2, k3⟩ := vx_keep h0 e1 hS hAX hf hL hF
    obtain ⟨t2, a1, b1⟩ := kx E ce q u t T'.heap (locs ++ L) e1.symm (by rw [← e2]; exact X'.warmed.alike) hp hb k1 k2 k3 (by rw [e1]; exact hce) hcv hcl T' rfl X'
    exact ⟨t2, st.trans a1, b1⟩
/-- caught by the row x of this method's table; the rows ahead don't take it -/
theorem vx_catch {own name : String} {E : String} {ce : Cell} {q : Addr} (hown : s.vm.findClass own = some m.cls) (pre : List ExceptionTableEntry) (x : ExceptionTableEntry) (suf : List ExceptionTableEntry) (hsplit : c.exceptionTable.toList = pre ++ x :: suf)
    (hpass : ∀ z ∈ pre, covers z pc = false ∨ (z.catchType ≠ 0 ∧ ∃ nm : String, (Cond.classLink own z.catchType nm).before args s = true ∧ va_Nc E nm s)) (hx : covers x pc = true) (h0 : x.catchType ≠ 0)
    (hlink : (Cond.classLink own x.catchType name).before args s = true) (hcast : (Cond.castable E name).before args s = true) (hcell : H[q]? = some ce) (hv : ce.vm = .none) (hcl : s.vm.findClass E = some ce.cls)
    (kk : W p l e R s m args below meth c H locs cells slots Q (F0 m x.handlerPc ls [.ref q])) : vx_W p l e R s m args below meth c H locs cells slots Q (F0 m pc ls rest) q := by
  intro T hT X
  have hpl : e.platform.magicAccessors = ({} : Platform).magicAccessors := by rw [X.admits.platform]
  obtain ⟨c3, c4, hc3, hc4, hasg⟩ := Cond.castable_spec hcast
  cases Option.some.inj (hc3.symm.trans hcl)
  obtain ⟨c5, hc5, hcl5⟩ := Cond.classLink_spec hown hlink e.platform hpl
  cases Option.some.inj (hc4.symm.trans hc5)
  obtain ⟨vm', X', st⟩ := X.thenCaughtThrough q (g := F0 m pc ls rest) rfl (Steps.refl _) (by rw [hT]; exact hcell) (by rw [hv]; rfl) (by obtain ⟨k9, h9, -⟩ := Vm.findClass_spec hcl; exact ⟨k9, h9⟩) pre x suf hsplit
    (fun z hz => by
      rcases hpass z hz with h | ⟨hz0, nm, hl1, hn1⟩
      · exact Or.inl h
      · obtain ⟨c6, hc6, hcl6⟩ := Cond.classLink_spec hown hl1 e.platform hpl
        obtain ⟨a8, b8, h1, h2, h3⟩ := hn1
        cases Option.some.inj (h1.symm.trans hcl)
        cases Option.some.inj (h2.symm.trans hc6)
        exact Or.inr ⟨hz0, _, hcl6, h3⟩) hx (Or.inr ⟨h0, c4, hcl5, hasg⟩)
  obtain ⟨t, a1, b1⟩ := kk (T.setVm vm') hT X'
  exact ⟨t, st.trans a1, b1⟩
end Rows
section Ends
variable {p : Program} {l : Launch} {e : Env} {R : Room} {s : State} {m : MethodId} {args : Array Value} {below : List Frame} {meth : Method} {c : Code} {H : Heap} {locs : List Loc} {cells slots : Nat} {Q : State → Prop}
variable {mc ms : Nat} {free : Addr → Prop} {A0 A1 : Nat → Prop} {H0 : Heap} {a : Array Value} {ls : Array Slot} {st0 rest : List Value}
variable {Qc : Array Value → State → Outcome → State → Prop} {XC : String → State → State → Prop}
/-- what a body that may throw owes at its end -/
def vx_MQ (below : List Frame) (Qc : Array Value → State → Outcome → State → Prop) (XC : String → State → State → Prop) (a : Array Value) (s : State) (mc ms : Nat) (free : Addr → Prop) : State → Prop := fun t =>
  ∃ o, t.status = .running ∧ Ended t below o ∧ vx_Q Qc XC mc ms free a s o t
theorem vx_ret {g : JFrame} {mc ms : Nat} (k : W p l e R s m args below meth c H locs cells slots (MQ below Qc args s mc ms free) g) : W p l e R s m args below meth c H locs cells slots (vx_MQ below Qc XC args s mc ms free) g := by
  intro T hT X
  obtain ⟨t, a1, o, b1, b2, b3, b4⟩ := k T hT X
  exact ⟨t, a1, o, b1, b2, Or.inl ⟨b3, b4⟩⟩
/-- not caught here: it goes on to the caller -/
theorem vx_widen {g : JFrame} {q : Addr} {k n : Nat} (h1 : cells ≤ k) (h2 : slots ≤ n) (kk : vx_W p l e R s m args below meth c H locs k n Q g q) : vx_W p l e R s m args below meth c H locs cells slots Q g q := fun T hT X => kk T hT (stand_widen X h1 h2)
theorem vx_out {pc : Nat} {E : String} {ce : Cell} {q : Addr} {mc ms : Nat} (hout : ∀ x ∈ c.exceptionTable.toList, covers x pc = false) (hlocks : meth.locks = false) (hcell : H[q]? = some ce) (hv : ce.vm = .none) (hcl : s.vm.findClass E = some ce.cls)
    (hx : ∀ t : State, t.heap = H → s.vm.Alike t.vm → XC E s t) (hf : ∀ z ∈ locs, free z.base) (hc : cells ≤ mc) (hs : slots ≤ ms) :
    vx_W p l e R s m args below meth c H locs cells slots (vx_MQ below Qc XC args s mc ms free) (F0 m pc ls rest) q := by
  intro T hT X
  obtain ⟨st1, hrun, hend, hW, hsm⟩ := X.leaveThrown q (g := F0 m pc ls rest) rfl rfl rfl hout hlocks
  have hcell9 : (T.setFrames (.throwing q :: below)).heap[q]? = some ce := by
    show T.heap[q]? = some ce
    rw [hT]; exact hcell
  exact ⟨_, st1, .threw q, hrun, hend, Or.inr ⟨q, rfl, E, ce, locs, hx _ hT hW.alike, hcell9, hv, hcl, hW, hsm.mono hc hs, hf⟩⟩
theorem vx_frame {U : State} {k n : Nat} (h : s.sameButNew ({ U with vm := s.vm } : State) locs k n) : s.heap.size ≤ U.heap.size ∧ ∀ q : Nat, q < s.heap.size → (∀ z ∈ locs, z.base ≠ q) → U.heap[q]? = s.heap[q]? := by
  obtain ⟨-, h2, -, -, -, h6⟩ := h
  refine ⟨h2, fun q hq hz => ?_⟩
  obtain ⟨c9, e1, e2, e3, e4⟩ := h6 q _ (Array.getElem?_eq_getElem hq)
  have hs : c9.slots = (s.heap[q]).slots := Array.ext_getElem? fun i => e4 i fun hm => hz _ hm rfl
  have h9 : c9 = s.heap[q] := by
    rw [hs] at e2
    exact e2
  have e5 : U.heap[q]? = some c9 := e1
  rw [e5, h9, Array.getElem?_eq_getElem hq]
/-- the words of a throw but the four that speak of the heap -/
def vx_no (w : Cond) : Bool := decide (w ≠ .isRef (.static Bundle.tN "UNASSIGNED_STACK" Bundle.steD)) && decide (w ≠ .isRef (.static Bundle.tN "SUPPRESSED_SENTINEL" Bundle.listD)) && decide (w ≠ .laysStatic Bundle.tN "UNASSIGNED_STACK" Bundle.steD) && decide (w ≠ .laysStatic Bundle.tN "SUPPRESSED_SENTINEL" Bundle.listD)
def vx_at0 (own : String) (ic : Nat) (X : String) (names : List String) : List Cond := (Bundle.ownAtoms0 own ic X names).filter vx_no
def vx_atS (own : String) (ic : Nat) (X : String) (names : List String) : List Cond := (Bundle.ownAtoms own ic X names).filter vx_no
/-- a word that the tables alone decide, or a good one -/
def vx_ot (w : Cond) : Bool := w.onTables || goodWord w
theorem vx_ot_at {args a' : Array Value} {s U : State} {w : Cond} (hW : s.WarmedH U.vm) (hvm : s.vm = U.vm) (hg : vx_ot w = true) (h : w.before args s = true) : w.before a' U = true := by
  simp only [vx_ot, Bool.or_eq_true] at hg
  rcases hg with hg | hg
  · exact va_tabs hg hvm h
  · exact word_at hW (good_of_word hg) h
/-- a list's words: the good ones out of the method's own list, the others by premises of their own -/
theorem vx_hat {args : Array Value} {s : State} {L B : List Cond} (h1 : ∀ w ∈ L.filter goodWord, w.before args s = true) (h2 : ∀ w ∈ L.filter (fun w => !goodWord w), w ∈ B) (h3 : ∀ w ∈ B, w.before args s = true) : ∀ w ∈ L, w.before args s = true := by
  intro w hw
  by_cases g : goodWord w = true
  · exact h1 w (List.mem_filter.mpr ⟨hw, g⟩)
  · refine h3 w (h2 w (List.mem_filter.mpr ⟨hw, ?_⟩))
    show (!goodWord w) = true
    cases hgw : goodWord w
    · rfl
    · exact absurd hgw g
theorem vx_c {args : Array Value} {s : State} {w : Cond} {B : List Cond} (h : w.before args s = true) (t : ∀ w ∈ B, w.before args s = true) : ∀ w' ∈ w :: B, w'.before args s = true := fun w' h' => (List.mem_cons.mp h').elim (fun e => by rw [e]; exact h) (t w')
theorem vx_n {args : Array Value} {s : State} : ∀ w ∈ ([] : List Cond), w.before args s = true := fun _ h => nomatch h
theorem vx_own {args : Array Value} {s : State} {L : List Cond} (h1 : ∀ w ∈ L.filter vx_no, w.before args s = true)
    (hU : (Cond.isRef (.static Bundle.tN "UNASSIGNED_STACK" Bundle.steD)).before args s = true) (hN : (Cond.isRef (.static Bundle.tN "SUPPRESSED_SENTINEL" Bundle.listD)).before args s = true)
    (lU : (Cond.laysStatic Bundle.tN "UNASSIGNED_STACK" Bundle.steD).before args s = true) (lN : (Cond.laysStatic Bundle.tN "SUPPRESSED_SENTINEL" Bundle.listD).before args s = true) : ∀ w ∈ L, w.before args s = true := by
  intro w hw
  by_cases e1 : w = .isRef (.static Bundle.tN "UNASSIGNED_STACK" Bundle.steD)
  · rw [e1]; exact hU
  · by_cases e2 : w = .isRef (.static Bundle.tN "SUPPRESSED_SENTINEL" Bundle.listD)
    · rw [e2]; exact hN
    · by_cases e3 : w = .laysStatic Bundle.tN "UNASSIGNED_STACK" Bundle.steD
      · rw [e3]; exact lU
      · by_cases e4 : w = .laysStatic Bundle.tN "SUPPRESSED_SENTINEL" Bundle.listD
        · rw [e4]; exact lN
        · exact h1 w (List.mem_filter.mpr ⟨hw, by unfold vx_no; rw [decide_eq_true e1, decide_eq_true e2, decide_eq_true e3, decide_eq_true e4]; rfl⟩)
/-- where a static field lies, its class's statics cell in H -/
def vx_L (C n d : String) (A : Nat → Prop) (U : State) (H : Heap) : Prop := ∃ (c : ClassId) (k : Class) (i : Nat) (f : Field) (a : Nat) (cell : Cell), U.vm.findClass C = some c ∧ U.fieldFound? C n d = some (c, k, i, f) ∧ f.isStatic = true ∧ k.statics = some a ∧ H[a]? = some cell ∧ cell.vm.isStatics = true ∧ cell.cls = c ∧ f.slot < cell.slots.size ∧ k.staticTypes[f.slot]? = some f.type ∧ ¬ A a
theorem vx_L.moved {C n d : String} {A : Nat → Prop} {u U : State} {H : Heap} (hvm : u.vm.Alike U.vm) (h : vx_L C n d A u H) : vx_L C n d A U H := by
  obtain ⟨c, k, i, f, a, cell, h1, h2, h3, h4, h5, h6, h7, h8, h9, h10⟩ := h
  obtain ⟨k', hi', he⟩ := State.fieldFound?_setVm hvm h2
  exact ⟨c, k', i, f, a, cell, by rw [hvm.findClass]; exact h1, hi', h3, by rw [he]; exact h4, h5, h6, h7, h8, by rw [he]; exact h9, h10⟩
theorem vx_L.kept {C n d : String} {A : Nat → Prop} {U : State} {H H1 : Heap} (h : vx_L C n d A U H) (hq : ∀ a : Nat, a < H.size → ¬ A a → H1[a]? = H[a]?) : vx_L C n d A U H1 := by
  obtain ⟨c, k, i, f, a, cell, h1, h2, h3, h4, h5, h6, h7, h8, h9, h10⟩ := h
  exact ⟨c, k, i, f, a, cell, h1, h2, h3, h4, by rw [hq a (Array.getElem?_eq_some_iff.mp h5).1 h10]; exact h5, h6, h7, h8, h9, h10⟩
theorem vx_L.narrow {C n d : String} {A B : Nat → Prop} {U : State} {H : Heap} (h : vx_L C n d A U H) (hAB : ∀ q, B q → A q) : vx_L C n d B U H := by
  obtain ⟨c, k, i, f, a, cell, h1, h2, h3, h4, h5, h6, h7, h8, h9, h10⟩ := h
  exact ⟨c, k, i, f, a, cell, h1, h2, h3, h4, h5, h6, h7, h8, h9, fun z => h10 (hAB _ z)⟩
theorem vx_L.word {C n d : String} {A : Nat → Prop} {s : State} {args : Array Value} (h : vx_L C n d A s s.heap) : (Cond.laysStatic C n d).before args s = true := by
  obtain ⟨c, k, i, f, a, cell, h1, h2, h3, h4, h5, h6, h7, h8, h9, -⟩ := h
  show (Cond.laysStatic C n d).holds args s none s [] = true
  exact Cond.laysStatic_of h1 h2 h3 h4 h5 h6 h7 h8 h9
/-- .. and what it holds: null or some reference -/
def vx_Zq (C n d : String) (A : Nat → Prop) (U : State) (H : Heap) : Prop := va_Zq C n d A U H ∧ vx_L C n d A U H
theorem vx_Zq.moved {C n d : String} {A : Nat → Prop} {u U : State} {H : Heap} (hvm : u.vm.Alike U.vm) (h : vx_Zq C n d A u H) : vx_Zq C n d A U H := ⟨va_Zq.moved hvm h.1, vx_L.moved hvm h.2⟩
theorem vx_Zq.kept {C n d : String} {A : Nat → Prop} {U : State} {H H1 : Heap} (h : vx_Zq C n d A U H) (hq : ∀ a : Nat, a < H.size → ¬ A a → H1[a]? = H[a]?) : vx_Zq C n d A U H1 := ⟨va_Zq.kept h.1 hq, vx_L.kept h.2 hq⟩
theorem vx_Zq.narrow {C n d : String} {A B : Nat → Prop} {U : State} {H : Heap} (h : vx_Zq C n d A U H) (hAB : ∀ q, B q → A q) : vx_Zq C n d B U H := ⟨va_Zq.narrow h.1 hAB, vx_L.narrow h.2 hAB⟩
theorem vx_Zqof {args : Array Value} {s : State} {C n d : String} {A : Nat → Prop} (hl : (Cond.laysStatic C n d).before args s = true) (hini : (Cond.initialized C).before args s = true) (h : (Cond.isRef (.static C n d)).before args s = true) (hA : ∀ a : Nat, a < s.heap.size → ¬ A a) : vx_Zq C n d A s s.heap := by
  refine ⟨va_Zqof hl hini h hA, ?_⟩
  obtain ⟨c, k, i, f, a, cell, h1, h2, h3, h4, h5, h6, h7, h8, h9⟩ := Cond.laysStatic_spec hl
  exact ⟨c, k, i, f, a, cell, h1, h2, h3, h4, h5, h6, h7, h8, h9, hA a (Array.getElem?_eq_some_iff.mp h5).1⟩
theorem vx_isRef {C n d : String} {v : Value} {A : Nat → Prop} {s : State} {args : Array Value} (h : va_Z C n d v A s s.heap) (hv : v.isRef = true) : (Cond.isRef (.static C n d)).before args s = true := by
  obtain ⟨cf, kf, fi, f, a, cell, h1, h2, h3, h4, h5, h6, h7, -⟩ := h
  have he : (Term.static C n d).eval args s none [] s = some v := by
    simp [Term.eval, State.fieldNamed?, h1, h2, h4, h5, h6, h7]
  simp only [Cond.before, Cond.holds, Cond.value, he]
  cases v <;> simp_all [Value.isRef]
theorem vx_isRefq {C n d : String} {A : Nat → Prop} {s : State} {args : Array Value} (h : va_Zq C n d A s s.heap) : (Cond.isRef (.static C n d)).before args s = true := by
  rcases h with h | ⟨t, h⟩
  · exact vx_isRef h rfl
  · exact vx_isRef h rfl
/-- the same frame, seen from here: as if the method were called anew in this heap -/
theorem vx_rebase {T : State} (X : Stand p l e R s m args below meth c T locs cells slots) {R' : Room} (hf : R'.frames ≤ R.frames) (hl : R'.locals ≤ R.locals) (hc : cells + R'.cells ≤ R.cells) (hs : slots + R'.slots ≤ R.slots) :
    Stand p l e R' ((T.setVm s.vm).setFrames (.invoking m args :: below)) m args below meth c T [] 0 0 := by
  have htop : (T.setVm s.vm).topJava?.isSome := X.here.top
  have hF : ((T.setVm s.vm).setFrames (.invoking m args :: below)).frames = .invoking m args :: below := State.frames_setFrames _ (State.cur_lt_of_top htop)
  obtain ⟨g₀, hg0⟩ := Option.isSome_iff_exists.mp htop
  obtain ⟨r, hr⟩ := State.topJava?_eq_some.mp hg0
  have hl9 : e.platform.stackLimits (T.setVm s.vm).me = e.platform.stackLimits s.me := X.limits
  have hb9 : (T.setVm s.vm).me.stackBytes = s.me.stackBytes := X.bytes
  refine ⟨X.admits, X.cas, X.clock, hF, ?_, X.hears, X.method, X.code, X.here, X.tail, X.warmed, ?_, ?_, ?_⟩
  · have h := X.room
    have hU : ((T.setVm s.vm).setFrames (.invoking m args :: below)).localsInUse = s.localsInUse := by
      rw [State.localsInUse_invoking hF (meth := meth) (c := c) X.method X.code, State.localsInUse_invoking X.frames X.method X.code]
    simp only [State.hasRoom, Bool.and_eq_true, decide_eq_true_eq] at h ⊢
    obtain ⟨⟨⟨⟨h1, h2, h3, h4, h5, h6⟩, h7⟩, h8⟩, h9⟩ := h
    rw [X.frames, List.length_cons] at h2 h3
    have q1 := X.heapSize
    have q2 := X.used
    simp only [hF, hU, List.length_cons, State.stackLimits_setFrames, State.stackBytes_setFrames, hl9, hb9]
    refine ⟨⟨⟨⟨by omega, by omega, by omega, by omega, by omega, h6⟩, ?_⟩, ?_⟩, X.book⟩
    · show T.heap.size + R'.cells ≤ e.platform.maxCells
      omega
    · show T.slotsUsed + R'.slots ≤ e.platform.maxSlots
      omega
  · rw [State.stackLimits_setFrames]; rfl
  · rw [State.stackBytes_setFrames]; rfl
  · refine ⟨?_, Nat.le_refl _, Nat.le_refl _, ?_, ?_, fun a c9 h9 => ⟨c9, h9, rfl, rfl, fun _ _ => rfl⟩⟩
    · obtain ⟨t, ht, -⟩ := State.frames_cons hr
      show T.setVm s.vm = { ((T.setVm s.vm).setFrames (.invoking m args :: below)).setFrames (T.setVm s.vm).frames with heap := T.heap, slotsUsed := T.slotsUsed }
      rw [State.setFrames_setFrames, State.setFrames_self ht]
      rfl
    · show T.slotsUsed = T.slotsUsed + ((T.heap.toList.drop T.heap.size).map (·.slots.size)).sum
      rw [List.drop_eq_nil_of_le (Nat.le_of_eq Array.length_toList)]
      rfl
    · show ((T.heap.toList.drop T.heap.size).map (·.slots.size)).sum ≤ 0
      rw [List.drop_eq_nil_of_le (Nat.le_of_eq Array.length_toList)]
      exact Nat.le_refl _
/-- 'throw new E()': new; dup; invokespecial; athrow -/
theorem vx_throw0 {cc : ByteArray} {pc : Nat} (hexec : p.tables.exec = Jvm.exec) (hb : c.code = cc) (hl : l.stackTraces = false) {own cls : String} {names : List String} {ik ic mc ms : Nat} {A : Nat → Prop}
    (hown : s.vm.findClass own = some m.cls) (hcls : Bundle.fit cls = true) (hnames : ∀ n ∈ names, Bundle.fit n = true)
    (hk : (Cond.classLink own ik cls).before args s = true) (hini : (Cond.initialized cls).before args s = true) (hat : ∀ w ∈ vx_at0 own ic cls names, w.before args s = true)
    (hgood : ∀ w ∈ Cond.classLink own ik cls :: Cond.initialized cls :: vx_at0 own ic cls names, vx_ot w = true)
    (hU : vx_Zq Bundle.tN "UNASSIGNED_STACK" Bundle.steD A s s.heap) (hN : vx_Zq Bundle.tN "SUPPRESSED_SENTINEL" Bundle.listD A s s.heap) (hS : va_S A s.heap H locs) (hsize : ls.size = c.maxLocals)
    (d0 : decode cc pc = .ok (.new ik, 3)) (d3 : decode cc (pc + 3) = .ok (.dup, 1)) (d4 : decode cc (pc + 4) = .ok (.invokespecial ic, 3)) (d7 : decode cc (pc + 7) = .ok (.athrow, 1))
    (hout : ∀ x ∈ c.exceptionTable.toList, covers x (pc + 7) = false)
    (hRframes : names.length + 3 < R.frames) (hRlocals : (rest.map fun v => v.category).sum + (13 * (names.length + 1) + 42) ≤ R.locals) (hRcells : cells + 1 ≤ R.cells) (hRslots : slots + 6 ≤ R.slots) (hlocks : meth.locks = false)
    (hx : ∀ t : State, s.vm.Alike t.vm → H.size ≤ t.heap.size → (∀ q : Nat, q < H.size → t.heap[q]? = H[q]?) → XC cls s t)
    (hf : ∀ z ∈ locs, free z.base) (hc : cells + 1 ≤ mc) (hs : slots + 6 ≤ ms) :
    W p l e R s m args below meth c H locs cells slots (vx_MQ below Qc XC args s mc ms free) (F0 m pc ls rest) := by
  intro T hT X
  have htr : e.platform.stackTraces = false := (show e.platform.stackTraces = l.stackTraces by rw [X.admits.platform]).trans hl
  have Y := vx_rebase X (R' := { frames := R.frames, locals := R.locals, cells := 1, slots := 6 }) (Nat.le_refl _) (Nat.le_refl _) hRcells hRslots
  obtain ⟨s', hA⟩ : ∃ z, z = (T.setVm s.vm).setFrames (.invoking m args :: below) := ⟨_, rfl⟩
  rw [← hA] at Y
  have hvm : s'.vm = s.vm := by rw [hA]; rfl
  have hhp : s'.heap = H := by rw [hA]; exact hT
  have hW0 : s.WarmedH s'.vm := by rw [hvm]; exact State.WarmedH.refl s
  have hat' : ∀ w ∈ vx_at0 own ic cls names, w.before args s' = true := fun w hw => vx_ot_at hW0 hvm.symm (hgood w (List.mem_cons_of_mem _ (List.mem_cons_of_mem _ hw))) (hat w hw)
  have hk' : (Cond.classLink own ik cls).before args s' = true := vx_ot_at hW0 hvm.symm (hgood _ List.mem_cons_self) hk
  have hini' : (Cond.initialized cls).before args s' = true := vx_ot_at hW0 hvm.symm (hgood _ (List.mem_cons_of_mem _ List.mem_cons_self)) hini
  have hU' : vx_Zq Bundle.tN "UNASSIGNED_STACK" Bundle.steD A s' s'.heap := by rw [hhp]; exact vx_Zq.moved hW0.alike (hU.kept hS.2.1)
  have hN' : vx_Zq Bundle.tN "SUPPRESSED_SENTINEL" Bundle.listD A s' s'.heap := by rw [hhp]; exact vx_Zq.moved hW0.alike (hN.kept hS.2.1)
  have h : ∀ w ∈ Bundle.ownAtoms0 own ic cls names, w.before args s' = true := vx_own hat' (vx_isRefq hU'.1) (vx_isRefq hN'.1) hU'.2.word hN'.2.word
  have hown' : s'.vm.findClass own = some m.cls := by rw [hvm]; exact hown
  have hins : (Cond.instantiable cls 6).before args s' = true := h _ (by simp [Bundle.ownAtoms0])
  obtain ⟨vm₁, cX, kX, hfX, hkX, -, -, X₁, st1⟩ := Y.newCold hexec (own := own) (C := cls) (index := ik) (n := 6) hown' hk' hins hini'
    (g := F0 m pc ls rest) rfl (by rw [hb]; exact d0) (Nat.le_refl _) (Nat.le_refl _)
  generalize hT1 : (T.setVm vm₁).pushCell { cls := cX, slots := kX.instanceTypes.map defaultValue, vm := .none } = T1 at X₁ st1
  have hcat : (Value.ref T.heap.size).category = 1 := rfl
  have hcellA : T1.heap[T.heap.size]? = some (freshCell cX kX) := by rw [← hT1]; exact State.heap_pushCell_size _ _
  have d3' : decode c.code (pc + 3) = .ok (.dup, 1) := by rw [hb]; exact d3
  obtain ⟨U, hsteps, hrun, hend, hW, hsame, ce, hce, hO⟩ := X₁.ctorThrow0 hexec htr (own := own) (cls := cls) (names := names) (ic := ic) hown' hcls hnames h (fun x hx => nomatch hx) hfX hkX hcellA (by rw [hhp, hT]; exact Nat.le_refl _)
    (g := { method := m, pc := pc + 4, locals := ls, stack := .ref T.heap.size :: .ref T.heap.size :: rest, locked := none }) rfl hsize rfl rfl (rest := rest) rfl
    (by rw [hb]; exact d4) (by rw [hb]; exact d7) hout hRframes (by simp only [List.map_cons, List.sum_cons, hcat]; omega) hlocks
  obtain ⟨f1, f2⟩ := vx_frame hsame
  rw [hhp] at f1 f2
  have hWs : s.WarmedH U.vm := State.WarmedH.trans hW0 hW
  have hcl : s.vm.findClass cls = some ce.cls := by
    have h9 := hO.cls
    rw [hvm] at h9
    exact h9
  have hall : s.sameButNew ({ U with vm := s.vm } : State) locs mc ms := by
    subst hA
    obtain ⟨e1, e2⟩ := hsame
    rw [State.setFrames_setFrames] at e1
    have h2 : (T.setVm s.vm).sameButNew ({ U with vm := s.vm } : State) [] (0 + 1) (0 + 6) := ⟨e1, e2⟩
    have h3 := X.same.trans h2
    rw [List.append_nil] at h3
    exact h3.mono hc hs
  refine ⟨U, ?_, .threw T.heap.size, hrun, hend, Or.inr ⟨T.heap.size, rfl, cls, ce, locs, hx U hWs.alike f1 (fun q hq => f2 q hq (fun z hz => nomatch hz)), hce, hO.vm, hcl, hWs, hall, hf⟩⟩
  refine st1 _ ?_
  show Steps p.tables e below (T1.setTop { method := m, pc := pc + 3, locals := ls, stack := .ref T.heap.size :: rest, locked := none }) _
  jvm_step X₁.here [X₁.here.top, hexec, d3', Value.category]
  exact hsteps
/-- 'throw new E("text")': new; dup; ldc; invokespecial; athrow -/
theorem vx_throwS {cc : ByteArray} {pc : Nat} (hexec : p.tables.exec = Jvm.exec) (hb : c.code = cc) (hl : l.stackTraces = false) {own cls text : String} {names : List String} {ik is ic mc ms sa : Nat} {A : Nat → Prop}
    (hown : s.vm.findClass own = some m.cls) (hcls : Bundle.fit cls = true) (hnames : ∀ n ∈ names, Bundle.fit n = true)
    (hk : (Cond.classLink own ik cls).before args s = true) (hini : (Cond.initialized cls).before args s = true) (hstr : vk_R own is text sa s) (hat : ∀ w ∈ vx_atS own ic cls names, w.before args s = true)
    (hgood : ∀ w ∈ Cond.classLink own ik cls :: Cond.initialized cls :: vx_atS own ic cls names, vx_ot w = true)
    (hU : vx_Zq Bundle.tN "UNASSIGNED_STACK" Bundle.steD A s s.heap) (hN : vx_Zq Bundle.tN "SUPPRESSED_SENTINEL" Bundle.listD A s s.heap) (hS : va_S A s.heap H locs) (hsize : ls.size = c.maxLocals)
    (d0 : decode cc pc = .ok (.new ik, 3)) (d3 : decode cc (pc + 3) = .ok (.dup, 1)) (d4 : decode cc (pc + 4) = .ok (.ldc is, 2)) (d6 : decode cc (pc + 6) = .ok (.invokespecial ic, 3)) (d9 : decode cc (pc + 9) = .ok (.athrow, 1))
    (hout : ∀ x ∈ c.exceptionTable.toList, covers x (pc + 9) = false)
    (hRframes : names.length + 3 < R.frames) (hRlocals : (rest.map fun v => v.category).sum + (13 * (names.length + 1) + 43) ≤ R.locals) (hRcells : cells + 1 ≤ R.cells) (hRslots : slots + 6 ≤ R.slots) (hlocks : meth.locks = false)
    (hx : ∀ t : State, s.vm.Alike t.vm → H.size ≤ t.heap.size → (∀ q : Nat, q < H.size → t.heap[q]? = H[q]?) → XC cls s t)
    (hf : ∀ z ∈ locs, free z.base) (hc : cells + 1 ≤ mc) (hs : slots + 6 ≤ ms) :
    W p l e R s m args below meth c H locs cells slots (vx_MQ below Qc XC args s mc ms free) (F0 m pc ls rest) := by
  intro T hT X
  have htr : e.platform.stackTraces = false := (show e.platform.stackTraces = l.stackTraces by rw [X.admits.platform]).trans hl
  have Y := vx_rebase X (R' := { frames := R.frames, locals := R.locals, cells := 1, slots := 6 }) (Nat.le_refl _) (Nat.le_refl _) hRcells hRslots
  obtain ⟨s', hA⟩ : ∃ z, z = (T.setVm s.vm).setFrames (.invoking m args :: below) := ⟨_, rfl⟩
  rw [← hA] at Y
  have hvm : s'.vm = s.vm := by rw [hA]; rfl
  have hhp : s'.heap = H := by rw [hA]; exact hT
  have hW0 : s.WarmedH s'.vm := by rw [hvm]; exact State.WarmedH.refl s
  have hat' : ∀ w ∈ vx_atS own ic cls names, w.before args s' = true := fun w hw => vx_ot_at hW0 hvm.symm (hgood w (List.mem_cons_of_mem _ (List.mem_cons_of_mem _ hw))) (hat w hw)
  have hk' : (Cond.classLink own ik cls).before args s' = true := vx_ot_at hW0 hvm.symm (hgood _ List.mem_cons_self) hk
  have hini' : (Cond.initialized cls).before args s' = true := vx_ot_at hW0 hvm.symm (hgood _ (List.mem_cons_of_mem _ List.mem_cons_self)) hini
  have hU' : vx_Zq Bundle.tN "UNASSIGNED_STACK" Bundle.steD A s' s'.heap := by rw [hhp]; exact vx_Zq.moved hW0.alike (hU.kept hS.2.1)
  have hN' : vx_Zq Bundle.tN "SUPPRESSED_SENTINEL" Bundle.listD A s' s'.heap := by rw [hhp]; exact vx_Zq.moved hW0.alike (hN.kept hS.2.1)
  have h : ∀ w ∈ Bundle.ownAtoms own ic cls names, w.before args s' = true := vx_own hat' (vx_isRefq hU'.1) (vx_isRefq hN'.1) hU'.2.word hN'.2.word
  have hown' : s'.vm.findClass own = some m.cls := by rw [hvm]; exact hown
  have hins : (Cond.instantiable cls 6).before args s' = true := h _ (by simp [Bundle.ownAtoms])
  obtain ⟨vm₁, cX, kX, hfX, hkX, -, -, X₁, st1⟩ := Y.newCold hexec (own := own) (C := cls) (index := ik) (n := 6) hown' hk' hins hini'
    (g := F0 m pc ls rest) rfl (by rw [hb]; exact d0) (Nat.le_refl _) (Nat.le_refl _)
  generalize hT1 : (T.setVm vm₁).pushCell { cls := cX, slots := kX.instanceTypes.map defaultValue, vm := .none } = T1 at X₁ st1
  have hcat : (Value.ref T.heap.size).category = 1 := rfl
  have hcellA : T1.heap[T.heap.size]? = some (freshCell cX kX) := by rw [← hT1]; exact State.heap_pushCell_size _ _
  have d3' : decode c.code (pc + 3) = .ok (.dup, 1) := by rw [hb]; exact d3
  have d4' : decode c.code (pc + 4) = .ok (.ldc is, 2) := by rw [hb]; exact d4
  have hstr' : vk_R own is text sa s' := vk_R.warm hW0 hstr
  obtain ⟨U, hsteps, hrun, hend, hW, hsame, ce, hce, hO⟩ := X₁.ctorThrowS hexec htr (own := own) (cls := cls) (names := names) (ic := ic) hown' hcls hnames h (fun x hx => nomatch hx) hfX hkX hcellA (by rw [hhp, hT]; exact Nat.le_refl _) (msg := .ref sa) rfl
    (g := { method := m, pc := pc + 6, locals := ls, stack := .ref sa :: .ref T.heap.size :: .ref T.heap.size :: rest, locked := none }) rfl hsize rfl rfl (rest := rest) rfl
    (by rw [hb]; exact d6) (by rw [hb]; exact d9) hout hRframes (by simp only [List.map_cons, List.sum_cons, hcat]; omega) hlocks
  obtain ⟨f1, f2⟩ := vx_frame hsame
  rw [hhp] at f1 f2
  have hWs : s.WarmedH U.vm := State.WarmedH.trans hW0 hW
  have hcl : s.vm.findClass cls = some ce.cls := by
    have h9 := hO.cls
    rw [hvm] at h9
    exact h9
  have hall : s.sameButNew ({ U with vm := s.vm } : State) locs mc ms := by
    subst hA
    obtain ⟨e1, e2⟩ := hsame
    rw [State.setFrames_setFrames] at e1
    have h2 : (T.setVm s.vm).sameButNew ({ U with vm := s.vm } : State) [] (0 + 1) (0 + 6) := ⟨e1, e2⟩
    have h3 := X.same.trans h2
    rw [List.append_nil] at h3
    exact h3.mono hc hs
  refine ⟨U, ?_, .threw T.heap.size, hrun, hend, Or.inr ⟨T.heap.size, rfl, cls, ce, locs, hx U hWs.alike f1 (fun q hq => f2 q hq (fun z hz => nomatch hz)), hce, hO.vm, hcl, hWs, hall, hf⟩⟩
  refine st1 _ ?_
  show Steps p.tables e below (T1.setTop { method := m, pc := pc + 3, locals := ls, stack := .ref T.heap.size :: rest, locked := none }) _
  jvm_step X₁.here [X₁.here.top, hexec, d3', Value.category]
  exact X₁.ldcString hexec (own := own) (text := text) (index := is) (a := sa) hown' hstr'.1 hstr'.2
    (g := { method := m, pc := pc + 4, locals := ls, stack := .ref T.heap.size :: .ref T.heap.size :: rest, locked := none }) rfl d4' _ hsteps
/-- 'throw new E("text")', the text by a wide index -/
theorem vx_throwSW {cc : ByteArray} {pc : Nat} (hexec : p.tables.exec = Jvm.exec) (hb : c.code = cc) (hl : l.stackTraces = false) {own cls text : String} {names : List String} {ik is ic mc ms sa : Nat} {A : Nat → Prop}
    (hown : s.vm.findClass own = some m.cls) (hcls : Bundle.fit cls = true) (hnames : ∀ n ∈ names, Bundle.fit n = true)
    (hk : (Cond.classLink own ik cls).before args s = true) (hini : (Cond.initialized cls).before args s = true) (hstr : vk_R own is text sa s) (hat : ∀ w ∈ vx_atS own ic cls names, w.before args s = true)
    (hgood : ∀ w ∈ Cond.classLink own ik cls :: Cond.initialized cls :: vx_atS own ic cls names, vx_ot w = true)
    (hU : vx_Zq Bundle.tN "UNASSIGNED_STACK" Bundle.steD A s s.heap) (hN : vx_Zq Bundle.tN "SUPPRESSED_SENTINEL" Bundle.listD A s s.heap) (hS : va_S A s.heap H locs) (hsize : ls.size = c.maxLocals)
    (d0 : decode cc pc = .ok (.new ik, 3)) (d3 : decode cc (pc + 3) = .ok (.dup, 1)) (d4 : decode cc (pc + 4) = .ok (.ldc_w is, 3)) (d7 : decode cc (pc + 7) = .ok (.invokespecial ic, 3)) (d10 : decode cc (pc + 10) = .ok (.athrow, 1))
    (hout : ∀ x ∈ c.exceptionTable.toList, covers x (pc + 10) = false)
    (hRframes : names.length + 3 < R.frames) (hRlocals : (rest.map fun v => v.category).sum + (13 * (names.length + 1) + 43) ≤ R.locals) (hRcells : cells + 1 ≤ R.cells) (hRslots : slots + 6 ≤ R.slots) (hlocks : meth.locks = false)
    (hx : ∀ t : State, s.vm.Alike t.vm → H.size ≤ t.heap.size → (∀ q : Nat, q < H.size → t.heap[q]? = H[q]?) → XC cls s t)
    (hf : ∀ z ∈ locs, free z.base) (hc : cells + 1 ≤ mc) (hs : slots + 6 ≤ ms) :
    W p l e R s m args below meth c H locs cells slots (vx_MQ below Qc XC args s mc ms free) (F0 m pc ls rest) := by
  intro T hT X
  have htr : e.platform.stackTraces = false := (show e.platform.stackTraces = l.stackTraces by rw [X.admits.platform]).trans hl
  have Y := vx_rebase X (R' := { frames := R.frames, locals := R.locals, cells := 1, slots := 6 }) (Nat.le_refl _) (Nat.le_refl _) hRcells hRslots
  obtain ⟨s', hA⟩ : ∃ z, z = (T.setVm s.vm).setFrames (.invoking m args :: below) := ⟨_, rfl⟩
  rw [← hA] at Y
  have hvm : s'.vm = s.vm := by rw [hA]; rfl
  have hhp : s'.heap = H := by rw [hA]; exact hT
  have hW0 : s.WarmedH s'.vm := by rw [hvm]; exact State.WarmedH.refl s
  have hat' : ∀ w ∈ vx_atS own ic cls names, w.before args s' = true := fun w hw => vx_ot_at hW0 hvm.symm (hgood w (List.mem_cons_of_mem _ (List.mem_cons_of_mem _ hw))) (hat w hw)
  have hk' : (Cond.classLink own ik cls).before args s' = true := vx_ot_at hW0 hvm.symm (hgood _ List.mem_cons_self) hk
  have hini' : (Cond.initialized cls).before args s' = true := vx_ot_at hW0 hvm.symm (hgood _ (List.mem_cons_of_mem _ List.mem_cons_self)) hini
  have hU' : vx_Zq Bundle.tN "UNASSIGNED_STACK" Bundle.steD A s' s'.heap := by rw [hhp]; exact vx_Zq.moved hW0.alike (hU.kept hS.2.1)
  have hN' : vx_Zq Bundle.tN "SUPPRESSED_SENTINEL" Bundle.listD A s' s'.heap := by rw [hhp]; exact vx_Zq.moved hW0.alike (hN.kept hS.2.1)
  have h : ∀ w ∈ Bundle.ownAtoms own ic cls names, w.before args s' = true := vx_own hat' (vx_isRefq hU'.1) (vx_isRefq hN'.1) hU'.2.word hN'.2.word
  have hown' : s'.vm.findClass own = some m.cls := by rw [hvm]; exact hown
  have hins : (Cond.instantiable cls 6).before args s' = true := h _ (by simp [Bundle.ownAtoms])
  obtain ⟨vm₁, cX, kX, hfX, hkX, -, -, X₁, st1⟩ := Y.newCold hexec (own := own) (C := cls) (index := ik) (n := 6) hown' hk' hins hini'
    (g := F0 m pc ls rest) rfl (by rw [hb]; exact d0) (Nat.le_refl _) (Nat.le_refl _)
  generalize hT1 : (T.setVm vm₁).pushCell { cls := cX, slots := kX.instanceTypes.map defaultValue, vm := .none } = T1 at X₁ st1
  have hcat : (Value.ref T.heap.size).category = 1 := rfl
  have hcellA : T1.heap[T.heap.size]? = some (freshCell cX kX) := by rw [← hT1]; exact State.heap_pushCell_size _ _
  have d3' : decode c.code (pc + 3) = .ok (.dup, 1) := by rw [hb]; exact d3
  have d4' : decode c.code (pc + 4) = .ok (.ldc_w is, 3) := by rw [hb]; exact d4
  have hstr' : vk_R own is text sa s' := vk_R.warm hW0 hstr
  obtain ⟨U, hsteps, hrun, hend, hW, hsame, ce, hce, hO⟩ := X₁.ctorThrowS hexec htr (own := own) (cls := cls) (names := names) (ic := ic) hown' hcls hnames h (fun x hx => nomatch hx) hfX hkX hcellA (by rw [hhp, hT]; exact Nat.le_refl _) (msg := .ref sa) rfl
    (g := { method := m, pc := pc + 7, locals := ls, stack := .ref sa :: .ref T.heap.size :: .ref T.heap.size :: rest, locked := none }) rfl hsize rfl rfl (rest := rest) rfl
    (by rw [hb]; exact d7) (by rw [hb]; exact d10) hout hRframes (by simp only [List.map_cons, List.sum_cons, hcat]; omega) hlocks
  obtain ⟨f1, f2⟩ := vx_frame hsame
  rw [hhp] at f1 f2
  have hWs : s.WarmedH U.vm := State.WarmedH.trans hW0 hW
  have hcl : s.vm.findClass cls = some ce.cls := by
    have h9 := hO.cls
    rw [hvm] at h9
    exact h9
  have hall : s.sameButNew ({ U with vm := s.vm } : State) locs mc ms := by
    subst hA
    obtain ⟨e1, e2⟩ := hsame
    rw [State.setFrames_setFrames] at e1
    have h2 : (T.setVm s.vm).sameButNew ({ U with vm := s.vm } : State) [] (0 + 1) (0 + 6) := ⟨e1, e2⟩
    have h3 := X.same.trans h2
    rw [List.append_nil] at h3
    exact h3.mono hc hs
  refine ⟨U, ?_, .threw T.heap.size, hrun, hend, Or.inr ⟨T.heap.size, rfl, cls, ce, locs, hx U hWs.alike f1 (fun q hq => f2 q hq (fun z hz => nomatch hz)), hce, hO.vm, hcl, hWs, hall, hf⟩⟩
  refine st1 _ ?_
  show Steps p.tables e below (T1.setTop { method := m, pc := pc + 3, locals := ls, stack := .ref T.heap.size :: rest, locked := none }) _
  jvm_step X₁.here [X₁.here.top, hexec, d3', Value.category]
  exact X₁.ldcStringW hexec (own := own) (text := text) (index := is) (a := sa) hown' hstr'.1 hstr'.2
    (g := { method := m, pc := pc + 4, locals := ls, stack := .ref T.heap.size :: .ref T.heap.size :: rest, locked := none }) rfl d4' _ hsteps
end Ends
section Bodies
variable {l : Launch}
theorem vx_ofW {y : MethodName} {ws ws' : List Cond} {rm : Room} {Pc : Array Value → State → Prop} {Qc : Array Value → State → Outcome → State → Prop} {XC : String → State → State → Prop} {mc ms : Nat} {free : Addr → Prop} {cc : ByteArray} {maxL : Nat} {ret : Option FieldType}
    (hy : plainName y.cls = true) (hw : ws = Cond.code y cc maxL ret :: ws')
    (body : ∀ p e s m args below meth c s₁, BodyLoose p l y (headSpec ws rm) cc maxL ret e s m args below meth c s₁ → c.maxLocals = maxL → (∀ x ∈ c.exceptionTable.toList, False) → Pc args s →
      W p l e (headSpec ws rm).room s m args below meth c s.heap [] 0 0 (vx_MQ below Qc XC args s mc ms free) (entryFrame m args maxL)) : vx_Met l y ws rm Pc Qc XC mc ms free := by
  refine MetFree.of_bodyS (code := cc) (maxLocals := maxL) (ret := ret) hy ?_ ?_
  · intro args s m h hn
    obtain ⟨meth, c, h1, h2, h3, h4, h5, h6, -, -⟩ := Cond.code_spec hn (atoms_spec (ws := ws) h _ (by rw [hw]; exact List.mem_cons_self))
    exact ⟨meth, c, h1, h2, h3, h4, h5, h6⟩
  · intro p e s m args below meth c s₁ B hml hP _
    have hh0 : s₁.heap = s.heap := by rw [B.state]; rfl
    have ht : ∀ x ∈ c.exceptionTable.toList, False := by
      obtain ⟨meth9, c9, h1, h2, -, -, -, -, h7, -⟩ := Cond.code_spec B.named (atoms_spec (ws := ws) B.pre _ (by rw [hw]; exact List.mem_cons_self))
      cases Option.some.inj (h1.symm.trans B.method)
      cases Option.some.inj (h2.symm.trans (Stand.of_body B).code)
      intro x hx
      rw [Array.isEmpty_iff.mp h7] at hx
      cases hx
    obtain ⟨t, a1, o, b1, b2, b3⟩ := body p e s m args below meth c s₁ B hml ht hP s₁ hh0 (Stand.of_body B)
    exact ⟨t, o, a1, b1, b2, b3⟩
/-- the table of a body with handlers -/
theorem vx_table {p : Program} {x y : MethodName} {S : Spec} {cc bytes : ByteArray} {maxL maxL' : Nat} {ret ret' : Option FieldType} {e : Env} {s s₁ : State} {m : MethodId} {args : Array Value} {below : List Frame} {meth : Method} {c : Code} {hh : List (Nat × Nat × Nat × Nat)}
    (B : BodyLoose p l y S cc maxL ret e s m args below meth c s₁) (h : (Cond.codeWith y bytes maxL' ret' hh).before args s = true) : c.exceptionTable.toList = tableOf hh := by
  obtain ⟨m9, meth9, c9, hn9, h1, h2, -, -, h6, -⟩ := Cond.codeWith_spec h
  cases Option.some.inj (hn9.symm.trans B.named)
  cases Option.some.inj (h1.symm.trans B.method)
  cases Option.some.inj (h2.symm.trans (Stand.of_body B).code)
  rw [← h6, table_eq]
end Bodies
end VXA
/-! ===== END ===== -/
/-! ===== BEGIN a static call of a method with an exception table ===== -/
section VXS
variable {p : Program} {l : Launch} {e : Env} {R : Room} {s : State} {m : MethodId} {args : Array Value} {below : List Frame} {meth : Method} {c : Code} {T : State} {H : Heap} {locs : List Loc} {cells slots : Nat}
abbrev vx_CSW (R : Room) (s : State) (args : Array Value) (own : String) (index : Nat) (y : MethodName) (bytes : ByteArray) (maxL : Nat) (ret : Option FieldType) (hh : List (Nat × Nat × Nat × Nat)) (ws : List Cond) (rm : Room) (mc ms n : Nat) : Prop :=
  (rm.cells = mc ∧ rm.slots = ms ∧ rm.frames + 1 ≤ R.frames ∧ 8 + (maxL + 11) + rm.locals ≤ R.locals ∧ (∀ w ∈ ws, ∀ (a' : Array Value) (U : State), s.WarmedH U.vm → w.before a' U = true) ∧ Cond.codeWith y bytes maxL ret hh ∈ ws) ∧
  (Cond.codeWith y bytes maxL ret hh).before args s = true ∧ (Cond.initialized y.cls).before args s = true ∧ (y.cls ≠ "java/lang/invoke/MethodHandle" ∧ y.cls ≠ "java/lang/invoke/VarHandle") ∧
  (∀ sig, parseMethodDescriptor y.desc = some sig → n = sig.parameters.length) ∧ (Cond.methodLink own index y).before args s = true ∧ (Cond.static y).before args s = true
theorem vx_cwSW {own : String} {index maxL mc ms : Nat} {y : MethodName} {bytes : ByteArray} {ret : Option FieldType} {hh : List (Nat × Nat × Nat × Nat)} {Ts ws ws' : List Cond} {rm : Room} (n : Nat) (ht : ∀ w ∈ Ts, w.before args s = true) (hT : GoodIn Ts (va_wsS own index y ws)) (hw : ws = Cond.codeWith y bytes maxL ret hh :: ws') (hrc : rm.cells = mc) (hrs : rm.slots = ms)
    (hd : y.cls ≠ "java/lang/invoke/MethodHandle" ∧ y.cls ≠ "java/lang/invoke/VarHandle" ∧ (parseMethodDescriptor y.desc).map (fun d => d.parameters.length) = some n) (hR : rm.frames + 1 ≤ R.frames ∧ 8 + (maxL + 11) + rm.locals ≤ R.locals) :
    vx_CSW R s args own index y bytes maxL ret hh ws rm mc ms n := by
  have ok : ∀ w ∈ va_wsS own index y ws, w.before args s = true := fun w h => ht w (hT w h).1
  have hG : GoodIn Ts ws := fun w h => hT w (by unfold va_wsS; exact List.mem_append_right _ h)
  have hc : Cond.codeWith y bytes maxL ret hh ∈ ws := by rw [hw]; exact List.mem_cons_self
  refine ⟨⟨hrc, hrs, hR.1, hR.2, pay_in ht hG, hc⟩, ht _ (hG _ hc).1, ok _ (by simp [va_wsS]), ⟨hd.1, hd.2.1⟩, fun sig h => ?_, ok _ (by simp [va_wsS]), ok _ (by simp [va_wsS])⟩
  have h2 := hd.2.2
  rw [h] at h2
  exact (Option.some.inj h2).symm
theorem vx_callSW (X : Stand p l e R s m args below meth c T locs cells slots) (hexec : p.tables.exec = Jvm.exec) {own : String} {index : Nat} {y : MethodName} {bytes : ByteArray} {maxL : Nat} {ret : Option FieldType} {hh : List (Nat × Nat × Nat × Nat)}
    (hown : s.vm.findClass own = some m.cls) (hlink : (Cond.methodLink own index y).before args s = true) (hstat : (Cond.static y).before args s = true) (hinit : (Cond.initialized y.cls).before args s = true)
    (hcode : (Cond.codeWith y bytes maxL ret hh).before args s = true) (hy : y.cls ≠ "java/lang/invoke/MethodHandle" ∧ y.cls ≠ "java/lang/invoke/VarHandle")
    {W9 : Nat} {Pre : Pt → Array Value → Prop} {Post : Pt → Array Value → Option Value → Pt → Prop} (hK : Back l R p e below s args y 3 W9 Pre Post)
    {g : JFrame} (hg : g.method = m) (hsize : g.locals.size = c.maxLocals) {argsL rest : List Value} (hlen : ∀ sig, parseMethodDescriptor y.desc = some sig → argsL.length = sig.parameters.length)
    (hstack : g.stack = argsL.reverse ++ rest) (hW : 2 * g.monitorRoom + (rest.map fun v => v.category).sum ≤ W9) (hdg : decode c.code g.pc = .ok (.invokestatic index, 3))
    (hpre : ∀ vm₁, s.WarmedH vm₁ → Pre ⟨T.setVm vm₁, locs, cells, slots⟩ argsL.toArray) :
    ∃ (v : Option Value) (vm₁ : Vm) (B : Pt), s.WarmedH vm₁ ∧ Stand p l e R s m args below meth c B.U B.locs B.cells B.slots ∧ Post ⟨T.setVm vm₁, locs, cells, slots⟩ argsL.toArray v B ∧
      ∀ target, Steps p.tables e below (B.U.setTop { g with pc := g.pc + 3, stack := v.toList ++ rest }) target → Steps p.tables e below (T.setTop g) target := by
  obtain ⟨mk, methM, cM, hnamed, hmethM, -, -, -, -, -, -, hsigM⟩ := Cond.codeWith_spec hcode
  have hstatic : methM.isStatic = true := Cond.static_spec hnamed hmethM hstat
  obtain ⟨kP, hkP, -⟩ := className_of_methodNamed hnamed
  have hinitP : kP.init = .initialized := Cond.initialized_spec (findClass_of_methodNamed hnamed) hkP hinit
  obtain ⟨vm₁, X₁, hstep₁⟩ := X.invokestatic hexec hown hlink hnamed hmethM hstatic hkP hinitP hy (g := g) hg (argsL := argsL) (rest := rest) (hlen _ hsigM) hstack hdg
  obtain ⟨v, B, X', hpost, hsteps⟩ := hK m meth c ⟨T.setVm vm₁, locs, cells, slots⟩ { g with stack := rest } (.invokestatic index) mk argsL.toArray X₁ hg hsize hdg hW (X₁.named hnamed) (hpre vm₁ X₁.warmed)
  exact ⟨v, vm₁, B, X₁.warmed, X', hpost, fun target h => hstep₁ _ fun acts => by rw [doInvoke_state]; exact hsteps.trans h⟩
theorem vx_runSW {y : MethodName} {bytes cc : ByteArray} {maxL nL mc ms n index : Nat} {ret : Option FieldType} {hh : List (Nat × Nat × Nat × Nat)} {ws : List Cond} {rm : Room} {Pc : Array Value → State → Prop} {Qc : Array Value → State → Outcome → State → Prop} {free : Addr → Prop} {Ts : List Cond} {own : String} {As rest : List Value} {g : JFrame}
    (S : CallFix p m c cc nL s args Ts own) (hM : Met l y ws rm Pc Qc mc ms free) (cw : vx_CSW R s args own index y bytes maxL ret hh ws rm mc ms n) (hp : PreS s H Pc As)
    (hg : g.method = m) (hn : As.length = n) (hsize : g.locals.size = nL) (hstack : g.stack = As.reverse ++ rest) (hW : 2 * g.monitorRoom + (rest.map fun v => v.category).sum ≤ 8) (hdg : decode cc g.pc = .ok (.invokestatic index, 3)) (hf : cells + mc ≤ R.cells ∧ slots + ms ≤ R.slots) :
    va_Run p l e R s m args below meth c H locs cells slots mc ms g rest (Qc As.toArray) (free) := by
  obtain ⟨⟨hrc, hrs, hfr, hlo, hws, hcw⟩, hcode, hini, hy, hlen, hl, hstt⟩ := cw
  have hK : Back l R p e below s args y 3 8 (PreOf R mc ms Pc) (PostOf Qc mc ms free) := va_backW (hh := hh) (bytes := bytes) (maxL := maxL) (ret := ret) hM hp.1 hrc hrs hfr hlo hws hcw (fun a' U hW => word_at hW (Or.inl (by first | rfl | simp [Cond.onTables, Cond.keeps, Cond.steady])) hini)
  obtain ⟨hx, hb, hml, ho, -⟩ := S
  intro T hT X
  obtain ⟨v, vm₁, ⟨U', l2, c2, s2⟩, hW₁, X', ⟨g', mk, t, L, e1, e2, hq, h1, hL, h2, h3⟩, st⟩ := vx_callSW X hx (hh := hh) (bytes := bytes) (maxL := maxL) (ret := ret) ho hl hstt hini hcode hy hK hg (hsize.trans hml.symm) (argsL := As) (rest := rest) (fun sig h => hn.trans (hlen sig h)) hstack hW (by rw [hb]; exact hdg)
    (fun vm₁ hW₁ => ⟨hf.1, hf.2, hp.2 (T.setVm vm₁) hT hW₁⟩)
  dsimp only [Pt.U, Pt.locs, Pt.cells, Pt.slots] at X' e1 e2 h1 h2 h3 st
  subst h1; subst h2; subst h3
  exact ⟨v, (T.setVm vm₁).calling g' mk As.toArray, t, U', L, hT, X', hL, e1, e2, hq, st⟩
/-- not caught here, past rows that name other classes: it goes on to the caller -/
theorem vx_outP {p : Program} {l : Launch} {e : Env} {R : Room} {s : State} {m : MethodId} {args : Array Value} {below : List Frame} {meth : Method} {c : Code} {H : Heap} {locs : List Loc} {cells slots : Nat} {free : Addr → Prop} {ls : Array Slot} {rest : List Value} {Qc : Array Value → State → Outcome → State → Prop} {XC : String → State → State → Prop}
    {pc : Nat} {own E : String} {ce : Cell} {q : Addr} {mc ms : Nat} (hown : s.vm.findClass own = some m.cls) (hlocks : meth.locks = false)
    (hpass : ∀ z ∈ c.exceptionTable.toList, covers z pc = false ∨ (z.catchType ≠ 0 ∧ ∃ nm : String, (Cond.classLink own z.catchType nm).before args s = true ∧ va_Nc E nm s)) (hcell : H[q]? = some ce) (hv : ce.vm = .none) (hcl : s.vm.findClass E = some ce.cls)
    (hx : ∀ t : State, t.heap = H → s.vm.Alike t.vm → XC E s t) (hf : ∀ z ∈ locs, free z.base) (hc : cells ≤ mc) (hs : slots ≤ ms) :
    vx_W p l e R s m args below meth c H locs cells slots (vx_MQ below Qc XC args s mc ms free) (F0 m pc ls rest) q := by
  intro T hT X
  have hpl : e.platform.magicAccessors = ({} : Platform).magicAccessors := by rw [X.admits.platform]
  obtain ⟨vm', hW', X', st⟩ := X.outThrough hlocks q (g := F0 m pc ls rest) rfl rfl rfl (cell := ce) (by rw [hT]; exact hcell) (by rw [hv]; rfl)
    (by obtain ⟨k9, h9, -⟩ := Vm.findClass_spec hcl; exact ⟨k9, h9⟩) (fun z hz => by
      rcases hpass z hz with h | ⟨hz0, nm, hl1, hn1⟩
      · exact Or.inl h
      · obtain ⟨c6, hc6, hcl6⟩ := Cond.classLink_spec hown hl1 e.platform hpl
        obtain ⟨a8, b8, h1, h2, h3⟩ := hn1
        cases Option.some.inj (h1.symm.trans hcl)
        cases Option.some.inj (h2.symm.trans hc6)
        exact Or.inr ⟨hz0, _, hcl6, h3⟩)
  obtain ⟨g₀, hfr⟩ := X'.frames_eq
  have hcell9 : ((T.setVm vm').setFrames (.throwing q :: below)).heap[q]? = some ce := by
    show T.heap[q]? = some ce
    rw [hT]; exact hcell
  have hend : Ended ((T.setVm vm').setFrames (.throwing q :: below)) below (.threw q) := State.frames_setFrames _ (State.cur_lt_of_frames hfr)
  refine ⟨(T.setVm vm').setFrames (.throwing q :: below), ?_, .threw q, X'.here.running, hend, Or.inr ⟨q, rfl, E, ce, locs, hx _ hT (X'.ends _).1.alike, hcell9, hv, hcl, (X'.ends _).1, (X'.ends _).2.mono hc hs, hf⟩⟩
  rw [X.pushThrowing_eq]
  exact st
/-- a thing of a world lies in the heap -/
theorem vx_lt {D : va_G} {cl : List vw_C} {ws : va_W} {H1 : Heap} (h : va_P D cl ws H1) {k : Nat} {q : Nat × va_E} (hk : ws[k]? = some q) : q.1 < H1.size := (h k q hk).lt
end VXS
/-! ===== END ===== -/
/-! ===== BEGIN methods with a table of their own: called by a name, returning or throwing ===== -/
section VXH
/-! vx_backW, vx_callVX, vx_callSX, vx_callVW, vx_runVW, vx_runVX, vx_runSX, vx_ofWH follow the same proofs as their sisters above (Free/Laws.lean, Shelf42/LK1.lean); vx_outP calls Shelf42/NT130.lean (outThrough). -/
section
variable {l : Launch} {R : Room} {p : Program} {e : Env} {below : List Frame} {s : State} {sargs : Array Value} {y : MethodName} {len W9 : Nat}
theorem vx_backW {ws : List Cond} {rm : Room} {Pc : Array Value → State → Prop} {Qc : Array Value → State → Outcome → State → Prop} {XC : String → State → State → Prop} {mc ms : Nat} {free : Addr → Prop} {bytes : ByteArray} {maxL : Nat} {ret : Option FieldType} {hh : List (Nat × Nat × Nat × Nat)}
    (hM : vx_Met l y ws rm Pc Qc XC mc ms free) (hblind : FrameBlind Pc) (hrc : rm.cells = mc) (hrs : rm.slots = ms)
    (hframes : rm.frames + 1 ≤ R.frames) (hlocals : W9 + (maxL + 11) + rm.locals ≤ R.locals)
    (hws : ∀ w ∈ ws, ∀ a' U, s.WarmedH U.vm → w.before a' U = true) (hcode : Cond.codeWith y bytes maxL ret hh ∈ ws) (hinit : ∀ a' U, s.WarmedH U.vm → (Cond.initialized y.cls).before a' U = true) :
    vx_Back l R p e below s sargs y len W9 (PreOf R mc ms Pc) (PostOf Qc mc ms free) (vx_Post XC mc ms free) := by
  intro m meth c A g ig mk a X hg hsize hdg hW hn hp
  have h1 : (headSpec ws rm).pre.before a A.U = true := atoms_intro fun w hw => hws w hw _ _ X.warmed
  have h2 : (Cond.codeWith y bytes maxL ret hh).before a A.U = true := hws _ hcode _ _ X.warmed
  have h3 : (Cond.initialized y.cls).before a A.U = true := hinit _ _ X.warmed
  have h4 : A.cells + (headSpec ws rm).room.cells ≤ R.cells := by rw [show (headSpec ws rm).room.cells = mc from hrc]; exact hp.1
  have h5 : A.slots + (headSpec ws rm).room.slots ≤ R.slots := by rw [show (headSpec ws rm).room.slots = ms from hrs]; exact hp.2.1
  have hPc : Pc a (A.U.calling g mk a) := hblind _ _ _ _ hp.2.2
  obtain ⟨U, Ls, c0, s0⟩ := A
  dsimp only [Pt.U, Pt.locs, Pt.cells, Pt.slots] at h1 h2 h3 h4 h5 X hn hPc ⊢
  obtain ⟨m9, methY, cY, hn9, hmY, hcY, -, hlY, -⟩ := Cond.codeWith_spec h2
  cases Option.some.inj (hn9.symm.trans hn)
  obtain ⟨kY, hkY, -⟩ := className_of_methodNamed hn
  have hinitY : kY.init = .initialized := Cond.initialized_spec (findClass_of_methodNamed hn) hkY h3
  have h : At U g.method c below := by rw [hg]; exact X.here
  have hlocals9 : W9 + (maxL + 11) + (headSpec ws rm).room.locals ≤ R.locals := hlocals
  have happ : (headSpec ws rm).appliesLoose y e.platform (U.calling g mk a) = true :=
    Spec.appliesLoose_calling (g := g) h hdg hn hkY hinitY
      (X.room_calling (g := g) (R' := (headSpec ws rm).room) hsize hmY hcY hframes (by rw [hlY]; omega) h4 h5) h1
  obtain ⟨mid, hmid⟩ := h.above
  have hfr : (U.setTop g).frames = (.java g :: mid) ++ below := by rw [State.frames_setTop' g h.top, hmid]; rfl
  obtain ⟨o, s₂, hsteps, -, hend, hq⟩ := Steps.callFree hM p X.admits X.cas X.clock (acts := []) hfr happ hPc trivial
  have hq' : vx_Q Qc XC mc ms free a (U.calling g mk a) o s₂ := hq
  rw [State.frames_setTop' g h.top] at hend
  obtain ⟨g₀, hg0⟩ := Option.isSome_iff_exists.mp h.top
  obtain ⟨r, hr⟩ := State.topJava?_eq_some.mp hg0
  have hr' : (({ U with heap := s₂.heap, slotsUsed := s₂.slotsUsed } : State).setVm s₂.vm).frames = .java g₀ :: r := hr
  rcases hq' with ⟨hqc, L, hfe, hL⟩ | ⟨q, rfl, E, ce, L, hx, hce, hcv, hcl, hW₂, hsm, hL⟩
  · obtain ⟨⟨v, rfl⟩, hW₂, e2, q2, q3, q4, q5, q6⟩ := id hfe
    have e3 : s₂ = ({ (U.calling g mk a).setFrames s₂.frames with heap := s₂.heap, slotsUsed := s₂.slotsUsed } : State).setVm s₂.vm := by
      have : s₂ = ({ s₂ with vm := (U.calling g mk a).vm } : State).setVm s₂.vm := rfl
      rw [e2] at this
      exact this
    obtain ⟨c₂, i₂, len₂, hc₂, hd₂, hf₂⟩ := hend
    have hW' : U.WarmedH s₂.vm := hW₂
    have hcc : c₂ = c := by
      have h1 : s₂.code? g.method = U.code? g.method := by
        rw [State.code?_eq, State.code?_eq, hW'.alike.method?]
      exact Option.some.inj (hc₂.symm.trans (h1.trans h.code))
    subst hcc
    have hlen : len₂ = len := by rw [hdg] at hd₂; cases hd₂; rfl
    subst hlen
    have hs₂ : s₂ = (({ U with heap := s₂.heap, slotsUsed := s₂.slotsUsed } : State).setVm s₂.vm).setTop { g with pc := g.pc + len₂, stack := v.toList ++ g.stack } := by
      refine e3.trans ?_
      rw [hf₂, State.calling_eq h.top, State.setFrames_setFrames, State.setTop_of_frames _ hr', hr]
      rfl
    have hsame : U.sameButNew ({ U with heap := s₂.heap, slotsUsed := s₂.slotsUsed } : State) L mc ms := by
      refine ⟨?_, q2, q3, q4, q5, q6⟩
      obtain ⟨t, ht, -⟩ := State.frames_cons hr
      show ({ U with heap := s₂.heap, slotsUsed := s₂.slotsUsed } : State) = { U.setFrames U.frames with heap := s₂.heap, slotsUsed := s₂.slotsUsed }
      rw [State.setFrames_self ht]
    subst hg
    refine Or.inl ⟨v, ⟨(({ U with heap := s₂.heap, slotsUsed := s₂.slotsUsed } : State).setVm s₂.vm), Ls ++ L, c0 + mc, s0 + ms⟩,
      ⟨X.admits, X.cas, X.clock, X.frames, X.room, X.hears, X.method, X.code, (X.here.setHeapUsed s₂.heap s₂.slotsUsed).setVm hW'.alike, X.tail, State.WarmedH.trans X.warmed hW', X.limits, X.bytes, X.same.trans (hsame.setVm s.vm)⟩,
      ⟨g, mk, s₂, L, rfl, rfl, hqc, rfl, hL, rfl, rfl⟩, ?_⟩
    show Steps p.tables e below _ ((({ U with heap := s₂.heap, slotsUsed := s₂.slotsUsed } : State).setVm s₂.vm).setTop { g with pc := g.pc + len₂, stack := v.toList ++ g.stack })
    rw [← hs₂]
    exact hsteps
  · obtain ⟨e2, q2, q3, q4, q5, q6⟩ := id hsm
    have e3 : s₂ = ({ (U.calling g mk a).setFrames s₂.frames with heap := s₂.heap, slotsUsed := s₂.slotsUsed } : State).setVm s₂.vm := by
      have : s₂ = ({ s₂ with vm := (U.calling g mk a).vm } : State).setVm s₂.vm := rfl
      rw [e2] at this
      exact this
    have hf₂ : s₂.frames = .throwing q :: .java g :: U.frames.tail := hend
    have hW' : U.WarmedH s₂.vm := hW₂
    have hs₂ : s₂ = ((({ U with heap := s₂.heap, slotsUsed := s₂.slotsUsed } : State).setVm s₂.vm).setTop g).pushFrame (.throwing q) := by
      refine e3.trans ?_
      rw [hf₂, State.calling_eq h.top, State.setFrames_setFrames, State.pushFrame, State.frames_setTop _ hr', State.setTop_of_frames _ hr', State.setFrames_setFrames, hr]
      rfl
    have hsame : U.sameButNew ({ U with heap := s₂.heap, slotsUsed := s₂.slotsUsed } : State) L mc ms := by
      refine ⟨?_, q2, q3, q4, q5, q6⟩
      obtain ⟨t, ht, -⟩ := State.frames_cons hr
      show ({ U with heap := s₂.heap, slotsUsed := s₂.slotsUsed } : State) = { U.setFrames U.frames with heap := s₂.heap, slotsUsed := s₂.slotsUsed }
      rw [State.setFrames_self ht]
    subst hg
    refine Or.inr ⟨q, ⟨(({ U with heap := s₂.heap, slotsUsed := s₂.slotsUsed } : State).setVm s₂.vm), Ls ++ L, c0 + mc, s0 + ms⟩,
      ⟨X.admits, X.cas, X.clock, X.frames, X.room, X.hears, X.method, X.code, (X.here.setHeapUsed s₂.heap s₂.slotsUsed).setVm hW'.alike, X.tail, State.WarmedH.trans X.warmed hW', X.limits, X.bytes, X.same.trans (hsame.setVm s.vm)⟩,
      ⟨g, mk, s₂, L, E, ce, rfl, rfl, hx, hce, hcv, hcl, rfl, hL, rfl, rfl⟩, ?_⟩
    show Steps p.tables e below _ (((({ U with heap := s₂.heap, slotsUsed := s₂.slotsUsed } : State).setVm s₂.vm).setTop g).pushFrame (.throwing q))
    rw [← hs₂]
    exact hsteps
end
variable {p : Program} {l : Launch} {e : Env} {R : Room} {s : State} {m : MethodId} {args : Array Value} {below : List Frame} {meth : Method} {c : Code} {T : State} {H : Heap} {locs : List Loc} {cells slots : Nat}
theorem vx_callVX (X : Stand p l e R s m args below meth c T locs cells slots) (hexec : p.tables.exec = Jvm.exec) {own C : String} {index : Nat} {y : MethodName} {bytes : ByteArray} {maxL : Nat} {ret : Option FieldType} {hh : List (Nat × Nat × Nat × Nat)}
    (hown : s.vm.findClass own = some m.cls) (hlink : (Cond.methodLink own index y).before args s = true) (hinst : (Cond.instanceMethod y).before args s = true) (hsel : (Cond.selects C y y).before args s = true)
    (hcode : (Cond.codeWith y bytes maxL ret hh).before args s = true) (hy : y.cls ≠ "java/lang/invoke/MethodHandle" ∧ y.cls ≠ "java/lang/invoke/VarHandle")
    {W9 : Nat} {Pre : Pt → Array Value → Prop} {Post : Pt → Array Value → Option Value → Pt → Prop} {PostX : Pt → Array Value → Addr → Pt → Prop} (hK : vx_Back l R p e below s args y 3 W9 Pre Post PostX)
    {b : Addr} {cellB : Cell} (hcell : T.heap[b]? = some cellB) (hobj : cellB.vm.isStatics = false) (hcls : s.vm.findClass C = some cellB.cls)
    {g : JFrame} (hg : g.method = m) (hsize : g.locals.size = c.maxLocals) {argsL rest : List Value} (hlen : ∀ sig, parseMethodDescriptor y.desc = some sig → argsL.length = sig.parameters.length)
    (hstack : g.stack = argsL.reverse ++ .ref b :: rest) (hW : 2 * g.monitorRoom + (rest.map fun v => v.category).sum ≤ W9) (hdg : decode c.code g.pc = .ok (.invokevirtual index, 3))
    (hpre : ∀ vm₁, s.WarmedH vm₁ → Pre ⟨T.setVm vm₁, locs, cells, slots⟩ (Value.ref b :: argsL).toArray) :
    (∃ (v : Option Value) (vm₁ : Vm) (B : Pt), s.WarmedH vm₁ ∧ Stand p l e R s m args below meth c B.U B.locs B.cells B.slots ∧ Post ⟨T.setVm vm₁, locs, cells, slots⟩ (Value.ref b :: argsL).toArray v B ∧
      ∀ target, Steps p.tables e below (B.U.setTop { g with pc := g.pc + 3, stack := v.toList ++ rest }) target → Steps p.tables e below (T.setTop g) target) ∨
    (∃ (q : Addr) (vm₁ : Vm) (B : Pt), s.WarmedH vm₁ ∧ Stand p l e R s m args below meth c B.U B.locs B.cells B.slots ∧ PostX ⟨T.setVm vm₁, locs, cells, slots⟩ (Value.ref b :: argsL).toArray q B ∧
      Steps p.tables e below (T.setTop g) ((B.U.setTop { g with stack := rest }).pushFrame (.throwing q))) := by
  obtain ⟨mk, methM, hnamed, hmethM, hstM, habM⟩ := Cond.instanceMethod_spec hinst
  obtain ⟨m8, methM', cM, hn8, hmethM', -, -, -, -, -, -, hsigM⟩ := Cond.codeWith_spec hcode
  cases Option.some.inj (hn8.symm.trans hnamed)
  cases hmethM.symm.trans hmethM'
  obtain ⟨c2, r2, m2, q1, q2, q3, q4, kP, hkP, hkPi⟩ := Cond.selects_spec hsel
  cases hcls.symm.trans q1
  cases (State.methodFound?_of_named hnamed hy).symm.trans q2
  cases hnamed.symm.trans q3
  have hselP : selectMethod e.platform s.vm cellB.cls mk = .method mk := by rw [Launch.admits_selectMethod X.admits]; exact q4
  obtain ⟨vm₁, X₁, hstep₁⟩ := X.invokevirtual hexec hown hlink hnamed hmethM hstM hkP hkPi hy (a := b) (cell := cellB) hcell
    (fun z h => by rw [h] at hobj; cases hobj) hselP hmethM habM hkP hkPi (g := g) hg (argsL := argsL) (rest := rest) (hlen _ hsigM) hstack hdg
  rcases hK m meth c ⟨T.setVm vm₁, locs, cells, slots⟩ { g with stack := rest } (.invokevirtual index) mk (Value.ref b :: argsL).toArray X₁ hg hsize hdg hW (X₁.named hnamed) (hpre vm₁ X₁.warmed) with ⟨v, B, X', hpost, hsteps⟩ | ⟨q, B, X', hpost, hsteps⟩
  · exact Or.inl ⟨v, vm₁, B, X₁.warmed, X', hpost, fun target h => hstep₁ _ fun acts => by rw [doInvoke_state]; exact hsteps.trans h⟩
  · exact Or.inr ⟨q, vm₁, B, X₁.warmed, X', hpost, hstep₁ _ fun acts => by rw [doInvoke_state]; exact hsteps⟩
theorem vx_callSX (X : Stand p l e R s m args below meth c T locs cells slots) (hexec : p.tables.exec = Jvm.exec) {own : String} {index : Nat} {y : MethodName} {bytes : ByteArray} {maxL : Nat} {ret : Option FieldType} {hh : List (Nat × Nat × Nat × Nat)}
    (hown : s.vm.findClass own = some m.cls) (hlink : (Cond.methodLink own index y).before args s = true) (hstat : (Cond.static y).before args s = true) (hinit : (Cond.initialized y.cls).before args s = true)
    (hcode : (Cond.codeWith y bytes maxL ret hh).before args s = true) (hy : y.cls ≠ "java/lang/invoke/MethodHandle" ∧ y.cls ≠ "java/lang/invoke/VarHandle")
    {W9 : Nat} {Pre : Pt → Array Value → Prop} {Post : Pt → Array Value → Option Value → Pt → Prop} {PostX : Pt → Array Value → Addr → Pt → Prop} (hK : vx_Back l R p e below s args y 3 W9 Pre Post PostX)
    {g : JFrame} (hg : g.method = m) (hsize : g.locals.size = c.maxLocals) {argsL rest : List Value} (hlen : ∀ sig, parseMethodDescriptor y.desc = some sig → argsL.length = sig.parameters.length)
    (hstack : g.stack = argsL.reverse ++ rest) (hW : 2 * g.monitorRoom + (rest.map fun v => v.category).sum ≤ W9) (hdg : decode c.code g.pc = .ok (.invokestatic index, 3))
    (hpre : ∀ vm₁, s.WarmedH vm₁ → Pre ⟨T.setVm vm₁, locs, cells, slots⟩ argsL.toArray) :
    (∃ (v : Option Value) (vm₁ : Vm) (B : Pt), s.WarmedH vm₁ ∧ Stand p l e R s m args below meth c B.U B.locs B.cells B.slots ∧ Post ⟨T.setVm vm₁, locs, cells, slots⟩ argsL.toArray v B ∧
      ∀ target, Steps p.tables e below (B.U.setTop { g with pc := g.pc + 3, stack := v.toList ++ rest }) target → Steps p.tables e below (T.setTop g) target) ∨
    (∃ (q : Addr) (vm₁ : Vm) (B : Pt), s.WarmedH vm₁ ∧ Stand p l e R s m args below meth c B.U B.locs B.cells B.slots ∧ PostX ⟨T.setVm vm₁, locs, cells, slots⟩ argsL.toArray q B ∧
      Steps p.tables e below (T.setTop g) ((B.U.setTop { g with stack := rest }).pushFrame (.throwing q))) := by
  obtain ⟨mk, methM, cM, hnamed, hmethM, -, -, -, -, -, -, hsigM⟩ := Cond.codeWith_spec hcode
  have hstatic : methM.isStatic = true := Cond.static_spec hnamed hmethM hstat
  obtain ⟨kP, hkP, -⟩ := className_of_methodNamed hnamed
  have hinitP : kP.init = .initialized := Cond.initialized_spec (findClass_of_methodNamed hnamed) hkP hinit
  obtain ⟨vm₁, X₁, hstep₁⟩ := X.invokestatic hexec hown hlink hnamed hmethM hstatic hkP hinitP hy (g := g) hg (argsL := argsL) (rest := rest) (hlen _ hsigM) hstack hdg
  rcases hK m meth c ⟨T.setVm vm₁, locs, cells, slots⟩ { g with stack := rest } (.invokestatic index) mk argsL.toArray X₁ hg hsize hdg hW (X₁.named hnamed) (hpre vm₁ X₁.warmed) with ⟨v, B, X', hpost, hsteps⟩ | ⟨q, B, X', hpost, hsteps⟩
  · exact Or.inl ⟨v, vm₁, B, X₁.warmed, X', hpost, fun target h => hstep₁ _ fun acts => by rw [doInvoke_state]; exact hsteps.trans h⟩
  · exact Or.inr ⟨q, vm₁, B, X₁.warmed, X', hpost, hstep₁ _ fun acts => by rw [doInvoke_state]; exact hsteps⟩
theorem vx_callVW (X : Stand p l e R s m args below meth c T locs cells slots) (hexec : p.tables.exec = Jvm.exec) {own C : String} {index : Nat} {y : MethodName} {bytes : ByteArray} {maxL : Nat} {ret : Option FieldType} {hh : List (Nat × Nat × Nat × Nat)}
    (hown : s.vm.findClass own = some m.cls) (hlink : (Cond.methodLink own index y).before args s = true) (hinst : (Cond.instanceMethod y).before args s = true) (hsel : (Cond.selects C y y).before args s = true)
    (hcode : (Cond.codeWith y bytes maxL ret hh).before args s = true) (hy : y.cls ≠ "java/lang/invoke/MethodHandle" ∧ y.cls ≠ "java/lang/invoke/VarHandle")
    {W9 : Nat} {Pre : Pt → Array Value → Prop} {Post : Pt → Array Value → Option Value → Pt → Prop} (hK : Back l R p e below s args y 3 W9 Pre Post)
    {b : Addr} {cellB : Cell} (hcell : T.heap[b]? = some cellB) (hobj : cellB.vm.isStatics = false) (hcls : s.vm.findClass C = some cellB.cls)
    {g : JFrame} (hg : g.method = m) (hsize : g.locals.size = c.maxLocals) {argsL rest : List Value} (hlen : ∀ sig, parseMethodDescriptor y.desc = some sig → argsL.length = sig.parameters.length)
    (hstack : g.stack = argsL.reverse ++ .ref b :: rest) (hW : 2 * g.monitorRoom + (rest.map fun v => v.category).sum ≤ W9) (hdg : decode c.code g.pc = .ok (.invokevirtual index, 3))
    (hpre : ∀ vm₁, s.WarmedH vm₁ → Pre ⟨T.setVm vm₁, locs, cells, slots⟩ (Value.ref b :: argsL).toArray) :
    ∃ (v : Option Value) (vm₁ : Vm) (B : Pt), s.WarmedH vm₁ ∧ Stand p l e R s m args below meth c B.U B.locs B.cells B.slots ∧ Post ⟨T.setVm vm₁, locs, cells, slots⟩ (Value.ref b :: argsL).toArray v B ∧
      ∀ target, Steps p.tables e below (B.U.setTop { g with pc := g.pc + 3, stack := v.toList ++ rest }) target → Steps p.tables e below (T.setTop g) target := by
  obtain ⟨mk, methM, hnamed, hmethM, hstM, habM⟩ := Cond.instanceMethod_spec hinst
  obtain ⟨m8, methM', cM, hn8, hmethM', -, -, -, -, -, -, hsigM⟩ := Cond.codeWith_spec hcode
  cases Option.some.inj (hn8.symm.trans hnamed)
  cases hmethM.symm.trans hmethM'
  obtain ⟨c2, r2, m2, q1, q2, q3, q4, kP, hkP, hkPi⟩ := Cond.selects_spec hsel
  cases hcls.symm.trans q1
  cases (State.methodFound?_of_named hnamed hy).symm.trans q2
  cases hnamed.symm.trans q3
  have hselP : selectMethod e.platform s.vm cellB.cls mk = .method mk := by rw [Launch.admits_selectMethod X.admits]; exact q4
  obtain ⟨vm₁, X₁, hstep₁⟩ := X.invokevirtual hexec hown hlink hnamed hmethM hstM hkP hkPi hy (a := b) (cell := cellB) hcell
    (fun z h => by rw [h] at hobj; cases hobj) hselP hmethM habM hkP hkPi (g := g) hg (argsL := argsL) (rest := rest) (hlen _ hsigM) hstack hdg
  obtain ⟨v, B, X', hpost, hsteps⟩ := hK m meth c ⟨T.setVm vm₁, locs, cells, slots⟩ { g with stack := rest } (.invokevirtual index) mk (Value.ref b :: argsL).toArray X₁ hg hsize hdg hW (X₁.named hnamed) (hpre vm₁ X₁.warmed)
  exact ⟨v, vm₁, B, X₁.warmed, X', hpost, fun target h => hstep₁ _ fun acts => by rw [doInvoke_state]; exact hsteps.trans h⟩
abbrev vx_CVW (R : Room) (s : State) (args : Array Value) (own C : String) (index : Nat) (y : MethodName) (bytes : ByteArray) (maxL : Nat) (ret : Option FieldType) (hh : List (Nat × Nat × Nat × Nat)) (ws : List Cond) (rm : Room) (mc ms n : Nat) : Prop :=
  (rm.cells = mc ∧ rm.slots = ms ∧ rm.frames + 1 ≤ R.frames ∧ 8 + (maxL + 11) + rm.locals ≤ R.locals ∧ (∀ w ∈ ws, ∀ (a' : Array Value) (U : State), s.WarmedH U.vm → w.before a' U = true) ∧ Cond.codeWith y bytes maxL ret hh ∈ ws) ∧
  (Cond.codeWith y bytes maxL ret hh).before args s = true ∧ (Cond.initialized y.cls).before args s = true ∧ (y.cls ≠ "java/lang/invoke/MethodHandle" ∧ y.cls ≠ "java/lang/invoke/VarHandle") ∧
  (∀ sig, parseMethodDescriptor y.desc = some sig → n = sig.parameters.length) ∧ (Cond.methodLink own index y).before args s = true ∧ (Cond.instanceMethod y).before args s = true ∧ (Cond.selects C y y).before args s = true
theorem vx_cwVW {own C : String} {index maxL mc ms : Nat} {y : MethodName} {bytes : ByteArray} {ret : Option FieldType} {hh : List (Nat × Nat × Nat × Nat)} {Ts ws ws' : List Cond} {rm : Room} (n : Nat) (ht : ∀ w ∈ Ts, w.before args s = true) (hT : GoodIn Ts (wsV own index C y ws)) (hw : ws = Cond.codeWith y bytes maxL ret hh :: ws') (hrc : rm.cells = mc) (hrs : rm.slots = ms)
    (hd : y.cls = C ∧ y.cls ≠ "java/lang/invoke/MethodHandle" ∧ y.cls ≠ "java/lang/invoke/VarHandle" ∧ (parseMethodDescriptor y.desc).map (fun d => d.parameters.length) = some n) (hR : rm.frames + 1 ≤ R.frames ∧ 8 + (maxL + 11) + rm.locals ≤ R.locals) :
    vx_CVW R s args own C index y bytes maxL ret hh ws rm mc ms n := by
  obtain ⟨hC, hd⟩ := hd
  subst hC
  have ok : ∀ w ∈ wsV own index y.cls y ws, w.before args s = true := fun w h => ht w (hT w h).1
  have hG : GoodIn Ts ws := fun w h => hT w (by unfold wsV; exact List.mem_append_right _ h)
  have hc : Cond.codeWith y bytes maxL ret hh ∈ ws := by rw [hw]; exact List.mem_cons_self
  refine ⟨⟨hrc, hrs, hR.1, hR.2, pay_in ht hG, hc⟩, ht _ (hG _ hc).1, ok _ (by simp [wsV]), ⟨hd.1, hd.2.1⟩, fun sig h => ?_, ok _ (by simp [wsV]), ok _ (by simp [wsV]), ok _ (by simp [wsV])⟩
  have h2 := hd.2.2
  rw [h] at h2
  exact (Option.some.inj h2).symm
theorem vx_runVW {y : MethodName} {bytes cc : ByteArray} {maxL nL mc ms n index : Nat} {ret : Option FieldType} {hh : List (Nat × Nat × Nat × Nat)} {ws : List Cond} {rm : Room} {Pc : Array Value → State → Prop} {Qc : Array Value → State → Outcome → State → Prop} {free : Addr → Prop} {Ts : List Cond} {own C : String} {b : Addr} {As rest : List Value} {g : JFrame}
    (S : CallFix p m c cc nL s args Ts own) (hM : Met l y ws rm Pc Qc mc ms free) (cw : vx_CVW R s args own C index y bytes maxL ret hh ws rm mc ms n) (hp : PreV s H C b Pc As)
    (hg : g.method = m) (hn : As.length = n) (hsize : g.locals.size = nL) (hstack : g.stack = As.reverse ++ .ref b :: rest) (hW : 2 * g.monitorRoom + (rest.map fun v => v.category).sum ≤ 8) (hdg : decode cc g.pc = .ok (.invokevirtual index, 3)) (hf : cells + mc ≤ R.cells ∧ slots + ms ≤ R.slots) :
    va_Run p l e R s m args below meth c H locs cells slots mc ms g rest (Qc (Value.ref b :: As).toArray) free := by
  obtain ⟨⟨hrc, hrs, hfr, hlo, hws, hcw⟩, hcode, hini, hy, hlen, hl, hin, hse⟩ := cw
  have hK : Back l R p e below s args y 3 8 (PreOf R mc ms Pc) (PostOf Qc mc ms free) := va_backW (hh := hh) (bytes := bytes) (maxL := maxL) (ret := ret) hM hp.1 hrc hrs hfr hlo hws hcw (fun a' U hW => word_at hW (Or.inl (by first | rfl | simp [Cond.onTables, Cond.keeps, Cond.steady])) hini)
  obtain ⟨hx, hb, hml, ho, -⟩ := S
  obtain ⟨-, ⟨cellB, hcB, hoB, hclB⟩, hPc⟩ := hp
  intro T hT X
  obtain ⟨v, vm₁, ⟨U', l2, c2, s2⟩, hW₁, X', ⟨g', mk, t, L, e1, e2, hq, h1, hL, h2, h3⟩, st⟩ := vx_callVW X hx (C := C) (hh := hh) (bytes := bytes) (maxL := maxL) (ret := ret) ho hl hin hse hcode hy hK (by rw [hT]; exact hcB) hoB hclB hg (hsize.trans hml.symm) (argsL := As) (rest := rest) (fun sig h => hn.trans (hlen sig h)) hstack hW (by rw [hb]; exact hdg)
    (fun vm₁ hW₁ => ⟨hf.1, hf.2, hPc (T.setVm vm₁) hT hW₁⟩)
  dsimp only [Pt.U, Pt.locs, Pt.cells, Pt.slots] at X' e1 e2 h1 h2 h3 st
  subst h1; subst h2; subst h3
  exact ⟨v, (T.setVm vm₁).calling g' mk (Value.ref b :: As).toArray, t, U', L, hT, X', hL, e1, e2, hq, st⟩
section
variable {y : MethodName} {bytes cc : ByteArray} {maxL nL mc ms n index : Nat} {ret : Option FieldType} {ws : List Cond} {rm : Room} {Pc : Array Value → State → Prop} {Qc : Array Value → State → Outcome → State → Prop} {XC : String → State → State → Prop} {free : Addr → Prop} {Ts : List Cond} {own C : String} {b : Addr} {As rest : List Value} {g : JFrame}
theorem vx_runVX {hh : List (Nat × Nat × Nat × Nat)} (S : CallFix p m c cc nL s args Ts own) (hM : vx_Met l y ws rm Pc Qc XC mc ms free) (cw : vx_CVW R s args own C index y bytes maxL ret hh ws rm mc ms n) (hp : PreV s H C b Pc As)
    (hg : g.method = m) (hn : As.length = n) (hsize : g.locals.size = nL) (hstack : g.stack = As.reverse ++ .ref b :: rest) (hW : 2 * g.monitorRoom + (rest.map fun v => v.category).sum ≤ 8) (hdg : decode cc g.pc = .ok (.invokevirtual index, 3)) (hf : cells + mc ≤ R.cells ∧ slots + ms ≤ R.slots) :
    vx_Run p l e R s m args below meth c H locs cells slots mc ms g rest (Qc (Value.ref b :: As).toArray) XC free := by
  obtain ⟨⟨hrc, hrs, hfr, hlo, hws, hcw⟩, hcode, hini, hy, hlen, hl, hin, hse⟩ := cw
  have hK : vx_Back l R p e below s args y 3 8 (PreOf R mc ms Pc) (PostOf Qc mc ms free) (vx_Post XC mc ms free) := vx_backW (hh := hh) (bytes := bytes) (maxL := maxL) (ret := ret) hM hp.1 hrc hrs hfr hlo hws hcw (fun a' U hW => word_at hW (Or.inl (by first | rfl | simp [Cond.onTables, Cond.keeps, Cond.steady])) hini)
  obtain ⟨hx, hb, hml, ho, -⟩ := S
  obtain ⟨-, ⟨cellB, hcB, hoB, hclB⟩, hPc⟩ := hp
  intro T hT X
  rcases vx_callVX X hx (C := C) (hh := hh) (bytes := bytes) (maxL := maxL) (ret := ret) ho hl hin hse hcode hy hK (by rw [hT]; exact hcB) hoB hclB hg (hsize.trans hml.symm) (argsL := As) (rest := rest) (fun sig h => hn.trans (hlen sig h)) hstack hW (by rw [hb]; exact hdg)
    (fun vm₁ hW₁ => ⟨hf.1, hf.2, hPc (T.setVm vm₁) hT hW₁⟩) with ⟨v, vm₁, ⟨U', l2, c2, s2⟩, hW₁, X', ⟨g', mk, t, L, e1, e2, hq, h1, hL, h2, h3⟩, st⟩ | ⟨q, vm₁, ⟨U', l2, c2, s2⟩, hW₁, X', ⟨g', mk, t, L, E, ce, e1, e2, hq, hce, hcv, hcl, h1, hL, h2, h3⟩, st⟩
  · dsimp only [Pt.U, Pt.locs, Pt.cells, Pt.slots] at X' e1 e2 h1 h2 h3 st
    subst h1; subst h2; subst h3
    exact Or.inl ⟨v, (T.setVm vm₁).calling g' mk (Value.ref b :: As).toArray, t, U', L, hT, X', hL, e1, e2, hq, st⟩
  · dsimp only [Pt.U, Pt.locs, Pt.cells, Pt.slots] at X' e1 e2 h1 h2 h3 st hcl
    subst h1; subst h2; subst h3
    exact Or.inr ⟨q, (T.setVm vm₁).calling g' mk (Value.ref b :: As).toArray, t, U', L, E, ce, hT, X', hL, e1, e2, hq, hce, hcv, vx_cls hW₁ hcl, st⟩
theorem vx_runSX {hh : List (Nat × Nat × Nat × Nat)} (S : CallFix p m c cc nL s args Ts own) (hM : vx_Met l y ws rm Pc Qc XC mc ms free) (cw : vx_CSW R s args own index y bytes maxL ret hh ws rm mc ms n) (hp : PreS s H Pc As)
    (hg : g.method = m) (hn : As.length = n) (hsize : g.locals.size = nL) (hstack : g.stack = As.reverse ++ rest) (hW : 2 * g.monitorRoom + (rest.map fun v => v.category).sum ≤ 8) (hdg : decode cc g.pc = .ok (.invokestatic index, 3)) (hf : cells + mc ≤ R.cells ∧ slots + ms ≤ R.slots) :
    vx_Run p l e R s m args below meth c H locs cells slots mc ms g rest (Qc As.toArray) XC free := by
  obtain ⟨⟨hrc, hrs, hfr, hlo, hws, hcw⟩, hcode, hini, hy, hlen, hl, hstt⟩ := cw
  have hK : vx_Back l R p e below s args y 3 8 (PreOf R mc ms Pc) (PostOf Qc mc ms free) (vx_Post XC mc ms free) := vx_backW (hh := hh) (bytes := bytes) (maxL := maxL) (ret := ret) hM hp.1 hrc hrs hfr hlo hws hcw (fun a' U hW => word_at hW (Or.inl (by first | rfl | simp [Cond.onTables, Cond.keeps, Cond.steady])) hini)
  obtain ⟨hx, hb, hml, ho, -⟩ := S
  intro T hT X
  rcases vx_callSX X hx (hh := hh) (bytes := bytes) (maxL := maxL) (ret := ret) ho hl hstt hini hcode hy hK hg (hsize.trans hml.symm) (argsL := As) (rest := rest) (fun sig h => hn.trans (hlen sig h)) hstack hW (by rw [hb]; exact hdg)
    (fun vm₁ hW₁ => ⟨hf.1, hf.2, hp.2 (T.setVm vm₁) hT hW₁⟩) with ⟨v, vm₁, ⟨U', l2, c2, s2⟩, hW₁, X', ⟨g', mk, t, L, e1, e2, hq, h1, hL, h2, h3⟩, st⟩ | ⟨q, vm₁, ⟨U', l2, c2, s2⟩, hW₁, X', ⟨g', mk, t, L, E, ce, e1, e2, hq, hce, hcv, hcl, h1, hL, h2, h3⟩, st⟩
  · dsimp only [Pt.U, Pt.locs, Pt.cells, Pt.slots] at X' e1 e2 h1 h2 h3 st
    subst h1; subst h2; subst h3
    exact Or.inl ⟨v, (T.setVm vm₁).calling g' mk As.toArray, t, U', L, hT, X', hL, e1, e2, hq, st⟩
  · dsimp only [Pt.U, Pt.locs, Pt.cells, Pt.slots] at X' e1 e2 h1 h2 h3 st hcl
    subst h1; subst h2; subst h3
    exact Or.inr ⟨q, (T.setVm vm₁).calling g' mk As.toArray, t, U', L, E, ce, hT, X', hL, e1, e2, hq, hce, hcv, vx_cls hW₁ hcl, st⟩
end
end VXH
theorem vx_ofWH {l : Launch} {y : MethodName} {ws ws' : List Cond} {rm : Room} {Pc : Array Value → State → Prop} {Qc : Array Value → State → Outcome → State → Prop} {XC : String → State → State → Prop} {mc ms : Nat} {free : Addr → Prop} {cc : ByteArray} {maxL : Nat} {ret : Option FieldType} {hh : List (Nat × Nat × Nat × Nat)}
    (hy : plainName y.cls = true) (hw : ws = Cond.codeWith y cc maxL ret hh :: ws')
    (body : ∀ p e s m args below meth c s₁, BodyLoose p l y (headSpec ws rm) cc maxL ret e s m args below meth c s₁ → c.maxLocals = maxL → Pc args s →
      W p l e (headSpec ws rm).room s m args below meth c s.heap [] 0 0 (vx_MQ below Qc XC args s mc ms free) (entryFrame m args maxL)) : vx_Met l y ws rm Pc Qc XC mc ms free := by
  refine MetFree.of_bodyS (code := cc) (maxLocals := maxL) (ret := ret) hy ?_ ?_
  · intro args s m h hn
    obtain ⟨m9, meth, c, hn9, h1, h2, h3, h4, -, h5, h6, -⟩ := Cond.codeWith_spec (atoms_spec (ws := ws) h _ (by rw [hw]; exact List.mem_cons_self))
    cases hn.symm.trans hn9
    exact ⟨meth, c, h1, h2, h3, h4, h5, h6⟩
  · intro p e s m args below meth c s₁ B hml hP _
    have hh0 : s₁.heap = s.heap := by rw [B.state]; rfl
    obtain ⟨t, a1, o, b1, b2, b3⟩ := body p e s m args below meth c s₁ B hml hP s₁ hh0 (Stand.of_body B)
    exact ⟨t, o, a1, b1, b2, b3⟩
/-! ===== END ===== -/
end
section
/-! ===== BEGIN printed: names, fields, word lists, decode rows ===== -/
def RX0 : String := "NumberedByAge$Gap"
def TX0 : u_T := fun k => match k with
  | 0 => ("NumberedByAge$Law", "kind", "I", true)
  | _ => ("NumberedByAge$Law", "figure", "I", true)
def tyX0 : Nat → FieldType := fun k => match k with
  | 0 => .int
  | _ => .int
abbrev wsX00 : List Cond := u_ws RX0 TX0 2
theorem nmX0 : ∀ a, a < 2 → ∀ b, b < 2 → a ≠ b → (TX0 a).2.1 ≠ (TX0 b).2.1 := by decide +kernel
theorem tyX0_ok : ∀ k, k < 2 → parseFieldDescriptor (TX0 k).2.2.1 = some (tyX0 k) := by decide +kernel
abbrev cX0_init : ByteArray := prog_2_method_1_code
def yX0_init : MethodName := ⟨RX0, "<init>", "(II)V"⟩
abbrev cX0_numberFor : ByteArray := prog_2_method_2_code
def yX0_numberFor : MethodName := ⟨RX0, "numberFor", "(LNumberedByAge$Street;II)I"⟩
abbrev cX0_levy : ByteArray := prog_2_method_3_code
def yX0_levy : MethodName := ⟨RX0, "levy", "()I"⟩
def RX1 : String := "NumberedByAge$High"
def TX1 : u_T := fun k => match k with
  | 0 => ("NumberedByAge$Law", "kind", "I", true)
  | _ => ("NumberedByAge$Law", "figure", "I", true)
def tyX1 : Nat → FieldType := fun k => match k with
  | 0 => .int
  | _ => .int
abbrev wsX10 : List Cond := u_ws RX1 TX1 2
theorem nmX1 : ∀ a, a < 2 → ∀ b, b < 2 → a ≠ b → (TX1 a).2.1 ≠ (TX1 b).2.1 := by decide +kernel
theorem tyX1_ok : ∀ k, k < 2 → parseFieldDescriptor (TX1 k).2.2.1 = some (tyX1 k) := by decide +kernel
abbrev cX1_init : ByteArray := prog_3_method_1_code
def yX1_init : MethodName := ⟨RX1, "<init>", "(II)V"⟩
abbrev cX1_numberFor : ByteArray := prog_3_method_2_code
def yX1_numberFor : MethodName := ⟨RX1, "numberFor", "(LNumberedByAge$Street;II)I"⟩
abbrev cX1_levy : ByteArray := prog_3_method_3_code
def yX1_levy : MethodName := ⟨RX1, "levy", "()I"⟩
def RX2 : String := "NumberedByAge$Last"
def TX2 : u_T := fun k => match k with
  | 0 => ("NumberedByAge$Law", "kind", "I", true)
  | _ => ("NumberedByAge$Law", "figure", "I", true)
def tyX2 : Nat → FieldType := fun k => match k with
  | 0 => .int
  | _ => .int
abbrev wsX20 : List Cond := u_ws RX2 TX2 2
theorem nmX2 : ∀ a, a < 2 → ∀ b, b < 2 → a ≠ b → (TX2 a).2.1 ≠ (TX2 b).2.1 := by decide +kernel
theorem tyX2_ok : ∀ k, k < 2 → parseFieldDescriptor (TX2 k).2.2.1 = some (tyX2 k) := by decide +kernel
abbrev cX2_init : ByteArray := prog_4_method_1_code
def yX2_init : MethodName := ⟨RX2, "<init>", "(II)V"⟩
abbrev cX2_numberFor : ByteArray := prog_4_method_2_code
def yX2_numberFor : MethodName := ⟨RX2, "numberFor", "(LNumberedByAge$Street;II)I"⟩
abbrev cX2_levy : ByteArray := prog_4_method_3_code
def yX2_levy : MethodName := ⟨RX2, "levy", "()I"⟩
abbrev cX2_fail : ByteArray := prog_4_method_4_code
def yX2_fail : MethodName := ⟨RX2, "fail", "()V"⟩
def RX3 : String := "NumberedByAge$Law"
def TX3 : u_T := fun k => match k with
  | 0 => ("NumberedByAge$Law", "kind", "I", true)
  | _ => ("NumberedByAge$Law", "figure", "I", true)
def tyX3 : Nat → FieldType := fun k => match k with
  | 0 => .int
  | _ => .int
abbrev wsX30 : List Cond := u_ws RX3 TX3 2
theorem nmX3 : ∀ a, a < 2 → ∀ b, b < 2 → a ≠ b → (TX3 a).2.1 ≠ (TX3 b).2.1 := by decide +kernel
theorem tyX3_ok : ∀ k, k < 2 → parseFieldDescriptor (TX3 k).2.2.1 = some (tyX3 k) := by decide +kernel
abbrev cX3_init : ByteArray := prog_5_method_1_code
def yX3_init : MethodName := ⟨RX3, "<init>", "(II)V"⟩
abbrev cX3_numberFor : ByteArray := prog_5_method_2_code
def yX3_numberFor : MethodName := ⟨RX3, "numberFor", "(LNumberedByAge$Street;II)I"⟩
abbrev cX3_levy : ByteArray := prog_5_method_3_code
def yX3_levy : MethodName := ⟨RX3, "levy", "()I"⟩
abbrev cX3_fail : ByteArray := prog_5_method_4_code
def yX3_fail : MethodName := ⟨RX3, "fail", "()V"⟩
def RX4 : String := "NumberedByAge$Quarter"
def TX4 : u_T := fun k => match k with
  | 0 => ("NumberedByAge$Law", "kind", "I", true)
  | _ => ("NumberedByAge$Law", "figure", "I", true)
def tyX4 : Nat → FieldType := fun k => match k with
  | 0 => .int
  | _ => .int
abbrev wsX40 : List Cond := u_ws RX4 TX4 2
theorem nmX4 : ∀ a, a < 2 → ∀ b, b < 2 → a ≠ b → (TX4 a).2.1 ≠ (TX4 b).2.1 := by decide +kernel
theorem tyX4_ok : ∀ k, k < 2 → parseFieldDescriptor (TX4 k).2.2.1 = some (tyX4 k) := by decide +kernel
abbrev cX4_init : ByteArray := prog_6_method_1_code
def yX4_init : MethodName := ⟨RX4, "<init>", "(II)V"⟩
abbrev cX4_numberFor : ByteArray := prog_6_method_2_code
def yX4_numberFor : MethodName := ⟨RX4, "numberFor", "(LNumberedByAge$Street;II)I"⟩
abbrev cX4_levy : ByteArray := prog_6_method_3_code
def yX4_levy : MethodName := ⟨RX4, "levy", "()I"⟩
def RX5 : String := "NumberedByAge$Shelf"
def TX5 : u_T := fun k => match k with
  | 0 => ("NumberedByAge$Shelf", "law", "LNumberedByAge$Law;", false)
  | 1 => ("NumberedByAge$Shelf", "sort", "I", false)
  | 2 => ("NumberedByAge$Shelf", "size", "I", false)
  | _ => ("NumberedByAge$Shelf", "elements", "[I", true)
def tyX5 : Nat → FieldType := fun k => match k with
  | 0 => .object "NumberedByAge$Law"
  | 1 => .int
  | 2 => .int
  | _ => .array .int
abbrev wsX50 : List Cond := u_ws RX5 TX5 4
theorem nmX5 : ∀ a, a < 4 → ∀ b, b < 4 → a ≠ b → (TX5 a).2.1 ≠ (TX5 b).2.1 := by decide +kernel
theorem tyX5_ok : ∀ k, k < 4 → parseFieldDescriptor (TX5 k).2.2.1 = some (tyX5 k) := by decide +kernel
abbrev cX5_init : ByteArray := prog_7_method_1_code
def yX5_init : MethodName := ⟨RX5, "<init>", "()V"⟩
abbrev cX5_hold : ByteArray := prog_7_method_2_code
def yX5_hold : MethodName := ⟨RX5, "hold", "(LNumberedByAge$Law;)V"⟩
abbrev cX5_holdRow : ByteArray := prog_7_method_3_code
def yX5_holdRow : MethodName := ⟨RX5, "holdRow", "(II)V"⟩
abbrev cX5_holdsNothing : ByteArray := prog_7_method_4_code
def yX5_holdsNothing : MethodName := ⟨RX5, "holdsNothing", "()Z"⟩
abbrev cX5_holdsRow : ByteArray := prog_7_method_5_code
def yX5_holdsRow : MethodName := ⟨RX5, "holdsRow", "()Z"⟩
abbrev cX5_refusalAsLaw : ByteArray := prog_7_method_6_code
def yX5_refusalAsLaw : MethodName := ⟨RX5, "refusalAsLaw", "()I"⟩
abbrev cX5_refusalAsRow : ByteArray := prog_7_method_7_code
def yX5_refusalAsRow : MethodName := ⟨RX5, "refusalAsRow", "()I"⟩
abbrev cX5_refusalAsRowOf : ByteArray := prog_7_method_8_code
def yX5_refusalAsRowOf : MethodName := ⟨RX5, "refusalAsRowOf", "(I)I"⟩
abbrev cX5_hasPlace : ByteArray := prog_7_method_9_code
def yX5_hasPlace : MethodName := ⟨RX5, "hasPlace", "(I)Z"⟩
abbrev cX5_hasPlaces : ByteArray := prog_7_method_10_code
def yX5_hasPlaces : MethodName := ⟨RX5, "hasPlaces", "(II)Z"⟩
abbrev cX5_at : ByteArray := prog_7_method_11_code
def yX5_at : MethodName := ⟨RX5, "at", "(I)I"⟩
abbrev cX5_set : ByteArray := prog_7_method_12_code
def yX5_set : MethodName := ⟨RX5, "set", "(II)V"⟩
abbrev cX5_kept : ByteArray := prog_7_method_13_code
def yX5_kept : MethodName := ⟨RX5, "kept", "(I)I"⟩
abbrev cX5_leastOfSort : ByteArray := prog_7_method_14_code
def yX5_leastOfSort : MethodName := ⟨RX5, "leastOfSort", "()I"⟩
def RX6 : String := "NumberedByAge$Side"
def TX6 : u_T := fun k => match k with
  | 0 => ("NumberedByAge$Law", "kind", "I", true)
  | _ => ("NumberedByAge$Law", "figure", "I", true)
def tyX6 : Nat → FieldType := fun k => match k with
  | 0 => .int
  | _ => .int
abbrev wsX60 : List Cond := u_ws RX6 TX6 2
theorem nmX6 : ∀ a, a < 2 → ∀ b, b < 2 → a ≠ b → (TX6 a).2.1 ≠ (TX6 b).2.1 := by decide +kernel
theorem tyX6_ok : ∀ k, k < 2 → parseFieldDescriptor (TX6 k).2.2.1 = some (tyX6 k) := by decide +kernel
abbrev cX6_init : ByteArray := prog_8_method_1_code
def yX6_init : MethodName := ⟨RX6, "<init>", "(II)V"⟩
abbrev cX6_numberFor : ByteArray := prog_8_method_2_code
def yX6_numberFor : MethodName := ⟨RX6, "numberFor", "(LNumberedByAge$Street;II)I"⟩
abbrev cX6_levy : ByteArray := prog_8_method_3_code
def yX6_levy : MethodName := ⟨RX6, "levy", "()I"⟩
abbrev cX6_fail : ByteArray := prog_8_method_4_code
def yX6_fail : MethodName := ⟨RX6, "fail", "()V"⟩
def RX7 : String := "NumberedByAge$Skip"
def TX7 : u_T := fun k => match k with
  | 0 => ("NumberedByAge$Law", "kind", "I", true)
  | _ => ("NumberedByAge$Law", "figure", "I", true)
def tyX7 : Nat → FieldType := fun k => match k with
  | 0 => .int
  | _ => .int
abbrev wsX70 : List Cond := u_ws RX7 TX7 2
theorem nmX7 : ∀ a, a < 2 → ∀ b, b < 2 → a ≠ b → (TX7 a).2.1 ≠ (TX7 b).2.1 := by decide +kernel
theorem tyX7_ok : ∀ k, k < 2 → parseFieldDescriptor (TX7 k).2.2.1 = some (tyX7 k) := by decide +kernel
abbrev cX7_init : ByteArray := prog_9_method_1_code
def yX7_init : MethodName := ⟨RX7, "<init>", "(II)V"⟩
abbrev cX7_numberFor : ByteArray := prog_9_method_2_code
def yX7_numberFor : MethodName := ⟨RX7, "numberFor", "(LNumberedByAge$Street;II)I"⟩
abbrev cX7_levy : ByteArray := prog_9_method_3_code
def yX7_levy : MethodName := ⟨RX7, "levy", "()I"⟩
def RX8 : String := "NumberedByAge$Street"
def TX8 : u_T := fun k => match k with
  | 0 => ("NumberedByAge$Street", "numbers", "[I", true)
  | 1 => ("NumberedByAge$Street", "heights", "[I", true)
  | 2 => ("NumberedByAge$Street", "births", "[I", true)
  | 3 => ("NumberedByAge$Street", "builtInQuarters", "[I", true)
  | 4 => ("NumberedByAge$Street", "plotsOfEvents", "[I", true)
  | 5 => ("NumberedByAge$Street", "heightsOfEvents", "[I", true)
  | 6 => ("NumberedByAge$Street", "rises", "[I", true)
  | 7 => ("NumberedByAge$Street", "events", "I", false)
  | 8 => ("NumberedByAge$Street", "built", "I", false)
  | _ => ("NumberedByAge$Street", "law", "LNumberedByAge$Law;", false)
def tyX8 : Nat → FieldType := fun k => match k with
  | 0 => .array .int
  | 1 => .array .int
  | 2 => .array .int
  | 3 => .array .int
  | 4 => .array .int
  | 5 => .array .int
  | 6 => .array .int
  | 7 => .int
  | 8 => .int
  | _ => .object "NumberedByAge$Law"
abbrev wsX80 : List Cond := u_ws RX8 TX8 10
theorem nmX8 : ∀ a, a < 10 → ∀ b, b < 10 → a ≠ b → (TX8 a).2.1 ≠ (TX8 b).2.1 := by decide +kernel
theorem tyX8_ok : ∀ k, k < 10 → parseFieldDescriptor (TX8 k).2.2.1 = some (tyX8 k) := by decide +kernel
abbrev cX8_init : ByteArray := prog_10_method_1_code
def yX8_init : MethodName := ⟨RX8, "<init>", "()V"⟩
abbrev cX8_clear : ByteArray := prog_10_method_2_code
def yX8_clear : MethodName := ⟨RX8, "clear", "(LNumberedByAge$Law;)V"⟩
abbrev cX8_become : ByteArray := prog_10_method_3_code
def yX8_become : MethodName := ⟨RX8, "become", "(LNumberedByAge$Street;)V"⟩
abbrev cX8_goThrough : ByteArray := prog_10_method_4_code
def yX8_goThrough : MethodName := ⟨RX8, "goThrough", "(LNumberedByAge$Street;LNumberedByAge$Law;)V"⟩
abbrev cX8_raise : ByteArray := prog_10_method_5_code
def yX8_raise : MethodName := ⟨RX8, "raise", "(II)I"⟩
abbrev cX8_raze : ByteArray := prog_10_method_6_code
def yX8_raze : MethodName := ⟨RX8, "raze", "(I)I"⟩
abbrev cX8_addEvent : ByteArray := prog_10_method_7_code
def yX8_addEvent : MethodName := ⟨RX8, "addEvent", "(II)V"⟩
abbrev cX8_takeBack : ByteArray := prog_10_method_8_code
def yX8_takeBack : MethodName := ⟨RX8, "takeBack", "(I)V"⟩
abbrev cX8_hasHouse : ByteArray := prog_10_method_9_code
def yX8_hasHouse : MethodName := ⟨RX8, "hasHouse", "(I)Z"⟩
abbrev cX8_numberAt : ByteArray := prog_10_method_10_code
def yX8_numberAt : MethodName := ⟨RX8, "numberAt", "(I)I"⟩
abbrev cX8_heightAt : ByteArray := prog_10_method_11_code
def yX8_heightAt : MethodName := ⟨RX8, "heightAt", "(I)I"⟩
abbrev cX8_ageAt : ByteArray := prog_10_method_12_code
def yX8_ageAt : MethodName := ⟨RX8, "ageAt", "(I)I"⟩
abbrev cX8_builtInQuarterOf : ByteArray := prog_10_method_13_code
def yX8_builtInQuarterOf : MethodName := ⟨RX8, "builtInQuarterOf", "(I)I"⟩
abbrev cX8_plotsWith : ByteArray := prog_10_method_14_code
def yX8_plotsWith : MethodName := ⟨RX8, "plotsWith", "(I)I"⟩
abbrev cX8_houses : ByteArray := prog_10_method_15_code
def yX8_houses : MethodName := ⟨RX8, "houses", "()I"⟩
abbrev cX8_builtAheadOf : ByteArray := prog_10_method_16_code
def yX8_builtAheadOf : MethodName := ⟨RX8, "builtAheadOf", "(I)I"⟩
abbrev cX8_greatest : ByteArray := prog_10_method_17_code
def yX8_greatest : MethodName := ⟨RX8, "greatest", "()I"⟩
abbrev cX8_leastFree : ByteArray := prog_10_method_18_code
def yX8_leastFree : MethodName := ⟨RX8, "leastFree", "()I"⟩
abbrev cX8_freeNumbers : ByteArray := prog_10_method_19_code
def yX8_freeNumbers : MethodName := ⟨RX8, "freeNumbers", "()I"⟩
abbrev cX8_longestRise : ByteArray := prog_10_method_20_code
def yX8_longestRise : MethodName := ⟨RX8, "longestRise", "()I"⟩
abbrev cX8_longestRiseBelow : ByteArray := prog_10_method_21_code
def yX8_longestRiseBelow : MethodName := ⟨RX8, "longestRiseBelow", "(I)I"⟩
abbrev cX8_pairsNotRising : ByteArray := prog_10_method_22_code
def yX8_pairsNotRising : MethodName := ⟨RX8, "pairsNotRising", "()I"⟩
abbrev cX8_hasNumbersOf : ByteArray := prog_10_method_23_code
def yX8_hasNumbersOf : MethodName := ⟨RX8, "hasNumbersOf", "(LNumberedByAge$Street;)Z"⟩
abbrev cX8_canRaiseAs : ByteArray := prog_10_method_24_code
def yX8_canRaiseAs : MethodName := ⟨RX8, "canRaiseAs", "(LNumberedByAge$Street;I)Z"⟩
def RX9 : String := "NumberedByAge$Twice"
def TX9 : u_T := fun k => match k with
  | 0 => ("NumberedByAge$Law", "kind", "I", true)
  | _ => ("NumberedByAge$Law", "figure", "I", true)
def tyX9 : Nat → FieldType := fun k => match k with
  | 0 => .int
  | _ => .int
abbrev wsX90 : List Cond := u_ws RX9 TX9 2
theorem nmX9 : ∀ a, a < 2 → ∀ b, b < 2 → a ≠ b → (TX9 a).2.1 ≠ (TX9 b).2.1 := by decide +kernel
theorem tyX9_ok : ∀ k, k < 2 → parseFieldDescriptor (TX9 k).2.2.1 = some (tyX9 k) := by decide +kernel
abbrev cX9_init : ByteArray := prog_11_method_1_code
def yX9_init : MethodName := ⟨RX9, "<init>", "(II)V"⟩
abbrev cX9_numberFor : ByteArray := prog_11_method_2_code
def yX9_numberFor : MethodName := ⟨RX9, "numberFor", "(LNumberedByAge$Street;II)I"⟩
abbrev cX9_fail : ByteArray := prog_11_method_3_code
def yX9_fail : MethodName := ⟨RX9, "fail", "()V"⟩
def RX10 : String := "NumberedByAge"
def TX10 : u_T := fun k => match k with
  | 0 => ("NumberedByAge", "town", "LNumberedByAge$Street;", true)
  | 1 => ("NumberedByAge", "mind", "LNumberedByAge$Street;", true)
  | 2 => ("NumberedByAge", "image", "LNumberedByAge$Street;", true)
  | 3 => ("NumberedByAge", "imageTaken", "Z", false)
  | _ => ("NumberedByAge", "shelves", "[LNumberedByAge$Shelf;", true)
def tyX10 : Nat → FieldType := fun k => match k with
  | 0 => .object "NumberedByAge$Street"
  | 1 => .object "NumberedByAge$Street"
  | 2 => .object "NumberedByAge$Street"
  | 3 => .boolean
  | _ => .array (.object "NumberedByAge$Shelf")
abbrev wsX100 : List Cond := u_ws RX10 TX10 5
theorem nmX10 : ∀ a, a < 5 → ∀ b, b < 5 → a ≠ b → (TX10 a).2.1 ≠ (TX10 b).2.1 := by decide +kernel
theorem tyX10_ok : ∀ k, k < 5 → parseFieldDescriptor (TX10 k).2.2.1 = some (tyX10 k) := by decide +kernel
abbrev cX10_init : ByteArray := prog_1_method_1_code
def yX10_init : MethodName := ⟨RX10, "<init>", "()V"⟩
abbrev cX10_street : ByteArray := prog_1_method_2_code
def yX10_street : MethodName := ⟨RX10, "street", "(I)I"⟩
abbrev cX10_build : ByteArray := prog_1_method_3_code
def yX10_build : MethodName := ⟨RX10, "build", "(II)I"⟩
abbrev cX10_burn : ByteArray := prog_1_method_4_code
def yX10_burn : MethodName := ⟨RX10, "burn", "(I)I"⟩
abbrev cX10_enact : ByteArray := prog_1_method_5_code
def yX10_enact : MethodName := ⟨RX10, "enact", "(I)I"⟩
abbrev cX10_house : ByteArray := prog_1_method_6_code
def yX10_house : MethodName := ⟨RX10, "house", "(II)I"⟩
abbrev cX10_have : ByteArray := prog_1_method_7_code
def yX10_have : MethodName := ⟨RX10, "have", "(I)I"⟩
abbrev cX10_would : ByteArray := prog_1_method_8_code
def yX10_would : MethodName := ⟨RX10, "would", "(II)I"⟩
abbrev cX10_where : ByteArray := prog_1_method_9_code
def yX10_where : MethodName := ⟨RX10, "where", "(II)I"⟩
abbrev cX10_letter : ByteArray := prog_1_method_10_code
def yX10_letter : MethodName := ⟨RX10, "letter", "(I)I"⟩
abbrev cX10_gaps : ByteArray := prog_1_method_11_code
def yX10_gaps : MethodName := ⟨RX10, "gaps", "()I"⟩
abbrev cX10_walk : ByteArray := prog_1_method_12_code
def yX10_walk : MethodName := ⟨RX10, "walk", "(II)I"⟩
abbrev cX10_search : ByteArray := prog_1_method_13_code
def yX10_search : MethodName := ⟨RX10, "search", "(II)I"⟩
abbrev cX10_rise : ByteArray := prog_1_method_14_code
def yX10_rise : MethodName := ⟨RX10, "rise", "()I"⟩
abbrev cX10_falls : ByteArray := prog_1_method_15_code
def yX10_falls : MethodName := ⟨RX10, "falls", "()I"⟩
abbrev cX10_byLaw : ByteArray := prog_1_method_16_code
def yX10_byLaw : MethodName := ⟨RX10, "byLaw", "(III)I"⟩
abbrev cX10_laws : ByteArray := prog_1_method_17_code
def yX10_laws : MethodName := ⟨RX10, "laws", "(I)I"⟩
abbrev cX10_orders : ByteArray := prog_1_method_18_code
def yX10_orders : MethodName := ⟨RX10, "orders", "(I)I"⟩
abbrev cX10_joined : ByteArray := prog_1_method_19_code
def yX10_joined : MethodName := ⟨RX10, "joined", "(II)I"⟩
abbrev cX10_seeded : ByteArray := prog_1_method_20_code
def yX10_seeded : MethodName := ⟨RX10, "seeded", "(III)I"⟩
abbrev cX10_judge : ByteArray := prog_1_method_21_code
def yX10_judge : MethodName := ⟨RX10, "judge", "(I)I"⟩
abbrev cX10_image : ByteArray := prog_1_method_22_code
def yX10_image : MethodName := ⟨RX10, "image", "()I"⟩
abbrev cX10_restore : ByteArray := prog_1_method_23_code
def yX10_restore : MethodName := ⟨RX10, "restore", "()I"⟩
abbrev cX10_count : ByteArray := prog_1_method_24_code
def yX10_count : MethodName := ⟨RX10, "count", "(I)I"⟩
abbrev cX10_keep : ByteArray := prog_1_method_25_code
def yX10_keep : MethodName := ⟨RX10, "keep", "(IIII)I"⟩
abbrev cX10_row : ByteArray := prog_1_method_26_code
def yX10_row : MethodName := ⟨RX10, "row", "(III)I"⟩
abbrev cX10_put : ByteArray := prog_1_method_27_code
def yX10_put : MethodName := ⟨RX10, "put", "(III)I"⟩
abbrev cX10_element : ByteArray := prog_1_method_28_code
def yX10_element : MethodName := ⟨RX10, "element", "(II)J"⟩
abbrev cX10_copy : ByteArray := prog_1_method_29_code
def yX10_copy : MethodName := ⟨RX10, "copy", "(IIIII)I"⟩
abbrev cX10_tax : ByteArray := prog_1_method_30_code
def yX10_tax : MethodName := ⟨RX10, "tax", "(I)I"⟩
abbrev cX10_toss : ByteArray := prog_1_method_31_code
def yX10_toss : MethodName := ⟨RX10, "toss", "(I)I"⟩
abbrev cX10_isPlot : ByteArray := prog_1_method_32_code
def yX10_isPlot : MethodName := ⟨RX10, "isPlot", "(I)Z"⟩
abbrev cX10_isHeight : ByteArray := prog_1_method_33_code
def yX10_isHeight : MethodName := ⟨RX10, "isHeight", "(I)Z"⟩
abbrev cX10_shelfAt : ByteArray := prog_1_method_34_code
def yX10_shelfAt : MethodName := ⟨RX10, "shelfAt", "(I)LNumberedByAge$Shelf;"⟩
abbrev cX10_lawOf : ByteArray := prog_1_method_35_code
def yX10_lawOf : MethodName := ⟨RX10, "lawOf", "(II)LNumberedByAge$Law;"⟩
abbrev cX10_stuckAt : ByteArray := prog_1_method_36_code
def yX10_stuckAt : MethodName := ⟨RX10, "stuckAt", "(LNumberedByAge$Shelf;)I"⟩
abbrev cX10_stuckInStatement : ByteArray := prog_1_method_37_code
def yX10_stuckInStatement : MethodName := ⟨RX10, "stuckInStatement", "(LNumberedByAge$Shelf;I)I"⟩
abbrev cX10_digitsBehind : ByteArray := prog_1_method_38_code
def yX10_digitsBehind : MethodName := ⟨RX10, "digitsBehind", "(I)I"⟩
abbrev cX10_lengthOf : ByteArray := prog_1_method_39_code
def yX10_lengthOf : MethodName := ⟨RX10, "lengthOf", "(I)I"⟩
abbrev cX10_carryOut : ByteArray := prog_1_method_40_code
def yX10_carryOut : MethodName := ⟨RX10, "carryOut", "(LNumberedByAge$Shelf;)I"⟩
abbrev cX10_isCarriedOut : ByteArray := prog_1_method_41_code
def yX10_isCarriedOut : MethodName := ⟨RX10, "isCarriedOut", "(LNumberedByAge$Shelf;I)Z"⟩
abbrev cX10_wayBy : ByteArray := prog_1_method_42_code
def yX10_wayBy : MethodName := ⟨RX10, "wayBy", "(IIZ)I"⟩
abbrev cX10_comesByAll : ByteArray := prog_1_method_43_code
def yX10_comesByAll : MethodName := ⟨RX10, "comesByAll", "(LNumberedByAge$Shelf;I)Z"⟩
abbrev cX10_leastWay : ByteArray := prog_1_method_44_code
def yX10_leastWay : MethodName := ⟨RX10, "leastWay", "(LNumberedByAge$Shelf;I)I"⟩
abbrev cX10_plotsBetween : ByteArray := prog_1_method_45_code
def yX10_plotsBetween : MethodName := ⟨RX10, "plotsBetween", "(II)I"⟩
abbrev cX10_wayOfSearch : ByteArray := prog_1_method_46_code
def yX10_wayOfSearch : MethodName := ⟨RX10, "wayOfSearch", "(LNumberedByAge$Shelf;I)I"⟩
abbrev cX10_ordersFrom : ByteArray := prog_1_method_47_code
def yX10_ordersFrom : MethodName := ⟨RX10, "ordersFrom", "(LNumberedByAge$Street;LNumberedByAge$Street;I)I"⟩
abbrev cX10_firstInOrder : ByteArray := prog_1_method_48_code
def yX10_firstInOrder : MethodName := ⟨RX10, "firstInOrder", "(I)I"⟩
abbrev cX10_isTown : ByteArray := prog_1_method_49_code
def yX10_isTown : MethodName := ⟨RX10, "isTown", "(LNumberedByAge$Shelf;)Z"⟩
abbrev cX10_sharedIfRaised : ByteArray := prog_1_method_50_code
def yX10_sharedIfRaised : MethodName := ⟨RX10, "sharedIfRaised", "(LNumberedByAge$Shelf;I)I"⟩
abbrev cX10_leastRaise : ByteArray := prog_1_method_51_code
def yX10_leastRaise : MethodName := ⟨RX10, "leastRaise", "(LNumberedByAge$Shelf;)I"⟩
abbrev cX10_nextSeed : ByteArray := prog_1_method_52_code
def yX10_nextSeed : MethodName := ⟨RX10, "nextSeed", "(I)I"⟩
abbrev cX10_drawnBits : ByteArray := prog_1_method_53_code
def yX10_drawnBits : MethodName := ⟨RX10, "drawnBits", "(I)I"⟩
abbrev cX10_caughtFailure : ByteArray := prog_1_method_54_code
def yX10_caughtFailure : MethodName := ⟨RX10, "caughtFailure", "(LNumberedByAge$Law;)I"⟩
def RX11 : String := "NumberedByAgeModel"
def TX11 : u_T := fun k => match k with
  | 0 => ("NumberedByAgeModel", "kind", "I", false)
  | 1 => ("NumberedByAgeModel", "figure", "I", false)
  | 2 => ("NumberedByAgeModel", "eventMany", "I", false)
  | 3 => ("NumberedByAgeModel", "eventPlot", "[I", true)
  | 4 => ("NumberedByAgeModel", "eventHeight", "[I", true)
  | 5 => ("NumberedByAgeModel", "numbers", "[I", true)
  | 6 => ("NumberedByAgeModel", "thrown", "I", false)
  | 7 => ("NumberedByAgeModel", "looked", "[I", true)
  | 8 => ("NumberedByAgeModel", "quarters", "[I", true)
  | 9 => ("NumberedByAgeModel", "base", "I", false)
  | 10 => ("NumberedByAgeModel", "end", "I", false)
  | 11 => ("NumberedByAgeModel", "at", "I", false)
  | 12 => ("NumberedByAgeModel", "isBad", "Z", false)
  | 13 => ("NumberedByAgeModel", "statements", "I", false)
  | 14 => ("NumberedByAgeModel", "placeOf", "[I", true)
  | 15 => ("NumberedByAgeModel", "letterOf", "[I", true)
  | 16 => ("NumberedByAgeModel", "first", "[I", true)
  | 17 => ("NumberedByAgeModel", "second", "[I", true)
  | 18 => ("NumberedByAgeModel", "kept", "[I", true)
  | 19 => ("NumberedByAgeModel", "imaged", "[I", true)
  | 20 => ("NumberedByAgeModel", "hasImage", "Z", false)
  | 21 => ("NumberedByAgeModel", "place", "I", false)
  | 22 => ("NumberedByAgeModel", "isTaking", "Z", false)
  | 23 => ("NumberedByAgeModel", "keptIn", "[I", false)
  | 24 => ("NumberedByAgeModel", "risesTo", "[I", true)
  | 25 => ("NumberedByAgeModel", "houses", "[I", true)
  | 26 => ("NumberedByAgeModel", "order0", "[I", true)
  | 27 => ("NumberedByAgeModel", "seed", "I", false)
  | 28 => ("NumberedByAgeModel", "holdsWhat", "[I", true)
  | 29 => ("NumberedByAgeModel", "lawKind", "[I", true)
  | 30 => ("NumberedByAgeModel", "lawFigure", "[I", true)
  | 31 => ("NumberedByAgeModel", "rowSort", "[I", true)
  | 32 => ("NumberedByAgeModel", "rowMany", "[I", true)
  | 33 => ("NumberedByAgeModel", "rows", "[J", true)
  | _ => ("NumberedByAgeModel", "between", "[J", true)
def tyX11 : Nat → FieldType := fun k => match k with
  | 0 => .int
  | 1 => .int
  | 2 => .int
  | 3 => .array .int
  | 4 => .array .int
  | 5 => .array .int
  | 6 => .int
  | 7 => .array .int
  | 8 => .array .int
  | 9 => .int
  | 10 => .int
  | 11 => .int
  | 12 => .boolean
  | 13 => .int
  | 14 => .array .int
  | 15 => .array .int
  | 16 => .array .int
  | 17 => .array .int
  | 18 => .array .int
  | 19 => .array .int
  | 20 => .boolean
  | 21 => .int
  | 22 => .boolean
  | 23 => .array .int
  | 24 => .array .int
  | 25 => .array .int
  | 26 => .array .int
  | 27 => .int
  | 28 => .array .int
  | 29 => .array .int
  | 30 => .array .int
  | 31 => .array .int
  | 32 => .array .int
  | 33 => .array .long
  | _ => .array .long
abbrev wsX110 : List Cond := u_ws RX11 TX11 35
theorem nmX11 : ∀ a, a < 35 → ∀ b, b < 35 → a ≠ b → (TX11 a).2.1 ≠ (TX11 b).2.1 := by decide +kernel
theorem tyX11_ok : ∀ k, k < 35 → parseFieldDescriptor (TX11 k).2.2.1 = some (tyX11 k) := by decide +kernel
abbrev cX11_init : ByteArray := prog_13_method_1_code
def yX11_init : MethodName := ⟨RX11, "<init>", "()V"⟩
abbrev cX11_thrown : ByteArray := prog_13_method_2_code
def yX11_thrown : MethodName := ⟨RX11, "thrown", "()I"⟩
abbrev cX11_in : ByteArray := prog_13_method_3_code
def yX11_in : MethodName := ⟨RX11, "in", "(JJJ)Z"⟩
abbrev cX11_lookEmpty : ByteArray := prog_13_method_4_code
def yX11_lookEmpty : MethodName := ⟨RX11, "lookEmpty", "()V"⟩
abbrev cX11_lookNow : ByteArray := prog_13_method_5_code
def yX11_lookNow : MethodName := ⟨RX11, "lookNow", "()V"⟩
abbrev cX11_isHad : ByteArray := prog_13_method_6_code
def yX11_isHad : MethodName := ⟨RX11, "isHad", "(I)Z"⟩
abbrev cX11_greatest : ByteArray := prog_13_method_7_code
def yX11_greatest : MethodName := ⟨RX11, "greatest", "()I"⟩
abbrev cX11_firstGap : ByteArray := prog_13_method_8_code
def yX11_firstGap : MethodName := ⟨RX11, "firstGap", "()I"⟩
abbrev cX11_skipped : ByteArray := prog_13_method_9_code
def yX11_skipped : MethodName := ⟨RX11, "skipped", "(II)I"⟩
abbrev cX11_numberBy : ByteArray := prog_13_method_10_code
def yX11_numberBy : MethodName := ⟨RX11, "numberBy", "(IIII)I"⟩
abbrev cX11_buildLooked : ByteArray := prog_13_method_11_code
def yX11_buildLooked : MethodName := ⟨RX11, "buildLooked", "(IIII)V"⟩
abbrev cX11_replay : ByteArray := prog_13_method_12_code
def yX11_replay : MethodName := ⟨RX11, "replay", "(II)V"⟩
abbrev cX11_here : ByteArray := prog_13_method_13_code
def yX11_here : MethodName := ⟨RX11, "here", "()I"⟩
abbrev cX11_readDigit : ByteArray := prog_13_method_14_code
def yX11_readDigit : MethodName := ⟨RX11, "readDigit", "()I"⟩
abbrev cX11_readStatement : ByteArray := prog_13_method_15_code
def yX11_readStatement : MethodName := ⟨RX11, "readStatement", "()V"⟩
abbrev cX11_builds : ByteArray := prog_13_method_16_code
def yX11_builds : MethodName := ⟨RX11, "builds", "(II)V"⟩
abbrev cX11_burns : ByteArray := prog_13_method_17_code
def yX11_burns : MethodName := ⟨RX11, "burns", "(I)V"⟩
abbrev cX11_comes : ByteArray := prog_13_method_18_code
def yX11_comes : MethodName := ⟨RX11, "comes", "(I)Z"⟩
abbrev cX11_street : ByteArray := prog_13_method_19_code
def yX11_street : MethodName := ⟨RX11, "street", "(I)I"⟩
abbrev cX11_carry : ByteArray := prog_13_method_20_code
def yX11_carry : MethodName := ⟨RX11, "carry", "(I)I"⟩
abbrev cX11_carryAll : ByteArray := prog_13_method_21_code
def yX11_carryAll : MethodName := ⟨RX11, "carryAll", "([IZ)V"⟩
abbrev cX11_image : ByteArray := prog_13_method_22_code
def yX11_image : MethodName := ⟨RX11, "image", "()I"⟩
abbrev cX11_restore : ByteArray := prog_13_method_23_code
def yX11_restore : MethodName := ⟨RX11, "restore", "()I"⟩
abbrev cX11_isPlot : ByteArray := prog_13_method_24_code
def yX11_isPlot : MethodName := ⟨RX11, "isPlot", "(I)Z"⟩
abbrev cX11_build : ByteArray := prog_13_method_25_code
def yX11_build : MethodName := ⟨RX11, "build", "(II)I"⟩
abbrev cX11_burn : ByteArray := prog_13_method_26_code
def yX11_burn : MethodName := ⟨RX11, "burn", "(I)I"⟩
abbrev cX11_wrongLaw : ByteArray := prog_13_method_27_code
def yX11_wrongLaw : MethodName := ⟨RX11, "wrongLaw", "(I)I"⟩
abbrev cX11_enact : ByteArray := prog_13_method_28_code
def yX11_enact : MethodName := ⟨RX11, "enact", "(I)I"⟩
abbrev cX11_builtAt : ByteArray := prog_13_method_29_code
def yX11_builtAt : MethodName := ⟨RX11, "builtAt", "(I)I"⟩
abbrev cX11_house : ByteArray := prog_13_method_30_code
def yX11_house : MethodName := ⟨RX11, "house", "(II)I"⟩
abbrev cX11_have : ByteArray := prog_13_method_31_code
def yX11_have : MethodName := ⟨RX11, "have", "(I)I"⟩
abbrev cX11_would : ByteArray := prog_13_method_32_code
def yX11_would : MethodName := ⟨RX11, "would", "(II)I"⟩
abbrev cX11_where : ByteArray := prog_13_method_33_code
def yX11_where : MethodName := ⟨RX11, "where", "(II)I"⟩
abbrev cX11_letter : ByteArray := prog_13_method_34_code
def yX11_letter : MethodName := ⟨RX11, "letter", "(I)I"⟩
abbrev cX11_gapsLooked : ByteArray := prog_13_method_35_code
def yX11_gapsLooked : MethodName := ⟨RX11, "gapsLooked", "()I"⟩
abbrev cX11_gaps : ByteArray := prog_13_method_36_code
def yX11_gaps : MethodName := ⟨RX11, "gaps", "()I"⟩
abbrev cX11_isIn : ByteArray := prog_13_method_37_code
def yX11_isIn : MethodName := ⟨RX11, "isIn", "(JII)Z"⟩
abbrev cX11_areMet : ByteArray := prog_13_method_38_code
def yX11_areMet : MethodName := ⟨RX11, "areMet", "(III)Z"⟩
abbrev cX11_walk : ByteArray := prog_13_method_39_code
def yX11_walk : MethodName := ⟨RX11, "walk", "(II)I"⟩
abbrev cX11_search : ByteArray := prog_13_method_40_code
def yX11_search : MethodName := ⟨RX11, "search", "(II)I"⟩
abbrev cX11_riseLooked : ByteArray := prog_13_method_41_code
def yX11_riseLooked : MethodName := ⟨RX11, "riseLooked", "()I"⟩
abbrev cX11_rise : ByteArray := prog_13_method_42_code
def yX11_rise : MethodName := ⟨RX11, "rise", "()I"⟩
abbrev cX11_falls : ByteArray := prog_13_method_43_code
def yX11_falls : MethodName := ⟨RX11, "falls", "()I"⟩
abbrev cX11_byLaw : ByteArray := prog_13_method_44_code
def yX11_byLaw : MethodName := ⟨RX11, "byLaw", "(III)I"⟩
abbrev cX11_areAsNow : ByteArray := prog_13_method_45_code
def yX11_areAsNow : MethodName := ⟨RX11, "areAsNow", "()Z"⟩
abbrev cX11_laws : ByteArray := prog_13_method_46_code
def yX11_laws : MethodName := ⟨RX11, "laws", "(I)I"⟩
abbrev cX11_houseMany : ByteArray := prog_13_method_47_code
def yX11_houseMany : MethodName := ⟨RX11, "houseMany", "()I"⟩
abbrev cX11_nextOrder : ByteArray := prog_13_method_48_code
def yX11_nextOrder : MethodName := ⟨RX11, "nextOrder", "(I)Z"⟩
abbrev cX11_orders : ByteArray := prog_13_method_49_code
def yX11_orders : MethodName := ⟨RX11, "orders", "(I)I"⟩
abbrev cX11_joined : ByteArray := prog_13_method_50_code
def yX11_joined : MethodName := ⟨RX11, "joined", "(II)I"⟩
abbrev cX11_hadOf : ByteArray := prog_13_method_51_code
def yX11_hadOf : MethodName := ⟨RX11, "hadOf", "(II)I"⟩
abbrev cX11_draw : ByteArray := prog_13_method_52_code
def yX11_draw : MethodName := ⟨RX11, "draw", "(I)I"⟩
abbrev cX11_seeded : ByteArray := prog_13_method_53_code
def yX11_seeded : MethodName := ⟨RX11, "seeded", "(III)I"⟩
abbrev cX11_skippedIn : ByteArray := prog_13_method_54_code
def yX11_skippedIn : MethodName := ⟨RX11, "skippedIn", "(I)J"⟩
abbrev cX11_judge : ByteArray := prog_13_method_55_code
def yX11_judge : MethodName := ⟨RX11, "judge", "(I)I"⟩
abbrev cX11_count : ByteArray := prog_13_method_56_code
def yX11_count : MethodName := ⟨RX11, "count", "(I)I"⟩
abbrev cX11_wrongSort : ByteArray := prog_13_method_57_code
def yX11_wrongSort : MethodName := ⟨RX11, "wrongSort", "(II)I"⟩
abbrev cX11_keep : ByteArray := prog_13_method_58_code
def yX11_keep : MethodName := ⟨RX11, "keep", "(IIII)I"⟩
abbrev cX11_wrongRow : ByteArray := prog_13_method_59_code
def yX11_wrongRow : MethodName := ⟨RX11, "wrongRow", "(I)I"⟩
abbrev cX11_narrowed : ByteArray := prog_13_method_60_code
def yX11_narrowed : MethodName := ⟨RX11, "narrowed", "(II)J"⟩
abbrev cX11_row : ByteArray := prog_13_method_61_code
def yX11_row : MethodName := ⟨RX11, "row", "(III)I"⟩
abbrev cX11_put : ByteArray := prog_13_method_62_code
def yX11_put : MethodName := ⟨RX11, "put", "(III)I"⟩
abbrev cX11_element : ByteArray := prog_13_method_63_code
def yX11_element : MethodName := ⟨RX11, "element", "(II)J"⟩
abbrev cX11_copy : ByteArray := prog_13_method_64_code
def yX11_copy : MethodName := ⟨RX11, "copy", "(IIIII)I"⟩
abbrev cX11_taxOf : ByteArray := prog_13_method_65_code
def yX11_taxOf : MethodName := ⟨RX11, "taxOf", "(II)I"⟩
abbrev cX11_tax : ByteArray := prog_13_method_66_code
def yX11_tax : MethodName := ⟨RX11, "tax", "(I)I"⟩
abbrev cX11_toss : ByteArray := prog_13_method_67_code
def yX11_toss : MethodName := ⟨RX11, "toss", "(I)I"⟩
def RJx145de : String := "java/io/Serializable"
def TJx145de : u_T := fun k => match k with
  | _ => ("", "", "", false)
def tyJx145de : Nat → FieldType := fun k => match k with
  | _ => .int
abbrev wsJx145de0 : List Cond := u_ws RJx145de TJx145de 0
theorem nmJx145de : ∀ a, a < 0 → ∀ b, b < 0 → a ≠ b → (TJx145de a).2.1 ≠ (TJx145de b).2.1 := by decide +kernel
theorem tyJx145de_ok : ∀ k, k < 0 → parseFieldDescriptor (TJx145de k).2.2.1 = some (tyJx145de k) := by decide +kernel
def RJ9 : String := "java/lang/Math"
def TJ9 : u_T := fun k => match k with
  | _ => ("", "", "", false)
def tyJ9 : Nat → FieldType := fun k => match k with
  | _ => .int
abbrev wsJ90 : List Cond := u_ws RJ9 TJ9 0
theorem nmJ9 : ∀ a, a < 0 → ∀ b, b < 0 → a ≠ b → (TJ9 a).2.1 ≠ (TJ9 b).2.1 := by decide +kernel
theorem tyJ9_ok : ∀ k, k < 0 → parseFieldDescriptor (TJ9 k).2.2.1 = some (tyJ9 k) := by decide +kernel
abbrev cJ9_max_7cf53 : ByteArray := prog_17_method_65_code
def yJ9_max_7cf53 : MethodName := ⟨RJ9, "max", "(II)I"⟩
abbrev cJ9_min_7cf53 : ByteArray := prog_17_method_69_code
def yJ9_min_7cf53 : MethodName := ⟨RJ9, "min", "(II)I"⟩
def RJ0 : String := "java/lang/String"
def TJ0 : u_T := fun k => match k with
  | _ => ("", "", "", false)
def tyJ0 : Nat → FieldType := fun k => match k with
  | _ => .int
abbrev wsJ00 : List Cond := u_ws RJ0 TJ0 0
theorem nmJ0 : ∀ a, a < 0 → ∀ b, b < 0 → a ≠ b → (TJ0 a).2.1 ≠ (TJ0 b).2.1 := by decide +kernel
theorem tyJ0_ok : ∀ k, k < 0 → parseFieldDescriptor (TJ0 k).2.2.1 = some (tyJ0 k) := by decide +kernel
def RJ10 : String := "java/lang/System"
def TJ10 : u_T := fun k => match k with
  | _ => ("", "", "", false)
def tyJ10 : Nat → FieldType := fun k => match k with
  | _ => .int
abbrev wsJ100 : List Cond := u_ws RJ10 TJ10 0
theorem nmJ10 : ∀ a, a < 0 → ∀ b, b < 0 → a ≠ b → (TJ10 a).2.1 ≠ (TJ10 b).2.1 := by decide +kernel
theorem tyJ10_ok : ∀ k, k < 0 → parseFieldDescriptor (TJ10 k).2.2.1 = some (tyJ10 k) := by decide +kernel
def RJ7 : String := "java/util/Arrays"
def TJ7 : u_T := fun k => match k with
  | _ => ("", "", "", false)
def tyJ7 : Nat → FieldType := fun k => match k with
  | _ => .int
abbrev wsJ70 : List Cond := u_ws RJ7 TJ7 0
theorem nmJ7 : ∀ a, a < 0 → ∀ b, b < 0 → a ≠ b → (TJ7 a).2.1 ≠ (TJ7 b).2.1 := by decide +kernel
theorem tyJ7_ok : ∀ k, k < 0 → parseFieldDescriptor (TJ7 k).2.2.1 = some (tyJ7 k) := by decide +kernel
abbrev cJ7_fill_53178 : ByteArray := prog_23_method_103_code
def yJ7_fill_53178 : MethodName := ⟨RJ7, "fill", "([II)V"⟩
def RL : String := "NumberedByAgeLaw"
abbrev cL_element : ByteArray := method_3_code
def yL_element : MethodName := ⟨RL, "element", "(LNumberedByAge;II[J)I"⟩
abbrev cL_law : ByteArray := code
def yL_law : MethodName := ⟨RL, "law", "([I)Z"⟩
abbrev vwCl : List vw_C := [(RX0, TX0, 2), (RX1, TX1, 2), (RX2, TX2, 2), (RX3, TX3, 2), (RX4, TX4, 2), (RX5, TX5, 4), (RX6, TX6, 2), (RX7, TX7, 2), (RX8, TX8, 10), (RX9, TX9, 2), (RX10, TX10, 5), (RX11, TX11, 35)]
end
section
theorem dX0_init_0 : decode cX0_init 0 = .ok (.aload_n 0, 1) := by decide +kernel
theorem dX0_init_1 : decode cX0_init 1 = .ok (.iload_n 1, 1) := by decide +kernel
theorem dX0_init_2 : decode cX0_init 2 = .ok (.iload_n 2, 1) := by decide +kernel
theorem dX0_init_3 : decode cX0_init 3 = .ok (.invokespecial 1, 3) := by decide +kernel
theorem dX0_init_6 : decode cX0_init 6 = .ok (.return_, 1) := by decide +kernel
theorem dX0_numberFor_0 : decode cX0_numberFor 0 = .ok (.aload_n 1, 1) := by decide +kernel
theorem dX0_numberFor_1 : decode cX0_numberFor 1 = .ok (.invokevirtual 7, 3) := by decide +kernel
theorem dX0_numberFor_4 : decode cX0_numberFor 4 = .ok (.ireturn, 1) := by decide +kernel
theorem dX0_levy_0 : decode cX0_levy 0 = .ok (.aload_n 0, 1) := by decide +kernel
theorem dX0_levy_1 : decode cX0_levy 1 = .ok (.invokespecial 13, 3) := by decide +kernel
theorem dX0_levy_4 : decode cX0_levy 4 = .ok (.aload_n 0, 1) := by decide +kernel
theorem dX0_levy_5 : decode cX0_levy 5 = .ok (.getfield 16, 3) := by decide +kernel
theorem dX0_levy_8 : decode cX0_levy 8 = .ok (.iadd, 1) := by decide +kernel
theorem dX0_levy_9 : decode cX0_levy 9 = .ok (.ireturn, 1) := by decide +kernel
theorem dX1_init_0 : decode cX1_init 0 = .ok (.aload_n 0, 1) := by decide +kernel
theorem dX1_init_1 : decode cX1_init 1 = .ok (.iload_n 1, 1) := by decide +kernel
theorem dX1_init_2 : decode cX1_init 2 = .ok (.iload_n 2, 1) := by decide +kernel
theorem dX1_init_3 : decode cX1_init 3 = .ok (.invokespecial 1, 3) := by decide +kernel
theorem dX1_init_6 : decode cX1_init 6 = .ok (.return_, 1) := by decide +kernel
theorem dX1_numberFor_0 : decode cX1_numberFor 0 = .ok (.aload_n 0, 1) := by decide +kernel
theorem dX1_numberFor_1 : decode cX1_numberFor 1 = .ok (.aload_n 1, 1) := by decide +kernel
theorem dX1_numberFor_2 : decode cX1_numberFor 2 = .ok (.iload_n 2, 1) := by decide +kernel
theorem dX1_numberFor_3 : decode cX1_numberFor 3 = .ok (.iload_n 3, 1) := by decide +kernel
theorem dX1_numberFor_4 : decode cX1_numberFor 4 = .ok (.invokespecial 7, 3) := by decide +kernel
theorem dX1_numberFor_7 : decode cX1_numberFor 7 = .ok (.aload_n 0, 1) := by decide +kernel
theorem dX1_numberFor_8 : decode cX1_numberFor 8 = .ok (.getfield 11, 3) := by decide +kernel
theorem dX1_numberFor_11 : decode cX1_numberFor 11 = .ok (.iload_n 3, 1) := by decide +kernel
theorem dX1_numberFor_12 : decode cX1_numberFor 12 = .ok (.imul, 1) := by decide +kernel
theorem dX1_numberFor_13 : decode cX1_numberFor 13 = .ok (.iadd, 1) := by decide +kernel
theorem dX1_numberFor_14 : decode cX1_numberFor 14 = .ok (.ireturn, 1) := by decide +kernel
theorem dX1_levy_0 : decode cX1_levy 0 = .ok (.iconst 2, 1) := by decide +kernel
theorem dX1_levy_1 : decode cX1_levy 1 = .ok (.aload_n 0, 1) := by decide +kernel
theorem dX1_levy_2 : decode cX1_levy 2 = .ok (.invokespecial 17, 3) := by decide +kernel
theorem dX1_levy_5 : decode cX1_levy 5 = .ok (.imul, 1) := by decide +kernel
theorem dX1_levy_6 : decode cX1_levy 6 = .ok (.ireturn, 1) := by decide +kernel
theorem dX2_init_0 : decode cX2_init 0 = .ok (.aload_n 0, 1) := by decide +kernel
theorem dX2_init_1 : decode cX2_init 1 = .ok (.iload_n 1, 1) := by decide +kernel
theorem dX2_init_2 : decode cX2_init 2 = .ok (.iload_n 2, 1) := by decide +kernel
theorem dX2_init_3 : decode cX2_init 3 = .ok (.invokespecial 1, 3) := by decide +kernel
theorem dX2_init_6 : decode cX2_init 6 = .ok (.return_, 1) := by decide +kernel
theorem dX2_numberFor_0 : decode cX2_numberFor 0 = .ok (.aload_n 0, 1) := by decide +kernel
theorem dX2_numberFor_1 : decode cX2_numberFor 1 = .ok (.aload_n 1, 1) := by decide +kernel
theorem dX2_numberFor_2 : decode cX2_numberFor 2 = .ok (.iload_n 2, 1) := by decide +kernel
theorem dX2_numberFor_3 : decode cX2_numberFor 3 = .ok (.iload_n 3, 1) := by decide +kernel
theorem dX2_numberFor_4 : decode cX2_numberFor 4 = .ok (.invokespecial 7, 3) := by decide +kernel
theorem dX2_numberFor_7 : decode cX2_numberFor 7 = .ok (.istore 4, 2) := by decide +kernel
theorem dX2_numberFor_9 : decode cX2_numberFor 9 = .ok (.iload 4, 2) := by decide +kernel
theorem dX2_numberFor_11 : decode cX2_numberFor 11 = .ok (.aload_n 0, 1) := by decide +kernel
theorem dX2_numberFor_12 : decode cX2_numberFor 12 = .ok (.getfield 11, 3) := by decide +kernel
theorem dX2_numberFor_15 : decode cX2_numberFor 15 = .ok (.if_icmp .ge 8, 3) := by decide +kernel
theorem dX2_numberFor_18 : decode cX2_numberFor 18 = .ok (.iload 4, 2) := by decide +kernel
theorem dX2_numberFor_20 : decode cX2_numberFor 20 = .ok (.goto 9, 3) := by decide +kernel
theorem dX2_numberFor_23 : decode cX2_numberFor 23 = .ok (.aload_n 1, 1) := by decide +kernel
theorem dX2_numberFor_24 : decode cX2_numberFor 24 = .ok (.invokevirtual 17, 3) := by decide +kernel
theorem dX2_numberFor_27 : decode cX2_numberFor 27 = .ok (.iconst 1, 1) := by decide +kernel
theorem dX2_numberFor_28 : decode cX2_numberFor 28 = .ok (.iadd, 1) := by decide +kernel
theorem dX2_numberFor_29 : decode cX2_numberFor 29 = .ok (.ireturn, 1) := by decide +kernel
theorem dX2_levy_0 : decode cX2_levy 0 = .ok (.iconst 2, 1) := by decide +kernel
theorem dX2_levy_1 : decode cX2_levy 1 = .ok (.aload_n 0, 1) := by decide +kernel
theorem dX2_levy_2 : decode cX2_levy 2 = .ok (.invokespecial 23, 3) := by decide +kernel
theorem dX2_levy_5 : decode cX2_levy 5 = .ok (.imul, 1) := by decide +kernel
theorem dX2_levy_6 : decode cX2_levy 6 = .ok (.ireturn, 1) := by decide +kernel
theorem dX2_fail_0 : decode cX2_fail 0 = .ok (.aload_n 0, 1) := by decide +kernel
theorem dX2_fail_1 : decode cX2_fail 1 = .ok (.getfield 11, 3) := by decide +kernel
theorem dX2_fail_4 : decode cX2_fail 4 = .ok (.ifCond .eq 13, 3) := by decide +kernel
theorem dX2_fail_7 : decode cX2_fail 7 = .ok (.new 26, 3) := by decide +kernel
theorem dX2_fail_10 : decode cX2_fail 10 = .ok (.dup, 1) := by decide +kernel
theorem dX2_fail_11 : decode cX2_fail 11 = .ok (.ldc 28, 2) := by decide +kernel
theorem dX2_fail_13 : decode cX2_fail 13 = .ok (.invokespecial 30, 3) := by decide +kernel
theorem dX2_fail_16 : decode cX2_fail 16 = .ok (.athrow, 1) := by decide +kernel
theorem dX2_fail_17 : decode cX2_fail 17 = .ok (.return_, 1) := by decide +kernel
theorem dX3_init_0 : decode cX3_init 0 = .ok (.aload_n 0, 1) := by decide +kernel
theorem dX3_init_1 : decode cX3_init 1 = .ok (.invokespecial 1, 3) := by decide +kernel
theorem dX3_init_4 : decode cX3_init 4 = .ok (.aload_n 0, 1) := by decide +kernel
theorem dX3_init_5 : decode cX3_init 5 = .ok (.iload_n 1, 1) := by decide +kernel
theorem dX3_init_6 : decode cX3_init 6 = .ok (.putfield 7, 3) := by decide +kernel
theorem dX3_init_9 : decode cX3_init 9 = .ok (.aload_n 0, 1) := by decide +kernel
theorem dX3_init_10 : decode cX3_init 10 = .ok (.iload_n 2, 1) := by decide +kernel
theorem dX3_init_11 : decode cX3_init 11 = .ok (.putfield 13, 3) := by decide +kernel
theorem dX3_init_14 : decode cX3_init 14 = .ok (.return_, 1) := by decide +kernel
theorem dX3_numberFor_0 : decode cX3_numberFor 0 = .ok (.aload_n 1, 1) := by decide +kernel
theorem dX3_numberFor_1 : decode cX3_numberFor 1 = .ok (.getfield 16, 3) := by decide +kernel
theorem dX3_numberFor_4 : decode cX3_numberFor 4 = .ok (.iconst 1, 1) := by decide +kernel
theorem dX3_numberFor_5 : decode cX3_numberFor 5 = .ok (.iadd, 1) := by decide +kernel
theorem dX3_numberFor_6 : decode cX3_numberFor 6 = .ok (.ireturn, 1) := by decide +kernel
theorem dX3_levy_0 : decode cX3_levy 0 = .ok (.iconst 3, 1) := by decide +kernel
theorem dX3_levy_1 : decode cX3_levy 1 = .ok (.ireturn, 1) := by decide +kernel
theorem dX3_fail_0 : decode cX3_fail 0 = .ok (.aload_n 0, 1) := by decide +kernel
theorem dX3_fail_1 : decode cX3_fail 1 = .ok (.getfield 13, 3) := by decide +kernel
theorem dX3_fail_4 : decode cX3_fail 4 = .ok (.ifCond .eq 13, 3) := by decide +kernel
theorem dX3_fail_7 : decode cX3_fail 7 = .ok (.new 21, 3) := by decide +kernel
theorem dX3_fail_10 : decode cX3_fail 10 = .ok (.dup, 1) := by decide +kernel
theorem dX3_fail_11 : decode cX3_fail 11 = .ok (.ldc 23, 2) := by decide +kernel
theorem dX3_fail_13 : decode cX3_fail 13 = .ok (.invokespecial 25, 3) := by decide +kernel
theorem dX3_fail_16 : decode cX3_fail 16 = .ok (.athrow, 1) := by decide +kernel
theorem dX3_fail_17 : decode cX3_fail 17 = .ok (.return_, 1) := by decide +kernel
theorem dX4_init_0 : decode cX4_init 0 = .ok (.aload_n 0, 1) := by decide +kernel
theorem dX4_init_1 : decode cX4_init 1 = .ok (.iload_n 1, 1) := by decide +kernel
theorem dX4_init_2 : decode cX4_init 2 = .ok (.iload_n 2, 1) := by decide +kernel
theorem dX4_init_3 : decode cX4_init 3 = .ok (.invokespecial 1, 3) := by decide +kernel
theorem dX4_init_6 : decode cX4_init 6 = .ok (.return_, 1) := by decide +kernel
theorem dX4_numberFor_0 : decode cX4_numberFor 0 = .ok (.aload_n 1, 1) := by decide +kernel
theorem dX4_numberFor_1 : decode cX4_numberFor 1 = .ok (.iload_n 2, 1) := by decide +kernel
theorem dX4_numberFor_2 : decode cX4_numberFor 2 = .ok (.invokevirtual 7, 3) := by decide +kernel
theorem dX4_numberFor_5 : decode cX4_numberFor 5 = .ok (.iconst 1, 1) := by decide +kernel
theorem dX4_numberFor_6 : decode cX4_numberFor 6 = .ok (.iadd, 1) := by decide +kernel
theorem dX4_numberFor_7 : decode cX4_numberFor 7 = .ok (.ireturn, 1) := by decide +kernel
theorem dX4_levy_0 : decode cX4_levy 0 = .ok (.aload_n 0, 1) := by decide +kernel
theorem dX4_levy_1 : decode cX4_levy 1 = .ok (.invokespecial 13, 3) := by decide +kernel
theorem dX4_levy_4 : decode cX4_levy 4 = .ok (.iconst 1, 1) := by decide +kernel
theorem dX4_levy_5 : decode cX4_levy 5 = .ok (.isub, 1) := by decide +kernel
theorem dX4_levy_6 : decode cX4_levy 6 = .ok (.ireturn, 1) := by decide +kernel
theorem dX5_init_0 : decode cX5_init 0 = .ok (.aload_n 0, 1) := by decide +kernel
theorem dX5_init_1 : decode cX5_init 1 = .ok (.invokespecial 3, 3) := by decide +kernel
theorem dX5_init_4 : decode cX5_init 4 = .ok (.aload_n 0, 1) := by decide +kernel
theorem dX5_init_5 : decode cX5_init 5 = .ok (.iconst (-1), 1) := by decide +kernel
theorem dX5_init_6 : decode cX5_init 6 = .ok (.putfield 11, 3) := by decide +kernel
theorem dX5_init_9 : decode cX5_init 9 = .ok (.aload_n 0, 1) := by decide +kernel
theorem dX5_init_10 : decode cX5_init 10 = .ok (.bipush 100, 2) := by decide +kernel
theorem dX5_init_12 : decode cX5_init 12 = .ok (.newarray .int, 2) := by decide +kernel
theorem dX5_init_14 : decode cX5_init 14 = .ok (.putfield 15, 3) := by decide +kernel
theorem dX5_init_17 : decode cX5_init 17 = .ok (.return_, 1) := by decide +kernel
theorem dX5_hold_0 : decode cX5_hold 0 = .ok (.aload_n 0, 1) := by decide +kernel
theorem dX5_hold_1 : decode cX5_hold 1 = .ok (.aload_n 1, 1) := by decide +kernel
theorem dX5_hold_2 : decode cX5_hold 2 = .ok (.putfield 19, 3) := by decide +kernel
theorem dX5_hold_5 : decode cX5_hold 5 = .ok (.aload_n 0, 1) := by decide +kernel
theorem dX5_hold_6 : decode cX5_hold 6 = .ok (.iconst (-1), 1) := by decide +kernel
theorem dX5_hold_7 : decode cX5_hold 7 = .ok (.putfield 11, 3) := by decide +kernel
theorem dX5_hold_10 : decode cX5_hold 10 = .ok (.aload_n 0, 1) := by decide +kernel
theorem dX5_hold_11 : decode cX5_hold 11 = .ok (.iconst 0, 1) := by decide +kernel
theorem dX5_hold_12 : decode cX5_hold 12 = .ok (.putfield 23, 3) := by decide +kernel
theorem dX5_hold_15 : decode cX5_hold 15 = .ok (.return_, 1) := by decide +kernel
theorem dX5_holdRow_0 : decode cX5_holdRow 0 = .ok (.aload_n 0, 1) := by decide +kernel
theorem dX5_holdRow_1 : decode cX5_holdRow 1 = .ok (.aconst_null, 1) := by decide +kernel
theorem dX5_holdRow_2 : decode cX5_holdRow 2 = .ok (.putfield 19, 3) := by decide +kernel
theorem dX5_holdRow_5 : decode cX5_holdRow 5 = .ok (.aload_n 0, 1) := by decide +kernel
theorem dX5_holdRow_6 : decode cX5_holdRow 6 = .ok (.iload_n 1, 1) := by decide +kernel
theorem dX5_holdRow_7 : decode cX5_holdRow 7 = .ok (.putfield 11, 3) := by decide +kernel
theorem dX5_holdRow_10 : decode cX5_holdRow 10 = .ok (.aload_n 0, 1) := by decide +kernel
theorem dX5_holdRow_11 : decode cX5_holdRow 11 = .ok (.iload_n 2, 1) := by decide +kernel
theorem dX5_holdRow_12 : decode cX5_holdRow 12 = .ok (.putfield 23, 3) := by decide +kernel
theorem dX5_holdRow_15 : decode cX5_holdRow 15 = .ok (.aload_n 0, 1) := by decide +kernel
theorem dX5_holdRow_16 : decode cX5_holdRow 16 = .ok (.getfield 15, 3) := by decide +kernel
theorem dX5_holdRow_19 : decode cX5_holdRow 19 = .ok (.iconst 0, 1) := by decide +kernel
theorem dX5_holdRow_20 : decode cX5_holdRow 20 = .ok (.invokestatic 26, 3) := by decide +kernel
theorem dX5_holdRow_23 : decode cX5_holdRow 23 = .ok (.return_, 1) := by decide +kernel
theorem dX5_holdsNothing_0 : decode cX5_holdsNothing 0 = .ok (.aload_n 0, 1) := by decide +kernel
theorem dX5_holdsNothing_1 : decode cX5_holdsNothing 1 = .ok (.getfield 19, 3) := by decide +kernel
theorem dX5_holdsNothing_4 : decode cX5_holdsNothing 4 = .ok (.ifnonnull 15, 3) := by decide +kernel
theorem dX5_holdsNothing_7 : decode cX5_holdsNothing 7 = .ok (.aload_n 0, 1) := by decide +kernel
theorem dX5_holdsNothing_8 : decode cX5_holdsNothing 8 = .ok (.getfield 11, 3) := by decide +kernel
theorem dX5_holdsNothing_11 : decode cX5_holdsNothing 11 = .ok (.iconst (-1), 1) := by decide +kernel
theorem dX5_holdsNothing_12 : decode cX5_holdsNothing 12 = .ok (.if_icmp .ne 7, 3) := by decide +kernel
theorem dX5_holdsNothing_15 : decode cX5_holdsNothing 15 = .ok (.iconst 1, 1) := by decide +kernel
theorem dX5_holdsNothing_16 : decode cX5_holdsNothing 16 = .ok (.goto 4, 3) := by decide +kernel
theorem dX5_holdsNothing_19 : decode cX5_holdsNothing 19 = .ok (.iconst 0, 1) := by decide +kernel
theorem dX5_holdsNothing_20 : decode cX5_holdsNothing 20 = .ok (.ireturn, 1) := by decide +kernel
theorem dX5_holdsRow_0 : decode cX5_holdsRow 0 = .ok (.aload_n 0, 1) := by decide +kernel
theorem dX5_holdsRow_1 : decode cX5_holdsRow 1 = .ok (.getfield 11, 3) := by decide +kernel
theorem dX5_holdsRow_4 : decode cX5_holdsRow 4 = .ok (.iconst (-1), 1) := by decide +kernel
theorem dX5_holdsRow_5 : decode cX5_holdsRow 5 = .ok (.if_icmp .eq 7, 3) := by decide +kernel
theorem dX5_holdsRow_8 : decode cX5_holdsRow 8 = .ok (.iconst 1, 1) := by decide +kernel
theorem dX5_holdsRow_9 : decode cX5_holdsRow 9 = .ok (.goto 4, 3) := by decide +kernel
theorem dX5_holdsRow_12 : decode cX5_holdsRow 12 = .ok (.iconst 0, 1) := by decide +kernel
theorem dX5_holdsRow_13 : decode cX5_holdsRow 13 = .ok (.ireturn, 1) := by decide +kernel
theorem dX5_refusalAsLaw_0 : decode cX5_refusalAsLaw 0 = .ok (.aload_n 0, 1) := by decide +kernel
theorem dX5_refusalAsLaw_1 : decode cX5_refusalAsLaw 1 = .ok (.invokevirtual 32, 3) := by decide +kernel
theorem dX5_refusalAsLaw_4 : decode cX5_refusalAsLaw 4 = .ok (.ifCond .eq 8, 3) := by decide +kernel
theorem dX5_refusalAsLaw_7 : decode cX5_refusalAsLaw 7 = .ok (.bipush (-11), 2) := by decide +kernel
theorem dX5_refusalAsLaw_9 : decode cX5_refusalAsLaw 9 = .ok (.goto 5, 3) := by decide +kernel
theorem dX5_refusalAsLaw_12 : decode cX5_refusalAsLaw 12 = .ok (.bipush (-12), 2) := by decide +kernel
theorem dX5_refusalAsLaw_14 : decode cX5_refusalAsLaw 14 = .ok (.ireturn, 1) := by decide +kernel
theorem dX5_refusalAsRow_0 : decode cX5_refusalAsRow 0 = .ok (.aload_n 0, 1) := by decide +kernel
theorem dX5_refusalAsRow_1 : decode cX5_refusalAsRow 1 = .ok (.invokevirtual 32, 3) := by decide +kernel
theorem dX5_refusalAsRow_4 : decode cX5_refusalAsRow 4 = .ok (.ifCond .eq 6, 3) := by decide +kernel
theorem dX5_refusalAsRow_7 : decode cX5_refusalAsRow 7 = .ok (.bipush (-11), 2) := by decide +kernel
theorem dX5_refusalAsRow_9 : decode cX5_refusalAsRow 9 = .ok (.ireturn, 1) := by decide +kernel
theorem dX5_refusalAsRow_10 : decode cX5_refusalAsRow 10 = .ok (.aload_n 0, 1) := by decide +kernel
theorem dX5_refusalAsRow_11 : decode cX5_refusalAsRow 11 = .ok (.invokevirtual 36, 3) := by decide +kernel
theorem dX5_refusalAsRow_14 : decode cX5_refusalAsRow 14 = .ok (.ifCond .eq 7, 3) := by decide +kernel
theorem dX5_refusalAsRow_17 : decode cX5_refusalAsRow 17 = .ok (.iconst 0, 1) := by decide +kernel
theorem dX5_refusalAsRow_18 : decode cX5_refusalAsRow 18 = .ok (.goto 5, 3) := by decide +kernel
theorem dX5_refusalAsRow_21 : decode cX5_refusalAsRow 21 = .ok (.bipush (-12), 2) := by decide +kernel
theorem dX5_refusalAsRow_23 : decode cX5_refusalAsRow 23 = .ok (.ireturn, 1) := by decide +kernel
theorem dX5_refusalAsRowOf_0 : decode cX5_refusalAsRowOf 0 = .ok (.aload_n 0, 1) := by decide +kernel
theorem dX5_refusalAsRowOf_1 : decode cX5_refusalAsRowOf 1 = .ok (.invokevirtual 32, 3) := by decide +kernel
theorem dX5_refusalAsRowOf_4 : decode cX5_refusalAsRowOf 4 = .ok (.ifCond .eq 6, 3) := by decide +kernel
theorem dX5_refusalAsRowOf_7 : decode cX5_refusalAsRowOf 7 = .ok (.bipush (-11), 2) := by decide +kernel
theorem dX5_refusalAsRowOf_9 : decode cX5_refusalAsRowOf 9 = .ok (.ireturn, 1) := by decide +kernel
theorem dX5_refusalAsRowOf_10 : decode cX5_refusalAsRowOf 10 = .ok (.aload_n 0, 1) := by decide +kernel
theorem dX5_refusalAsRowOf_11 : decode cX5_refusalAsRowOf 11 = .ok (.getfield 11, 3) := by decide +kernel
theorem dX5_refusalAsRowOf_14 : decode cX5_refusalAsRowOf 14 = .ok (.iload_n 1, 1) := by decide +kernel
theorem dX5_refusalAsRowOf_15 : decode cX5_refusalAsRowOf 15 = .ok (.if_icmp .ne 7, 3) := by decide +kernel
theorem dX5_refusalAsRowOf_18 : decode cX5_refusalAsRowOf 18 = .ok (.iconst 0, 1) := by decide +kernel
theorem dX5_refusalAsRowOf_19 : decode cX5_refusalAsRowOf 19 = .ok (.goto 5, 3) := by decide +kernel
theorem dX5_refusalAsRowOf_22 : decode cX5_refusalAsRowOf 22 = .ok (.bipush (-12), 2) := by decide +kernel
theorem dX5_refusalAsRowOf_24 : decode cX5_refusalAsRowOf 24 = .ok (.ireturn, 1) := by decide +kernel
theorem dX5_hasPlace_0 : decode cX5_hasPlace 0 = .ok (.iload_n 1, 1) := by decide +kernel
theorem dX5_hasPlace_1 : decode cX5_hasPlace 1 = .ok (.ifCond .lt 15, 3) := by decide +kernel
theorem dX5_hasPlace_4 : decode cX5_hasPlace 4 = .ok (.iload_n 1, 1) := by decide +kernel
theorem dX5_hasPlace_5 : decode cX5_hasPlace 5 = .ok (.aload_n 0, 1) := by decide +kernel
theorem dX5_hasPlace_6 : decode cX5_hasPlace 6 = .ok (.getfield 23, 3) := by decide +kernel
theorem dX5_hasPlace_9 : decode cX5_hasPlace 9 = .ok (.if_icmp .ge 7, 3) := by decide +kernel
theorem dX5_hasPlace_12 : decode cX5_hasPlace 12 = .ok (.iconst 1, 1) := by decide +kernel
theorem dX5_hasPlace_13 : decode cX5_hasPlace 13 = .ok (.goto 4, 3) := by decide +kernel
theorem dX5_hasPlace_16 : decode cX5_hasPlace 16 = .ok (.iconst 0, 1) := by decide +kernel
theorem dX5_hasPlace_17 : decode cX5_hasPlace 17 = .ok (.ireturn, 1) := by decide +kernel
theorem dX5_hasPlaces_0 : decode cX5_hasPlaces 0 = .ok (.iload_n 2, 1) := by decide +kernel
theorem dX5_hasPlaces_1 : decode cX5_hasPlaces 1 = .ok (.ifCond .lt 29, 3) := by decide +kernel
theorem dX5_hasPlaces_4 : decode cX5_hasPlaces 4 = .ok (.iload_n 2, 1) := by decide +kernel
theorem dX5_hasPlaces_5 : decode cX5_hasPlaces 5 = .ok (.aload_n 0, 1) := by decide +kernel
theorem dX5_hasPlaces_6 : decode cX5_hasPlaces 6 = .ok (.getfield 23, 3) := by decide +kernel
theorem dX5_hasPlaces_9 : decode cX5_hasPlaces 9 = .ok (.if_icmp .gt 21, 3) := by decide +kernel
theorem dX5_hasPlaces_12 : decode cX5_hasPlaces 12 = .ok (.iload_n 1, 1) := by decide +kernel
theorem dX5_hasPlaces_13 : decode cX5_hasPlaces 13 = .ok (.ifCond .lt 17, 3) := by decide +kernel
theorem dX5_hasPlaces_16 : decode cX5_hasPlaces 16 = .ok (.iload_n 1, 1) := by decide +kernel
theorem dX5_hasPlaces_17 : decode cX5_hasPlaces 17 = .ok (.aload_n 0, 1) := by decide +kernel
theorem dX5_hasPlaces_18 : decode cX5_hasPlaces 18 = .ok (.getfield 23, 3) := by decide +kernel
theorem dX5_hasPlaces_21 : decode cX5_hasPlaces 21 = .ok (.iload_n 2, 1) := by decide +kernel
theorem dX5_hasPlaces_22 : decode cX5_hasPlaces 22 = .ok (.isub, 1) := by decide +kernel
theorem dX5_hasPlaces_23 : decode cX5_hasPlaces 23 = .ok (.if_icmp .gt 7, 3) := by decide +kernel
theorem dX5_hasPlaces_26 : decode cX5_hasPlaces 26 = .ok (.iconst 1, 1) := by decide +kernel
theorem dX5_hasPlaces_27 : decode cX5_hasPlaces 27 = .ok (.goto 4, 3) := by decide +kernel
theorem dX5_hasPlaces_30 : decode cX5_hasPlaces 30 = .ok (.iconst 0, 1) := by decide +kernel
theorem dX5_hasPlaces_31 : decode cX5_hasPlaces 31 = .ok (.ireturn, 1) := by decide +kernel
theorem dX5_at_0 : decode cX5_at 0 = .ok (.aload_n 0, 1) := by decide +kernel
theorem dX5_at_1 : decode cX5_at 1 = .ok (.iload_n 1, 1) := by decide +kernel
theorem dX5_at_2 : decode cX5_at 2 = .ok (.invokevirtual 39, 3) := by decide +kernel
theorem dX5_at_5 : decode cX5_at 5 = .ok (.ifCond .eq 18, 3) := by decide +kernel
theorem dX5_at_8 : decode cX5_at 8 = .ok (.iload_n 1, 1) := by decide +kernel
theorem dX5_at_9 : decode cX5_at 9 = .ok (.bipush 100, 2) := by decide +kernel
theorem dX5_at_11 : decode cX5_at 11 = .ok (.if_icmp .ge 12, 3) := by decide +kernel
theorem dX5_at_14 : decode cX5_at 14 = .ok (.aload_n 0, 1) := by decide +kernel
theorem dX5_at_15 : decode cX5_at 15 = .ok (.getfield 15, 3) := by decide +kernel
theorem dX5_at_18 : decode cX5_at 18 = .ok (.iload_n 1, 1) := by decide +kernel
theorem dX5_at_19 : decode cX5_at 19 = .ok (.iaload, 1) := by decide +kernel
theorem dX5_at_20 : decode cX5_at 20 = .ok (.goto 4, 3) := by decide +kernel
theorem dX5_at_23 : decode cX5_at 23 = .ok (.iconst 0, 1) := by decide +kernel
theorem dX5_at_24 : decode cX5_at 24 = .ok (.ireturn, 1) := by decide +kernel
theorem dX5_set_0 : decode cX5_set 0 = .ok (.aload_n 0, 1) := by decide +kernel
theorem dX5_set_1 : decode cX5_set 1 = .ok (.iload_n 1, 1) := by decide +kernel
theorem dX5_set_2 : decode cX5_set 2 = .ok (.invokevirtual 39, 3) := by decide +kernel
theorem dX5_set_5 : decode cX5_set 5 = .ok (.ifCond .eq 20, 3) := by decide +kernel
theorem dX5_set_8 : decode cX5_set 8 = .ok (.iload_n 1, 1) := by decide +kernel
theorem dX5_set_9 : decode cX5_set 9 = .ok (.bipush 100, 2) := by decide +kernel
theorem dX5_set_11 : decode cX5_set 11 = .ok (.if_icmp .ge 14, 3) := by decide +kernel
theorem dX5_set_14 : decode cX5_set 14 = .ok (.aload_n 0, 1) := by decide +kernel
theorem dX5_set_15 : decode cX5_set 15 = .ok (.getfield 15, 3) := by decide +kernel
theorem dX5_set_18 : decode cX5_set 18 = .ok (.iload_n 1, 1) := by decide +kernel
theorem dX5_set_19 : decode cX5_set 19 = .ok (.aload_n 0, 1) := by decide +kernel
theorem dX5_set_20 : decode cX5_set 20 = .ok (.iload_n 2, 1) := by decide +kernel
theorem dX5_set_21 : decode cX5_set 21 = .ok (.invokevirtual 43, 3) := by decide +kernel
theorem dX5_set_24 : decode cX5_set 24 = .ok (.iastore, 1) := by decide +kernel
theorem dX5_set_25 : decode cX5_set 25 = .ok (.return_, 1) := by decide +kernel
theorem dX5_kept_0 : decode cX5_kept 0 = .ok (.aload_n 0, 1) := by decide +kernel
theorem dX5_kept_1 : decode cX5_kept 1 = .ok (.getfield 11, 3) := by decide +kernel
theorem dX5_kept_4 : decode cX5_kept 4 = .ok (.lookupswitch 34 #[(0, 28), (1, 31)], 28) := by decide +kernel
theorem dX5_kept_32 : decode cX5_kept 32 = .ok (.iload_n 1, 1) := by decide +kernel
theorem dX5_kept_33 : decode cX5_kept 33 = .ok (.i2b, 1) := by decide +kernel
theorem dX5_kept_34 : decode cX5_kept 34 = .ok (.ireturn, 1) := by decide +kernel
theorem dX5_kept_35 : decode cX5_kept 35 = .ok (.iload_n 1, 1) := by decide +kernel
theorem dX5_kept_36 : decode cX5_kept 36 = .ok (.i2s, 1) := by decide +kernel
theorem dX5_kept_37 : decode cX5_kept 37 = .ok (.ireturn, 1) := by decide +kernel
theorem dX5_kept_38 : decode cX5_kept 38 = .ok (.iload_n 1, 1) := by decide +kernel
theorem dX5_kept_39 : decode cX5_kept 39 = .ok (.ireturn, 1) := by decide +kernel
theorem dX5_leastOfSort_0 : decode cX5_leastOfSort 0 = .ok (.aload_n 0, 1) := by decide +kernel
theorem dX5_leastOfSort_1 : decode cX5_leastOfSort 1 = .ok (.getfield 11, 3) := by decide +kernel
theorem dX5_leastOfSort_4 : decode cX5_leastOfSort 4 = .ok (.lookupswitch 35 #[(0, 28), (1, 31)], 28) := by decide +kernel
theorem dX5_leastOfSort_32 : decode cX5_leastOfSort 32 = .ok (.bipush (-128), 2) := by decide +kernel
theorem dX5_leastOfSort_34 : decode cX5_leastOfSort 34 = .ok (.ireturn, 1) := by decide +kernel
theorem dX5_leastOfSort_35 : decode cX5_leastOfSort 35 = .ok (.sipush (-32768), 3) := by decide +kernel
theorem dX5_leastOfSort_38 : decode cX5_leastOfSort 38 = .ok (.ireturn, 1) := by decide +kernel
theorem dX5_leastOfSort_39 : decode cX5_leastOfSort 39 = .ok (.ldc 47, 2) := by decide +kernel
theorem dX5_leastOfSort_41 : decode cX5_leastOfSort 41 = .ok (.ireturn, 1) := by decide +kernel
theorem dX6_init_0 : decode cX6_init 0 = .ok (.aload_n 0, 1) := by decide +kernel
theorem dX6_init_1 : decode cX6_init 1 = .ok (.iload_n 1, 1) := by decide +kernel
theorem dX6_init_2 : decode cX6_init 2 = .ok (.iload_n 2, 1) := by decide +kernel
theorem dX6_init_3 : decode cX6_init 3 = .ok (.invokespecial 1, 3) := by decide +kernel
theorem dX6_init_6 : decode cX6_init 6 = .ok (.return_, 1) := by decide +kernel
theorem dX6_numberFor_0 : decode cX6_numberFor 0 = .ok (.iconst 2, 1) := by decide +kernel
theorem dX6_numberFor_1 : decode cX6_numberFor 1 = .ok (.aload_n 0, 1) := by decide +kernel
theorem dX6_numberFor_2 : decode cX6_numberFor 2 = .ok (.aload_n 1, 1) := by decide +kernel
theorem dX6_numberFor_3 : decode cX6_numberFor 3 = .ok (.iload_n 2, 1) := by decide +kernel
theorem dX6_numberFor_4 : decode cX6_numberFor 4 = .ok (.iload_n 3, 1) := by decide +kernel
theorem dX6_numberFor_5 : decode cX6_numberFor 5 = .ok (.invokespecial 7, 3) := by decide +kernel
theorem dX6_numberFor_8 : decode cX6_numberFor 8 = .ok (.imul, 1) := by decide +kernel
theorem dX6_numberFor_9 : decode cX6_numberFor 9 = .ok (.istore 4, 2) := by decide +kernel
theorem dX6_numberFor_11 : decode cX6_numberFor 11 = .ok (.iload_n 2, 1) := by decide +kernel
theorem dX6_numberFor_12 : decode cX6_numberFor 12 = .ok (.iconst 2, 1) := by decide +kernel
theorem dX6_numberFor_13 : decode cX6_numberFor 13 = .ok (.irem, 1) := by decide +kernel
theorem dX6_numberFor_14 : decode cX6_numberFor 14 = .ok (.ifCond .ne 10, 3) := by decide +kernel
theorem dX6_numberFor_17 : decode cX6_numberFor 17 = .ok (.iload 4, 2) := by decide +kernel
theorem dX6_numberFor_19 : decode cX6_numberFor 19 = .ok (.iconst 1, 1) := by decide +kernel
theorem dX6_numberFor_20 : decode cX6_numberFor 20 = .ok (.isub, 1) := by decide +kernel
theorem dX6_numberFor_21 : decode cX6_numberFor 21 = .ok (.goto 5, 3) := by decide +kernel
theorem dX6_numberFor_24 : decode cX6_numberFor 24 = .ok (.iload 4, 2) := by decide +kernel
theorem dX6_numberFor_26 : decode cX6_numberFor 26 = .ok (.ireturn, 1) := by decide +kernel
theorem dX6_levy_0 : decode cX6_levy 0 = .ok (.aload_n 0, 1) := by decide +kernel
theorem dX6_levy_1 : decode cX6_levy 1 = .ok (.invokespecial 11, 3) := by decide +kernel
theorem dX6_levy_4 : decode cX6_levy 4 = .ok (.aload_n 0, 1) := by decide +kernel
theorem dX6_levy_5 : decode cX6_levy 5 = .ok (.getfield 15, 3) := by decide +kernel
theorem dX6_levy_8 : decode cX6_levy 8 = .ok (.isub, 1) := by decide +kernel
theorem dX6_levy_9 : decode cX6_levy 9 = .ok (.ireturn, 1) := by decide +kernel
theorem dX6_fail_0 : decode cX6_fail 0 = .ok (.aload_n 0, 1) := by decide +kernel
theorem dX6_fail_1 : decode cX6_fail 1 = .ok (.getfield 15, 3) := by decide +kernel
theorem dX6_fail_4 : decode cX6_fail 4 = .ok (.ifCond .eq 13, 3) := by decide +kernel
theorem dX6_fail_7 : decode cX6_fail 7 = .ok (.new 21, 3) := by decide +kernel
theorem dX6_fail_10 : decode cX6_fail 10 = .ok (.dup, 1) := by decide +kernel
theorem dX6_fail_11 : decode cX6_fail 11 = .ok (.ldc 23, 2) := by decide +kernel
theorem dX6_fail_13 : decode cX6_fail 13 = .ok (.invokespecial 25, 3) := by decide +kernel
theorem dX6_fail_16 : decode cX6_fail 16 = .ok (.athrow, 1) := by decide +kernel
theorem dX6_fail_17 : decode cX6_fail 17 = .ok (.return_, 1) := by decide +kernel
theorem dX7_init_0 : decode cX7_init 0 = .ok (.aload_n 0, 1) := by decide +kernel
theorem dX7_init_1 : decode cX7_init 1 = .ok (.iload_n 1, 1) := by decide +kernel
theorem dX7_init_2 : decode cX7_init 2 = .ok (.iload_n 2, 1) := by decide +kernel
theorem dX7_init_3 : decode cX7_init 3 = .ok (.invokespecial 1, 3) := by decide +kernel
theorem dX7_init_6 : decode cX7_init 6 = .ok (.return_, 1) := by decide +kernel
theorem dX7_numberFor_0 : decode cX7_numberFor 0 = .ok (.aload_n 0, 1) := by decide +kernel
theorem dX7_numberFor_1 : decode cX7_numberFor 1 = .ok (.aload_n 1, 1) := by decide +kernel
theorem dX7_numberFor_2 : decode cX7_numberFor 2 = .ok (.iload_n 2, 1) := by decide +kernel
theorem dX7_numberFor_3 : decode cX7_numberFor 3 = .ok (.iload_n 3, 1) := by decide +kernel
theorem dX7_numberFor_4 : decode cX7_numberFor 4 = .ok (.invokespecial 7, 3) := by decide +kernel
theorem dX7_numberFor_7 : decode cX7_numberFor 7 = .ok (.istore 4, 2) := by decide +kernel
theorem dX7_numberFor_9 : decode cX7_numberFor 9 = .ok (.aload_n 0, 1) := by decide +kernel
theorem dX7_numberFor_10 : decode cX7_numberFor 10 = .ok (.getfield 11, 3) := by decide +kernel
theorem dX7_numberFor_13 : decode cX7_numberFor 13 = .ok (.iconst 2, 1) := by decide +kernel
theorem dX7_numberFor_14 : decode cX7_numberFor 14 = .ok (.if_icmp .ge 8, 3) := by decide +kernel
theorem dX7_numberFor_17 : decode cX7_numberFor 17 = .ok (.iload 4, 2) := by decide +kernel
theorem dX7_numberFor_19 : decode cX7_numberFor 19 = .ok (.goto 17, 3) := by decide +kernel
theorem dX7_numberFor_22 : decode cX7_numberFor 22 = .ok (.iload 4, 2) := by decide +kernel
theorem dX7_numberFor_24 : decode cX7_numberFor 24 = .ok (.iload 4, 2) := by decide +kernel
theorem dX7_numberFor_26 : decode cX7_numberFor 26 = .ok (.iconst 1, 1) := by decide +kernel
theorem dX7_numberFor_27 : decode cX7_numberFor 27 = .ok (.isub, 1) := by decide +kernel
theorem dX7_numberFor_28 : decode cX7_numberFor 28 = .ok (.aload_n 0, 1) := by decide +kernel
theorem dX7_numberFor_29 : decode cX7_numberFor 29 = .ok (.getfield 11, 3) := by decide +kernel
theorem dX7_numberFor_32 : decode cX7_numberFor 32 = .ok (.iconst 1, 1) := by decide +kernel
theorem dX7_numberFor_33 : decode cX7_numberFor 33 = .ok (.isub, 1) := by decide +kernel
theorem dX7_numberFor_34 : decode cX7_numberFor 34 = .ok (.idiv, 1) := by decide +kernel
theorem dX7_numberFor_35 : decode cX7_numberFor 35 = .ok (.iadd, 1) := by decide +kernel
theorem dX7_numberFor_36 : decode cX7_numberFor 36 = .ok (.ireturn, 1) := by decide +kernel
theorem dX7_levy_0 : decode cX7_levy 0 = .ok (.aload_n 0, 1) := by decide +kernel
theorem dX7_levy_1 : decode cX7_levy 1 = .ok (.invokespecial 17, 3) := by decide +kernel
theorem dX7_levy_4 : decode cX7_levy 4 = .ok (.iconst 4, 1) := by decide +kernel
theorem dX7_levy_5 : decode cX7_levy 5 = .ok (.iadd, 1) := by decide +kernel
theorem dX7_levy_6 : decode cX7_levy 6 = .ok (.ireturn, 1) := by decide +kernel
theorem dX8_init_0 : decode cX8_init 0 = .ok (.aload_n 0, 1) := by decide +kernel
theorem dX8_init_1 : decode cX8_init 1 = .ok (.invokespecial 3, 3) := by decide +kernel
theorem dX8_init_4 : decode cX8_init 4 = .ok (.aload_n 0, 1) := by decide +kernel
theorem dX8_init_5 : decode cX8_init 5 = .ok (.bipush 12, 2) := by decide +kernel
theorem dX8_init_7 : decode cX8_init 7 = .ok (.newarray .int, 2) := by decide +kernel
theorem dX8_init_9 : decode cX8_init 9 = .ok (.putfield 9, 3) := by decide +kernel
theorem dX8_init_12 : decode cX8_init 12 = .ok (.aload_n 0, 1) := by decide +kernel
theorem dX8_init_13 : decode cX8_init 13 = .ok (.bipush 12, 2) := by decide +kernel
theorem dX8_init_15 : decode cX8_init 15 = .ok (.newarray .int, 2) := by decide +kernel
theorem dX8_init_17 : decode cX8_init 17 = .ok (.putfield 15, 3) := by decide +kernel
theorem dX8_init_20 : decode cX8_init 20 = .ok (.aload_n 0, 1) := by decide +kernel
theorem dX8_init_21 : decode cX8_init 21 = .ok (.bipush 12, 2) := by decide +kernel
theorem dX8_init_23 : decode cX8_init 23 = .ok (.newarray .int, 2) := by decide +kernel
theorem dX8_init_25 : decode cX8_init 25 = .ok (.putfield 18, 3) := by decide +kernel
theorem dX8_init_28 : decode cX8_init 28 = .ok (.aload_n 0, 1) := by decide +kernel
theorem dX8_init_29 : decode cX8_init 29 = .ok (.iconst 3, 1) := by decide +kernel
theorem dX8_init_30 : decode cX8_init 30 = .ok (.newarray .int, 2) := by decide +kernel
theorem dX8_init_32 : decode cX8_init 32 = .ok (.putfield 21, 3) := by decide +kernel
theorem dX8_init_35 : decode cX8_init 35 = .ok (.aload_n 0, 1) := by decide +kernel
theorem dX8_init_36 : decode cX8_init 36 = .ok (.bipush 30, 2) := by decide +kernel
theorem dX8_init_38 : decode cX8_init 38 = .ok (.newarray .int, 2) := by decide +kernel
theorem dX8_init_40 : decode cX8_init 40 = .ok (.putfield 24, 3) := by decide +kernel
theorem dX8_init_43 : decode cX8_init 43 = .ok (.aload_n 0, 1) := by decide +kernel
theorem dX8_init_44 : decode cX8_init 44 = .ok (.bipush 30, 2) := by decide +kernel
theorem dX8_init_46 : decode cX8_init 46 = .ok (.newarray .int, 2) := by decide +kernel
theorem dX8_init_48 : decode cX8_init 48 = .ok (.putfield 27, 3) := by decide +kernel
theorem dX8_init_51 : decode cX8_init 51 = .ok (.aload_n 0, 1) := by decide +kernel
theorem dX8_init_52 : decode cX8_init 52 = .ok (.bipush 12, 2) := by decide +kernel
theorem dX8_init_54 : decode cX8_init 54 = .ok (.newarray .int, 2) := by decide +kernel
theorem dX8_init_56 : decode cX8_init 56 = .ok (.putfield 30, 3) := by decide +kernel
theorem dX8_init_59 : decode cX8_init 59 = .ok (.aload_n 0, 1) := by decide +kernel
theorem dX8_init_60 : decode cX8_init 60 = .ok (.new 33, 3) := by decide +kernel
theorem dX8_init_63 : decode cX8_init 63 = .ok (.dup, 1) := by decide +kernel
theorem dX8_init_64 : decode cX8_init 64 = .ok (.iconst 0, 1) := by decide +kernel
theorem dX8_init_65 : decode cX8_init 65 = .ok (.iconst 0, 1) := by decide +kernel
theorem dX8_init_66 : decode cX8_init 66 = .ok (.invokespecial 35, 3) := by decide +kernel
theorem dX8_init_69 : decode cX8_init 69 = .ok (.putfield 38, 3) := by decide +kernel
theorem dX8_init_72 : decode cX8_init 72 = .ok (.return_, 1) := by decide +kernel
theorem dX8_clear_0 : decode cX8_clear 0 = .ok (.aload_n 0, 1) := by decide +kernel
theorem dX8_clear_1 : decode cX8_clear 1 = .ok (.getfield 9, 3) := by decide +kernel
theorem dX8_clear_4 : decode cX8_clear 4 = .ok (.iconst 0, 1) := by decide +kernel
theorem dX8_clear_5 : decode cX8_clear 5 = .ok (.invokestatic 42, 3) := by decide +kernel
theorem dX8_clear_8 : decode cX8_clear 8 = .ok (.aload_n 0, 1) := by decide +kernel
theorem dX8_clear_9 : decode cX8_clear 9 = .ok (.getfield 21, 3) := by decide +kernel
theorem dX8_clear_12 : decode cX8_clear 12 = .ok (.iconst 0, 1) := by decide +kernel
theorem dX8_clear_13 : decode cX8_clear 13 = .ok (.invokestatic 42, 3) := by decide +kernel
theorem dX8_clear_16 : decode cX8_clear 16 = .ok (.aload_n 0, 1) := by decide +kernel
theorem dX8_clear_17 : decode cX8_clear 17 = .ok (.iconst 0, 1) := by decide +kernel
theorem dX8_clear_18 : decode cX8_clear 18 = .ok (.putfield 48, 3) := by decide +kernel
theorem dX8_clear_21 : decode cX8_clear 21 = .ok (.aload_n 0, 1) := by decide +kernel
theorem dX8_clear_22 : decode cX8_clear 22 = .ok (.iconst 0, 1) := by decide +kernel
theorem dX8_clear_23 : decode cX8_clear 23 = .ok (.putfield 52, 3) := by decide +kernel
theorem dX8_clear_26 : decode cX8_clear 26 = .ok (.aload_n 0, 1) := by decide +kernel
theorem dX8_clear_27 : decode cX8_clear 27 = .ok (.aload_n 1, 1) := by decide +kernel
theorem dX8_clear_28 : decode cX8_clear 28 = .ok (.putfield 38, 3) := by decide +kernel
theorem dX8_clear_31 : decode cX8_clear 31 = .ok (.return_, 1) := by decide +kernel
theorem dX8_become_0 : decode cX8_become 0 = .ok (.aload_n 1, 1) := by decide +kernel
theorem dX8_become_1 : decode cX8_become 1 = .ok (.getfield 9, 3) := by decide +kernel
theorem dX8_become_4 : decode cX8_become 4 = .ok (.iconst 0, 1) := by decide +kernel
theorem dX8_become_5 : decode cX8_become 5 = .ok (.aload_n 0, 1) := by decide +kernel
theorem dX8_become_6 : decode cX8_become 6 = .ok (.getfield 9, 3) := by decide +kernel
theorem dX8_become_9 : decode cX8_become 9 = .ok (.iconst 0, 1) := by decide +kernel
theorem dX8_become_10 : decode cX8_become 10 = .ok (.bipush 12, 2) := by decide +kernel
theorem dX8_become_12 : decode cX8_become 12 = .ok (.invokestatic 55, 3) := by decide +kernel
theorem dX8_become_15 : decode cX8_become 15 = .ok (.aload_n 1, 1) := by decide +kernel
theorem dX8_become_16 : decode cX8_become 16 = .ok (.getfield 15, 3) := by decide +kernel
theorem dX8_become_19 : decode cX8_become 19 = .ok (.iconst 0, 1) := by decide +kernel
theorem dX8_become_20 : decode cX8_become 20 = .ok (.aload_n 0, 1) := by decide +kernel
theorem dX8_become_21 : decode cX8_become 21 = .ok (.getfield 15, 3) := by decide +kernel
theorem dX8_become_24 : decode cX8_become 24 = .ok (.iconst 0, 1) := by decide +kernel
theorem dX8_become_25 : decode cX8_become 25 = .ok (.bipush 12, 2) := by decide +kernel
theorem dX8_become_27 : decode cX8_become 27 = .ok (.invokestatic 55, 3) := by decide +kernel
theorem dX8_become_30 : decode cX8_become 30 = .ok (.aload_n 1, 1) := by decide +kernel
theorem dX8_become_31 : decode cX8_become 31 = .ok (.getfield 18, 3) := by decide +kernel
theorem dX8_become_34 : decode cX8_become 34 = .ok (.iconst 0, 1) := by decide +kernel
theorem dX8_become_35 : decode cX8_become 35 = .ok (.aload_n 0, 1) := by decide +kernel
theorem dX8_become_36 : decode cX8_become 36 = .ok (.getfield 18, 3) := by decide +kernel
theorem dX8_become_39 : decode cX8_become 39 = .ok (.iconst 0, 1) := by decide +kernel
theorem dX8_become_40 : decode cX8_become 40 = .ok (.bipush 12, 2) := by decide +kernel
theorem dX8_become_42 : decode cX8_become 42 = .ok (.invokestatic 55, 3) := by decide +kernel
theorem dX8_become_45 : decode cX8_become 45 = .ok (.aload_n 1, 1) := by decide +kernel
theorem dX8_become_46 : decode cX8_become 46 = .ok (.getfield 21, 3) := by decide +kernel
theorem dX8_become_49 : decode cX8_become 49 = .ok (.iconst 0, 1) := by decide +kernel
theorem dX8_become_50 : decode cX8_become 50 = .ok (.aload_n 0, 1) := by decide +kernel
theorem dX8_become_51 : decode cX8_become 51 = .ok (.getfield 21, 3) := by decide +kernel
theorem dX8_become_54 : decode cX8_become 54 = .ok (.iconst 0, 1) := by decide +kernel
theorem dX8_become_55 : decode cX8_become 55 = .ok (.iconst 3, 1) := by decide +kernel
theorem dX8_become_56 : decode cX8_become 56 = .ok (.invokestatic 55, 3) := by decide +kernel
theorem dX8_become_59 : decode cX8_become 59 = .ok (.aload_n 1, 1) := by decide +kernel
theorem dX8_become_60 : decode cX8_become 60 = .ok (.getfield 24, 3) := by decide +kernel
theorem dX8_become_63 : decode cX8_become 63 = .ok (.iconst 0, 1) := by decide +kernel
theorem dX8_become_64 : decode cX8_become 64 = .ok (.aload_n 0, 1) := by decide +kernel
theorem dX8_become_65 : decode cX8_become 65 = .ok (.getfield 24, 3) := by decide +kernel
theorem dX8_become_68 : decode cX8_become 68 = .ok (.iconst 0, 1) := by decide +kernel
theorem dX8_become_69 : decode cX8_become 69 = .ok (.bipush 30, 2) := by decide +kernel
theorem dX8_become_71 : decode cX8_become 71 = .ok (.invokestatic 55, 3) := by decide +kernel
theorem dX8_become_74 : decode cX8_become 74 = .ok (.aload_n 1, 1) := by decide +kernel
theorem dX8_become_75 : decode cX8_become 75 = .ok (.getfield 27, 3) := by decide +kernel
theorem dX8_become_78 : decode cX8_become 78 = .ok (.iconst 0, 1) := by decide +kernel
theorem dX8_become_79 : decode cX8_become 79 = .ok (.aload_n 0, 1) := by decide +kernel
theorem dX8_become_80 : decode cX8_become 80 = .ok (.getfield 27, 3) := by decide +kernel
theorem dX8_become_83 : decode cX8_become 83 = .ok (.iconst 0, 1) := by decide +kernel
theorem dX8_become_84 : decode cX8_become 84 = .ok (.bipush 30, 2) := by decide +kernel
theorem dX8_become_86 : decode cX8_become 86 = .ok (.invokestatic 55, 3) := by decide +kernel
theorem dX8_become_89 : decode cX8_become 89 = .ok (.aload_n 0, 1) := by decide +kernel
theorem dX8_become_90 : decode cX8_become 90 = .ok (.aload_n 1, 1) := by decide +kernel
theorem dX8_become_91 : decode cX8_become 91 = .ok (.getfield 48, 3) := by decide +kernel
theorem dX8_become_94 : decode cX8_become 94 = .ok (.putfield 48, 3) := by decide +kernel
theorem dX8_become_97 : decode cX8_become 97 = .ok (.aload_n 0, 1) := by decide +kernel
theorem dX8_become_98 : decode cX8_become 98 = .ok (.aload_n 1, 1) := by decide +kernel
theorem dX8_become_99 : decode cX8_become 99 = .ok (.getfield 52, 3) := by decide +kernel
theorem dX8_become_102 : decode cX8_become 102 = .ok (.putfield 52, 3) := by decide +kernel
theorem dX8_become_105 : decode cX8_become 105 = .ok (.aload_n 0, 1) := by decide +kernel
theorem dX8_become_106 : decode cX8_become 106 = .ok (.aload_n 1, 1) := by decide +kernel
theorem dX8_become_107 : decode cX8_become 107 = .ok (.getfield 38, 3) := by decide +kernel
theorem dX8_become_110 : decode cX8_become 110 = .ok (.putfield 38, 3) := by decide +kernel
theorem dX8_become_113 : decode cX8_become 113 = .ok (.return_, 1) := by decide +kernel
theorem dX8_goThrough_0 : decode cX8_goThrough 0 = .ok (.aload_n 0, 1) := by decide +kernel
theorem dX8_goThrough_1 : decode cX8_goThrough 1 = .ok (.aload_n 2, 1) := by decide +kernel
theorem dX8_goThrough_2 : decode cX8_goThrough 2 = .ok (.invokevirtual 61, 3) := by decide +kernel
theorem dX8_goThrough_5 : decode cX8_goThrough 5 = .ok (.iconst 0, 1) := by decide +kernel
theorem dX8_goThrough_6 : decode cX8_goThrough 6 = .ok (.istore_n 3, 1) := by decide +kernel
theorem dX8_goThrough_7 : decode cX8_goThrough 7 = .ok (.iload_n 3, 1) := by decide +kernel
theorem dX8_goThrough_8 : decode cX8_goThrough 8 = .ok (.bipush 30, 2) := by decide +kernel
theorem dX8_goThrough_10 : decode cX8_goThrough 10 = .ok (.if_icmp .ge 57, 3) := by decide +kernel
theorem dX8_goThrough_13 : decode cX8_goThrough 13 = .ok (.iload_n 3, 1) := by decide +kernel
theorem dX8_goThrough_14 : decode cX8_goThrough 14 = .ok (.aload_n 1, 1) := by decide +kernel
theorem dX8_goThrough_15 : decode cX8_goThrough 15 = .ok (.getfield 48, 3) := by decide +kernel
theorem dX8_goThrough_18 : decode cX8_goThrough 18 = .ok (.if_icmp .ge 49, 3) := by decide +kernel
theorem dX8_goThrough_21 : decode cX8_goThrough 21 = .ok (.aload_n 1, 1) := by decide +kernel
theorem dX8_goThrough_22 : decode cX8_goThrough 22 = .ok (.getfield 27, 3) := by decide +kernel
theorem dX8_goThrough_25 : decode cX8_goThrough 25 = .ok (.iload_n 3, 1) := by decide +kernel
theorem dX8_goThrough_26 : decode cX8_goThrough 26 = .ok (.iaload, 1) := by decide +kernel
theorem dX8_goThrough_27 : decode cX8_goThrough 27 = .ok (.ifCond .ne 17, 3) := by decide +kernel
theorem dX8_goThrough_30 : decode cX8_goThrough 30 = .ok (.aload_n 0, 1) := by decide +kernel
theorem dX8_goThrough_31 : decode cX8_goThrough 31 = .ok (.aload_n 1, 1) := by decide +kernel
theorem dX8_goThrough_32 : decode cX8_goThrough 32 = .ok (.getfield 24, 3) := by decide +kernel
theorem dX8_goThrough_35 : decode cX8_goThrough 35 = .ok (.iload_n 3, 1) := by decide +kernel
theorem dX8_goThrough_36 : decode cX8_goThrough 36 = .ok (.iaload, 1) := by decide +kernel
theorem dX8_goThrough_37 : decode cX8_goThrough 37 = .ok (.invokevirtual 65, 3) := by decide +kernel
theorem dX8_goThrough_40 : decode cX8_goThrough 40 = .ok (.pop, 1) := by decide +kernel
theorem dX8_goThrough_41 : decode cX8_goThrough 41 = .ok (.goto 20, 3) := by decide +kernel
theorem dX8_goThrough_44 : decode cX8_goThrough 44 = .ok (.aload_n 0, 1) := by decide +kernel
theorem dX8_goThrough_45 : decode cX8_goThrough 45 = .ok (.aload_n 1, 1) := by decide +kernel
theorem dX8_goThrough_46 : decode cX8_goThrough 46 = .ok (.getfield 24, 3) := by decide +kernel
theorem dX8_goThrough_49 : decode cX8_goThrough 49 = .ok (.iload_n 3, 1) := by decide +kernel
theorem dX8_goThrough_50 : decode cX8_goThrough 50 = .ok (.iaload, 1) := by decide +kernel
theorem dX8_goThrough_51 : decode cX8_goThrough 51 = .ok (.aload_n 1, 1) := by decide +kernel
theorem dX8_goThrough_52 : decode cX8_goThrough 52 = .ok (.getfield 27, 3) := by decide +kernel
theorem dX8_goThrough_55 : decode cX8_goThrough 55 = .ok (.iload_n 3, 1) := by decide +kernel
theorem dX8_goThrough_56 : decode cX8_goThrough 56 = .ok (.iaload, 1) := by decide +kernel
theorem dX8_goThrough_57 : decode cX8_goThrough 57 = .ok (.invokevirtual 69, 3) := by decide +kernel
theorem dX8_goThrough_60 : decode cX8_goThrough 60 = .ok (.pop, 1) := by decide +kernel
theorem dX8_goThrough_61 : decode cX8_goThrough 61 = .ok (.iinc 3 1, 3) := by decide +kernel
theorem dX8_goThrough_64 : decode cX8_goThrough 64 = .ok (.goto (-57), 3) := by decide +kernel
theorem dX8_goThrough_67 : decode cX8_goThrough 67 = .ok (.return_, 1) := by decide +kernel
theorem dX8_raise_0 : decode cX8_raise 0 = .ok (.iload_n 1, 1) := by decide +kernel
theorem dX8_raise_1 : decode cX8_raise 1 = .ok (.invokestatic 73, 3) := by decide +kernel
theorem dX8_raise_4 : decode cX8_raise 4 = .ok (.ifCond .eq 10, 3) := by decide +kernel
theorem dX8_raise_7 : decode cX8_raise 7 = .ok (.iload_n 2, 1) := by decide +kernel
theorem dX8_raise_8 : decode cX8_raise 8 = .ok (.invokestatic 77, 3) := by decide +kernel
theorem dX8_raise_11 : decode cX8_raise 11 = .ok (.ifCond .ne 5, 3) := by decide +kernel
theorem dX8_raise_14 : decode cX8_raise 14 = .ok (.iconst (-1), 1) := by decide +kernel
theorem dX8_raise_15 : decode cX8_raise 15 = .ok (.ireturn, 1) := by decide +kernel
theorem dX8_raise_16 : decode cX8_raise 16 = .ok (.aload_n 0, 1) := by decide +kernel
theorem dX8_raise_17 : decode cX8_raise 17 = .ok (.iload_n 1, 1) := by decide +kernel
theorem dX8_raise_18 : decode cX8_raise 18 = .ok (.invokevirtual 80, 3) := by decide +kernel
theorem dX8_raise_21 : decode cX8_raise 21 = .ok (.ifCond .eq 6, 3) := by decide +kernel
theorem dX8_raise_24 : decode cX8_raise 24 = .ok (.bipush (-3), 2) := by decide +kernel
theorem dX8_raise_26 : decode cX8_raise 26 = .ok (.ireturn, 1) := by decide +kernel
theorem dX8_raise_27 : decode cX8_raise 27 = .ok (.aload_n 0, 1) := by decide +kernel
theorem dX8_raise_28 : decode cX8_raise 28 = .ok (.getfield 48, 3) := by decide +kernel
theorem dX8_raise_31 : decode cX8_raise 31 = .ok (.bipush 30, 2) := by decide +kernel
theorem dX8_raise_33 : decode cX8_raise 33 = .ok (.if_icmp .lt 6, 3) := by decide +kernel
theorem dX8_raise_36 : decode cX8_raise 36 = .ok (.bipush (-2), 2) := by decide +kernel
theorem dX8_raise_38 : decode cX8_raise 38 = .ok (.ireturn, 1) := by decide +kernel
theorem dX8_raise_39 : decode cX8_raise 39 = .ok (.aload_n 0, 1) := by decide +kernel
theorem dX8_raise_40 : decode cX8_raise 40 = .ok (.getfield 38, 3) := by decide +kernel
theorem dX8_raise_43 : decode cX8_raise 43 = .ok (.aload_n 0, 1) := by decide +kernel
theorem dX8_raise_44 : decode cX8_raise 44 = .ok (.iload_n 1, 1) := by decide +kernel
theorem dX8_raise_45 : decode cX8_raise 45 = .ok (.iload_n 2, 1) := by decide +kernel
theorem dX8_raise_46 : decode cX8_raise 46 = .ok (.invokevirtual 83, 3) := by decide +kernel
theorem dX8_raise_49 : decode cX8_raise 49 = .ok (.istore_n 3, 1) := by decide +kernel
theorem dX8_raise_50 : decode cX8_raise 50 = .ok (.aload_n 0, 1) := by decide +kernel
theorem dX8_raise_51 : decode cX8_raise 51 = .ok (.getfield 9, 3) := by decide +kernel
theorem dX8_raise_54 : decode cX8_raise 54 = .ok (.iload_n 1, 1) := by decide +kernel
theorem dX8_raise_55 : decode cX8_raise 55 = .ok (.iload_n 3, 1) := by decide +kernel
theorem dX8_raise_56 : decode cX8_raise 56 = .ok (.iastore, 1) := by decide +kernel
theorem dX8_raise_57 : decode cX8_raise 57 = .ok (.aload_n 0, 1) := by decide +kernel
theorem dX8_raise_58 : decode cX8_raise 58 = .ok (.getfield 15, 3) := by decide +kernel
theorem dX8_raise_61 : decode cX8_raise 61 = .ok (.iload_n 1, 1) := by decide +kernel
theorem dX8_raise_62 : decode cX8_raise 62 = .ok (.iload_n 2, 1) := by decide +kernel
theorem dX8_raise_63 : decode cX8_raise 63 = .ok (.iastore, 1) := by decide +kernel
theorem dX8_raise_64 : decode cX8_raise 64 = .ok (.aload_n 0, 1) := by decide +kernel
theorem dX8_raise_65 : decode cX8_raise 65 = .ok (.getfield 18, 3) := by decide +kernel
theorem dX8_raise_68 : decode cX8_raise 68 = .ok (.iload_n 1, 1) := by decide +kernel
theorem dX8_raise_69 : decode cX8_raise 69 = .ok (.aload_n 0, 1) := by decide +kernel
theorem dX8_raise_70 : decode cX8_raise 70 = .ok (.getfield 48, 3) := by decide +kernel
theorem dX8_raise_73 : decode cX8_raise 73 = .ok (.iastore, 1) := by decide +kernel
theorem dX8_raise_74 : decode cX8_raise 74 = .ok (.aload_n 0, 1) := by decide +kernel
theorem dX8_raise_75 : decode cX8_raise 75 = .ok (.getfield 21, 3) := by decide +kernel
theorem dX8_raise_78 : decode cX8_raise 78 = .ok (.iload_n 1, 1) := by decide +kernel
theorem dX8_raise_79 : decode cX8_raise 79 = .ok (.iconst 4, 1) := by decide +kernel
theorem dX8_raise_80 : decode cX8_raise 80 = .ok (.idiv, 1) := by decide +kernel
theorem dX8_raise_81 : decode cX8_raise 81 = .ok (.dup2, 1) := by decide +kernel
theorem dX8_raise_82 : decode cX8_raise 82 = .ok (.iaload, 1) := by decide +kernel
theorem dX8_raise_83 : decode cX8_raise 83 = .ok (.iconst 1, 1) := by decide +kernel
theorem dX8_raise_84 : decode cX8_raise 84 = .ok (.iadd, 1) := by decide +kernel
theorem dX8_raise_85 : decode cX8_raise 85 = .ok (.iastore, 1) := by decide +kernel
theorem dX8_raise_86 : decode cX8_raise 86 = .ok (.aload_n 0, 1) := by decide +kernel
theorem dX8_raise_87 : decode cX8_raise 87 = .ok (.dup, 1) := by decide +kernel
theorem dX8_raise_88 : decode cX8_raise 88 = .ok (.getfield 52, 3) := by decide +kernel
theorem dX8_raise_91 : decode cX8_raise 91 = .ok (.iconst 1, 1) := by decide +kernel
theorem dX8_raise_92 : decode cX8_raise 92 = .ok (.iadd, 1) := by decide +kernel
theorem dX8_raise_93 : decode cX8_raise 93 = .ok (.putfield 52, 3) := by decide +kernel
theorem dX8_raise_96 : decode cX8_raise 96 = .ok (.aload_n 0, 1) := by decide +kernel
theorem dX8_raise_97 : decode cX8_raise 97 = .ok (.iload_n 1, 1) := by decide +kernel
theorem dX8_raise_98 : decode cX8_raise 98 = .ok (.iload_n 2, 1) := by decide +kernel
theorem dX8_raise_99 : decode cX8_raise 99 = .ok (.invokevirtual 87, 3) := by decide +kernel
theorem dX8_raise_102 : decode cX8_raise 102 = .ok (.iload_n 3, 1) := by decide +kernel
theorem dX8_raise_103 : decode cX8_raise 103 = .ok (.ireturn, 1) := by decide +kernel
theorem dX8_raze_0 : decode cX8_raze 0 = .ok (.iload_n 1, 1) := by decide +kernel
theorem dX8_raze_1 : decode cX8_raze 1 = .ok (.invokestatic 73, 3) := by decide +kernel
theorem dX8_raze_4 : decode cX8_raze 4 = .ok (.ifCond .ne 5, 3) := by decide +kernel
theorem dX8_raze_7 : decode cX8_raze 7 = .ok (.iconst (-1), 1) := by decide +kernel
theorem dX8_raze_8 : decode cX8_raze 8 = .ok (.ireturn, 1) := by decide +kernel
theorem dX8_raze_9 : decode cX8_raze 9 = .ok (.aload_n 0, 1) := by decide +kernel
theorem dX8_raze_10 : decode cX8_raze 10 = .ok (.iload_n 1, 1) := by decide +kernel
theorem dX8_raze_11 : decode cX8_raze 11 = .ok (.invokevirtual 80, 3) := by decide +kernel
theorem dX8_raze_14 : decode cX8_raze 14 = .ok (.ifCond .ne 6, 3) := by decide +kernel
theorem dX8_raze_17 : decode cX8_raze 17 = .ok (.bipush (-3), 2) := by decide +kernel
theorem dX8_raze_19 : decode cX8_raze 19 = .ok (.ireturn, 1) := by decide +kernel
theorem dX8_raze_20 : decode cX8_raze 20 = .ok (.aload_n 0, 1) := by decide +kernel
theorem dX8_raze_21 : decode cX8_raze 21 = .ok (.getfield 48, 3) := by decide +kernel
theorem dX8_raze_24 : decode cX8_raze 24 = .ok (.bipush 30, 2) := by decide +kernel
theorem dX8_raze_26 : decode cX8_raze 26 = .ok (.if_icmp .lt 6, 3) := by decide +kernel
theorem dX8_raze_29 : decode cX8_raze 29 = .ok (.bipush (-2), 2) := by decide +kernel
theorem dX8_raze_31 : decode cX8_raze 31 = .ok (.ireturn, 1) := by decide +kernel
theorem dX8_raze_32 : decode cX8_raze 32 = .ok (.aload_n 0, 1) := by decide +kernel
theorem dX8_raze_33 : decode cX8_raze 33 = .ok (.getfield 9, 3) := by decide +kernel
theorem dX8_raze_36 : decode cX8_raze 36 = .ok (.iload_n 1, 1) := by decide +kernel
theorem dX8_raze_37 : decode cX8_raze 37 = .ok (.iaload, 1) := by decide +kernel
theorem dX8_raze_38 : decode cX8_raze 38 = .ok (.istore_n 2, 1) := by decide +kernel
theorem dX8_raze_39 : decode cX8_raze 39 = .ok (.aload_n 0, 1) := by decide +kernel
theorem dX8_raze_40 : decode cX8_raze 40 = .ok (.getfield 9, 3) := by decide +kernel
theorem dX8_raze_43 : decode cX8_raze 43 = .ok (.iload_n 1, 1) := by decide +kernel
theorem dX8_raze_44 : decode cX8_raze 44 = .ok (.iconst 0, 1) := by decide +kernel
theorem dX8_raze_45 : decode cX8_raze 45 = .ok (.iastore, 1) := by decide +kernel
theorem dX8_raze_46 : decode cX8_raze 46 = .ok (.aload_n 0, 1) := by decide +kernel
theorem dX8_raze_47 : decode cX8_raze 47 = .ok (.iload_n 1, 1) := by decide +kernel
theorem dX8_raze_48 : decode cX8_raze 48 = .ok (.iconst 0, 1) := by decide +kernel
theorem dX8_raze_49 : decode cX8_raze 49 = .ok (.invokevirtual 87, 3) := by decide +kernel
theorem dX8_raze_52 : decode cX8_raze 52 = .ok (.iload_n 2, 1) := by decide +kernel
theorem dX8_raze_53 : decode cX8_raze 53 = .ok (.ireturn, 1) := by decide +kernel
theorem dX8_addEvent_0 : decode cX8_addEvent 0 = .ok (.aload_n 0, 1) := by decide +kernel
theorem dX8_addEvent_1 : decode cX8_addEvent 1 = .ok (.getfield 48, 3) := by decide +kernel
theorem dX8_addEvent_4 : decode cX8_addEvent 4 = .ok (.ifCond .lt 42, 3) := by decide +kernel
theorem dX8_addEvent_7 : decode cX8_addEvent 7 = .ok (.aload_n 0, 1) := by decide +kernel
theorem dX8_addEvent_8 : decode cX8_addEvent 8 = .ok (.getfield 48, 3) := by decide +kernel
theorem dX8_addEvent_11 : decode cX8_addEvent 11 = .ok (.bipush 30, 2) := by decide +kernel
theorem dX8_addEvent_13 : decode cX8_addEvent 13 = .ok (.if_icmp .ge 33, 3) := by decide +kernel
theorem dX8_addEvent_16 : decode cX8_addEvent 16 = .ok (.aload_n 0, 1) := by decide +kernel
theorem dX8_addEvent_17 : decode cX8_addEvent 17 = .ok (.getfield 24, 3) := by decide +kernel
theorem dX8_addEvent_20 : decode cX8_addEvent 20 = .ok (.aload_n 0, 1) := by decide +kernel
theorem dX8_addEvent_21 : decode cX8_addEvent 21 = .ok (.getfield 48, 3) := by decide +kernel
theorem dX8_addEvent_24 : decode cX8_addEvent 24 = .ok (.iload_n 1, 1) := by decide +kernel
theorem dX8_addEvent_25 : decode cX8_addEvent 25 = .ok (.iastore, 1) := by decide +kernel
theorem dX8_addEvent_26 : decode cX8_addEvent 26 = .ok (.aload_n 0, 1) := by decide +kernel
theorem dX8_addEvent_27 : decode cX8_addEvent 27 = .ok (.getfield 27, 3) := by decide +kernel
theorem dX8_addEvent_30 : decode cX8_addEvent 30 = .ok (.aload_n 0, 1) := by decide +kernel
theorem dX8_addEvent_31 : decode cX8_addEvent 31 = .ok (.getfield 48, 3) := by decide +kernel
theorem dX8_addEvent_34 : decode cX8_addEvent 34 = .ok (.iload_n 2, 1) := by decide +kernel
theorem dX8_addEvent_35 : decode cX8_addEvent 35 = .ok (.iastore, 1) := by decide +kernel
theorem dX8_addEvent_36 : decode cX8_addEvent 36 = .ok (.aload_n 0, 1) := by decide +kernel
theorem dX8_addEvent_37 : decode cX8_addEvent 37 = .ok (.dup, 1) := by decide +kernel
theorem dX8_addEvent_38 : decode cX8_addEvent 38 = .ok (.getfield 48, 3) := by decide +kernel
theorem dX8_addEvent_41 : decode cX8_addEvent 41 = .ok (.iconst 1, 1) := by decide +kernel
theorem dX8_addEvent_42 : decode cX8_addEvent 42 = .ok (.iadd, 1) := by decide +kernel
theorem dX8_addEvent_43 : decode cX8_addEvent 43 = .ok (.putfield 48, 3) := by decide +kernel
theorem dX8_addEvent_46 : decode cX8_addEvent 46 = .ok (.return_, 1) := by decide +kernel
theorem dX8_takeBack_0 : decode cX8_takeBack 0 = .ok (.iload_n 1, 1) := by decide +kernel
theorem dX8_takeBack_1 : decode cX8_takeBack 1 = .ok (.invokestatic 73, 3) := by decide +kernel
theorem dX8_takeBack_4 : decode cX8_takeBack 4 = .ok (.ifCond .eq 50, 3) := by decide +kernel
theorem dX8_takeBack_7 : decode cX8_takeBack 7 = .ok (.aload_n 0, 1) := by decide +kernel
theorem dX8_takeBack_8 : decode cX8_takeBack 8 = .ok (.iload_n 1, 1) := by decide +kernel
theorem dX8_takeBack_9 : decode cX8_takeBack 9 = .ok (.invokevirtual 80, 3) := by decide +kernel
theorem dX8_takeBack_12 : decode cX8_takeBack 12 = .ok (.ifCond .eq 42, 3) := by decide +kernel
theorem dX8_takeBack_15 : decode cX8_takeBack 15 = .ok (.aload_n 0, 1) := by decide +kernel
theorem dX8_takeBack_16 : decode cX8_takeBack 16 = .ok (.getfield 9, 3) := by decide +kernel
theorem dX8_takeBack_19 : decode cX8_takeBack 19 = .ok (.iload_n 1, 1) := by decide +kernel
theorem dX8_takeBack_20 : decode cX8_takeBack 20 = .ok (.iconst 0, 1) := by decide +kernel
theorem dX8_takeBack_21 : decode cX8_takeBack 21 = .ok (.iastore, 1) := by decide +kernel
theorem dX8_takeBack_22 : decode cX8_takeBack 22 = .ok (.aload_n 0, 1) := by decide +kernel
theorem dX8_takeBack_23 : decode cX8_takeBack 23 = .ok (.getfield 21, 3) := by decide +kernel
theorem dX8_takeBack_26 : decode cX8_takeBack 26 = .ok (.iload_n 1, 1) := by decide +kernel
theorem dX8_takeBack_27 : decode cX8_takeBack 27 = .ok (.iconst 4, 1) := by decide +kernel
theorem dX8_takeBack_28 : decode cX8_takeBack 28 = .ok (.idiv, 1) := by decide +kernel
theorem dX8_takeBack_29 : decode cX8_takeBack 29 = .ok (.dup2, 1) := by decide +kernel
theorem dX8_takeBack_30 : decode cX8_takeBack 30 = .ok (.iaload, 1) := by decide +kernel
theorem dX8_takeBack_31 : decode cX8_takeBack 31 = .ok (.iconst 1, 1) := by decide +kernel
theorem dX8_takeBack_32 : decode cX8_takeBack 32 = .ok (.isub, 1) := by decide +kernel
theorem dX8_takeBack_33 : decode cX8_takeBack 33 = .ok (.iastore, 1) := by decide +kernel
theorem dX8_takeBack_34 : decode cX8_takeBack 34 = .ok (.aload_n 0, 1) := by decide +kernel
theorem dX8_takeBack_35 : decode cX8_takeBack 35 = .ok (.dup, 1) := by decide +kernel
theorem dX8_takeBack_36 : decode cX8_takeBack 36 = .ok (.getfield 52, 3) := by decide +kernel
theorem dX8_takeBack_39 : decode cX8_takeBack 39 = .ok (.iconst 1, 1) := by decide +kernel
theorem dX8_takeBack_40 : decode cX8_takeBack 40 = .ok (.isub, 1) := by decide +kernel
theorem dX8_takeBack_41 : decode cX8_takeBack 41 = .ok (.putfield 52, 3) := by decide +kernel
theorem dX8_takeBack_44 : decode cX8_takeBack 44 = .ok (.aload_n 0, 1) := by decide +kernel
theorem dX8_takeBack_45 : decode cX8_takeBack 45 = .ok (.dup, 1) := by decide +kernel
theorem dX8_takeBack_46 : decode cX8_takeBack 46 = .ok (.getfield 48, 3) := by decide +kernel
theorem dX8_takeBack_49 : decode cX8_takeBack 49 = .ok (.iconst 1, 1) := by decide +kernel
theorem dX8_takeBack_50 : decode cX8_takeBack 50 = .ok (.isub, 1) := by decide +kernel
theorem dX8_takeBack_51 : decode cX8_takeBack 51 = .ok (.putfield 48, 3) := by decide +kernel
theorem dX8_takeBack_54 : decode cX8_takeBack 54 = .ok (.return_, 1) := by decide +kernel
theorem dX8_hasHouse_0 : decode cX8_hasHouse 0 = .ok (.aload_n 0, 1) := by decide +kernel
theorem dX8_hasHouse_1 : decode cX8_hasHouse 1 = .ok (.iload_n 1, 1) := by decide +kernel
theorem dX8_hasHouse_2 : decode cX8_hasHouse 2 = .ok (.invokevirtual 90, 3) := by decide +kernel
theorem dX8_hasHouse_5 : decode cX8_hasHouse 5 = .ok (.ifCond .eq 7, 3) := by decide +kernel
theorem dX8_hasHouse_8 : decode cX8_hasHouse 8 = .ok (.iconst 1, 1) := by decide +kernel
theorem dX8_hasHouse_9 : decode cX8_hasHouse 9 = .ok (.goto 4, 3) := by decide +kernel
theorem dX8_hasHouse_12 : decode cX8_hasHouse 12 = .ok (.iconst 0, 1) := by decide +kernel
theorem dX8_hasHouse_13 : decode cX8_hasHouse 13 = .ok (.ireturn, 1) := by decide +kernel
theorem dX8_numberAt_0 : decode cX8_numberAt 0 = .ok (.iload_n 1, 1) := by decide +kernel
theorem dX8_numberAt_1 : decode cX8_numberAt 1 = .ok (.invokestatic 73, 3) := by decide +kernel
theorem dX8_numberAt_4 : decode cX8_numberAt 4 = .ok (.ifCond .eq 12, 3) := by decide +kernel
theorem dX8_numberAt_7 : decode cX8_numberAt 7 = .ok (.aload_n 0, 1) := by decide +kernel
theorem dX8_numberAt_8 : decode cX8_numberAt 8 = .ok (.getfield 9, 3) := by decide +kernel
theorem dX8_numberAt_11 : decode cX8_numberAt 11 = .ok (.iload_n 1, 1) := by decide +kernel
theorem dX8_numberAt_12 : decode cX8_numberAt 12 = .ok (.iaload, 1) := by decide +kernel
theorem dX8_numberAt_13 : decode cX8_numberAt 13 = .ok (.goto 4, 3) := by decide +kernel
theorem dX8_numberAt_16 : decode cX8_numberAt 16 = .ok (.iconst 0, 1) := by decide +kernel
theorem dX8_numberAt_17 : decode cX8_numberAt 17 = .ok (.ireturn, 1) := by decide +kernel
theorem dX8_heightAt_0 : decode cX8_heightAt 0 = .ok (.iload_n 1, 1) := by decide +kernel
theorem dX8_heightAt_1 : decode cX8_heightAt 1 = .ok (.invokestatic 73, 3) := by decide +kernel
theorem dX8_heightAt_4 : decode cX8_heightAt 4 = .ok (.ifCond .eq 12, 3) := by decide +kernel
theorem dX8_heightAt_7 : decode cX8_heightAt 7 = .ok (.aload_n 0, 1) := by decide +kernel
theorem dX8_heightAt_8 : decode cX8_heightAt 8 = .ok (.getfield 15, 3) := by decide +kernel
theorem dX8_heightAt_11 : decode cX8_heightAt 11 = .ok (.iload_n 1, 1) := by decide +kernel
theorem dX8_heightAt_12 : decode cX8_heightAt 12 = .ok (.iaload, 1) := by decide +kernel
theorem dX8_heightAt_13 : decode cX8_heightAt 13 = .ok (.goto 4, 3) := by decide +kernel
theorem dX8_heightAt_16 : decode cX8_heightAt 16 = .ok (.iconst 0, 1) := by decide +kernel
theorem dX8_heightAt_17 : decode cX8_heightAt 17 = .ok (.ireturn, 1) := by decide +kernel
theorem dX8_ageAt_0 : decode cX8_ageAt 0 = .ok (.iload_n 1, 1) := by decide +kernel
theorem dX8_ageAt_1 : decode cX8_ageAt 1 = .ok (.invokestatic 73, 3) := by decide +kernel
theorem dX8_ageAt_4 : decode cX8_ageAt 4 = .ok (.ifCond .eq 19, 3) := by decide +kernel
theorem dX8_ageAt_7 : decode cX8_ageAt 7 = .ok (.aload_n 0, 1) := by decide +kernel
theorem dX8_ageAt_8 : decode cX8_ageAt 8 = .ok (.getfield 48, 3) := by decide +kernel
theorem dX8_ageAt_11 : decode cX8_ageAt 11 = .ok (.iconst 1, 1) := by decide +kernel
theorem dX8_ageAt_12 : decode cX8_ageAt 12 = .ok (.isub, 1) := by decide +kernel
theorem dX8_ageAt_13 : decode cX8_ageAt 13 = .ok (.aload_n 0, 1) := by decide +kernel
theorem dX8_ageAt_14 : decode cX8_ageAt 14 = .ok (.getfield 18, 3) := by decide +kernel
theorem dX8_ageAt_17 : decode cX8_ageAt 17 = .ok (.iload_n 1, 1) := by decide +kernel
theorem dX8_ageAt_18 : decode cX8_ageAt 18 = .ok (.iaload, 1) := by decide +kernel
theorem dX8_ageAt_19 : decode cX8_ageAt 19 = .ok (.isub, 1) := by decide +kernel
theorem dX8_ageAt_20 : decode cX8_ageAt 20 = .ok (.goto 4, 3) := by decide +kernel
theorem dX8_ageAt_23 : decode cX8_ageAt 23 = .ok (.iconst 0, 1) := by decide +kernel
theorem dX8_ageAt_24 : decode cX8_ageAt 24 = .ok (.ireturn, 1) := by decide +kernel
theorem dX8_builtInQuarterOf_0 : decode cX8_builtInQuarterOf 0 = .ok (.iload_n 1, 1) := by decide +kernel
theorem dX8_builtInQuarterOf_1 : decode cX8_builtInQuarterOf 1 = .ok (.iconst 4, 1) := by decide +kernel
theorem dX8_builtInQuarterOf_2 : decode cX8_builtInQuarterOf 2 = .ok (.idiv, 1) := by decide +kernel
theorem dX8_builtInQuarterOf_3 : decode cX8_builtInQuarterOf 3 = .ok (.istore_n 2, 1) := by decide +kernel
theorem dX8_builtInQuarterOf_4 : decode cX8_builtInQuarterOf 4 = .ok (.iload_n 2, 1) := by decide +kernel
theorem dX8_builtInQuarterOf_5 : decode cX8_builtInQuarterOf 5 = .ok (.ifCond .lt 17, 3) := by decide +kernel
theorem dX8_builtInQuarterOf_8 : decode cX8_builtInQuarterOf 8 = .ok (.iload_n 2, 1) := by decide +kernel
theorem dX8_builtInQuarterOf_9 : decode cX8_builtInQuarterOf 9 = .ok (.iconst 3, 1) := by decide +kernel
theorem dX8_builtInQuarterOf_10 : decode cX8_builtInQuarterOf 10 = .ok (.if_icmp .ge 12, 3) := by decide +kernel
theorem dX8_builtInQuarterOf_13 : decode cX8_builtInQuarterOf 13 = .ok (.aload_n 0, 1) := by decide +kernel
theorem dX8_builtInQuarterOf_14 : decode cX8_builtInQuarterOf 14 = .ok (.getfield 21, 3) := by decide +kernel
theorem dX8_builtInQuarterOf_17 : decode cX8_builtInQuarterOf 17 = .ok (.iload_n 2, 1) := by decide +kernel
theorem dX8_builtInQuarterOf_18 : decode cX8_builtInQuarterOf 18 = .ok (.iaload, 1) := by decide +kernel
theorem dX8_builtInQuarterOf_19 : decode cX8_builtInQuarterOf 19 = .ok (.goto 4, 3) := by decide +kernel
theorem dX8_builtInQuarterOf_22 : decode cX8_builtInQuarterOf 22 = .ok (.iconst 0, 1) := by decide +kernel
theorem dX8_builtInQuarterOf_23 : decode cX8_builtInQuarterOf 23 = .ok (.ireturn, 1) := by decide +kernel
theorem dX8_plotsWith_0 : decode cX8_plotsWith 0 = .ok (.iconst 0, 1) := by decide +kernel
theorem dX8_plotsWith_1 : decode cX8_plotsWith 1 = .ok (.istore_n 2, 1) := by decide +kernel
theorem dX8_plotsWith_2 : decode cX8_plotsWith 2 = .ok (.iconst 0, 1) := by decide +kernel
theorem dX8_plotsWith_3 : decode cX8_plotsWith 3 = .ok (.istore_n 3, 1) := by decide +kernel
theorem dX8_plotsWith_4 : decode cX8_plotsWith 4 = .ok (.iload_n 3, 1) := by decide +kernel
theorem dX8_plotsWith_5 : decode cX8_plotsWith 5 = .ok (.bipush 12, 2) := by decide +kernel
theorem dX8_plotsWith_7 : decode cX8_plotsWith 7 = .ok (.if_icmp .ge 34, 3) := by decide +kernel
theorem dX8_plotsWith_10 : decode cX8_plotsWith 10 = .ok (.aload_n 0, 1) := by decide +kernel
theorem dX8_plotsWith_11 : decode cX8_plotsWith 11 = .ok (.getfield 9, 3) := by decide +kernel
theorem dX8_plotsWith_14 : decode cX8_plotsWith 14 = .ok (.iload_n 3, 1) := by decide +kernel
theorem dX8_plotsWith_15 : decode cX8_plotsWith 15 = .ok (.iaload, 1) := by decide +kernel
theorem dX8_plotsWith_16 : decode cX8_plotsWith 16 = .ok (.ifCond .eq 19, 3) := by decide +kernel
theorem dX8_plotsWith_19 : decode cX8_plotsWith 19 = .ok (.aload_n 0, 1) := by decide +kernel
theorem dX8_plotsWith_20 : decode cX8_plotsWith 20 = .ok (.getfield 9, 3) := by decide +kernel
theorem dX8_plotsWith_23 : decode cX8_plotsWith 23 = .ok (.iload_n 3, 1) := by decide +kernel
theorem dX8_plotsWith_24 : decode cX8_plotsWith 24 = .ok (.iaload, 1) := by decide +kernel
theorem dX8_plotsWith_25 : decode cX8_plotsWith 25 = .ok (.iload_n 1, 1) := by decide +kernel
theorem dX8_plotsWith_26 : decode cX8_plotsWith 26 = .ok (.if_icmp .ne 9, 3) := by decide +kernel
theorem dX8_plotsWith_29 : decode cX8_plotsWith 29 = .ok (.iload_n 2, 1) := by decide +kernel
theorem dX8_plotsWith_30 : decode cX8_plotsWith 30 = .ok (.iconst 1, 1) := by decide +kernel
theorem dX8_plotsWith_31 : decode cX8_plotsWith 31 = .ok (.iload_n 3, 1) := by decide +kernel
theorem dX8_plotsWith_32 : decode cX8_plotsWith 32 = .ok (.ishl, 1) := by decide +kernel
theorem dX8_plotsWith_33 : decode cX8_plotsWith 33 = .ok (.ior, 1) := by decide +kernel
theorem dX8_plotsWith_34 : decode cX8_plotsWith 34 = .ok (.istore_n 2, 1) := by decide +kernel
theorem dX8_plotsWith_35 : decode cX8_plotsWith 35 = .ok (.iinc 3 1, 3) := by decide +kernel
theorem dX8_plotsWith_38 : decode cX8_plotsWith 38 = .ok (.goto (-34), 3) := by decide +kernel
theorem dX8_plotsWith_41 : decode cX8_plotsWith 41 = .ok (.iload_n 2, 1) := by decide +kernel
theorem dX8_plotsWith_42 : decode cX8_plotsWith 42 = .ok (.ireturn, 1) := by decide +kernel
theorem dX8_houses_0 : decode cX8_houses 0 = .ok (.iconst 0, 1) := by decide +kernel
theorem dX8_houses_1 : decode cX8_houses 1 = .ok (.istore_n 1, 1) := by decide +kernel
theorem dX8_houses_2 : decode cX8_houses 2 = .ok (.iconst 0, 1) := by decide +kernel
theorem dX8_houses_3 : decode cX8_houses 3 = .ok (.istore_n 2, 1) := by decide +kernel
theorem dX8_houses_4 : decode cX8_houses 4 = .ok (.iload_n 2, 1) := by decide +kernel
theorem dX8_houses_5 : decode cX8_houses 5 = .ok (.bipush 12, 2) := by decide +kernel
theorem dX8_houses_7 : decode cX8_houses 7 = .ok (.if_icmp .ge 21, 3) := by decide +kernel
theorem dX8_houses_10 : decode cX8_houses 10 = .ok (.aload_n 0, 1) := by decide +kernel
theorem dX8_houses_11 : decode cX8_houses 11 = .ok (.getfield 9, 3) := by decide +kernel
theorem dX8_houses_14 : decode cX8_houses 14 = .ok (.iload_n 2, 1) := by decide +kernel
theorem dX8_houses_15 : decode cX8_houses 15 = .ok (.iaload, 1) := by decide +kernel
theorem dX8_houses_16 : decode cX8_houses 16 = .ok (.ifCond .eq 6, 3) := by decide +kernel
theorem dX8_houses_19 : decode cX8_houses 19 = .ok (.iinc 1 1, 3) := by decide +kernel
theorem dX8_houses_22 : decode cX8_houses 22 = .ok (.iinc 2 1, 3) := by decide +kernel
theorem dX8_houses_25 : decode cX8_houses 25 = .ok (.goto (-21), 3) := by decide +kernel
theorem dX8_houses_28 : decode cX8_houses 28 = .ok (.iload_n 1, 1) := by decide +kernel
theorem dX8_houses_29 : decode cX8_houses 29 = .ok (.ireturn, 1) := by decide +kernel
theorem dX8_builtAheadOf_0 : decode cX8_builtAheadOf 0 = .ok (.aload_n 0, 1) := by decide +kernel
theorem dX8_builtAheadOf_1 : decode cX8_builtAheadOf 1 = .ok (.iload_n 1, 1) := by decide +kernel
theorem dX8_builtAheadOf_2 : decode cX8_builtAheadOf 2 = .ok (.invokevirtual 93, 3) := by decide +kernel
theorem dX8_builtAheadOf_5 : decode cX8_builtAheadOf 5 = .ok (.istore_n 2, 1) := by decide +kernel
theorem dX8_builtAheadOf_6 : decode cX8_builtAheadOf 6 = .ok (.iconst 0, 1) := by decide +kernel
theorem dX8_builtAheadOf_7 : decode cX8_builtAheadOf 7 = .ok (.istore_n 3, 1) := by decide +kernel
theorem dX8_builtAheadOf_8 : decode cX8_builtAheadOf 8 = .ok (.iconst 0, 1) := by decide +kernel
theorem dX8_builtAheadOf_9 : decode cX8_builtAheadOf 9 = .ok (.istore 4, 2) := by decide +kernel
theorem dX8_builtAheadOf_11 : decode cX8_builtAheadOf 11 = .ok (.iload 4, 2) := by decide +kernel
theorem dX8_builtAheadOf_13 : decode cX8_builtAheadOf 13 = .ok (.bipush 12, 2) := by decide +kernel
theorem dX8_builtAheadOf_15 : decode cX8_builtAheadOf 15 = .ok (.if_icmp .ge 31, 3) := by decide +kernel
theorem dX8_builtAheadOf_18 : decode cX8_builtAheadOf 18 = .ok (.aload_n 0, 1) := by decide +kernel
theorem dX8_builtAheadOf_19 : decode cX8_builtAheadOf 19 = .ok (.iload 4, 2) := by decide +kernel
theorem dX8_builtAheadOf_21 : decode cX8_builtAheadOf 21 = .ok (.invokevirtual 80, 3) := by decide +kernel
theorem dX8_builtAheadOf_24 : decode cX8_builtAheadOf 24 = .ok (.ifCond .eq 16, 3) := by decide +kernel
theorem dX8_builtAheadOf_27 : decode cX8_builtAheadOf 27 = .ok (.aload_n 0, 1) := by decide +kernel
theorem dX8_builtAheadOf_28 : decode cX8_builtAheadOf 28 = .ok (.iload 4, 2) := by decide +kernel
theorem dX8_builtAheadOf_30 : decode cX8_builtAheadOf 30 = .ok (.invokevirtual 93, 3) := by decide +kernel
theorem dX8_builtAheadOf_33 : decode cX8_builtAheadOf 33 = .ok (.iload_n 2, 1) := by decide +kernel
theorem dX8_builtAheadOf_34 : decode cX8_builtAheadOf 34 = .ok (.if_icmp .le 6, 3) := by decide +kernel
theorem dX8_builtAheadOf_37 : decode cX8_builtAheadOf 37 = .ok (.iinc 3 1, 3) := by decide +kernel
theorem dX8_builtAheadOf_40 : decode cX8_builtAheadOf 40 = .ok (.iinc 4 1, 3) := by decide +kernel
theorem dX8_builtAheadOf_43 : decode cX8_builtAheadOf 43 = .ok (.goto (-32), 3) := by decide +kernel
theorem dX8_builtAheadOf_46 : decode cX8_builtAheadOf 46 = .ok (.iload_n 3, 1) := by decide +kernel
theorem dX8_builtAheadOf_47 : decode cX8_builtAheadOf 47 = .ok (.ireturn, 1) := by decide +kernel
theorem dX8_greatest_0 : decode cX8_greatest 0 = .ok (.iconst 0, 1) := by decide +kernel
theorem dX8_greatest_1 : decode cX8_greatest 1 = .ok (.istore_n 1, 1) := by decide +kernel
theorem dX8_greatest_2 : decode cX8_greatest 2 = .ok (.iconst 0, 1) := by decide +kernel
theorem dX8_greatest_3 : decode cX8_greatest 3 = .ok (.istore_n 2, 1) := by decide +kernel
theorem dX8_greatest_4 : decode cX8_greatest 4 = .ok (.iload_n 2, 1) := by decide +kernel
theorem dX8_greatest_5 : decode cX8_greatest 5 = .ok (.bipush 12, 2) := by decide +kernel
theorem dX8_greatest_7 : decode cX8_greatest 7 = .ok (.if_icmp .ge 20, 3) := by decide +kernel
theorem dX8_greatest_10 : decode cX8_greatest 10 = .ok (.iload_n 1, 1) := by decide +kernel
theorem dX8_greatest_11 : decode cX8_greatest 11 = .ok (.aload_n 0, 1) := by decide +kernel
theorem dX8_greatest_12 : decode cX8_greatest 12 = .ok (.getfield 9, 3) := by decide +kernel
theorem dX8_greatest_15 : decode cX8_greatest 15 = .ok (.iload_n 2, 1) := by decide +kernel
theorem dX8_greatest_16 : decode cX8_greatest 16 = .ok (.iaload, 1) := by decide +kernel
theorem dX8_greatest_17 : decode cX8_greatest 17 = .ok (.invokestatic 96, 3) := by decide +kernel
theorem dX8_greatest_20 : decode cX8_greatest 20 = .ok (.istore_n 1, 1) := by decide +kernel
theorem dX8_greatest_21 : decode cX8_greatest 21 = .ok (.iinc 2 1, 3) := by decide +kernel
theorem dX8_greatest_24 : decode cX8_greatest 24 = .ok (.goto (-20), 3) := by decide +kernel
theorem dX8_greatest_27 : decode cX8_greatest 27 = .ok (.iload_n 1, 1) := by decide +kernel
theorem dX8_greatest_28 : decode cX8_greatest 28 = .ok (.ireturn, 1) := by decide +kernel
theorem dX8_leastFree_0 : decode cX8_leastFree 0 = .ok (.iconst 0, 1) := by decide +kernel
theorem dX8_leastFree_1 : decode cX8_leastFree 1 = .ok (.istore_n 1, 1) := by decide +kernel
theorem dX8_leastFree_2 : decode cX8_leastFree 2 = .ok (.iconst 0, 1) := by decide +kernel
theorem dX8_leastFree_3 : decode cX8_leastFree 3 = .ok (.istore_n 2, 1) := by decide +kernel
theorem dX8_leastFree_4 : decode cX8_leastFree 4 = .ok (.iload_n 2, 1) := by decide +kernel
theorem dX8_leastFree_5 : decode cX8_leastFree 5 = .ok (.bipush 12, 2) := by decide +kernel
theorem dX8_leastFree_7 : decode cX8_leastFree 7 = .ok (.if_icmp .ge 31, 3) := by decide +kernel
theorem dX8_leastFree_10 : decode cX8_leastFree 10 = .ok (.aload_n 0, 1) := by decide +kernel
theorem dX8_leastFree_11 : decode cX8_leastFree 11 = .ok (.getfield 9, 3) := by decide +kernel
theorem dX8_leastFree_14 : decode cX8_leastFree 14 = .ok (.iload_n 2, 1) := by decide +kernel
theorem dX8_leastFree_15 : decode cX8_leastFree 15 = .ok (.iaload, 1) := by decide +kernel
theorem dX8_leastFree_16 : decode cX8_leastFree 16 = .ok (.bipush 12, 2) := by decide +kernel
theorem dX8_leastFree_18 : decode cX8_leastFree 18 = .ok (.if_icmp .gt 14, 3) := by decide +kernel
theorem dX8_leastFree_21 : decode cX8_leastFree 21 = .ok (.iload_n 1, 1) := by decide +kernel
theorem dX8_leastFree_22 : decode cX8_leastFree 22 = .ok (.iconst 1, 1) := by decide +kernel
theorem dX8_leastFree_23 : decode cX8_leastFree 23 = .ok (.aload_n 0, 1) := by decide +kernel
theorem dX8_leastFree_24 : decode cX8_leastFree 24 = .ok (.getfield 9, 3) := by decide +kernel
theorem dX8_leastFree_27 : decode cX8_leastFree 27 = .ok (.iload_n 2, 1) := by decide +kernel
theorem dX8_leastFree_28 : decode cX8_leastFree 28 = .ok (.iaload, 1) := by decide +kernel
theorem dX8_leastFree_29 : decode cX8_leastFree 29 = .ok (.ishl, 1) := by decide +kernel
theorem dX8_leastFree_30 : decode cX8_leastFree 30 = .ok (.ior, 1) := by decide +kernel
theorem dX8_leastFree_31 : decode cX8_leastFree 31 = .ok (.istore_n 1, 1) := by decide +kernel
theorem dX8_leastFree_32 : decode cX8_leastFree 32 = .ok (.iinc 2 1, 3) := by decide +kernel
theorem dX8_leastFree_35 : decode cX8_leastFree 35 = .ok (.goto (-31), 3) := by decide +kernel
theorem dX8_leastFree_38 : decode cX8_leastFree 38 = .ok (.iconst 1, 1) := by decide +kernel
theorem dX8_leastFree_39 : decode cX8_leastFree 39 = .ok (.istore_n 2, 1) := by decide +kernel
theorem dX8_leastFree_40 : decode cX8_leastFree 40 = .ok (.iload_n 2, 1) := by decide +kernel
theorem dX8_leastFree_41 : decode cX8_leastFree 41 = .ok (.bipush 12, 2) := by decide +kernel
theorem dX8_leastFree_43 : decode cX8_leastFree 43 = .ok (.if_icmp .gt 19, 3) := by decide +kernel
theorem dX8_leastFree_46 : decode cX8_leastFree 46 = .ok (.iload_n 1, 1) := by decide +kernel
theorem dX8_leastFree_47 : decode cX8_leastFree 47 = .ok (.iconst 1, 1) := by decide +kernel
theorem dX8_leastFree_48 : decode cX8_leastFree 48 = .ok (.iload_n 2, 1) := by decide +kernel
theorem dX8_leastFree_49 : decode cX8_leastFree 49 = .ok (.ishl, 1) := by decide +kernel
theorem dX8_leastFree_50 : decode cX8_leastFree 50 = .ok (.iand, 1) := by decide +kernel
theorem dX8_leastFree_51 : decode cX8_leastFree 51 = .ok (.ifCond .ne 5, 3) := by decide +kernel
theorem dX8_leastFree_54 : decode cX8_leastFree 54 = .ok (.iload_n 2, 1) := by decide +kernel
theorem dX8_leastFree_55 : decode cX8_leastFree 55 = .ok (.ireturn, 1) := by decide +kernel
theorem dX8_leastFree_56 : decode cX8_leastFree 56 = .ok (.iinc 2 1, 3) := by decide +kernel
theorem dX8_leastFree_59 : decode cX8_leastFree 59 = .ok (.goto (-19), 3) := by decide +kernel
theorem dX8_leastFree_62 : decode cX8_leastFree 62 = .ok (.bipush 13, 2) := by decide +kernel
theorem dX8_leastFree_64 : decode cX8_leastFree 64 = .ok (.ireturn, 1) := by decide +kernel
theorem dX8_freeNumbers_0 : decode cX8_freeNumbers 0 = .ok (.aload_n 0, 1) := by decide +kernel
theorem dX8_freeNumbers_1 : decode cX8_freeNumbers 1 = .ok (.invokevirtual 101, 3) := by decide +kernel
theorem dX8_freeNumbers_4 : decode cX8_freeNumbers 4 = .ok (.istore_n 1, 1) := by decide +kernel
theorem dX8_freeNumbers_5 : decode cX8_freeNumbers 5 = .ok (.iconst 0, 1) := by decide +kernel
theorem dX8_freeNumbers_6 : decode cX8_freeNumbers 6 = .ok (.istore_n 2, 1) := by decide +kernel
theorem dX8_freeNumbers_7 : decode cX8_freeNumbers 7 = .ok (.iconst 1, 1) := by decide +kernel
theorem dX8_freeNumbers_8 : decode cX8_freeNumbers 8 = .ok (.istore_n 3, 1) := by decide +kernel
theorem dX8_freeNumbers_9 : decode cX8_freeNumbers 9 = .ok (.iload_n 3, 1) := by decide +kernel
theorem dX8_freeNumbers_10 : decode cX8_freeNumbers 10 = .ok (.iload_n 1, 1) := by decide +kernel
theorem dX8_freeNumbers_11 : decode cX8_freeNumbers 11 = .ok (.if_icmp .ge 20, 3) := by decide +kernel
theorem dX8_freeNumbers_14 : decode cX8_freeNumbers 14 = .ok (.aload_n 0, 1) := by decide +kernel
theorem dX8_freeNumbers_15 : decode cX8_freeNumbers 15 = .ok (.iload_n 3, 1) := by decide +kernel
theorem dX8_freeNumbers_16 : decode cX8_freeNumbers 16 = .ok (.invokevirtual 105, 3) := by decide +kernel
theorem dX8_freeNumbers_19 : decode cX8_freeNumbers 19 = .ok (.ifCond .ne 6, 3) := by decide +kernel
theorem dX8_freeNumbers_22 : decode cX8_freeNumbers 22 = .ok (.iinc 2 1, 3) := by decide +kernel
theorem dX8_freeNumbers_25 : decode cX8_freeNumbers 25 = .ok (.iinc 3 1, 3) := by decide +kernel
theorem dX8_freeNumbers_28 : decode cX8_freeNumbers 28 = .ok (.goto (-19), 3) := by decide +kernel
theorem dX8_freeNumbers_31 : decode cX8_freeNumbers 31 = .ok (.iload_n 2, 1) := by decide +kernel
theorem dX8_freeNumbers_32 : decode cX8_freeNumbers 32 = .ok (.ireturn, 1) := by decide +kernel
theorem dX8_longestRise_0 : decode cX8_longestRise 0 = .ok (.iconst 0, 1) := by decide +kernel
theorem dX8_longestRise_1 : decode cX8_longestRise 1 = .ok (.istore_n 1, 1) := by decide +kernel
theorem dX8_longestRise_2 : decode cX8_longestRise 2 = .ok (.iconst 0, 1) := by decide +kernel
theorem dX8_longestRise_3 : decode cX8_longestRise 3 = .ok (.istore_n 2, 1) := by decide +kernel
theorem dX8_longestRise_4 : decode cX8_longestRise 4 = .ok (.iload_n 2, 1) := by decide +kernel
theorem dX8_longestRise_5 : decode cX8_longestRise 5 = .ok (.bipush 12, 2) := by decide +kernel
theorem dX8_longestRise_7 : decode cX8_longestRise 7 = .ok (.if_icmp .ge 49, 3) := by decide +kernel
theorem dX8_longestRise_10 : decode cX8_longestRise 10 = .ok (.aload_n 0, 1) := by decide +kernel
theorem dX8_longestRise_11 : decode cX8_longestRise 11 = .ok (.getfield 30, 3) := by decide +kernel
theorem dX8_longestRise_14 : decode cX8_longestRise 14 = .ok (.iload_n 2, 1) := by decide +kernel
theorem dX8_longestRise_15 : decode cX8_longestRise 15 = .ok (.iconst 0, 1) := by decide +kernel
theorem dX8_longestRise_16 : decode cX8_longestRise 16 = .ok (.iastore, 1) := by decide +kernel
theorem dX8_longestRise_17 : decode cX8_longestRise 17 = .ok (.aload_n 0, 1) := by decide +kernel
theorem dX8_longestRise_18 : decode cX8_longestRise 18 = .ok (.getfield 9, 3) := by decide +kernel
theorem dX8_longestRise_21 : decode cX8_longestRise 21 = .ok (.iload_n 2, 1) := by decide +kernel
theorem dX8_longestRise_22 : decode cX8_longestRise 22 = .ok (.iaload, 1) := by decide +kernel
theorem dX8_longestRise_23 : decode cX8_longestRise 23 = .ok (.ifCond .eq 16, 3) := by decide +kernel
theorem dX8_longestRise_26 : decode cX8_longestRise 26 = .ok (.aload_n 0, 1) := by decide +kernel
theorem dX8_longestRise_27 : decode cX8_longestRise 27 = .ok (.getfield 30, 3) := by decide +kernel
theorem dX8_longestRise_30 : decode cX8_longestRise 30 = .ok (.iload_n 2, 1) := by decide +kernel
theorem dX8_longestRise_31 : decode cX8_longestRise 31 = .ok (.iconst 1, 1) := by decide +kernel
theorem dX8_longestRise_32 : decode cX8_longestRise 32 = .ok (.aload_n 0, 1) := by decide +kernel
theorem dX8_longestRise_33 : decode cX8_longestRise 33 = .ok (.iload_n 2, 1) := by decide +kernel
theorem dX8_longestRise_34 : decode cX8_longestRise 34 = .ok (.invokevirtual 108, 3) := by decide +kernel
theorem dX8_longestRise_37 : decode cX8_longestRise 37 = .ok (.iadd, 1) := by decide +kernel
theorem dX8_longestRise_38 : decode cX8_longestRise 38 = .ok (.iastore, 1) := by decide +kernel
theorem dX8_longestRise_39 : decode cX8_longestRise 39 = .ok (.iload_n 1, 1) := by decide +kernel
theorem dX8_longestRise_40 : decode cX8_longestRise 40 = .ok (.aload_n 0, 1) := by decide +kernel
theorem dX8_longestRise_41 : decode cX8_longestRise 41 = .ok (.getfield 30, 3) := by decide +kernel
theorem dX8_longestRise_44 : decode cX8_longestRise 44 = .ok (.iload_n 2, 1) := by decide +kernel
theorem dX8_longestRise_45 : decode cX8_longestRise 45 = .ok (.iaload, 1) := by decide +kernel
theorem dX8_longestRise_46 : decode cX8_longestRise 46 = .ok (.invokestatic 96, 3) := by decide +kernel
theorem dX8_longestRise_49 : decode cX8_longestRise 49 = .ok (.istore_n 1, 1) := by decide +kernel
theorem dX8_longestRise_50 : decode cX8_longestRise 50 = .ok (.iinc 2 1, 3) := by decide +kernel
theorem dX8_longestRise_53 : decode cX8_longestRise 53 = .ok (.goto (-49), 3) := by decide +kernel
theorem dX8_longestRise_56 : decode cX8_longestRise 56 = .ok (.iload_n 1, 1) := by decide +kernel
theorem dX8_longestRise_57 : decode cX8_longestRise 57 = .ok (.ireturn, 1) := by decide +kernel
theorem dX8_longestRiseBelow_0 : decode cX8_longestRiseBelow 0 = .ok (.iconst 0, 1) := by decide +kernel
theorem dX8_longestRiseBelow_1 : decode cX8_longestRiseBelow 1 = .ok (.istore_n 2, 1) := by decide +kernel
theorem dX8_longestRiseBelow_2 : decode cX8_longestRiseBelow 2 = .ok (.iconst 0, 1) := by decide +kernel
theorem dX8_longestRiseBelow_3 : decode cX8_longestRiseBelow 3 = .ok (.istore_n 3, 1) := by decide +kernel
theorem dX8_longestRiseBelow_4 : decode cX8_longestRiseBelow 4 = .ok (.iload_n 3, 1) := by decide +kernel
theorem dX8_longestRiseBelow_5 : decode cX8_longestRiseBelow 5 = .ok (.iload_n 1, 1) := by decide +kernel
theorem dX8_longestRiseBelow_6 : decode cX8_longestRiseBelow 6 = .ok (.if_icmp .ge 40, 3) := by decide +kernel
theorem dX8_longestRiseBelow_9 : decode cX8_longestRiseBelow 9 = .ok (.iload_n 3, 1) := by decide +kernel
theorem dX8_longestRiseBelow_10 : decode cX8_longestRiseBelow 10 = .ok (.bipush 12, 2) := by decide +kernel
theorem dX8_longestRiseBelow_12 : decode cX8_longestRiseBelow 12 = .ok (.if_icmp .ge 34, 3) := by decide +kernel
theorem dX8_longestRiseBelow_15 : decode cX8_longestRiseBelow 15 = .ok (.aload_n 0, 1) := by decide +kernel
theorem dX8_longestRiseBelow_16 : decode cX8_longestRiseBelow 16 = .ok (.getfield 9, 3) := by decide +kernel
theorem dX8_longestRiseBelow_19 : decode cX8_longestRiseBelow 19 = .ok (.iload_n 3, 1) := by decide +kernel
theorem dX8_longestRiseBelow_20 : decode cX8_longestRiseBelow 20 = .ok (.iaload, 1) := by decide +kernel
theorem dX8_longestRiseBelow_21 : decode cX8_longestRiseBelow 21 = .ok (.aload_n 0, 1) := by decide +kernel
theorem dX8_longestRiseBelow_22 : decode cX8_longestRiseBelow 22 = .ok (.iload_n 1, 1) := by decide +kernel
theorem dX8_longestRiseBelow_23 : decode cX8_longestRiseBelow 23 = .ok (.invokevirtual 90, 3) := by decide +kernel
theorem dX8_longestRiseBelow_26 : decode cX8_longestRiseBelow 26 = .ok (.if_icmp .ge 14, 3) := by decide +kernel
theorem dX8_longestRiseBelow_29 : decode cX8_longestRiseBelow 29 = .ok (.iload_n 2, 1) := by decide +kernel
theorem dX8_longestRiseBelow_30 : decode cX8_longestRiseBelow 30 = .ok (.aload_n 0, 1) := by decide +kernel
theorem dX8_longestRiseBelow_31 : decode cX8_longestRiseBelow 31 = .ok (.getfield 30, 3) := by decide +kernel
theorem dX8_longestRiseBelow_34 : decode cX8_longestRiseBelow 34 = .ok (.iload_n 3, 1) := by decide +kernel
theorem dX8_longestRiseBelow_35 : decode cX8_longestRiseBelow 35 = .ok (.iaload, 1) := by decide +kernel
theorem dX8_longestRiseBelow_36 : decode cX8_longestRiseBelow 36 = .ok (.invokestatic 96, 3) := by decide +kernel
theorem dX8_longestRiseBelow_39 : decode cX8_longestRiseBelow 39 = .ok (.istore_n 2, 1) := by decide +kernel
theorem dX8_longestRiseBelow_40 : decode cX8_longestRiseBelow 40 = .ok (.iinc 3 1, 3) := by decide +kernel
theorem dX8_longestRiseBelow_43 : decode cX8_longestRiseBelow 43 = .ok (.goto (-39), 3) := by decide +kernel
theorem dX8_longestRiseBelow_46 : decode cX8_longestRiseBelow 46 = .ok (.iload_n 2, 1) := by decide +kernel
theorem dX8_longestRiseBelow_47 : decode cX8_longestRiseBelow 47 = .ok (.ireturn, 1) := by decide +kernel
theorem dX8_pairsNotRising_0 : decode cX8_pairsNotRising 0 = .ok (.iconst 0, 1) := by decide +kernel
theorem dX8_pairsNotRising_1 : decode cX8_pairsNotRising 1 = .ok (.istore_n 1, 1) := by decide +kernel
theorem dX8_pairsNotRising_2 : decode cX8_pairsNotRising 2 = .ok (.iconst 0, 1) := by decide +kernel
theorem dX8_pairsNotRising_3 : decode cX8_pairsNotRising 3 = .ok (.istore_n 2, 1) := by decide +kernel
theorem dX8_pairsNotRising_4 : decode cX8_pairsNotRising 4 = .ok (.iconst 0, 1) := by decide +kernel
theorem dX8_pairsNotRising_5 : decode cX8_pairsNotRising 5 = .ok (.istore_n 3, 1) := by decide +kernel
theorem dX8_pairsNotRising_6 : decode cX8_pairsNotRising 6 = .ok (.iload_n 3, 1) := by decide +kernel
theorem dX8_pairsNotRising_7 : decode cX8_pairsNotRising 7 = .ok (.bipush 12, 2) := by decide +kernel
theorem dX8_pairsNotRising_9 : decode cX8_pairsNotRising 9 = .ok (.if_icmp .ge 38, 3) := by decide +kernel
theorem dX8_pairsNotRising_12 : decode cX8_pairsNotRising 12 = .ok (.aload_n 0, 1) := by decide +kernel
theorem dX8_pairsNotRising_13 : decode cX8_pairsNotRising 13 = .ok (.getfield 9, 3) := by decide +kernel
theorem dX8_pairsNotRising_16 : decode cX8_pairsNotRising 16 = .ok (.iload_n 3, 1) := by decide +kernel
theorem dX8_pairsNotRising_17 : decode cX8_pairsNotRising 17 = .ok (.iaload, 1) := by decide +kernel
theorem dX8_pairsNotRising_18 : decode cX8_pairsNotRising 18 = .ok (.ifCond .eq 23, 3) := by decide +kernel
theorem dX8_pairsNotRising_21 : decode cX8_pairsNotRising 21 = .ok (.aload_n 0, 1) := by decide +kernel
theorem dX8_pairsNotRising_22 : decode cX8_pairsNotRising 22 = .ok (.getfield 9, 3) := by decide +kernel
theorem dX8_pairsNotRising_25 : decode cX8_pairsNotRising 25 = .ok (.iload_n 3, 1) := by decide +kernel
theorem dX8_pairsNotRising_26 : decode cX8_pairsNotRising 26 = .ok (.iaload, 1) := by decide +kernel
theorem dX8_pairsNotRising_27 : decode cX8_pairsNotRising 27 = .ok (.iload_n 2, 1) := by decide +kernel
theorem dX8_pairsNotRising_28 : decode cX8_pairsNotRising 28 = .ok (.if_icmp .gt 6, 3) := by decide +kernel
theorem dX8_pairsNotRising_31 : decode cX8_pairsNotRising 31 = .ok (.iinc 1 1, 3) := by decide +kernel
theorem dX8_pairsNotRising_34 : decode cX8_pairsNotRising 34 = .ok (.aload_n 0, 1) := by decide +kernel
theorem dX8_pairsNotRising_35 : decode cX8_pairsNotRising 35 = .ok (.getfield 9, 3) := by decide +kernel
theorem dX8_pairsNotRising_38 : decode cX8_pairsNotRising 38 = .ok (.iload_n 3, 1) := by decide +kernel
theorem dX8_pairsNotRising_39 : decode cX8_pairsNotRising 39 = .ok (.iaload, 1) := by decide +kernel
theorem dX8_pairsNotRising_40 : decode cX8_pairsNotRising 40 = .ok (.istore_n 2, 1) := by decide +kernel
theorem dX8_pairsNotRising_41 : decode cX8_pairsNotRising 41 = .ok (.iinc 3 1, 3) := by decide +kernel
theorem dX8_pairsNotRising_44 : decode cX8_pairsNotRising 44 = .ok (.goto (-38), 3) := by decide +kernel
theorem dX8_pairsNotRising_47 : decode cX8_pairsNotRising 47 = .ok (.iload_n 1, 1) := by decide +kernel
theorem dX8_pairsNotRising_48 : decode cX8_pairsNotRising 48 = .ok (.ireturn, 1) := by decide +kernel
theorem dX8_hasNumbersOf_0 : decode cX8_hasNumbersOf 0 = .ok (.iconst 0, 1) := by decide +kernel
theorem dX8_hasNumbersOf_1 : decode cX8_hasNumbersOf 1 = .ok (.istore_n 2, 1) := by decide +kernel
theorem dX8_hasNumbersOf_2 : decode cX8_hasNumbersOf 2 = .ok (.iload_n 2, 1) := by decide +kernel
theorem dX8_hasNumbersOf_3 : decode cX8_hasNumbersOf 3 = .ok (.bipush 12, 2) := by decide +kernel
theorem dX8_hasNumbersOf_5 : decode cX8_hasNumbersOf 5 = .ok (.if_icmp .ge 26, 3) := by decide +kernel
theorem dX8_hasNumbersOf_8 : decode cX8_hasNumbersOf 8 = .ok (.aload_n 0, 1) := by decide +kernel
theorem dX8_hasNumbersOf_9 : decode cX8_hasNumbersOf 9 = .ok (.getfield 9, 3) := by decide +kernel
theorem dX8_hasNumbersOf_12 : decode cX8_hasNumbersOf 12 = .ok (.iload_n 2, 1) := by decide +kernel
theorem dX8_hasNumbersOf_13 : decode cX8_hasNumbersOf 13 = .ok (.iaload, 1) := by decide +kernel
theorem dX8_hasNumbersOf_14 : decode cX8_hasNumbersOf 14 = .ok (.aload_n 1, 1) := by decide +kernel
theorem dX8_hasNumbersOf_15 : decode cX8_hasNumbersOf 15 = .ok (.getfield 9, 3) := by decide +kernel
theorem dX8_hasNumbersOf_18 : decode cX8_hasNumbersOf 18 = .ok (.iload_n 2, 1) := by decide +kernel
theorem dX8_hasNumbersOf_19 : decode cX8_hasNumbersOf 19 = .ok (.iaload, 1) := by decide +kernel
theorem dX8_hasNumbersOf_20 : decode cX8_hasNumbersOf 20 = .ok (.if_icmp .eq 5, 3) := by decide +kernel
theorem dX8_hasNumbersOf_23 : decode cX8_hasNumbersOf 23 = .ok (.iconst 0, 1) := by decide +kernel
theorem dX8_hasNumbersOf_24 : decode cX8_hasNumbersOf 24 = .ok (.ireturn, 1) := by decide +kernel
theorem dX8_hasNumbersOf_25 : decode cX8_hasNumbersOf 25 = .ok (.iinc 2 1, 3) := by decide +kernel
theorem dX8_hasNumbersOf_28 : decode cX8_hasNumbersOf 28 = .ok (.goto (-26), 3) := by decide +kernel
theorem dX8_hasNumbersOf_31 : decode cX8_hasNumbersOf 31 = .ok (.iconst 1, 1) := by decide +kernel
theorem dX8_hasNumbersOf_32 : decode cX8_hasNumbersOf 32 = .ok (.ireturn, 1) := by decide +kernel
theorem dX8_canRaiseAs_0 : decode cX8_canRaiseAs 0 = .ok (.aload_n 1, 1) := by decide +kernel
theorem dX8_canRaiseAs_1 : decode cX8_canRaiseAs 1 = .ok (.iload_n 2, 1) := by decide +kernel
theorem dX8_canRaiseAs_2 : decode cX8_canRaiseAs 2 = .ok (.invokevirtual 80, 3) := by decide +kernel
theorem dX8_canRaiseAs_5 : decode cX8_canRaiseAs 5 = .ok (.ifCond .eq 37, 3) := by decide +kernel
theorem dX8_canRaiseAs_8 : decode cX8_canRaiseAs 8 = .ok (.aload_n 0, 1) := by decide +kernel
theorem dX8_canRaiseAs_9 : decode cX8_canRaiseAs 9 = .ok (.iload_n 2, 1) := by decide +kernel
theorem dX8_canRaiseAs_10 : decode cX8_canRaiseAs 10 = .ok (.invokevirtual 80, 3) := by decide +kernel
theorem dX8_canRaiseAs_13 : decode cX8_canRaiseAs 13 = .ok (.ifCond .ne 29, 3) := by decide +kernel
theorem dX8_canRaiseAs_16 : decode cX8_canRaiseAs 16 = .ok (.aload_n 0, 1) := by decide +kernel
theorem dX8_canRaiseAs_17 : decode cX8_canRaiseAs 17 = .ok (.getfield 38, 3) := by decide +kernel
theorem dX8_canRaiseAs_20 : decode cX8_canRaiseAs 20 = .ok (.aload_n 0, 1) := by decide +kernel
theorem dX8_canRaiseAs_21 : decode cX8_canRaiseAs 21 = .ok (.iload_n 2, 1) := by decide +kernel
theorem dX8_canRaiseAs_22 : decode cX8_canRaiseAs 22 = .ok (.aload_n 1, 1) := by decide +kernel
theorem dX8_canRaiseAs_23 : decode cX8_canRaiseAs 23 = .ok (.iload_n 2, 1) := by decide +kernel
theorem dX8_canRaiseAs_24 : decode cX8_canRaiseAs 24 = .ok (.invokevirtual 111, 3) := by decide +kernel
theorem dX8_canRaiseAs_27 : decode cX8_canRaiseAs 27 = .ok (.invokevirtual 83, 3) := by decide +kernel
theorem dX8_canRaiseAs_30 : decode cX8_canRaiseAs 30 = .ok (.aload_n 1, 1) := by decide +kernel
theorem dX8_canRaiseAs_31 : decode cX8_canRaiseAs 31 = .ok (.iload_n 2, 1) := by decide +kernel
theorem dX8_canRaiseAs_32 : decode cX8_canRaiseAs 32 = .ok (.invokevirtual 90, 3) := by decide +kernel
theorem dX8_canRaiseAs_35 : decode cX8_canRaiseAs 35 = .ok (.if_icmp .ne 7, 3) := by decide +kernel
theorem dX8_canRaiseAs_38 : decode cX8_canRaiseAs 38 = .ok (.iconst 1, 1) := by decide +kernel
theorem dX8_canRaiseAs_39 : decode cX8_canRaiseAs 39 = .ok (.goto 4, 3) := by decide +kernel
theorem dX8_canRaiseAs_42 : decode cX8_canRaiseAs 42 = .ok (.iconst 0, 1) := by decide +kernel
theorem dX8_canRaiseAs_43 : decode cX8_canRaiseAs 43 = .ok (.ireturn, 1) := by decide +kernel
theorem dX9_init_0 : decode cX9_init 0 = .ok (.aload_n 0, 1) := by decide +kernel
theorem dX9_init_1 : decode cX9_init 1 = .ok (.iload_n 1, 1) := by decide +kernel
theorem dX9_init_2 : decode cX9_init 2 = .ok (.iload_n 2, 1) := by decide +kernel
theorem dX9_init_3 : decode cX9_init 3 = .ok (.invokespecial 1, 3) := by decide +kernel
theorem dX9_init_6 : decode cX9_init 6 = .ok (.return_, 1) := by decide +kernel
theorem dX9_numberFor_0 : decode cX9_numberFor 0 = .ok (.iconst 2, 1) := by decide +kernel
theorem dX9_numberFor_1 : decode cX9_numberFor 1 = .ok (.aload_n 0, 1) := by decide +kernel
theorem dX9_numberFor_2 : decode cX9_numberFor 2 = .ok (.aload_n 1, 1) := by decide +kernel
theorem dX9_numberFor_3 : decode cX9_numberFor 3 = .ok (.iload_n 2, 1) := by decide +kernel
theorem dX9_numberFor_4 : decode cX9_numberFor 4 = .ok (.iload_n 3, 1) := by decide +kernel
theorem dX9_numberFor_5 : decode cX9_numberFor 5 = .ok (.invokespecial 7, 3) := by decide +kernel
theorem dX9_numberFor_8 : decode cX9_numberFor 8 = .ok (.imul, 1) := by decide +kernel
theorem dX9_numberFor_9 : decode cX9_numberFor 9 = .ok (.ireturn, 1) := by decide +kernel
theorem dX9_fail_0 : decode cX9_fail 0 = .ok (.return_, 1) := by decide +kernel
theorem dX10_init_0 : decode cX10_init 0 = .ok (.aload_n 0, 1) := by decide +kernel
theorem dX10_init_1 : decode cX10_init 1 = .ok (.invokespecial 3, 3) := by decide +kernel
theorem dX10_init_4 : decode cX10_init 4 = .ok (.aload_n 0, 1) := by decide +kernel
theorem dX10_init_5 : decode cX10_init 5 = .ok (.new 9, 3) := by decide +kernel
theorem dX10_init_8 : decode cX10_init 8 = .ok (.dup, 1) := by decide +kernel
theorem dX10_init_9 : decode cX10_init 9 = .ok (.invokespecial 11, 3) := by decide +kernel
theorem dX10_init_12 : decode cX10_init 12 = .ok (.putfield 12, 3) := by decide +kernel
theorem dX10_init_15 : decode cX10_init 15 = .ok (.aload_n 0, 1) := by decide +kernel
theorem dX10_init_16 : decode cX10_init 16 = .ok (.new 9, 3) := by decide +kernel
theorem dX10_init_19 : decode cX10_init 19 = .ok (.dup, 1) := by decide +kernel
theorem dX10_init_20 : decode cX10_init 20 = .ok (.invokespecial 11, 3) := by decide +kernel
theorem dX10_init_23 : decode cX10_init 23 = .ok (.putfield 16, 3) := by decide +kernel
theorem dX10_init_26 : decode cX10_init 26 = .ok (.aload_n 0, 1) := by decide +kernel
theorem dX10_init_27 : decode cX10_init 27 = .ok (.new 9, 3) := by decide +kernel
theorem dX10_init_30 : decode cX10_init 30 = .ok (.dup, 1) := by decide +kernel
theorem dX10_init_31 : decode cX10_init 31 = .ok (.invokespecial 11, 3) := by decide +kernel
theorem dX10_init_34 : decode cX10_init 34 = .ok (.putfield 19, 3) := by decide +kernel
theorem dX10_init_37 : decode cX10_init 37 = .ok (.aload_n 0, 1) := by decide +kernel
theorem dX10_init_38 : decode cX10_init 38 = .ok (.bipush 8, 2) := by decide +kernel
theorem dX10_init_40 : decode cX10_init 40 = .ok (.anewarray 22, 3) := by decide +kernel
theorem dX10_init_43 : decode cX10_init 43 = .ok (.putfield 24, 3) := by decide +kernel
theorem dX10_init_46 : decode cX10_init 46 = .ok (.iconst 0, 1) := by decide +kernel
theorem dX10_init_47 : decode cX10_init 47 = .ok (.istore_n 1, 1) := by decide +kernel
theorem dX10_init_48 : decode cX10_init 48 = .ok (.iload_n 1, 1) := by decide +kernel
theorem dX10_init_49 : decode cX10_init 49 = .ok (.aload_n 0, 1) := by decide +kernel
theorem dX10_init_50 : decode cX10_init 50 = .ok (.getfield 24, 3) := by decide +kernel
theorem dX10_init_53 : decode cX10_init 53 = .ok (.arraylength, 1) := by decide +kernel
theorem dX10_init_54 : decode cX10_init 54 = .ok (.if_icmp .ge 22, 3) := by decide +kernel
theorem dX10_init_57 : decode cX10_init 57 = .ok (.aload_n 0, 1) := by decide +kernel
theorem dX10_init_58 : decode cX10_init 58 = .ok (.getfield 24, 3) := by decide +kernel
theorem dX10_init_61 : decode cX10_init 61 = .ok (.iload_n 1, 1) := by decide +kernel
theorem dX10_init_62 : decode cX10_init 62 = .ok (.new 22, 3) := by decide +kernel
theorem dX10_init_65 : decode cX10_init 65 = .ok (.dup, 1) := by decide +kernel
theorem dX10_init_66 : decode cX10_init 66 = .ok (.invokespecial 28, 3) := by decide +kernel
theorem dX10_init_69 : decode cX10_init 69 = .ok (.aastore, 1) := by decide +kernel
theorem dX10_init_70 : decode cX10_init 70 = .ok (.iinc 1 1, 3) := by decide +kernel
theorem dX10_init_73 : decode cX10_init 73 = .ok (.goto (-25), 3) := by decide +kernel
theorem dX10_init_76 : decode cX10_init 76 = .ok (.return_, 1) := by decide +kernel
theorem dX10_street_0 : decode cX10_street 0 = .ok (.aload_n 0, 1) := by decide +kernel
theorem dX10_street_1 : decode cX10_street 1 = .ok (.iload_n 1, 1) := by decide +kernel
theorem dX10_street_2 : decode cX10_street 2 = .ok (.invokevirtual 29, 3) := by decide +kernel
theorem dX10_street_5 : decode cX10_street 5 = .ok (.astore_n 2, 1) := by decide +kernel
theorem dX10_street_6 : decode cX10_street 6 = .ok (.aload_n 2, 1) := by decide +kernel
theorem dX10_street_7 : decode cX10_street 7 = .ok (.ifnonnull 5, 3) := by decide +kernel
theorem dX10_street_10 : decode cX10_street 10 = .ok (.iconst (-1), 1) := by decide +kernel
theorem dX10_street_11 : decode cX10_street 11 = .ok (.ireturn, 1) := by decide +kernel
theorem dX10_street_12 : decode cX10_street 12 = .ok (.aload_n 2, 1) := by decide +kernel
theorem dX10_street_13 : decode cX10_street 13 = .ok (.iconst 0, 1) := by decide +kernel
theorem dX10_street_14 : decode cX10_street 14 = .ok (.invokevirtual 33, 3) := by decide +kernel
theorem dX10_street_17 : decode cX10_street 17 = .ok (.istore_n 3, 1) := by decide +kernel
theorem dX10_street_18 : decode cX10_street 18 = .ok (.iload_n 3, 1) := by decide +kernel
theorem dX10_street_19 : decode cX10_street 19 = .ok (.ifCond .eq 5, 3) := by decide +kernel
theorem dX10_street_22 : decode cX10_street 22 = .ok (.iload_n 3, 1) := by decide +kernel
theorem dX10_street_23 : decode cX10_street 23 = .ok (.ireturn, 1) := by decide +kernel
theorem dX10_street_24 : decode cX10_street 24 = .ok (.aload_n 2, 1) := by decide +kernel
theorem dX10_street_25 : decode cX10_street 25 = .ok (.invokestatic 37, 3) := by decide +kernel
theorem dX10_street_28 : decode cX10_street 28 = .ok (.istore 4, 2) := by decide +kernel
theorem dX10_street_30 : decode cX10_street 30 = .ok (.iload 4, 2) := by decide +kernel
theorem dX10_street_32 : decode cX10_street 32 = .ok (.iconst (-1), 1) := by decide +kernel
theorem dX10_street_33 : decode cX10_street 33 = .ok (.if_icmp .eq 10, 3) := by decide +kernel
theorem dX10_street_36 : decode cX10_street 36 = .ok (.sipush (-1000), 3) := by decide +kernel
theorem dX10_street_39 : decode cX10_street 39 = .ok (.iload 4, 2) := by decide +kernel
theorem dX10_street_41 : decode cX10_street 41 = .ok (.isub, 1) := by decide +kernel
theorem dX10_street_42 : decode cX10_street 42 = .ok (.ireturn, 1) := by decide +kernel
theorem dX10_street_43 : decode cX10_street 43 = .ok (.aload_n 0, 1) := by decide +kernel
theorem dX10_street_44 : decode cX10_street 44 = .ok (.aload_n 2, 1) := by decide +kernel
theorem dX10_street_45 : decode cX10_street 45 = .ok (.invokevirtual 41, 3) := by decide +kernel
theorem dX10_street_48 : decode cX10_street 48 = .ok (.ireturn, 1) := by decide +kernel
theorem dX10_build_0 : decode cX10_build 0 = .ok (.aload_n 0, 1) := by decide +kernel
theorem dX10_build_1 : decode cX10_build 1 = .ok (.getfield 12, 3) := by decide +kernel
theorem dX10_build_4 : decode cX10_build 4 = .ok (.iload_n 1, 1) := by decide +kernel
theorem dX10_build_5 : decode cX10_build 5 = .ok (.iload_n 2, 1) := by decide +kernel
theorem dX10_build_6 : decode cX10_build 6 = .ok (.invokevirtual 44, 3) := by decide +kernel
theorem dX10_build_9 : decode cX10_build 9 = .ok (.ireturn, 1) := by decide +kernel
theorem dX10_burn_0 : decode cX10_burn 0 = .ok (.aload_n 0, 1) := by decide +kernel
theorem dX10_burn_1 : decode cX10_burn 1 = .ok (.getfield 12, 3) := by decide +kernel
theorem dX10_burn_4 : decode cX10_burn 4 = .ok (.iload_n 1, 1) := by decide +kernel
theorem dX10_burn_5 : decode cX10_burn 5 = .ok (.invokevirtual 48, 3) := by decide +kernel
theorem dX10_burn_8 : decode cX10_burn 8 = .ok (.ireturn, 1) := by decide +kernel
theorem dX10_enact_0 : decode cX10_enact 0 = .ok (.aload_n 0, 1) := by decide +kernel
theorem dX10_enact_1 : decode cX10_enact 1 = .ok (.iload_n 1, 1) := by decide +kernel
theorem dX10_enact_2 : decode cX10_enact 2 = .ok (.invokevirtual 29, 3) := by decide +kernel
theorem dX10_enact_5 : decode cX10_enact 5 = .ok (.astore_n 2, 1) := by decide +kernel
theorem dX10_enact_6 : decode cX10_enact 6 = .ok (.aload_n 2, 1) := by decide +kernel
theorem dX10_enact_7 : decode cX10_enact 7 = .ok (.ifnonnull 5, 3) := by decide +kernel
theorem dX10_enact_10 : decode cX10_enact 10 = .ok (.iconst (-1), 1) := by decide +kernel
theorem dX10_enact_11 : decode cX10_enact 11 = .ok (.ireturn, 1) := by decide +kernel
theorem dX10_enact_12 : decode cX10_enact 12 = .ok (.aload_n 2, 1) := by decide +kernel
theorem dX10_enact_13 : decode cX10_enact 13 = .ok (.getfield 51, 3) := by decide +kernel
theorem dX10_enact_16 : decode cX10_enact 16 = .ok (.astore_n 3, 1) := by decide +kernel
theorem dX10_enact_17 : decode cX10_enact 17 = .ok (.aload_n 3, 1) := by decide +kernel
theorem dX10_enact_18 : decode cX10_enact 18 = .ok (.ifnonnull 8, 3) := by decide +kernel
theorem dX10_enact_21 : decode cX10_enact 21 = .ok (.aload_n 2, 1) := by decide +kernel
theorem dX10_enact_22 : decode cX10_enact 22 = .ok (.invokevirtual 55, 3) := by decide +kernel
theorem dX10_enact_25 : decode cX10_enact 25 = .ok (.ireturn, 1) := by decide +kernel
theorem dX10_enact_26 : decode cX10_enact 26 = .ok (.aload_n 0, 1) := by decide +kernel
theorem dX10_enact_27 : decode cX10_enact 27 = .ok (.getfield 12, 3) := by decide +kernel
theorem dX10_enact_30 : decode cX10_enact 30 = .ok (.getfield 59, 3) := by decide +kernel
theorem dX10_enact_33 : decode cX10_enact 33 = .ok (.getfield 60, 3) := by decide +kernel
theorem dX10_enact_36 : decode cX10_enact 36 = .ok (.istore 4, 2) := by decide +kernel
theorem dX10_enact_38 : decode cX10_enact 38 = .ok (.aload_n 0, 1) := by decide +kernel
theorem dX10_enact_39 : decode cX10_enact 39 = .ok (.getfield 12, 3) := by decide +kernel
theorem dX10_enact_42 : decode cX10_enact 42 = .ok (.aload_n 3, 1) := by decide +kernel
theorem dX10_enact_43 : decode cX10_enact 43 = .ok (.putfield 59, 3) := by decide +kernel
theorem dX10_enact_46 : decode cX10_enact 46 = .ok (.iload 4, 2) := by decide +kernel
theorem dX10_enact_48 : decode cX10_enact 48 = .ok (.ireturn, 1) := by decide +kernel
theorem dX10_house_0 : decode cX10_house 0 = .ok (.iload_n 1, 1) := by decide +kernel
theorem dX10_house_1 : decode cX10_house 1 = .ok (.invokestatic 66, 3) := by decide +kernel
theorem dX10_house_4 : decode cX10_house 4 = .ok (.ifCond .eq 12, 3) := by decide +kernel
theorem dX10_house_7 : decode cX10_house 7 = .ok (.iload_n 2, 1) := by decide +kernel
theorem dX10_house_8 : decode cX10_house 8 = .ok (.ifCond .lt 8, 3) := by decide +kernel
theorem dX10_house_11 : decode cX10_house 11 = .ok (.iload_n 2, 1) := by decide +kernel
theorem dX10_house_12 : decode cX10_house 12 = .ok (.iconst 2, 1) := by decide +kernel
theorem dX10_house_13 : decode cX10_house 13 = .ok (.if_icmp .le 5, 3) := by decide +kernel
theorem dX10_house_16 : decode cX10_house 16 = .ok (.iconst (-1), 1) := by decide +kernel
theorem dX10_house_17 : decode cX10_house 17 = .ok (.ireturn, 1) := by decide +kernel
theorem dX10_house_18 : decode cX10_house 18 = .ok (.aload_n 0, 1) := by decide +kernel
theorem dX10_house_19 : decode cX10_house 19 = .ok (.getfield 12, 3) := by decide +kernel
theorem dX10_house_22 : decode cX10_house 22 = .ok (.iload_n 1, 1) := by decide +kernel
theorem dX10_house_23 : decode cX10_house 23 = .ok (.invokevirtual 70, 3) := by decide +kernel
theorem dX10_house_26 : decode cX10_house 26 = .ok (.ifCond .ne 6, 3) := by decide +kernel
theorem dX10_house_29 : decode cX10_house 29 = .ok (.bipush (-4), 2) := by decide +kernel
theorem dX10_house_31 : decode cX10_house 31 = .ok (.ireturn, 1) := by decide +kernel
theorem dX10_house_32 : decode cX10_house 32 = .ok (.iload_n 2, 1) := by decide +kernel
theorem dX10_house_33 : decode cX10_house 33 = .ok (.lookupswitch 45 #[(0, 27), (1, 36)], 27) := by decide +kernel
theorem dX10_house_60 : decode cX10_house 60 = .ok (.aload_n 0, 1) := by decide +kernel
theorem dX10_house_61 : decode cX10_house 61 = .ok (.getfield 12, 3) := by decide +kernel
theorem dX10_house_64 : decode cX10_house 64 = .ok (.iload_n 1, 1) := by decide +kernel
theorem dX10_house_65 : decode cX10_house 65 = .ok (.invokevirtual 73, 3) := by decide +kernel
theorem dX10_house_68 : decode cX10_house 68 = .ok (.ireturn, 1) := by decide +kernel
theorem dX10_house_69 : decode cX10_house 69 = .ok (.aload_n 0, 1) := by decide +kernel
theorem dX10_house_70 : decode cX10_house 70 = .ok (.getfield 12, 3) := by decide +kernel
theorem dX10_house_73 : decode cX10_house 73 = .ok (.iload_n 1, 1) := by decide +kernel
theorem dX10_house_74 : decode cX10_house 74 = .ok (.invokevirtual 76, 3) := by decide +kernel
theorem dX10_house_77 : decode cX10_house 77 = .ok (.ireturn, 1) := by decide +kernel
theorem dX10_house_78 : decode cX10_house 78 = .ok (.aload_n 0, 1) := by decide +kernel
theorem dX10_house_79 : decode cX10_house 79 = .ok (.getfield 12, 3) := by decide +kernel
theorem dX10_house_82 : decode cX10_house 82 = .ok (.iload_n 1, 1) := by decide +kernel
theorem dX10_house_83 : decode cX10_house 83 = .ok (.invokevirtual 79, 3) := by decide +kernel
theorem dX10_house_86 : decode cX10_house 86 = .ok (.ireturn, 1) := by decide +kernel
theorem dX10_have_0 : decode cX10_have 0 = .ok (.iload_n 1, 1) := by decide +kernel
theorem dX10_have_1 : decode cX10_have 1 = .ok (.iconst 1, 1) := by decide +kernel
theorem dX10_have_2 : decode cX10_have 2 = .ok (.if_icmp .ge 7, 3) := by decide +kernel
theorem dX10_have_5 : decode cX10_have 5 = .ok (.iconst (-1), 1) := by decide +kernel
theorem dX10_have_6 : decode cX10_have 6 = .ok (.goto 11, 3) := by decide +kernel
theorem dX10_have_9 : decode cX10_have 9 = .ok (.aload_n 0, 1) := by decide +kernel
theorem dX10_have_10 : decode cX10_have 10 = .ok (.getfield 12, 3) := by decide +kernel
theorem dX10_have_13 : decode cX10_have 13 = .ok (.iload_n 1, 1) := by decide +kernel
theorem dX10_have_14 : decode cX10_have 14 = .ok (.invokevirtual 82, 3) := by decide +kernel
theorem dX10_have_17 : decode cX10_have 17 = .ok (.ireturn, 1) := by decide +kernel
theorem dX10_would_0 : decode cX10_would 0 = .ok (.iload_n 1, 1) := by decide +kernel
theorem dX10_would_1 : decode cX10_would 1 = .ok (.invokestatic 66, 3) := by decide +kernel
theorem dX10_would_4 : decode cX10_would 4 = .ok (.ifCond .eq 29, 3) := by decide +kernel
theorem dX10_would_7 : decode cX10_would 7 = .ok (.iload_n 2, 1) := by decide +kernel
theorem dX10_would_8 : decode cX10_would 8 = .ok (.invokestatic 85, 3) := by decide +kernel
theorem dX10_would_11 : decode cX10_would 11 = .ok (.ifCond .eq 22, 3) := by decide +kernel
theorem dX10_would_14 : decode cX10_would 14 = .ok (.aload_n 0, 1) := by decide +kernel
theorem dX10_would_15 : decode cX10_would 15 = .ok (.getfield 12, 3) := by decide +kernel
theorem dX10_would_18 : decode cX10_would 18 = .ok (.getfield 59, 3) := by decide +kernel
theorem dX10_would_21 : decode cX10_would 21 = .ok (.aload_n 0, 1) := by decide +kernel
theorem dX10_would_22 : decode cX10_would 22 = .ok (.getfield 12, 3) := by decide +kernel
theorem dX10_would_25 : decode cX10_would 25 = .ok (.iload_n 1, 1) := by decide +kernel
theorem dX10_would_26 : decode cX10_would 26 = .ok (.iload_n 2, 1) := by decide +kernel
theorem dX10_would_27 : decode cX10_would 27 = .ok (.invokevirtual 88, 3) := by decide +kernel
theorem dX10_would_30 : decode cX10_would 30 = .ok (.goto 4, 3) := by decide +kernel
theorem dX10_would_33 : decode cX10_would 33 = .ok (.iconst (-1), 1) := by decide +kernel
theorem dX10_would_34 : decode cX10_would 34 = .ok (.ireturn, 1) := by decide +kernel
theorem dX10_where_0 : decode cX10_where 0 = .ok (.iload_n 1, 1) := by decide +kernel
theorem dX10_where_1 : decode cX10_where 1 = .ok (.iconst 1, 1) := by decide +kernel
theorem dX10_where_2 : decode cX10_where 2 = .ok (.if_icmp .lt 10, 3) := by decide +kernel
theorem dX10_where_5 : decode cX10_where 5 = .ok (.iload_n 2, 1) := by decide +kernel
theorem dX10_where_6 : decode cX10_where 6 = .ok (.invokestatic 85, 3) := by decide +kernel
theorem dX10_where_9 : decode cX10_where 9 = .ok (.ifCond .ne 5, 3) := by decide +kernel
theorem dX10_where_12 : decode cX10_where 12 = .ok (.iconst (-1), 1) := by decide +kernel
theorem dX10_where_13 : decode cX10_where 13 = .ok (.ireturn, 1) := by decide +kernel
theorem dX10_where_14 : decode cX10_where 14 = .ok (.iconst 0, 1) := by decide +kernel
theorem dX10_where_15 : decode cX10_where 15 = .ok (.istore_n 3, 1) := by decide +kernel
theorem dX10_where_16 : decode cX10_where 16 = .ok (.iconst 0, 1) := by decide +kernel
theorem dX10_where_17 : decode cX10_where 17 = .ok (.istore 4, 2) := by decide +kernel
theorem dX10_where_19 : decode cX10_where 19 = .ok (.iload 4, 2) := by decide +kernel
theorem dX10_where_21 : decode cX10_where 21 = .ok (.bipush 12, 2) := by decide +kernel
theorem dX10_where_23 : decode cX10_where 23 = .ok (.if_icmp .ge 49, 3) := by decide +kernel
theorem dX10_where_26 : decode cX10_where 26 = .ok (.aload_n 0, 1) := by decide +kernel
theorem dX10_where_27 : decode cX10_where 27 = .ok (.getfield 12, 3) := by decide +kernel
theorem dX10_where_30 : decode cX10_where 30 = .ok (.iload 4, 2) := by decide +kernel
theorem dX10_where_32 : decode cX10_where 32 = .ok (.invokevirtual 70, 3) := by decide +kernel
theorem dX10_where_35 : decode cX10_where 35 = .ok (.ifCond .ne 31, 3) := by decide +kernel
theorem dX10_where_38 : decode cX10_where 38 = .ok (.aload_n 0, 1) := by decide +kernel
theorem dX10_where_39 : decode cX10_where 39 = .ok (.getfield 12, 3) := by decide +kernel
theorem dX10_where_42 : decode cX10_where 42 = .ok (.getfield 59, 3) := by decide +kernel
theorem dX10_where_45 : decode cX10_where 45 = .ok (.aload_n 0, 1) := by decide +kernel
theorem dX10_where_46 : decode cX10_where 46 = .ok (.getfield 12, 3) := by decide +kernel
theorem dX10_where_49 : decode cX10_where 49 = .ok (.iload 4, 2) := by decide +kernel
theorem dX10_where_51 : decode cX10_where 51 = .ok (.iload_n 2, 1) := by decide +kernel
theorem dX10_where_52 : decode cX10_where 52 = .ok (.invokevirtual 88, 3) := by decide +kernel
theorem dX10_where_55 : decode cX10_where 55 = .ok (.iload_n 1, 1) := by decide +kernel
theorem dX10_where_56 : decode cX10_where 56 = .ok (.if_icmp .ne 10, 3) := by decide +kernel
theorem dX10_where_59 : decode cX10_where 59 = .ok (.iload_n 3, 1) := by decide +kernel
theorem dX10_where_60 : decode cX10_where 60 = .ok (.iconst 1, 1) := by decide +kernel
theorem dX10_where_61 : decode cX10_where 61 = .ok (.iload 4, 2) := by decide +kernel
theorem dX10_where_63 : decode cX10_where 63 = .ok (.ishl, 1) := by decide +kernel
theorem dX10_where_64 : decode cX10_where 64 = .ok (.ior, 1) := by decide +kernel
theorem dX10_where_65 : decode cX10_where 65 = .ok (.istore_n 3, 1) := by decide +kernel
theorem dX10_where_66 : decode cX10_where 66 = .ok (.iinc 4 1, 3) := by decide +kernel
theorem dX10_where_69 : decode cX10_where 69 = .ok (.goto (-50), 3) := by decide +kernel
theorem dX10_where_72 : decode cX10_where 72 = .ok (.iload_n 3, 1) := by decide +kernel
theorem dX10_where_73 : decode cX10_where 73 = .ok (.ireturn, 1) := by decide +kernel
theorem dX10_letter_0 : decode cX10_letter 0 = .ok (.iload_n 1, 1) := by decide +kernel
theorem dX10_letter_1 : decode cX10_letter 1 = .ok (.iconst 1, 1) := by decide +kernel
theorem dX10_letter_2 : decode cX10_letter 2 = .ok (.if_icmp .lt 9, 3) := by decide +kernel
theorem dX10_letter_5 : decode cX10_letter 5 = .ok (.iload_n 1, 1) := by decide +kernel
theorem dX10_letter_6 : decode cX10_letter 6 = .ok (.bipush 12, 2) := by decide +kernel
theorem dX10_letter_8 : decode cX10_letter 8 = .ok (.if_icmp .le 5, 3) := by decide +kernel
theorem dX10_letter_11 : decode cX10_letter 11 = .ok (.iconst (-1), 1) := by decide +kernel
theorem dX10_letter_12 : decode cX10_letter 12 = .ok (.ireturn, 1) := by decide +kernel
theorem dX10_letter_13 : decode cX10_letter 13 = .ok (.iconst 0, 1) := by decide +kernel
theorem dX10_letter_14 : decode cX10_letter 14 = .ok (.istore_n 2, 1) := by decide +kernel
theorem dX10_letter_15 : decode cX10_letter 15 = .ok (.iload_n 2, 1) := by decide +kernel
theorem dX10_letter_16 : decode cX10_letter 16 = .ok (.bipush 12, 2) := by decide +kernel
theorem dX10_letter_18 : decode cX10_letter 18 = .ok (.if_icmp .ge 36, 3) := by decide +kernel
theorem dX10_letter_21 : decode cX10_letter 21 = .ok (.aload_n 0, 1) := by decide +kernel
theorem dX10_letter_22 : decode cX10_letter 22 = .ok (.getfield 12, 3) := by decide +kernel
theorem dX10_letter_25 : decode cX10_letter 25 = .ok (.iload_n 2, 1) := by decide +kernel
theorem dX10_letter_26 : decode cX10_letter 26 = .ok (.invokevirtual 70, 3) := by decide +kernel
theorem dX10_letter_29 : decode cX10_letter 29 = .ok (.ifCond .eq 19, 3) := by decide +kernel
theorem dX10_letter_32 : decode cX10_letter 32 = .ok (.aload_n 0, 1) := by decide +kernel
theorem dX10_letter_33 : decode cX10_letter 33 = .ok (.getfield 12, 3) := by decide +kernel
theorem dX10_letter_36 : decode cX10_letter 36 = .ok (.iload_n 2, 1) := by decide +kernel
theorem dX10_letter_37 : decode cX10_letter 37 = .ok (.invokevirtual 92, 3) := by decide +kernel
theorem dX10_letter_40 : decode cX10_letter 40 = .ok (.iload_n 1, 1) := by decide +kernel
theorem dX10_letter_41 : decode cX10_letter 41 = .ok (.iconst 1, 1) := by decide +kernel
theorem dX10_letter_42 : decode cX10_letter 42 = .ok (.isub, 1) := by decide +kernel
theorem dX10_letter_43 : decode cX10_letter 43 = .ok (.if_icmp .ne 5, 3) := by decide +kernel
theorem dX10_letter_46 : decode cX10_letter 46 = .ok (.iload_n 2, 1) := by decide +kernel
theorem dX10_letter_47 : decode cX10_letter 47 = .ok (.ireturn, 1) := by decide +kernel
theorem dX10_letter_48 : decode cX10_letter 48 = .ok (.iinc 2 1, 3) := by decide +kernel
theorem dX10_letter_51 : decode cX10_letter 51 = .ok (.goto (-36), 3) := by decide +kernel
theorem dX10_letter_54 : decode cX10_letter 54 = .ok (.bipush (-4), 2) := by decide +kernel
theorem dX10_letter_56 : decode cX10_letter 56 = .ok (.ireturn, 1) := by decide +kernel
theorem dX10_gaps_0 : decode cX10_gaps 0 = .ok (.aload_n 0, 1) := by decide +kernel
theorem dX10_gaps_1 : decode cX10_gaps 1 = .ok (.getfield 12, 3) := by decide +kernel
theorem dX10_gaps_4 : decode cX10_gaps 4 = .ok (.invokevirtual 95, 3) := by decide +kernel
theorem dX10_gaps_7 : decode cX10_gaps 7 = .ok (.ireturn, 1) := by decide +kernel
theorem dX10_walk_0 : decode cX10_walk 0 = .ok (.aload_n 0, 1) := by decide +kernel
theorem dX10_walk_1 : decode cX10_walk 1 = .ok (.iload_n 1, 1) := by decide +kernel
theorem dX10_walk_2 : decode cX10_walk 2 = .ok (.iload_n 2, 1) := by decide +kernel
theorem dX10_walk_3 : decode cX10_walk 3 = .ok (.iconst 1, 1) := by decide +kernel
theorem dX10_walk_4 : decode cX10_walk 4 = .ok (.invokevirtual 98, 3) := by decide +kernel
theorem dX10_walk_7 : decode cX10_walk 7 = .ok (.ireturn, 1) := by decide +kernel
theorem dX10_search_0 : decode cX10_search 0 = .ok (.aload_n 0, 1) := by decide +kernel
theorem dX10_search_1 : decode cX10_search 1 = .ok (.iload_n 1, 1) := by decide +kernel
theorem dX10_search_2 : decode cX10_search 2 = .ok (.iload_n 2, 1) := by decide +kernel
theorem dX10_search_3 : decode cX10_search 3 = .ok (.iconst 0, 1) := by decide +kernel
theorem dX10_search_4 : decode cX10_search 4 = .ok (.invokevirtual 98, 3) := by decide +kernel
theorem dX10_search_7 : decode cX10_search 7 = .ok (.ireturn, 1) := by decide +kernel
theorem dX10_rise_0 : decode cX10_rise 0 = .ok (.aload_n 0, 1) := by decide +kernel
theorem dX10_rise_1 : decode cX10_rise 1 = .ok (.getfield 12, 3) := by decide +kernel
theorem dX10_rise_4 : decode cX10_rise 4 = .ok (.invokevirtual 102, 3) := by decide +kernel
theorem dX10_rise_7 : decode cX10_rise 7 = .ok (.ireturn, 1) := by decide +kernel
theorem dX10_falls_0 : decode cX10_falls 0 = .ok (.aload_n 0, 1) := by decide +kernel
theorem dX10_falls_1 : decode cX10_falls 1 = .ok (.getfield 12, 3) := by decide +kernel
theorem dX10_falls_4 : decode cX10_falls 4 = .ok (.invokevirtual 105, 3) := by decide +kernel
theorem dX10_falls_7 : decode cX10_falls 7 = .ok (.ireturn, 1) := by decide +kernel
theorem dX10_byLaw_0 : decode cX10_byLaw 0 = .ok (.iload_n 2, 1) := by decide +kernel
theorem dX10_byLaw_1 : decode cX10_byLaw 1 = .ok (.iload_n 3, 1) := by decide +kernel
theorem dX10_byLaw_2 : decode cX10_byLaw 2 = .ok (.invokestatic 108, 3) := by decide +kernel
theorem dX10_byLaw_5 : decode cX10_byLaw 5 = .ok (.astore 4, 2) := by decide +kernel
theorem dX10_byLaw_7 : decode cX10_byLaw 7 = .ok (.iload_n 1, 1) := by decide +kernel
theorem dX10_byLaw_8 : decode cX10_byLaw 8 = .ok (.invokestatic 66, 3) := by decide +kernel
theorem dX10_byLaw_11 : decode cX10_byLaw 11 = .ok (.ifCond .eq 8, 3) := by decide +kernel
theorem dX10_byLaw_14 : decode cX10_byLaw 14 = .ok (.aload 4, 2) := by decide +kernel
theorem dX10_byLaw_16 : decode cX10_byLaw 16 = .ok (.ifnonnull 5, 3) := by decide +kernel
theorem dX10_byLaw_19 : decode cX10_byLaw 19 = .ok (.iconst (-1), 1) := by decide +kernel
theorem dX10_byLaw_20 : decode cX10_byLaw 20 = .ok (.ireturn, 1) := by decide +kernel
theorem dX10_byLaw_21 : decode cX10_byLaw 21 = .ok (.aload_n 0, 1) := by decide +kernel
theorem dX10_byLaw_22 : decode cX10_byLaw 22 = .ok (.getfield 12, 3) := by decide +kernel
theorem dX10_byLaw_25 : decode cX10_byLaw 25 = .ok (.iload_n 1, 1) := by decide +kernel
theorem dX10_byLaw_26 : decode cX10_byLaw 26 = .ok (.invokevirtual 70, 3) := by decide +kernel
theorem dX10_byLaw_29 : decode cX10_byLaw 29 = .ok (.ifCond .ne 6, 3) := by decide +kernel
theorem dX10_byLaw_32 : decode cX10_byLaw 32 = .ok (.bipush (-4), 2) := by decide +kernel
theorem dX10_byLaw_34 : decode cX10_byLaw 34 = .ok (.ireturn, 1) := by decide +kernel
theorem dX10_byLaw_35 : decode cX10_byLaw 35 = .ok (.aload_n 0, 1) := by decide +kernel
theorem dX10_byLaw_36 : decode cX10_byLaw 36 = .ok (.getfield 16, 3) := by decide +kernel
theorem dX10_byLaw_39 : decode cX10_byLaw 39 = .ok (.aload_n 0, 1) := by decide +kernel
theorem dX10_byLaw_40 : decode cX10_byLaw 40 = .ok (.getfield 12, 3) := by decide +kernel
theorem dX10_byLaw_43 : decode cX10_byLaw 43 = .ok (.aload 4, 2) := by decide +kernel
theorem dX10_byLaw_45 : decode cX10_byLaw 45 = .ok (.invokevirtual 112, 3) := by decide +kernel
theorem dX10_byLaw_48 : decode cX10_byLaw 48 = .ok (.aload_n 0, 1) := by decide +kernel
theorem dX10_byLaw_49 : decode cX10_byLaw 49 = .ok (.getfield 16, 3) := by decide +kernel
theorem dX10_byLaw_52 : decode cX10_byLaw 52 = .ok (.iload_n 1, 1) := by decide +kernel
theorem dX10_byLaw_53 : decode cX10_byLaw 53 = .ok (.invokevirtual 73, 3) := by decide +kernel
theorem dX10_byLaw_56 : decode cX10_byLaw 56 = .ok (.ireturn, 1) := by decide +kernel
theorem dX10_laws_0 : decode cX10_laws 0 = .ok (.iconst 0, 1) := by decide +kernel
theorem dX10_laws_1 : decode cX10_laws 1 = .ok (.istore_n 2, 1) := by decide +kernel
theorem dX10_laws_2 : decode cX10_laws 2 = .ok (.iconst 0, 1) := by decide +kernel
theorem dX10_laws_3 : decode cX10_laws 3 = .ok (.istore_n 3, 1) := by decide +kernel
theorem dX10_laws_4 : decode cX10_laws 4 = .ok (.iload_n 3, 1) := by decide +kernel
theorem dX10_laws_5 : decode cX10_laws 5 = .ok (.bipush 8, 2) := by decide +kernel
theorem dX10_laws_7 : decode cX10_laws 7 = .ok (.if_icmp .ge 56, 3) := by decide +kernel
theorem dX10_laws_10 : decode cX10_laws 10 = .ok (.iload_n 3, 1) := by decide +kernel
theorem dX10_laws_11 : decode cX10_laws 11 = .ok (.iload_n 1, 1) := by decide +kernel
theorem dX10_laws_12 : decode cX10_laws 12 = .ok (.invokestatic 108, 3) := by decide +kernel
theorem dX10_laws_15 : decode cX10_laws 15 = .ok (.astore 4, 2) := by decide +kernel
theorem dX10_laws_17 : decode cX10_laws 17 = .ok (.aload 4, 2) := by decide +kernel
theorem dX10_laws_19 : decode cX10_laws 19 = .ok (.ifnonnull 5, 3) := by decide +kernel
theorem dX10_laws_22 : decode cX10_laws 22 = .ok (.iconst (-1), 1) := by decide +kernel
theorem dX10_laws_23 : decode cX10_laws 23 = .ok (.ireturn, 1) := by decide +kernel
theorem dX10_laws_24 : decode cX10_laws 24 = .ok (.aload_n 0, 1) := by decide +kernel
theorem dX10_laws_25 : decode cX10_laws 25 = .ok (.getfield 16, 3) := by decide +kernel
theorem dX10_laws_28 : decode cX10_laws 28 = .ok (.aload_n 0, 1) := by decide +kernel
theorem dX10_laws_29 : decode cX10_laws 29 = .ok (.getfield 12, 3) := by decide +kernel
theorem dX10_laws_32 : decode cX10_laws 32 = .ok (.aload 4, 2) := by decide +kernel
theorem dX10_laws_34 : decode cX10_laws 34 = .ok (.invokevirtual 112, 3) := by decide +kernel
theorem dX10_laws_37 : decode cX10_laws 37 = .ok (.aload_n 0, 1) := by decide +kernel
theorem dX10_laws_38 : decode cX10_laws 38 = .ok (.getfield 16, 3) := by decide +kernel
theorem dX10_laws_41 : decode cX10_laws 41 = .ok (.aload_n 0, 1) := by decide +kernel
theorem dX10_laws_42 : decode cX10_laws 42 = .ok (.getfield 12, 3) := by decide +kernel
theorem dX10_laws_45 : decode cX10_laws 45 = .ok (.invokevirtual 116, 3) := by decide +kernel
theorem dX10_laws_48 : decode cX10_laws 48 = .ok (.ifCond .eq 9, 3) := by decide +kernel
theorem dX10_laws_51 : decode cX10_laws 51 = .ok (.iload_n 2, 1) := by decide +kernel
theorem dX10_laws_52 : decode cX10_laws 52 = .ok (.iconst 1, 1) := by decide +kernel
theorem dX10_laws_53 : decode cX10_laws 53 = .ok (.iload_n 3, 1) := by decide +kernel
theorem dX10_laws_54 : decode cX10_laws 54 = .ok (.ishl, 1) := by decide +kernel
theorem dX10_laws_55 : decode cX10_laws 55 = .ok (.ior, 1) := by decide +kernel
theorem dX10_laws_56 : decode cX10_laws 56 = .ok (.istore_n 2, 1) := by decide +kernel
theorem dX10_laws_57 : decode cX10_laws 57 = .ok (.iinc 3 1, 3) := by decide +kernel
theorem dX10_laws_60 : decode cX10_laws 60 = .ok (.goto (-56), 3) := by decide +kernel
theorem dX10_laws_63 : decode cX10_laws 63 = .ok (.iload_n 2, 1) := by decide +kernel
theorem dX10_laws_64 : decode cX10_laws 64 = .ok (.ireturn, 1) := by decide +kernel
theorem dX10_orders_0 : decode cX10_orders 0 = .ok (.iload_n 1, 1) := by decide +kernel
theorem dX10_orders_1 : decode cX10_orders 1 = .ok (.ifCond .lt 8, 3) := by decide +kernel
theorem dX10_orders_4 : decode cX10_orders 4 = .ok (.iload_n 1, 1) := by decide +kernel
theorem dX10_orders_5 : decode cX10_orders 5 = .ok (.iconst 1, 1) := by decide +kernel
theorem dX10_orders_6 : decode cX10_orders 6 = .ok (.if_icmp .le 5, 3) := by decide +kernel
theorem dX10_orders_9 : decode cX10_orders 9 = .ok (.iconst (-1), 1) := by decide +kernel
theorem dX10_orders_10 : decode cX10_orders 10 = .ok (.ireturn, 1) := by decide +kernel
theorem dX10_orders_11 : decode cX10_orders 11 = .ok (.aload_n 0, 1) := by decide +kernel
theorem dX10_orders_12 : decode cX10_orders 12 = .ok (.getfield 12, 3) := by decide +kernel
theorem dX10_orders_15 : decode cX10_orders 15 = .ok (.invokevirtual 120, 3) := by decide +kernel
theorem dX10_orders_18 : decode cX10_orders 18 = .ok (.istore_n 2, 1) := by decide +kernel
theorem dX10_orders_19 : decode cX10_orders 19 = .ok (.iload_n 2, 1) := by decide +kernel
theorem dX10_orders_20 : decode cX10_orders 20 = .ok (.bipush 7, 2) := by decide +kernel
theorem dX10_orders_22 : decode cX10_orders 22 = .ok (.if_icmp .le 6, 3) := by decide +kernel
theorem dX10_orders_25 : decode cX10_orders 25 = .ok (.bipush (-2), 2) := by decide +kernel
theorem dX10_orders_27 : decode cX10_orders 27 = .ok (.ireturn, 1) := by decide +kernel
theorem dX10_orders_28 : decode cX10_orders 28 = .ok (.aload_n 0, 1) := by decide +kernel
theorem dX10_orders_29 : decode cX10_orders 29 = .ok (.getfield 16, 3) := by decide +kernel
theorem dX10_orders_32 : decode cX10_orders 32 = .ok (.aload_n 0, 1) := by decide +kernel
theorem dX10_orders_33 : decode cX10_orders 33 = .ok (.getfield 12, 3) := by decide +kernel
theorem dX10_orders_36 : decode cX10_orders 36 = .ok (.getfield 59, 3) := by decide +kernel
theorem dX10_orders_39 : decode cX10_orders 39 = .ok (.invokevirtual 123, 3) := by decide +kernel
theorem dX10_orders_42 : decode cX10_orders 42 = .ok (.iload_n 1, 1) := by decide +kernel
theorem dX10_orders_43 : decode cX10_orders 43 = .ok (.ifCond .ne 18, 3) := by decide +kernel
theorem dX10_orders_46 : decode cX10_orders 46 = .ok (.aload_n 0, 1) := by decide +kernel
theorem dX10_orders_47 : decode cX10_orders 47 = .ok (.getfield 16, 3) := by decide +kernel
theorem dX10_orders_50 : decode cX10_orders 50 = .ok (.aload_n 0, 1) := by decide +kernel
theorem dX10_orders_51 : decode cX10_orders 51 = .ok (.getfield 12, 3) := by decide +kernel
theorem dX10_orders_54 : decode cX10_orders 54 = .ok (.iload_n 2, 1) := by decide +kernel
theorem dX10_orders_55 : decode cX10_orders 55 = .ok (.invokestatic 127, 3) := by decide +kernel
theorem dX10_orders_58 : decode cX10_orders 58 = .ok (.goto 8, 3) := by decide +kernel
theorem dX10_orders_61 : decode cX10_orders 61 = .ok (.aload_n 0, 1) := by decide +kernel
theorem dX10_orders_62 : decode cX10_orders 62 = .ok (.iload_n 2, 1) := by decide +kernel
theorem dX10_orders_63 : decode cX10_orders 63 = .ok (.invokevirtual 131, 3) := by decide +kernel
theorem dX10_orders_66 : decode cX10_orders 66 = .ok (.ireturn, 1) := by decide +kernel
theorem dX10_joined_0 : decode cX10_joined 0 = .ok (.aload_n 0, 1) := by decide +kernel
theorem dX10_joined_1 : decode cX10_joined 1 = .ok (.iload_n 1, 1) := by decide +kernel
theorem dX10_joined_2 : decode cX10_joined 2 = .ok (.invokevirtual 29, 3) := by decide +kernel
theorem dX10_joined_5 : decode cX10_joined 5 = .ok (.astore_n 3, 1) := by decide +kernel
theorem dX10_joined_6 : decode cX10_joined 6 = .ok (.aload_n 3, 1) := by decide +kernel
theorem dX10_joined_7 : decode cX10_joined 7 = .ok (.ifnull 12, 3) := by decide +kernel
theorem dX10_joined_10 : decode cX10_joined 10 = .ok (.iload_n 2, 1) := by decide +kernel
theorem dX10_joined_11 : decode cX10_joined 11 = .ok (.ifCond .lt 8, 3) := by decide +kernel
theorem dX10_joined_14 : decode cX10_joined 14 = .ok (.iload_n 2, 1) := by decide +kernel
theorem dX10_joined_15 : decode cX10_joined 15 = .ok (.iconst 1, 1) := by decide +kernel
theorem dX10_joined_16 : decode cX10_joined 16 = .ok (.if_icmp .le 5, 3) := by decide +kernel
theorem dX10_joined_19 : decode cX10_joined 19 = .ok (.iconst (-1), 1) := by decide +kernel
theorem dX10_joined_20 : decode cX10_joined 20 = .ok (.ireturn, 1) := by decide +kernel
theorem dX10_joined_21 : decode cX10_joined 21 = .ok (.aload_n 3, 1) := by decide +kernel
theorem dX10_joined_22 : decode cX10_joined 22 = .ok (.iconst 1, 1) := by decide +kernel
theorem dX10_joined_23 : decode cX10_joined 23 = .ok (.invokevirtual 33, 3) := by decide +kernel
theorem dX10_joined_26 : decode cX10_joined 26 = .ok (.istore 4, 2) := by decide +kernel
theorem dX10_joined_28 : decode cX10_joined 28 = .ok (.iload 4, 2) := by decide +kernel
theorem dX10_joined_30 : decode cX10_joined 30 = .ok (.ifCond .eq 6, 3) := by decide +kernel
theorem dX10_joined_33 : decode cX10_joined 33 = .ok (.iload 4, 2) := by decide +kernel
theorem dX10_joined_35 : decode cX10_joined 35 = .ok (.ireturn, 1) := by decide +kernel
theorem dX10_joined_36 : decode cX10_joined 36 = .ok (.aload_n 3, 1) := by decide +kernel
theorem dX10_joined_37 : decode cX10_joined 37 = .ok (.invokestatic 134, 3) := by decide +kernel
theorem dX10_joined_40 : decode cX10_joined 40 = .ok (.ifCond .ne 6, 3) := by decide +kernel
theorem dX10_joined_43 : decode cX10_joined 43 = .ok (.bipush (-13), 2) := by decide +kernel
theorem dX10_joined_45 : decode cX10_joined 45 = .ok (.ireturn, 1) := by decide +kernel
theorem dX10_joined_46 : decode cX10_joined 46 = .ok (.iload_n 2, 1) := by decide +kernel
theorem dX10_joined_47 : decode cX10_joined 47 = .ok (.ifCond .ne 12, 3) := by decide +kernel
theorem dX10_joined_50 : decode cX10_joined 50 = .ok (.aload_n 0, 1) := by decide +kernel
theorem dX10_joined_51 : decode cX10_joined 51 = .ok (.aload_n 3, 1) := by decide +kernel
theorem dX10_joined_52 : decode cX10_joined 52 = .ok (.iconst 0, 1) := by decide +kernel
theorem dX10_joined_53 : decode cX10_joined 53 = .ok (.invokevirtual 138, 3) := by decide +kernel
theorem dX10_joined_56 : decode cX10_joined 56 = .ok (.goto 8, 3) := by decide +kernel
theorem dX10_joined_59 : decode cX10_joined 59 = .ok (.aload_n 0, 1) := by decide +kernel
theorem dX10_joined_60 : decode cX10_joined 60 = .ok (.aload_n 3, 1) := by decide +kernel
theorem dX10_joined_61 : decode cX10_joined 61 = .ok (.invokevirtual 142, 3) := by decide +kernel
theorem dX10_joined_64 : decode cX10_joined 64 = .ok (.ireturn, 1) := by decide +kernel
theorem dX10_seeded_0 : decode cX10_seeded 0 = .ok (.iload_n 1, 1) := by decide +kernel
theorem dX10_seeded_1 : decode cX10_seeded 1 = .ok (.iconst 1, 1) := by decide +kernel
theorem dX10_seeded_2 : decode cX10_seeded 2 = .ok (.if_icmp .lt 18, 3) := by decide +kernel
theorem dX10_seeded_5 : decode cX10_seeded 5 = .ok (.iload_n 1, 1) := by decide +kernel
theorem dX10_seeded_6 : decode cX10_seeded 6 = .ok (.bipush 30, 2) := by decide +kernel
theorem dX10_seeded_8 : decode cX10_seeded 8 = .ok (.if_icmp .gt 12, 3) := by decide +kernel
theorem dX10_seeded_11 : decode cX10_seeded 11 = .ok (.iload_n 3, 1) := by decide +kernel
theorem dX10_seeded_12 : decode cX10_seeded 12 = .ok (.ifCond .lt 8, 3) := by decide +kernel
theorem dX10_seeded_15 : decode cX10_seeded 15 = .ok (.iload_n 3, 1) := by decide +kernel
theorem dX10_seeded_16 : decode cX10_seeded 16 = .ok (.iconst 1, 1) := by decide +kernel
theorem dX10_seeded_17 : decode cX10_seeded 17 = .ok (.if_icmp .le 5, 3) := by decide +kernel
theorem dX10_seeded_20 : decode cX10_seeded 20 = .ok (.iconst (-1), 1) := by decide +kernel
theorem dX10_seeded_21 : decode cX10_seeded 21 = .ok (.ireturn, 1) := by decide +kernel
theorem dX10_seeded_22 : decode cX10_seeded 22 = .ok (.aload_n 0, 1) := by decide +kernel
theorem dX10_seeded_23 : decode cX10_seeded 23 = .ok (.getfield 16, 3) := by decide +kernel
theorem dX10_seeded_26 : decode cX10_seeded 26 = .ok (.aload_n 0, 1) := by decide +kernel
theorem dX10_seeded_27 : decode cX10_seeded 27 = .ok (.getfield 12, 3) := by decide +kernel
theorem dX10_seeded_30 : decode cX10_seeded 30 = .ok (.getfield 59, 3) := by decide +kernel
theorem dX10_seeded_33 : decode cX10_seeded 33 = .ok (.invokevirtual 123, 3) := by decide +kernel
theorem dX10_seeded_36 : decode cX10_seeded 36 = .ok (.iload_n 2, 1) := by decide +kernel
theorem dX10_seeded_37 : decode cX10_seeded 37 = .ok (.istore 4, 2) := by decide +kernel
theorem dX10_seeded_39 : decode cX10_seeded 39 = .ok (.iconst 0, 1) := by decide +kernel
theorem dX10_seeded_40 : decode cX10_seeded 40 = .ok (.istore 5, 2) := by decide +kernel
theorem dX10_seeded_42 : decode cX10_seeded 42 = .ok (.iload 5, 2) := by decide +kernel
theorem dX10_seeded_44 : decode cX10_seeded 44 = .ok (.iload_n 1, 1) := by decide +kernel
theorem dX10_seeded_45 : decode cX10_seeded 45 = .ok (.if_icmp .ge 82, 3) := by decide +kernel
theorem dX10_seeded_48 : decode cX10_seeded 48 = .ok (.iload 4, 2) := by decide +kernel
theorem dX10_seeded_50 : decode cX10_seeded 50 = .ok (.invokestatic 145, 3) := by decide +kernel
theorem dX10_seeded_53 : decode cX10_seeded 53 = .ok (.istore 4, 2) := by decide +kernel
theorem dX10_seeded_55 : decode cX10_seeded 55 = .ok (.iload 4, 2) := by decide +kernel
theorem dX10_seeded_57 : decode cX10_seeded 57 = .ok (.invokestatic 148, 3) := by decide +kernel
theorem dX10_seeded_60 : decode cX10_seeded 60 = .ok (.bipush 12, 2) := by decide +kernel
theorem dX10_seeded_62 : decode cX10_seeded 62 = .ok (.irem, 1) := by decide +kernel
theorem dX10_seeded_63 : decode cX10_seeded 63 = .ok (.istore 6, 2) := by decide +kernel
theorem dX10_seeded_65 : decode cX10_seeded 65 = .ok (.iload 4, 2) := by decide +kernel
theorem dX10_seeded_67 : decode cX10_seeded 67 = .ok (.invokestatic 145, 3) := by decide +kernel
theorem dX10_seeded_70 : decode cX10_seeded 70 = .ok (.istore 4, 2) := by decide +kernel
theorem dX10_seeded_72 : decode cX10_seeded 72 = .ok (.iload 4, 2) := by decide +kernel
theorem dX10_seeded_74 : decode cX10_seeded 74 = .ok (.invokestatic 148, 3) := by decide +kernel
theorem dX10_seeded_77 : decode cX10_seeded 77 = .ok (.bipush 9, 2) := by decide +kernel
theorem dX10_seeded_79 : decode cX10_seeded 79 = .ok (.irem, 1) := by decide +kernel
theorem dX10_seeded_80 : decode cX10_seeded 80 = .ok (.iconst 1, 1) := by decide +kernel
theorem dX10_seeded_81 : decode cX10_seeded 81 = .ok (.iadd, 1) := by decide +kernel
theorem dX10_seeded_82 : decode cX10_seeded 82 = .ok (.istore 7, 2) := by decide +kernel
theorem dX10_seeded_84 : decode cX10_seeded 84 = .ok (.aload_n 0, 1) := by decide +kernel
theorem dX10_seeded_85 : decode cX10_seeded 85 = .ok (.getfield 16, 3) := by decide +kernel
theorem dX10_seeded_88 : decode cX10_seeded 88 = .ok (.iload 6, 2) := by decide +kernel
theorem dX10_seeded_90 : decode cX10_seeded 90 = .ok (.invokevirtual 70, 3) := by decide +kernel
theorem dX10_seeded_93 : decode cX10_seeded 93 = .ok (.ifCond .eq 16, 3) := by decide +kernel
theorem dX10_seeded_96 : decode cX10_seeded 96 = .ok (.aload_n 0, 1) := by decide +kernel
theorem dX10_seeded_97 : decode cX10_seeded 97 = .ok (.getfield 16, 3) := by decide +kernel
theorem dX10_seeded_100 : decode cX10_seeded 100 = .ok (.iload 6, 2) := by decide +kernel
theorem dX10_seeded_102 : decode cX10_seeded 102 = .ok (.invokevirtual 48, 3) := by decide +kernel
theorem dX10_seeded_105 : decode cX10_seeded 105 = .ok (.pop, 1) := by decide +kernel
theorem dX10_seeded_106 : decode cX10_seeded 106 = .ok (.goto 15, 3) := by decide +kernel
theorem dX10_seeded_109 : decode cX10_seeded 109 = .ok (.aload_n 0, 1) := by decide +kernel
theorem dX10_seeded_110 : decode cX10_seeded 110 = .ok (.getfield 16, 3) := by decide +kernel
theorem dX10_seeded_113 : decode cX10_seeded 113 = .ok (.iload 6, 2) := by decide +kernel
theorem dX10_seeded_115 : decode cX10_seeded 115 = .ok (.iload 7, 2) := by decide +kernel
theorem dX10_seeded_117 : decode cX10_seeded 117 = .ok (.invokevirtual 44, 3) := by decide +kernel
theorem dX10_seeded_120 : decode cX10_seeded 120 = .ok (.pop, 1) := by decide +kernel
theorem dX10_seeded_121 : decode cX10_seeded 121 = .ok (.iinc 5 1, 3) := by decide +kernel
theorem dX10_seeded_124 : decode cX10_seeded 124 = .ok (.goto (-82), 3) := by decide +kernel
theorem dX10_seeded_127 : decode cX10_seeded 127 = .ok (.iload_n 3, 1) := by decide +kernel
theorem dX10_seeded_128 : decode cX10_seeded 128 = .ok (.ifCond .ne 13, 3) := by decide +kernel
theorem dX10_seeded_131 : decode cX10_seeded 131 = .ok (.aload_n 0, 1) := by decide +kernel
theorem dX10_seeded_132 : decode cX10_seeded 132 = .ok (.getfield 16, 3) := by decide +kernel
theorem dX10_seeded_135 : decode cX10_seeded 135 = .ok (.invokevirtual 95, 3) := by decide +kernel
theorem dX10_seeded_138 : decode cX10_seeded 138 = .ok (.goto 10, 3) := by decide +kernel
theorem dX10_seeded_141 : decode cX10_seeded 141 = .ok (.aload_n 0, 1) := by decide +kernel
theorem dX10_seeded_142 : decode cX10_seeded 142 = .ok (.getfield 16, 3) := by decide +kernel
theorem dX10_seeded_145 : decode cX10_seeded 145 = .ok (.invokevirtual 102, 3) := by decide +kernel
theorem dX10_seeded_148 : decode cX10_seeded 148 = .ok (.ireturn, 1) := by decide +kernel
theorem dX10_judge_0 : decode cX10_judge 0 = .ok (.aload_n 0, 1) := by decide +kernel
theorem dX10_judge_1 : decode cX10_judge 1 = .ok (.iload_n 1, 1) := by decide +kernel
theorem dX10_judge_2 : decode cX10_judge 2 = .ok (.invokevirtual 29, 3) := by decide +kernel
theorem dX10_judge_5 : decode cX10_judge 5 = .ok (.astore_n 2, 1) := by decide +kernel
theorem dX10_judge_6 : decode cX10_judge 6 = .ok (.aload_n 2, 1) := by decide +kernel
theorem dX10_judge_7 : decode cX10_judge 7 = .ok (.ifnonnull 5, 3) := by decide +kernel
theorem dX10_judge_10 : decode cX10_judge 10 = .ok (.iconst (-1), 1) := by decide +kernel
theorem dX10_judge_11 : decode cX10_judge 11 = .ok (.ireturn, 1) := by decide +kernel
theorem dX10_judge_12 : decode cX10_judge 12 = .ok (.aload_n 2, 1) := by decide +kernel
theorem dX10_judge_13 : decode cX10_judge 13 = .ok (.invokevirtual 151, 3) := by decide +kernel
theorem dX10_judge_16 : decode cX10_judge 16 = .ok (.istore_n 3, 1) := by decide +kernel
theorem dX10_judge_17 : decode cX10_judge 17 = .ok (.iload_n 3, 1) := by decide +kernel
theorem dX10_judge_18 : decode cX10_judge 18 = .ok (.ifCond .eq 5, 3) := by decide +kernel
theorem dX10_judge_21 : decode cX10_judge 21 = .ok (.iload_n 3, 1) := by decide +kernel
theorem dX10_judge_22 : decode cX10_judge 22 = .ok (.ireturn, 1) := by decide +kernel
theorem dX10_judge_23 : decode cX10_judge 23 = .ok (.aload_n 2, 1) := by decide +kernel
theorem dX10_judge_24 : decode cX10_judge 24 = .ok (.invokevirtual 154, 3) := by decide +kernel
theorem dX10_judge_27 : decode cX10_judge 27 = .ok (.istore 4, 2) := by decide +kernel
theorem dX10_judge_29 : decode cX10_judge 29 = .ok (.iconst 0, 1) := by decide +kernel
theorem dX10_judge_30 : decode cX10_judge 30 = .ok (.istore 5, 2) := by decide +kernel
theorem dX10_judge_32 : decode cX10_judge 32 = .ok (.iload 5, 2) := by decide +kernel
theorem dX10_judge_34 : decode cX10_judge 34 = .ok (.bipush 12, 2) := by decide +kernel
theorem dX10_judge_36 : decode cX10_judge 36 = .ok (.if_icmp .ge 50, 3) := by decide +kernel
theorem dX10_judge_39 : decode cX10_judge 39 = .ok (.iload 5, 2) := by decide +kernel
theorem dX10_judge_41 : decode cX10_judge 41 = .ok (.aload_n 2, 1) := by decide +kernel
theorem dX10_judge_42 : decode cX10_judge 42 = .ok (.getfield 157, 3) := by decide +kernel
theorem dX10_judge_45 : decode cX10_judge 45 = .ok (.if_icmp .ge 41, 3) := by decide +kernel
theorem dX10_judge_48 : decode cX10_judge 48 = .ok (.aload_n 2, 1) := by decide +kernel
theorem dX10_judge_49 : decode cX10_judge 49 = .ok (.iload 5, 2) := by decide +kernel
theorem dX10_judge_51 : decode cX10_judge 51 = .ok (.invokevirtual 160, 3) := by decide +kernel
theorem dX10_judge_54 : decode cX10_judge 54 = .ok (.istore 6, 2) := by decide +kernel
theorem dX10_judge_56 : decode cX10_judge 56 = .ok (.iload 6, 2) := by decide +kernel
theorem dX10_judge_58 : decode cX10_judge 58 = .ok (.iload 4, 2) := by decide +kernel
theorem dX10_judge_60 : decode cX10_judge 60 = .ok (.if_icmp .eq 20, 3) := by decide +kernel
theorem dX10_judge_63 : decode cX10_judge 63 = .ok (.iload 6, 2) := by decide +kernel
theorem dX10_judge_65 : decode cX10_judge 65 = .ok (.aload_n 0, 1) := by decide +kernel
theorem dX10_judge_66 : decode cX10_judge 66 = .ok (.getfield 12, 3) := by decide +kernel
theorem dX10_judge_69 : decode cX10_judge 69 = .ok (.iload 5, 2) := by decide +kernel
theorem dX10_judge_71 : decode cX10_judge 71 = .ok (.invokevirtual 73, 3) := by decide +kernel
theorem dX10_judge_74 : decode cX10_judge 74 = .ok (.if_icmp .eq 6, 3) := by decide +kernel
theorem dX10_judge_77 : decode cX10_judge 77 = .ok (.iload 5, 2) := by decide +kernel
theorem dX10_judge_79 : decode cX10_judge 79 = .ok (.ireturn, 1) := by decide +kernel
theorem dX10_judge_80 : decode cX10_judge 80 = .ok (.iinc 5 1, 3) := by decide +kernel
theorem dX10_judge_83 : decode cX10_judge 83 = .ok (.goto (-51), 3) := by decide +kernel
theorem dX10_judge_86 : decode cX10_judge 86 = .ok (.aload_n 2, 1) := by decide +kernel
theorem dX10_judge_87 : decode cX10_judge 87 = .ok (.getfield 157, 3) := by decide +kernel
theorem dX10_judge_90 : decode cX10_judge 90 = .ok (.bipush 12, 2) := by decide +kernel
theorem dX10_judge_92 : decode cX10_judge 92 = .ok (.if_icmp .ne 8, 3) := by decide +kernel
theorem dX10_judge_95 : decode cX10_judge 95 = .ok (.bipush (-4), 2) := by decide +kernel
theorem dX10_judge_97 : decode cX10_judge 97 = .ok (.goto 12, 3) := by decide +kernel
theorem dX10_judge_100 : decode cX10_judge 100 = .ok (.aload_n 2, 1) := by decide +kernel
theorem dX10_judge_101 : decode cX10_judge 101 = .ok (.getfield 157, 3) := by decide +kernel
theorem dX10_judge_104 : decode cX10_judge 104 = .ok (.bipush 12, 2) := by decide +kernel
theorem dX10_judge_106 : decode cX10_judge 106 = .ok (.invokestatic 163, 3) := by decide +kernel
theorem dX10_judge_109 : decode cX10_judge 109 = .ok (.ireturn, 1) := by decide +kernel
theorem dX10_image_0 : decode cX10_image 0 = .ok (.aload_n 0, 1) := by decide +kernel
theorem dX10_image_1 : decode cX10_image 1 = .ok (.getfield 19, 3) := by decide +kernel
theorem dX10_image_4 : decode cX10_image 4 = .ok (.aload_n 0, 1) := by decide +kernel
theorem dX10_image_5 : decode cX10_image 5 = .ok (.getfield 12, 3) := by decide +kernel
theorem dX10_image_8 : decode cX10_image 8 = .ok (.invokevirtual 168, 3) := by decide +kernel
theorem dX10_image_11 : decode cX10_image 11 = .ok (.aload_n 0, 1) := by decide +kernel
theorem dX10_image_12 : decode cX10_image 12 = .ok (.iconst 1, 1) := by decide +kernel
theorem dX10_image_13 : decode cX10_image 13 = .ok (.putfield 172, 3) := by decide +kernel
theorem dX10_image_16 : decode cX10_image 16 = .ok (.aload_n 0, 1) := by decide +kernel
theorem dX10_image_17 : decode cX10_image 17 = .ok (.getfield 12, 3) := by decide +kernel
theorem dX10_image_20 : decode cX10_image 20 = .ok (.getfield 176, 3) := by decide +kernel
theorem dX10_image_23 : decode cX10_image 23 = .ok (.ireturn, 1) := by decide +kernel
theorem dX10_restore_0 : decode cX10_restore 0 = .ok (.aload_n 0, 1) := by decide +kernel
theorem dX10_restore_1 : decode cX10_restore 1 = .ok (.getfield 172, 3) := by decide +kernel
theorem dX10_restore_4 : decode cX10_restore 4 = .ok (.ifCond .ne 6, 3) := by decide +kernel
theorem dX10_restore_7 : decode cX10_restore 7 = .ok (.bipush (-3), 2) := by decide +kernel
theorem dX10_restore_9 : decode cX10_restore 9 = .ok (.ireturn, 1) := by decide +kernel
theorem dX10_restore_10 : decode cX10_restore 10 = .ok (.aload_n 0, 1) := by decide +kernel
theorem dX10_restore_11 : decode cX10_restore 11 = .ok (.getfield 12, 3) := by decide +kernel
theorem dX10_restore_14 : decode cX10_restore 14 = .ok (.aload_n 0, 1) := by decide +kernel
theorem dX10_restore_15 : decode cX10_restore 15 = .ok (.getfield 19, 3) := by decide +kernel
theorem dX10_restore_18 : decode cX10_restore 18 = .ok (.invokevirtual 168, 3) := by decide +kernel
theorem dX10_restore_21 : decode cX10_restore 21 = .ok (.aload_n 0, 1) := by decide +kernel
theorem dX10_restore_22 : decode cX10_restore 22 = .ok (.getfield 12, 3) := by decide +kernel
theorem dX10_restore_25 : decode cX10_restore 25 = .ok (.getfield 176, 3) := by decide +kernel
theorem dX10_restore_28 : decode cX10_restore 28 = .ok (.ireturn, 1) := by decide +kernel
theorem dX10_count_0 : decode cX10_count 0 = .ok (.iload_n 1, 1) := by decide +kernel
theorem dX10_count_1 : decode cX10_count 1 = .ok (.tableswitch 93 0 5 #[39, 47, 55, 63, 71, 82], 39) := by decide +kernel
theorem dX10_count_40 : decode cX10_count 40 = .ok (.aload_n 0, 1) := by decide +kernel
theorem dX10_count_41 : decode cX10_count 41 = .ok (.getfield 12, 3) := by decide +kernel
theorem dX10_count_44 : decode cX10_count 44 = .ok (.invokevirtual 120, 3) := by decide +kernel
theorem dX10_count_47 : decode cX10_count 47 = .ok (.ireturn, 1) := by decide +kernel
theorem dX10_count_48 : decode cX10_count 48 = .ok (.aload_n 0, 1) := by decide +kernel
theorem dX10_count_49 : decode cX10_count 49 = .ok (.getfield 12, 3) := by decide +kernel
theorem dX10_count_52 : decode cX10_count 52 = .ok (.getfield 176, 3) := by decide +kernel
theorem dX10_count_55 : decode cX10_count 55 = .ok (.ireturn, 1) := by decide +kernel
theorem dX10_count_56 : decode cX10_count 56 = .ok (.aload_n 0, 1) := by decide +kernel
theorem dX10_count_57 : decode cX10_count 57 = .ok (.getfield 12, 3) := by decide +kernel
theorem dX10_count_60 : decode cX10_count 60 = .ok (.getfield 179, 3) := by decide +kernel
theorem dX10_count_63 : decode cX10_count 63 = .ok (.ireturn, 1) := by decide +kernel
theorem dX10_count_64 : decode cX10_count 64 = .ok (.aload_n 0, 1) := by decide +kernel
theorem dX10_count_65 : decode cX10_count 65 = .ok (.getfield 12, 3) := by decide +kernel
theorem dX10_count_68 : decode cX10_count 68 = .ok (.invokevirtual 182, 3) := by decide +kernel
theorem dX10_count_71 : decode cX10_count 71 = .ok (.ireturn, 1) := by decide +kernel
theorem dX10_count_72 : decode cX10_count 72 = .ok (.aload_n 0, 1) := by decide +kernel
theorem dX10_count_73 : decode cX10_count 73 = .ok (.getfield 12, 3) := by decide +kernel
theorem dX10_count_76 : decode cX10_count 76 = .ok (.getfield 59, 3) := by decide +kernel
theorem dX10_count_79 : decode cX10_count 79 = .ok (.getfield 60, 3) := by decide +kernel
theorem dX10_count_82 : decode cX10_count 82 = .ok (.ireturn, 1) := by decide +kernel
theorem dX10_count_83 : decode cX10_count 83 = .ok (.aload_n 0, 1) := by decide +kernel
theorem dX10_count_84 : decode cX10_count 84 = .ok (.getfield 12, 3) := by decide +kernel
theorem dX10_count_87 : decode cX10_count 87 = .ok (.getfield 59, 3) := by decide +kernel
theorem dX10_count_90 : decode cX10_count 90 = .ok (.getfield 185, 3) := by decide +kernel
theorem dX10_count_93 : decode cX10_count 93 = .ok (.ireturn, 1) := by decide +kernel
theorem dX10_count_94 : decode cX10_count 94 = .ok (.iconst (-1), 1) := by decide +kernel
theorem dX10_count_95 : decode cX10_count 95 = .ok (.ireturn, 1) := by decide +kernel
theorem dX10_keep_0 : decode cX10_keep 0 = .ok (.aload_n 0, 1) := by decide +kernel
theorem dX10_keep_1 : decode cX10_keep 1 = .ok (.iload_n 1, 1) := by decide +kernel
theorem dX10_keep_2 : decode cX10_keep 2 = .ok (.invokevirtual 29, 3) := by decide +kernel
theorem dX10_keep_5 : decode cX10_keep 5 = .ok (.astore 5, 2) := by decide +kernel
theorem dX10_keep_7 : decode cX10_keep 7 = .ok (.aload 5, 2) := by decide +kernel
theorem dX10_keep_9 : decode cX10_keep 9 = .ok (.ifnull 12, 3) := by decide +kernel
theorem dX10_keep_12 : decode cX10_keep 12 = .ok (.iload_n 2, 1) := by decide +kernel
theorem dX10_keep_13 : decode cX10_keep 13 = .ok (.ifCond .lt 8, 3) := by decide +kernel
theorem dX10_keep_16 : decode cX10_keep 16 = .ok (.iload_n 2, 1) := by decide +kernel
theorem dX10_keep_17 : decode cX10_keep 17 = .ok (.iconst 1, 1) := by decide +kernel
theorem dX10_keep_18 : decode cX10_keep 18 = .ok (.if_icmp .le 5, 3) := by decide +kernel
theorem dX10_keep_21 : decode cX10_keep 21 = .ok (.iconst (-1), 1) := by decide +kernel
theorem dX10_keep_22 : decode cX10_keep 22 = .ok (.ireturn, 1) := by decide +kernel
theorem dX10_keep_23 : decode cX10_keep 23 = .ok (.iload_n 2, 1) := by decide +kernel
theorem dX10_keep_24 : decode cX10_keep 24 = .ok (.ifCond .ne 11, 3) := by decide +kernel
theorem dX10_keep_27 : decode cX10_keep 27 = .ok (.aload 5, 2) := by decide +kernel
theorem dX10_keep_29 : decode cX10_keep 29 = .ok (.aconst_null, 1) := by decide +kernel
theorem dX10_keep_30 : decode cX10_keep 30 = .ok (.invokevirtual 188, 3) := by decide +kernel
theorem dX10_keep_33 : decode cX10_keep 33 = .ok (.iconst 0, 1) := by decide +kernel
theorem dX10_keep_34 : decode cX10_keep 34 = .ok (.ireturn, 1) := by decide +kernel
theorem dX10_keep_35 : decode cX10_keep 35 = .ok (.iload_n 3, 1) := by decide +kernel
theorem dX10_keep_36 : decode cX10_keep 36 = .ok (.iload 4, 2) := by decide +kernel
theorem dX10_keep_38 : decode cX10_keep 38 = .ok (.invokestatic 108, 3) := by decide +kernel
theorem dX10_keep_41 : decode cX10_keep 41 = .ok (.astore 6, 2) := by decide +kernel
theorem dX10_keep_43 : decode cX10_keep 43 = .ok (.aload 6, 2) := by decide +kernel
theorem dX10_keep_45 : decode cX10_keep 45 = .ok (.ifnonnull 5, 3) := by decide +kernel
theorem dX10_keep_48 : decode cX10_keep 48 = .ok (.iconst (-1), 1) := by decide +kernel
theorem dX10_keep_49 : decode cX10_keep 49 = .ok (.ireturn, 1) := by decide +kernel
theorem dX10_keep_50 : decode cX10_keep 50 = .ok (.aload 5, 2) := by decide +kernel
theorem dX10_keep_52 : decode cX10_keep 52 = .ok (.aload 6, 2) := by decide +kernel
theorem dX10_keep_54 : decode cX10_keep 54 = .ok (.invokevirtual 188, 3) := by decide +kernel
theorem dX10_keep_57 : decode cX10_keep 57 = .ok (.iconst 0, 1) := by decide +kernel
theorem dX10_keep_58 : decode cX10_keep 58 = .ok (.ireturn, 1) := by decide +kernel
theorem dX10_row_0 : decode cX10_row 0 = .ok (.aload_n 0, 1) := by decide +kernel
theorem dX10_row_1 : decode cX10_row 1 = .ok (.iload_n 1, 1) := by decide +kernel
theorem dX10_row_2 : decode cX10_row 2 = .ok (.invokevirtual 29, 3) := by decide +kernel
theorem dX10_row_5 : decode cX10_row 5 = .ok (.astore 4, 2) := by decide +kernel
theorem dX10_row_7 : decode cX10_row 7 = .ok (.aload 4, 2) := by decide +kernel
theorem dX10_row_9 : decode cX10_row 9 = .ok (.ifnull 18, 3) := by decide +kernel
theorem dX10_row_12 : decode cX10_row 12 = .ok (.iload_n 2, 1) := by decide +kernel
theorem dX10_row_13 : decode cX10_row 13 = .ok (.ifCond .lt 14, 3) := by decide +kernel
theorem dX10_row_16 : decode cX10_row 16 = .ok (.iload_n 2, 1) := by decide +kernel
theorem dX10_row_17 : decode cX10_row 17 = .ok (.iconst 2, 1) := by decide +kernel
theorem dX10_row_18 : decode cX10_row 18 = .ok (.if_icmp .gt 9, 3) := by decide +kernel
theorem dX10_row_21 : decode cX10_row 21 = .ok (.iload_n 3, 1) := by decide +kernel
theorem dX10_row_22 : decode cX10_row 22 = .ok (.bipush 100, 2) := by decide +kernel
theorem dX10_row_24 : decode cX10_row 24 = .ok (.if_icmp .le 5, 3) := by decide +kernel
theorem dX10_row_27 : decode cX10_row 27 = .ok (.iconst (-1), 1) := by decide +kernel
theorem dX10_row_28 : decode cX10_row 28 = .ok (.ireturn, 1) := by decide +kernel
theorem dX10_row_29 : decode cX10_row 29 = .ok (.iload_n 3, 1) := by decide +kernel
theorem dX10_row_30 : decode cX10_row 30 = .ok (.ifCond .ge 6, 3) := by decide +kernel
theorem dX10_row_33 : decode cX10_row 33 = .ok (.bipush (-14), 2) := by decide +kernel
theorem dX10_row_35 : decode cX10_row 35 = .ok (.ireturn, 1) := by decide +kernel
theorem dX10_row_36 : decode cX10_row 36 = .ok (.aload 4, 2) := by decide +kernel
theorem dX10_row_38 : decode cX10_row 38 = .ok (.iload_n 2, 1) := by decide +kernel
theorem dX10_row_39 : decode cX10_row 39 = .ok (.iload_n 3, 1) := by decide +kernel
theorem dX10_row_40 : decode cX10_row 40 = .ok (.invokevirtual 191, 3) := by decide +kernel
theorem dX10_row_43 : decode cX10_row 43 = .ok (.iconst 0, 1) := by decide +kernel
theorem dX10_row_44 : decode cX10_row 44 = .ok (.ireturn, 1) := by decide +kernel
theorem dX10_put_0 : decode cX10_put 0 = .ok (.aload_n 0, 1) := by decide +kernel
theorem dX10_put_1 : decode cX10_put 1 = .ok (.iload_n 1, 1) := by decide +kernel
theorem dX10_put_2 : decode cX10_put 2 = .ok (.invokevirtual 29, 3) := by decide +kernel
theorem dX10_put_5 : decode cX10_put 5 = .ok (.astore 4, 2) := by decide +kernel
theorem dX10_put_7 : decode cX10_put 7 = .ok (.aload 4, 2) := by decide +kernel
theorem dX10_put_9 : decode cX10_put 9 = .ok (.ifnonnull 5, 3) := by decide +kernel
theorem dX10_put_12 : decode cX10_put 12 = .ok (.iconst (-1), 1) := by decide +kernel
theorem dX10_put_13 : decode cX10_put 13 = .ok (.ireturn, 1) := by decide +kernel
theorem dX10_put_14 : decode cX10_put 14 = .ok (.aload 4, 2) := by decide +kernel
theorem dX10_put_16 : decode cX10_put 16 = .ok (.invokevirtual 151, 3) := by decide +kernel
theorem dX10_put_19 : decode cX10_put 19 = .ok (.istore 5, 2) := by decide +kernel
theorem dX10_put_21 : decode cX10_put 21 = .ok (.iload 5, 2) := by decide +kernel
theorem dX10_put_23 : decode cX10_put 23 = .ok (.ifCond .eq 6, 3) := by decide +kernel
theorem dX10_put_26 : decode cX10_put 26 = .ok (.iload 5, 2) := by decide +kernel
theorem dX10_put_28 : decode cX10_put 28 = .ok (.ireturn, 1) := by decide +kernel
theorem dX10_put_29 : decode cX10_put 29 = .ok (.aload 4, 2) := by decide +kernel
theorem dX10_put_31 : decode cX10_put 31 = .ok (.iload_n 2, 1) := by decide +kernel
theorem dX10_put_32 : decode cX10_put 32 = .ok (.invokevirtual 195, 3) := by decide +kernel
theorem dX10_put_35 : decode cX10_put 35 = .ok (.ifCond .ne 6, 3) := by decide +kernel
theorem dX10_put_38 : decode cX10_put 38 = .ok (.bipush (-13), 2) := by decide +kernel
theorem dX10_put_40 : decode cX10_put 40 = .ok (.ireturn, 1) := by decide +kernel
theorem dX10_put_41 : decode cX10_put 41 = .ok (.aload 4, 2) := by decide +kernel
theorem dX10_put_43 : decode cX10_put 43 = .ok (.iload_n 2, 1) := by decide +kernel
theorem dX10_put_44 : decode cX10_put 44 = .ok (.iload_n 3, 1) := by decide +kernel
theorem dX10_put_45 : decode cX10_put 45 = .ok (.invokevirtual 198, 3) := by decide +kernel
theorem dX10_put_48 : decode cX10_put 48 = .ok (.iconst 0, 1) := by decide +kernel
theorem dX10_put_49 : decode cX10_put 49 = .ok (.ireturn, 1) := by decide +kernel
theorem dX10_element_0 : decode cX10_element 0 = .ok (.aload_n 0, 1) := by decide +kernel
theorem dX10_element_1 : decode cX10_element 1 = .ok (.iload_n 1, 1) := by decide +kernel
theorem dX10_element_2 : decode cX10_element 2 = .ok (.invokevirtual 29, 3) := by decide +kernel
theorem dX10_element_5 : decode cX10_element 5 = .ok (.astore_n 3, 1) := by decide +kernel
theorem dX10_element_6 : decode cX10_element 6 = .ok (.aload_n 3, 1) := by decide +kernel
theorem dX10_element_7 : decode cX10_element 7 = .ok (.ifnonnull 13, 3) := by decide +kernel
theorem dX10_element_10 : decode cX10_element 10 = .ok (.new 201, 3) := by decide +kernel
theorem dX10_element_13 : decode cX10_element 13 = .ok (.dup, 1) := by decide +kernel
theorem dX10_element_14 : decode cX10_element 14 = .ok (.ldc 203, 2) := by decide +kernel
theorem dX10_element_16 : decode cX10_element 16 = .ok (.invokespecial 205, 3) := by decide +kernel
theorem dX10_element_19 : decode cX10_element 19 = .ok (.athrow, 1) := by decide +kernel
theorem dX10_element_20 : decode cX10_element 20 = .ok (.aload_n 3, 1) := by decide +kernel
theorem dX10_element_21 : decode cX10_element 21 = .ok (.invokevirtual 208, 3) := by decide +kernel
theorem dX10_element_24 : decode cX10_element 24 = .ok (.ifCond .eq 11, 3) := by decide +kernel
theorem dX10_element_27 : decode cX10_element 27 = .ok (.aload_n 3, 1) := by decide +kernel
theorem dX10_element_28 : decode cX10_element 28 = .ok (.iload_n 2, 1) := by decide +kernel
theorem dX10_element_29 : decode cX10_element 29 = .ok (.invokevirtual 195, 3) := by decide +kernel
theorem dX10_element_32 : decode cX10_element 32 = .ok (.ifCond .ne 13, 3) := by decide +kernel
theorem dX10_element_35 : decode cX10_element 35 = .ok (.new 212, 3) := by decide +kernel
theorem dX10_element_38 : decode cX10_element 38 = .ok (.dup, 1) := by decide +kernel
theorem dX10_element_39 : decode cX10_element 39 = .ok (.ldc 214, 2) := by decide +kernel
theorem dX10_element_41 : decode cX10_element 41 = .ok (.invokespecial 216, 3) := by decide +kernel
theorem dX10_element_44 : decode cX10_element 44 = .ok (.athrow, 1) := by decide +kernel
theorem dX10_element_45 : decode cX10_element 45 = .ok (.aload_n 3, 1) := by decide +kernel
theorem dX10_element_46 : decode cX10_element 46 = .ok (.iload_n 2, 1) := by decide +kernel
theorem dX10_element_47 : decode cX10_element 47 = .ok (.invokevirtual 160, 3) := by decide +kernel
theorem dX10_element_50 : decode cX10_element 50 = .ok (.i2l, 1) := by decide +kernel
theorem dX10_element_51 : decode cX10_element 51 = .ok (.lreturn, 1) := by decide +kernel
theorem dX10_copy_0 : decode cX10_copy 0 = .ok (.aload_n 0, 1) := by decide +kernel
theorem dX10_copy_1 : decode cX10_copy 1 = .ok (.iload_n 1, 1) := by decide +kernel
theorem dX10_copy_2 : decode cX10_copy 2 = .ok (.invokevirtual 29, 3) := by decide +kernel
theorem dX10_copy_5 : decode cX10_copy 5 = .ok (.astore 6, 2) := by decide +kernel
theorem dX10_copy_7 : decode cX10_copy 7 = .ok (.aload_n 0, 1) := by decide +kernel
theorem dX10_copy_8 : decode cX10_copy 8 = .ok (.iload_n 3, 1) := by decide +kernel
theorem dX10_copy_9 : decode cX10_copy 9 = .ok (.invokevirtual 29, 3) := by decide +kernel
theorem dX10_copy_12 : decode cX10_copy 12 = .ok (.astore 7, 2) := by decide +kernel
theorem dX10_copy_14 : decode cX10_copy 14 = .ok (.aload 6, 2) := by decide +kernel
theorem dX10_copy_16 : decode cX10_copy 16 = .ok (.ifnull 8, 3) := by decide +kernel
theorem dX10_copy_19 : decode cX10_copy 19 = .ok (.aload 7, 2) := by decide +kernel
theorem dX10_copy_21 : decode cX10_copy 21 = .ok (.ifnonnull 5, 3) := by decide +kernel
theorem dX10_copy_24 : decode cX10_copy 24 = .ok (.iconst (-1), 1) := by decide +kernel
theorem dX10_copy_25 : decode cX10_copy 25 = .ok (.ireturn, 1) := by decide +kernel
theorem dX10_copy_26 : decode cX10_copy 26 = .ok (.aload 6, 2) := by decide +kernel
theorem dX10_copy_28 : decode cX10_copy 28 = .ok (.invokevirtual 217, 3) := by decide +kernel
theorem dX10_copy_31 : decode cX10_copy 31 = .ok (.ifCond .ne 11, 3) := by decide +kernel
theorem dX10_copy_34 : decode cX10_copy 34 = .ok (.aload 7, 2) := by decide +kernel
theorem dX10_copy_36 : decode cX10_copy 36 = .ok (.invokevirtual 217, 3) := by decide +kernel
theorem dX10_copy_39 : decode cX10_copy 39 = .ok (.ifCond .eq 6, 3) := by decide +kernel
theorem dX10_copy_42 : decode cX10_copy 42 = .ok (.bipush (-11), 2) := by decide +kernel
theorem dX10_copy_44 : decode cX10_copy 44 = .ok (.ireturn, 1) := by decide +kernel
theorem dX10_copy_45 : decode cX10_copy 45 = .ok (.aload 6, 2) := by decide +kernel
theorem dX10_copy_47 : decode cX10_copy 47 = .ok (.invokevirtual 208, 3) := by decide +kernel
theorem dX10_copy_50 : decode cX10_copy 50 = .ok (.ifCond .eq 16, 3) := by decide +kernel
theorem dX10_copy_53 : decode cX10_copy 53 = .ok (.aload 6, 2) := by decide +kernel
theorem dX10_copy_55 : decode cX10_copy 55 = .ok (.getfield 220, 3) := by decide +kernel
theorem dX10_copy_58 : decode cX10_copy 58 = .ok (.aload 7, 2) := by decide +kernel
theorem dX10_copy_60 : decode cX10_copy 60 = .ok (.getfield 220, 3) := by decide +kernel
theorem dX10_copy_63 : decode cX10_copy 63 = .ok (.if_icmp .eq 6, 3) := by decide +kernel
theorem dX10_copy_66 : decode cX10_copy 66 = .ok (.bipush (-12), 2) := by decide +kernel
theorem dX10_copy_68 : decode cX10_copy 68 = .ok (.ireturn, 1) := by decide +kernel
theorem dX10_copy_69 : decode cX10_copy 69 = .ok (.aload 6, 2) := by decide +kernel
theorem dX10_copy_71 : decode cX10_copy 71 = .ok (.iload_n 2, 1) := by decide +kernel
theorem dX10_copy_72 : decode cX10_copy 72 = .ok (.iload 5, 2) := by decide +kernel
theorem dX10_copy_74 : decode cX10_copy 74 = .ok (.invokevirtual 223, 3) := by decide +kernel
theorem dX10_copy_77 : decode cX10_copy 77 = .ok (.ifCond .eq 15, 3) := by decide +kernel
theorem dX10_copy_80 : decode cX10_copy 80 = .ok (.aload 7, 2) := by decide +kernel
theorem dX10_copy_82 : decode cX10_copy 82 = .ok (.iload 4, 2) := by decide +kernel
theorem dX10_copy_84 : decode cX10_copy 84 = .ok (.iload 5, 2) := by decide +kernel
theorem dX10_copy_86 : decode cX10_copy 86 = .ok (.invokevirtual 223, 3) := by decide +kernel
theorem dX10_copy_89 : decode cX10_copy 89 = .ok (.ifCond .ne 6, 3) := by decide +kernel
theorem dX10_copy_92 : decode cX10_copy 92 = .ok (.bipush (-13), 2) := by decide +kernel
theorem dX10_copy_94 : decode cX10_copy 94 = .ok (.ireturn, 1) := by decide +kernel
theorem dX10_copy_95 : decode cX10_copy 95 = .ok (.aload 6, 2) := by decide +kernel
theorem dX10_copy_97 : decode cX10_copy 97 = .ok (.getfield 227, 3) := by decide +kernel
theorem dX10_copy_100 : decode cX10_copy 100 = .ok (.iload_n 2, 1) := by decide +kernel
theorem dX10_copy_101 : decode cX10_copy 101 = .ok (.aload 7, 2) := by decide +kernel
theorem dX10_copy_103 : decode cX10_copy 103 = .ok (.getfield 227, 3) := by decide +kernel
theorem dX10_copy_106 : decode cX10_copy 106 = .ok (.iload 4, 2) := by decide +kernel
theorem dX10_copy_108 : decode cX10_copy 108 = .ok (.iload 5, 2) := by decide +kernel
theorem dX10_copy_110 : decode cX10_copy 110 = .ok (.invokestatic 231, 3) := by decide +kernel
theorem dX10_copy_113 : decode cX10_copy 113 = .ok (.iload 5, 2) := by decide +kernel
theorem dX10_copy_115 : decode cX10_copy 115 = .ok (.ireturn, 1) := by decide +kernel
theorem dX10_tax_0 : decode cX10_tax 0 = .ok (.aload_n 0, 1) := by decide +kernel
theorem dX10_tax_1 : decode cX10_tax 1 = .ok (.iload_n 1, 1) := by decide +kernel
theorem dX10_tax_2 : decode cX10_tax 2 = .ok (.invokevirtual 29, 3) := by decide +kernel
theorem dX10_tax_5 : decode cX10_tax 5 = .ok (.astore_n 2, 1) := by decide +kernel
theorem dX10_tax_6 : decode cX10_tax 6 = .ok (.aload_n 2, 1) := by decide +kernel
theorem dX10_tax_7 : decode cX10_tax 7 = .ok (.ifnonnull 5, 3) := by decide +kernel
theorem dX10_tax_10 : decode cX10_tax 10 = .ok (.iconst (-1), 1) := by decide +kernel
theorem dX10_tax_11 : decode cX10_tax 11 = .ok (.ireturn, 1) := by decide +kernel
theorem dX10_tax_12 : decode cX10_tax 12 = .ok (.aload_n 2, 1) := by decide +kernel
theorem dX10_tax_13 : decode cX10_tax 13 = .ok (.getfield 51, 3) := by decide +kernel
theorem dX10_tax_16 : decode cX10_tax 16 = .ok (.astore_n 3, 1) := by decide +kernel
theorem dX10_tax_17 : decode cX10_tax 17 = .ok (.aload_n 3, 1) := by decide +kernel
theorem dX10_tax_18 : decode cX10_tax 18 = .ok (.ifnonnull 10, 3) := by decide +kernel
theorem dX10_tax_21 : decode cX10_tax 21 = .ok (.aload_n 2, 1) := by decide +kernel
theorem dX10_tax_22 : decode cX10_tax 22 = .ok (.invokevirtual 55, 3) := by decide +kernel
theorem dX10_tax_25 : decode cX10_tax 25 = .ok (.goto 7, 3) := by decide +kernel
theorem dX10_tax_28 : decode cX10_tax 28 = .ok (.aload_n 3, 1) := by decide +kernel
theorem dX10_tax_29 : decode cX10_tax 29 = .ok (.invokevirtual 237, 3) := by decide +kernel
theorem dX10_tax_32 : decode cX10_tax 32 = .ok (.ireturn, 1) := by decide +kernel
theorem dX10_toss_0 : decode cX10_toss 0 = .ok (.aload_n 0, 1) := by decide +kernel
theorem dX10_toss_1 : decode cX10_toss 1 = .ok (.iload_n 1, 1) := by decide +kernel
theorem dX10_toss_2 : decode cX10_toss 2 = .ok (.invokevirtual 29, 3) := by decide +kernel
theorem dX10_toss_5 : decode cX10_toss 5 = .ok (.astore_n 2, 1) := by decide +kernel
theorem dX10_toss_6 : decode cX10_toss 6 = .ok (.aload_n 2, 1) := by decide +kernel
theorem dX10_toss_7 : decode cX10_toss 7 = .ok (.ifnonnull 5, 3) := by decide +kernel
theorem dX10_toss_10 : decode cX10_toss 10 = .ok (.iconst (-1), 1) := by decide +kernel
theorem dX10_toss_11 : decode cX10_toss 11 = .ok (.ireturn, 1) := by decide +kernel
theorem dX10_toss_12 : decode cX10_toss 12 = .ok (.aload_n 2, 1) := by decide +kernel
theorem dX10_toss_13 : decode cX10_toss 13 = .ok (.getfield 51, 3) := by decide +kernel
theorem dX10_toss_16 : decode cX10_toss 16 = .ok (.astore_n 3, 1) := by decide +kernel
theorem dX10_toss_17 : decode cX10_toss 17 = .ok (.aload_n 3, 1) := by decide +kernel
theorem dX10_toss_18 : decode cX10_toss 18 = .ok (.ifnonnull 10, 3) := by decide +kernel
theorem dX10_toss_21 : decode cX10_toss 21 = .ok (.aload_n 2, 1) := by decide +kernel
theorem dX10_toss_22 : decode cX10_toss 22 = .ok (.invokevirtual 55, 3) := by decide +kernel
theorem dX10_toss_25 : decode cX10_toss 25 = .ok (.goto 7, 3) := by decide +kernel
theorem dX10_toss_28 : decode cX10_toss 28 = .ok (.aload_n 3, 1) := by decide +kernel
theorem dX10_toss_29 : decode cX10_toss 29 = .ok (.invokestatic 240, 3) := by decide +kernel
theorem dX10_toss_32 : decode cX10_toss 32 = .ok (.ireturn, 1) := by decide +kernel
theorem dX10_isPlot_0 : decode cX10_isPlot 0 = .ok (.iload_n 0, 1) := by decide +kernel
theorem dX10_isPlot_1 : decode cX10_isPlot 1 = .ok (.ifCond .lt 13, 3) := by decide +kernel
theorem dX10_isPlot_4 : decode cX10_isPlot 4 = .ok (.iload_n 0, 1) := by decide +kernel
theorem dX10_isPlot_5 : decode cX10_isPlot 5 = .ok (.bipush 12, 2) := by decide +kernel
theorem dX10_isPlot_7 : decode cX10_isPlot 7 = .ok (.if_icmp .ge 7, 3) := by decide +kernel
theorem dX10_isPlot_10 : decode cX10_isPlot 10 = .ok (.iconst 1, 1) := by decide +kernel
theorem dX10_isPlot_11 : decode cX10_isPlot 11 = .ok (.goto 4, 3) := by decide +kernel
theorem dX10_isPlot_14 : decode cX10_isPlot 14 = .ok (.iconst 0, 1) := by decide +kernel
theorem dX10_isPlot_15 : decode cX10_isPlot 15 = .ok (.ireturn, 1) := by decide +kernel
theorem dX10_isHeight_0 : decode cX10_isHeight 0 = .ok (.iload_n 0, 1) := by decide +kernel
theorem dX10_isHeight_1 : decode cX10_isHeight 1 = .ok (.iconst 1, 1) := by decide +kernel
theorem dX10_isHeight_2 : decode cX10_isHeight 2 = .ok (.if_icmp .lt 13, 3) := by decide +kernel
theorem dX10_isHeight_5 : decode cX10_isHeight 5 = .ok (.iload_n 0, 1) := by decide +kernel
theorem dX10_isHeight_6 : decode cX10_isHeight 6 = .ok (.bipush 9, 2) := by decide +kernel
theorem dX10_isHeight_8 : decode cX10_isHeight 8 = .ok (.if_icmp .gt 7, 3) := by decide +kernel
theorem dX10_isHeight_11 : decode cX10_isHeight 11 = .ok (.iconst 1, 1) := by decide +kernel
theorem dX10_isHeight_12 : decode cX10_isHeight 12 = .ok (.goto 4, 3) := by decide +kernel
theorem dX10_isHeight_15 : decode cX10_isHeight 15 = .ok (.iconst 0, 1) := by decide +kernel
theorem dX10_isHeight_16 : decode cX10_isHeight 16 = .ok (.ireturn, 1) := by decide +kernel
theorem dX10_shelfAt_0 : decode cX10_shelfAt 0 = .ok (.iload_n 1, 1) := by decide +kernel
theorem dX10_shelfAt_1 : decode cX10_shelfAt 1 = .ok (.ifCond .lt 21, 3) := by decide +kernel
theorem dX10_shelfAt_4 : decode cX10_shelfAt 4 = .ok (.iload_n 1, 1) := by decide +kernel
theorem dX10_shelfAt_5 : decode cX10_shelfAt 5 = .ok (.aload_n 0, 1) := by decide +kernel
theorem dX10_shelfAt_6 : decode cX10_shelfAt 6 = .ok (.getfield 24, 3) := by decide +kernel
theorem dX10_shelfAt_9 : decode cX10_shelfAt 9 = .ok (.arraylength, 1) := by decide +kernel
theorem dX10_shelfAt_10 : decode cX10_shelfAt 10 = .ok (.if_icmp .ge 12, 3) := by decide +kernel
theorem dX10_shelfAt_13 : decode cX10_shelfAt 13 = .ok (.aload_n 0, 1) := by decide +kernel
theorem dX10_shelfAt_14 : decode cX10_shelfAt 14 = .ok (.getfield 24, 3) := by decide +kernel
theorem dX10_shelfAt_17 : decode cX10_shelfAt 17 = .ok (.iload_n 1, 1) := by decide +kernel
theorem dX10_shelfAt_18 : decode cX10_shelfAt 18 = .ok (.aaload, 1) := by decide +kernel
theorem dX10_shelfAt_19 : decode cX10_shelfAt 19 = .ok (.goto 4, 3) := by decide +kernel
theorem dX10_shelfAt_22 : decode cX10_shelfAt 22 = .ok (.aconst_null, 1) := by decide +kernel
theorem dX10_shelfAt_23 : decode cX10_shelfAt 23 = .ok (.areturn, 1) := by decide +kernel
theorem dX10_lawOf_0 : decode cX10_lawOf 0 = .ok (.iload_n 1, 1) := by decide +kernel
theorem dX10_lawOf_1 : decode cX10_lawOf 1 = .ok (.ifCond .lt 9, 3) := by decide +kernel
theorem dX10_lawOf_4 : decode cX10_lawOf 4 = .ok (.iload_n 1, 1) := by decide +kernel
theorem dX10_lawOf_5 : decode cX10_lawOf 5 = .ok (.bipush 9, 2) := by decide +kernel
theorem dX10_lawOf_7 : decode cX10_lawOf 7 = .ok (.if_icmp .le 5, 3) := by decide +kernel
theorem dX10_lawOf_10 : decode cX10_lawOf 10 = .ok (.aconst_null, 1) := by decide +kernel
theorem dX10_lawOf_11 : decode cX10_lawOf 11 = .ok (.areturn, 1) := by decide +kernel
theorem dX10_lawOf_12 : decode cX10_lawOf 12 = .ok (.iload_n 0, 1) := by decide +kernel
theorem dX10_lawOf_13 : decode cX10_lawOf 13 = .ok (.tableswitch 127 0 7 #[47, 57, 67, 77, 87, 97, 107, 117], 47) := by decide +kernel
theorem dX10_lawOf_60 : decode cX10_lawOf 60 = .ok (.new 61, 3) := by decide +kernel
theorem dX10_lawOf_63 : decode cX10_lawOf 63 = .ok (.dup, 1) := by decide +kernel
theorem dX10_lawOf_64 : decode cX10_lawOf 64 = .ok (.iload_n 0, 1) := by decide +kernel
theorem dX10_lawOf_65 : decode cX10_lawOf 65 = .ok (.iload_n 1, 1) := by decide +kernel
theorem dX10_lawOf_66 : decode cX10_lawOf 66 = .ok (.invokespecial 244, 3) := by decide +kernel
theorem dX10_lawOf_69 : decode cX10_lawOf 69 = .ok (.areturn, 1) := by decide +kernel
theorem dX10_lawOf_70 : decode cX10_lawOf 70 = .ok (.new 246, 3) := by decide +kernel
theorem dX10_lawOf_73 : decode cX10_lawOf 73 = .ok (.dup, 1) := by decide +kernel
theorem dX10_lawOf_74 : decode cX10_lawOf 74 = .ok (.iload_n 0, 1) := by decide +kernel
theorem dX10_lawOf_75 : decode cX10_lawOf 75 = .ok (.iload_n 1, 1) := by decide +kernel
theorem dX10_lawOf_76 : decode cX10_lawOf 76 = .ok (.invokespecial 248, 3) := by decide +kernel
theorem dX10_lawOf_79 : decode cX10_lawOf 79 = .ok (.areturn, 1) := by decide +kernel
theorem dX10_lawOf_80 : decode cX10_lawOf 80 = .ok (.new 249, 3) := by decide +kernel
theorem dX10_lawOf_83 : decode cX10_lawOf 83 = .ok (.dup, 1) := by decide +kernel
theorem dX10_lawOf_84 : decode cX10_lawOf 84 = .ok (.iload_n 0, 1) := by decide +kernel
theorem dX10_lawOf_85 : decode cX10_lawOf 85 = .ok (.iload_n 1, 1) := by decide +kernel
theorem dX10_lawOf_86 : decode cX10_lawOf 86 = .ok (.invokespecial 251, 3) := by decide +kernel
theorem dX10_lawOf_89 : decode cX10_lawOf 89 = .ok (.areturn, 1) := by decide +kernel
theorem dX10_lawOf_90 : decode cX10_lawOf 90 = .ok (.new 252, 3) := by decide +kernel
theorem dX10_lawOf_93 : decode cX10_lawOf 93 = .ok (.dup, 1) := by decide +kernel
theorem dX10_lawOf_94 : decode cX10_lawOf 94 = .ok (.iload_n 0, 1) := by decide +kernel
theorem dX10_lawOf_95 : decode cX10_lawOf 95 = .ok (.iload_n 1, 1) := by decide +kernel
theorem dX10_lawOf_96 : decode cX10_lawOf 96 = .ok (.invokespecial 254, 3) := by decide +kernel
theorem dX10_lawOf_99 : decode cX10_lawOf 99 = .ok (.areturn, 1) := by decide +kernel
theorem dX10_lawOf_100 : decode cX10_lawOf 100 = .ok (.new 255, 3) := by decide +kernel
theorem dX10_lawOf_103 : decode cX10_lawOf 103 = .ok (.dup, 1) := by decide +kernel
theorem dX10_lawOf_104 : decode cX10_lawOf 104 = .ok (.iload_n 0, 1) := by decide +kernel
theorem dX10_lawOf_105 : decode cX10_lawOf 105 = .ok (.iload_n 1, 1) := by decide +kernel
theorem dX10_lawOf_106 : decode cX10_lawOf 106 = .ok (.invokespecial 257, 3) := by decide +kernel
theorem dX10_lawOf_109 : decode cX10_lawOf 109 = .ok (.areturn, 1) := by decide +kernel
theorem dX10_lawOf_110 : decode cX10_lawOf 110 = .ok (.new 258, 3) := by decide +kernel
theorem dX10_lawOf_113 : decode cX10_lawOf 113 = .ok (.dup, 1) := by decide +kernel
theorem dX10_lawOf_114 : decode cX10_lawOf 114 = .ok (.iload_n 0, 1) := by decide +kernel
theorem dX10_lawOf_115 : decode cX10_lawOf 115 = .ok (.iload_n 1, 1) := by decide +kernel
theorem dX10_lawOf_116 : decode cX10_lawOf 116 = .ok (.invokespecial 260, 3) := by decide +kernel
theorem dX10_lawOf_119 : decode cX10_lawOf 119 = .ok (.areturn, 1) := by decide +kernel
theorem dX10_lawOf_120 : decode cX10_lawOf 120 = .ok (.new 261, 3) := by decide +kernel
theorem dX10_lawOf_123 : decode cX10_lawOf 123 = .ok (.dup, 1) := by decide +kernel
theorem dX10_lawOf_124 : decode cX10_lawOf 124 = .ok (.iload_n 0, 1) := by decide +kernel
theorem dX10_lawOf_125 : decode cX10_lawOf 125 = .ok (.iload_n 1, 1) := by decide +kernel
theorem dX10_lawOf_126 : decode cX10_lawOf 126 = .ok (.invokespecial 263, 3) := by decide +kernel
theorem dX10_lawOf_129 : decode cX10_lawOf 129 = .ok (.areturn, 1) := by decide +kernel
theorem dX10_lawOf_130 : decode cX10_lawOf 130 = .ok (.new 264, 3) := by decide +kernel
theorem dX10_lawOf_133 : decode cX10_lawOf 133 = .ok (.dup, 1) := by decide +kernel
theorem dX10_lawOf_134 : decode cX10_lawOf 134 = .ok (.iload_n 0, 1) := by decide +kernel
theorem dX10_lawOf_135 : decode cX10_lawOf 135 = .ok (.iload_n 1, 1) := by decide +kernel
theorem dX10_lawOf_136 : decode cX10_lawOf 136 = .ok (.invokespecial 266, 3) := by decide +kernel
theorem dX10_lawOf_139 : decode cX10_lawOf 139 = .ok (.areturn, 1) := by decide +kernel
theorem dX10_lawOf_140 : decode cX10_lawOf 140 = .ok (.aconst_null, 1) := by decide +kernel
theorem dX10_lawOf_141 : decode cX10_lawOf 141 = .ok (.areturn, 1) := by decide +kernel
theorem dX10_stuckAt_0 : decode cX10_stuckAt 0 = .ok (.iconst 0, 1) := by decide +kernel
theorem dX10_stuckAt_1 : decode cX10_stuckAt 1 = .ok (.istore_n 1, 1) := by decide +kernel
theorem dX10_stuckAt_2 : decode cX10_stuckAt 2 = .ok (.iconst 0, 1) := by decide +kernel
theorem dX10_stuckAt_3 : decode cX10_stuckAt 3 = .ok (.istore_n 2, 1) := by decide +kernel
theorem dX10_stuckAt_4 : decode cX10_stuckAt 4 = .ok (.iload_n 2, 1) := by decide +kernel
theorem dX10_stuckAt_5 : decode cX10_stuckAt 5 = .ok (.aload_n 0, 1) := by decide +kernel
theorem dX10_stuckAt_6 : decode cX10_stuckAt 6 = .ok (.getfield 157, 3) := by decide +kernel
theorem dX10_stuckAt_9 : decode cX10_stuckAt 9 = .ok (.if_icmp .ge 41, 3) := by decide +kernel
theorem dX10_stuckAt_12 : decode cX10_stuckAt 12 = .ok (.iload_n 1, 1) := by decide +kernel
theorem dX10_stuckAt_13 : decode cX10_stuckAt 13 = .ok (.aload_n 0, 1) := by decide +kernel
theorem dX10_stuckAt_14 : decode cX10_stuckAt 14 = .ok (.getfield 157, 3) := by decide +kernel
theorem dX10_stuckAt_17 : decode cX10_stuckAt 17 = .ok (.if_icmp .ge 33, 3) := by decide +kernel
theorem dX10_stuckAt_20 : decode cX10_stuckAt 20 = .ok (.aload_n 0, 1) := by decide +kernel
theorem dX10_stuckAt_21 : decode cX10_stuckAt 21 = .ok (.iload_n 1, 1) := by decide +kernel
theorem dX10_stuckAt_22 : decode cX10_stuckAt 22 = .ok (.invokestatic 267, 3) := by decide +kernel
theorem dX10_stuckAt_25 : decode cX10_stuckAt 25 = .ok (.istore_n 3, 1) := by decide +kernel
theorem dX10_stuckAt_26 : decode cX10_stuckAt 26 = .ok (.iload_n 3, 1) := by decide +kernel
theorem dX10_stuckAt_27 : decode cX10_stuckAt 27 = .ok (.iconst (-1), 1) := by decide +kernel
theorem dX10_stuckAt_28 : decode cX10_stuckAt 28 = .ok (.if_icmp .eq 5, 3) := by decide +kernel
theorem dX10_stuckAt_31 : decode cX10_stuckAt 31 = .ok (.iload_n 3, 1) := by decide +kernel
theorem dX10_stuckAt_32 : decode cX10_stuckAt 32 = .ok (.ireturn, 1) := by decide +kernel
theorem dX10_stuckAt_33 : decode cX10_stuckAt 33 = .ok (.iload_n 1, 1) := by decide +kernel
theorem dX10_stuckAt_34 : decode cX10_stuckAt 34 = .ok (.aload_n 0, 1) := by decide +kernel
theorem dX10_stuckAt_35 : decode cX10_stuckAt 35 = .ok (.iload_n 1, 1) := by decide +kernel
theorem dX10_stuckAt_36 : decode cX10_stuckAt 36 = .ok (.invokevirtual 160, 3) := by decide +kernel
theorem dX10_stuckAt_39 : decode cX10_stuckAt 39 = .ok (.invokestatic 270, 3) := by decide +kernel
theorem dX10_stuckAt_42 : decode cX10_stuckAt 42 = .ok (.iadd, 1) := by decide +kernel
theorem dX10_stuckAt_43 : decode cX10_stuckAt 43 = .ok (.istore_n 1, 1) := by decide +kernel
theorem dX10_stuckAt_44 : decode cX10_stuckAt 44 = .ok (.iinc 2 1, 3) := by decide +kernel
theorem dX10_stuckAt_47 : decode cX10_stuckAt 47 = .ok (.goto (-43), 3) := by decide +kernel
theorem dX10_stuckAt_50 : decode cX10_stuckAt 50 = .ok (.aload_n 0, 1) := by decide +kernel
theorem dX10_stuckAt_51 : decode cX10_stuckAt 51 = .ok (.getfield 157, 3) := by decide +kernel
theorem dX10_stuckAt_54 : decode cX10_stuckAt 54 = .ok (.ifCond .ne 7, 3) := by decide +kernel
theorem dX10_stuckAt_57 : decode cX10_stuckAt 57 = .ok (.iconst 0, 1) := by decide +kernel
theorem dX10_stuckAt_58 : decode cX10_stuckAt 58 = .ok (.goto 4, 3) := by decide +kernel
theorem dX10_stuckAt_61 : decode cX10_stuckAt 61 = .ok (.iconst (-1), 1) := by decide +kernel
theorem dX10_stuckAt_62 : decode cX10_stuckAt 62 = .ok (.ireturn, 1) := by decide +kernel
theorem dX10_stuckInStatement_0 : decode cX10_stuckInStatement 0 = .ok (.aload_n 0, 1) := by decide +kernel
theorem dX10_stuckInStatement_1 : decode cX10_stuckInStatement 1 = .ok (.iload_n 1, 1) := by decide +kernel
theorem dX10_stuckInStatement_2 : decode cX10_stuckInStatement 2 = .ok (.invokevirtual 160, 3) := by decide +kernel
theorem dX10_stuckInStatement_5 : decode cX10_stuckInStatement 5 = .ok (.invokestatic 273, 3) := by decide +kernel
theorem dX10_stuckInStatement_8 : decode cX10_stuckInStatement 8 = .ok (.istore_n 2, 1) := by decide +kernel
theorem dX10_stuckInStatement_9 : decode cX10_stuckInStatement 9 = .ok (.iload_n 2, 1) := by decide +kernel
theorem dX10_stuckInStatement_10 : decode cX10_stuckInStatement 10 = .ok (.ifCond .ne 5, 3) := by decide +kernel
theorem dX10_stuckInStatement_13 : decode cX10_stuckInStatement 13 = .ok (.iload_n 1, 1) := by decide +kernel
theorem dX10_stuckInStatement_14 : decode cX10_stuckInStatement 14 = .ok (.ireturn, 1) := by decide +kernel
theorem dX10_stuckInStatement_15 : decode cX10_stuckInStatement 15 = .ok (.iload_n 1, 1) := by decide +kernel
theorem dX10_stuckInStatement_16 : decode cX10_stuckInStatement 16 = .ok (.iload_n 2, 1) := by decide +kernel
theorem dX10_stuckInStatement_17 : decode cX10_stuckInStatement 17 = .ok (.iadd, 1) := by decide +kernel
theorem dX10_stuckInStatement_18 : decode cX10_stuckInStatement 18 = .ok (.iconst 1, 1) := by decide +kernel
theorem dX10_stuckInStatement_19 : decode cX10_stuckInStatement 19 = .ok (.iadd, 1) := by decide +kernel
theorem dX10_stuckInStatement_20 : decode cX10_stuckInStatement 20 = .ok (.istore_n 3, 1) := by decide +kernel
theorem dX10_stuckInStatement_21 : decode cX10_stuckInStatement 21 = .ok (.iload_n 1, 1) := by decide +kernel
theorem dX10_stuckInStatement_22 : decode cX10_stuckInStatement 22 = .ok (.iconst 1, 1) := by decide +kernel
theorem dX10_stuckInStatement_23 : decode cX10_stuckInStatement 23 = .ok (.iadd, 1) := by decide +kernel
theorem dX10_stuckInStatement_24 : decode cX10_stuckInStatement 24 = .ok (.istore 4, 2) := by decide +kernel
theorem dX10_stuckInStatement_26 : decode cX10_stuckInStatement 26 = .ok (.iload 4, 2) := by decide +kernel
theorem dX10_stuckInStatement_28 : decode cX10_stuckInStatement 28 = .ok (.iload_n 3, 1) := by decide +kernel
theorem dX10_stuckInStatement_29 : decode cX10_stuckInStatement 29 = .ok (.if_icmp .ge 34, 3) := by decide +kernel
theorem dX10_stuckInStatement_32 : decode cX10_stuckInStatement 32 = .ok (.aload_n 0, 1) := by decide +kernel
theorem dX10_stuckInStatement_33 : decode cX10_stuckInStatement 33 = .ok (.iload 4, 2) := by decide +kernel
theorem dX10_stuckInStatement_35 : decode cX10_stuckInStatement 35 = .ok (.invokevirtual 160, 3) := by decide +kernel
theorem dX10_stuckInStatement_38 : decode cX10_stuckInStatement 38 = .ok (.bipush 48, 2) := by decide +kernel
theorem dX10_stuckInStatement_40 : decode cX10_stuckInStatement 40 = .ok (.if_icmp .lt 14, 3) := by decide +kernel
theorem dX10_stuckInStatement_43 : decode cX10_stuckInStatement 43 = .ok (.aload_n 0, 1) := by decide +kernel
theorem dX10_stuckInStatement_44 : decode cX10_stuckInStatement 44 = .ok (.iload 4, 2) := by decide +kernel
theorem dX10_stuckInStatement_46 : decode cX10_stuckInStatement 46 = .ok (.invokevirtual 160, 3) := by decide +kernel
theorem dX10_stuckInStatement_49 : decode cX10_stuckInStatement 49 = .ok (.bipush 57, 2) := by decide +kernel
theorem dX10_stuckInStatement_51 : decode cX10_stuckInStatement 51 = .ok (.if_icmp .le 6, 3) := by decide +kernel
theorem dX10_stuckInStatement_54 : decode cX10_stuckInStatement 54 = .ok (.iload 4, 2) := by decide +kernel
theorem dX10_stuckInStatement_56 : decode cX10_stuckInStatement 56 = .ok (.ireturn, 1) := by decide +kernel
theorem dX10_stuckInStatement_57 : decode cX10_stuckInStatement 57 = .ok (.iinc 4 1, 3) := by decide +kernel
theorem dX10_stuckInStatement_60 : decode cX10_stuckInStatement 60 = .ok (.goto (-34), 3) := by decide +kernel
theorem dX10_stuckInStatement_63 : decode cX10_stuckInStatement 63 = .ok (.aload_n 0, 1) := by decide +kernel
theorem dX10_stuckInStatement_64 : decode cX10_stuckInStatement 64 = .ok (.iload_n 3, 1) := by decide +kernel
theorem dX10_stuckInStatement_65 : decode cX10_stuckInStatement 65 = .ok (.invokevirtual 160, 3) := by decide +kernel
theorem dX10_stuckInStatement_68 : decode cX10_stuckInStatement 68 = .ok (.bipush 59, 2) := by decide +kernel
theorem dX10_stuckInStatement_70 : decode cX10_stuckInStatement 70 = .ok (.if_icmp .ne 7, 3) := by decide +kernel
theorem dX10_stuckInStatement_73 : decode cX10_stuckInStatement 73 = .ok (.iconst (-1), 1) := by decide +kernel
theorem dX10_stuckInStatement_74 : decode cX10_stuckInStatement 74 = .ok (.goto 4, 3) := by decide +kernel
theorem dX10_stuckInStatement_77 : decode cX10_stuckInStatement 77 = .ok (.iload_n 3, 1) := by decide +kernel
theorem dX10_stuckInStatement_78 : decode cX10_stuckInStatement 78 = .ok (.ireturn, 1) := by decide +kernel
theorem dX10_digitsBehind_0 : decode cX10_digitsBehind 0 = .ok (.iload_n 0, 1) := by decide +kernel
theorem dX10_digitsBehind_1 : decode cX10_digitsBehind 1 = .ok (.lookupswitch 39 #[(98, 35), (102, 37), (108, 37)], 35) := by decide +kernel
theorem dX10_digitsBehind_36 : decode cX10_digitsBehind 36 = .ok (.iconst 3, 1) := by decide +kernel
theorem dX10_digitsBehind_37 : decode cX10_digitsBehind 37 = .ok (.ireturn, 1) := by decide +kernel
theorem dX10_digitsBehind_38 : decode cX10_digitsBehind 38 = .ok (.iconst 2, 1) := by decide +kernel
theorem dX10_digitsBehind_39 : decode cX10_digitsBehind 39 = .ok (.ireturn, 1) := by decide +kernel
theorem dX10_digitsBehind_40 : decode cX10_digitsBehind 40 = .ok (.iconst 0, 1) := by decide +kernel
theorem dX10_digitsBehind_41 : decode cX10_digitsBehind 41 = .ok (.ireturn, 1) := by decide +kernel
theorem dX10_lengthOf_0 : decode cX10_lengthOf 0 = .ok (.iload_n 0, 1) := by decide +kernel
theorem dX10_lengthOf_1 : decode cX10_lengthOf 1 = .ok (.invokestatic 273, 3) := by decide +kernel
theorem dX10_lengthOf_4 : decode cX10_lengthOf 4 = .ok (.iconst 2, 1) := by decide +kernel
theorem dX10_lengthOf_5 : decode cX10_lengthOf 5 = .ok (.iadd, 1) := by decide +kernel
theorem dX10_lengthOf_6 : decode cX10_lengthOf 6 = .ok (.ireturn, 1) := by decide +kernel
theorem dX10_carryOut_0 : decode cX10_carryOut 0 = .ok (.aload_n 0, 1) := by decide +kernel
theorem dX10_carryOut_1 : decode cX10_carryOut 1 = .ok (.getfield 16, 3) := by decide +kernel
theorem dX10_carryOut_4 : decode cX10_carryOut 4 = .ok (.aload_n 0, 1) := by decide +kernel
theorem dX10_carryOut_5 : decode cX10_carryOut 5 = .ok (.getfield 12, 3) := by decide +kernel
theorem dX10_carryOut_8 : decode cX10_carryOut 8 = .ok (.invokevirtual 168, 3) := by decide +kernel
theorem dX10_carryOut_11 : decode cX10_carryOut 11 = .ok (.iconst 0, 1) := by decide +kernel
theorem dX10_carryOut_12 : decode cX10_carryOut 12 = .ok (.istore_n 2, 1) := by decide +kernel
theorem dX10_carryOut_13 : decode cX10_carryOut 13 = .ok (.iconst 0, 1) := by decide +kernel
theorem dX10_carryOut_14 : decode cX10_carryOut 14 = .ok (.istore_n 3, 1) := by decide +kernel
theorem dX10_carryOut_15 : decode cX10_carryOut 15 = .ok (.iload_n 3, 1) := by decide +kernel
theorem dX10_carryOut_16 : decode cX10_carryOut 16 = .ok (.aload_n 1, 1) := by decide +kernel
theorem dX10_carryOut_17 : decode cX10_carryOut 17 = .ok (.getfield 157, 3) := by decide +kernel
theorem dX10_carryOut_20 : decode cX10_carryOut 20 = .ok (.if_icmp .ge 43, 3) := by decide +kernel
theorem dX10_carryOut_23 : decode cX10_carryOut 23 = .ok (.iload_n 2, 1) := by decide +kernel
theorem dX10_carryOut_24 : decode cX10_carryOut 24 = .ok (.aload_n 1, 1) := by decide +kernel
theorem dX10_carryOut_25 : decode cX10_carryOut 25 = .ok (.getfield 157, 3) := by decide +kernel
theorem dX10_carryOut_28 : decode cX10_carryOut 28 = .ok (.if_icmp .ge 35, 3) := by decide +kernel
theorem dX10_carryOut_31 : decode cX10_carryOut 31 = .ok (.aload_n 0, 1) := by decide +kernel
theorem dX10_carryOut_32 : decode cX10_carryOut 32 = .ok (.aload_n 1, 1) := by decide +kernel
theorem dX10_carryOut_33 : decode cX10_carryOut 33 = .ok (.iload_n 2, 1) := by decide +kernel
theorem dX10_carryOut_34 : decode cX10_carryOut 34 = .ok (.invokevirtual 276, 3) := by decide +kernel
theorem dX10_carryOut_37 : decode cX10_carryOut 37 = .ok (.ifCond .ne 9, 3) := by decide +kernel
theorem dX10_carryOut_40 : decode cX10_carryOut 40 = .ok (.sipush (-2000), 3) := by decide +kernel
theorem dX10_carryOut_43 : decode cX10_carryOut 43 = .ok (.iload_n 2, 1) := by decide +kernel
theorem dX10_carryOut_44 : decode cX10_carryOut 44 = .ok (.isub, 1) := by decide +kernel
end
section
theorem dX10_carryOut_45 : decode cX10_carryOut 45 = .ok (.ireturn, 1) := by decide +kernel
theorem dX10_carryOut_46 : decode cX10_carryOut 46 = .ok (.iload_n 2, 1) := by decide +kernel
theorem dX10_carryOut_47 : decode cX10_carryOut 47 = .ok (.aload_n 1, 1) := by decide +kernel
theorem dX10_carryOut_48 : decode cX10_carryOut 48 = .ok (.iload_n 2, 1) := by decide +kernel
theorem dX10_carryOut_49 : decode cX10_carryOut 49 = .ok (.invokevirtual 160, 3) := by decide +kernel
theorem dX10_carryOut_52 : decode cX10_carryOut 52 = .ok (.invokestatic 270, 3) := by decide +kernel
theorem dX10_carryOut_55 : decode cX10_carryOut 55 = .ok (.iadd, 1) := by decide +kernel
theorem dX10_carryOut_56 : decode cX10_carryOut 56 = .ok (.istore_n 2, 1) := by decide +kernel
theorem dX10_carryOut_57 : decode cX10_carryOut 57 = .ok (.iinc 3 1, 3) := by decide +kernel
theorem dX10_carryOut_60 : decode cX10_carryOut 60 = .ok (.goto (-45), 3) := by decide +kernel
theorem dX10_carryOut_63 : decode cX10_carryOut 63 = .ok (.aload_n 0, 1) := by decide +kernel
theorem dX10_carryOut_64 : decode cX10_carryOut 64 = .ok (.getfield 12, 3) := by decide +kernel
theorem dX10_carryOut_67 : decode cX10_carryOut 67 = .ok (.aload_n 0, 1) := by decide +kernel
theorem dX10_carryOut_68 : decode cX10_carryOut 68 = .ok (.getfield 16, 3) := by decide +kernel
theorem dX10_carryOut_71 : decode cX10_carryOut 71 = .ok (.invokevirtual 168, 3) := by decide +kernel
theorem dX10_carryOut_74 : decode cX10_carryOut 74 = .ok (.iload_n 3, 1) := by decide +kernel
theorem dX10_carryOut_75 : decode cX10_carryOut 75 = .ok (.ireturn, 1) := by decide +kernel
theorem dX10_isCarriedOut_0 : decode cX10_isCarriedOut 0 = .ok (.aload_n 1, 1) := by decide +kernel
theorem dX10_isCarriedOut_1 : decode cX10_isCarriedOut 1 = .ok (.iload_n 2, 1) := by decide +kernel
theorem dX10_isCarriedOut_2 : decode cX10_isCarriedOut 2 = .ok (.iconst 1, 1) := by decide +kernel
theorem dX10_isCarriedOut_3 : decode cX10_isCarriedOut 3 = .ok (.iadd, 1) := by decide +kernel
theorem dX10_isCarriedOut_4 : decode cX10_isCarriedOut 4 = .ok (.invokevirtual 160, 3) := by decide +kernel
theorem dX10_isCarriedOut_7 : decode cX10_isCarriedOut 7 = .ok (.bipush 48, 2) := by decide +kernel
theorem dX10_isCarriedOut_9 : decode cX10_isCarriedOut 9 = .ok (.isub, 1) := by decide +kernel
theorem dX10_isCarriedOut_10 : decode cX10_isCarriedOut 10 = .ok (.istore_n 3, 1) := by decide +kernel
theorem dX10_isCarriedOut_11 : decode cX10_isCarriedOut 11 = .ok (.aload_n 1, 1) := by decide +kernel
theorem dX10_isCarriedOut_12 : decode cX10_isCarriedOut 12 = .ok (.iload_n 2, 1) := by decide +kernel
theorem dX10_isCarriedOut_13 : decode cX10_isCarriedOut 13 = .ok (.iconst 2, 1) := by decide +kernel
theorem dX10_isCarriedOut_14 : decode cX10_isCarriedOut 14 = .ok (.iadd, 1) := by decide +kernel
theorem dX10_isCarriedOut_15 : decode cX10_isCarriedOut 15 = .ok (.invokevirtual 160, 3) := by decide +kernel
theorem dX10_isCarriedOut_18 : decode cX10_isCarriedOut 18 = .ok (.bipush 48, 2) := by decide +kernel
theorem dX10_isCarriedOut_20 : decode cX10_isCarriedOut 20 = .ok (.isub, 1) := by decide +kernel
theorem dX10_isCarriedOut_21 : decode cX10_isCarriedOut 21 = .ok (.istore 4, 2) := by decide +kernel
theorem dX10_isCarriedOut_23 : decode cX10_isCarriedOut 23 = .ok (.aload_n 1, 1) := by decide +kernel
theorem dX10_isCarriedOut_24 : decode cX10_isCarriedOut 24 = .ok (.iload_n 2, 1) := by decide +kernel
theorem dX10_isCarriedOut_25 : decode cX10_isCarriedOut 25 = .ok (.invokevirtual 160, 3) := by decide +kernel
theorem dX10_isCarriedOut_28 : decode cX10_isCarriedOut 28 = .ok (.lookupswitch 84 #[(98, 28), (102, 61)], 28) := by decide +kernel
theorem dX10_isCarriedOut_56 : decode cX10_isCarriedOut 56 = .ok (.aload_n 0, 1) := by decide +kernel
theorem dX10_isCarriedOut_57 : decode cX10_isCarriedOut 57 = .ok (.getfield 16, 3) := by decide +kernel
theorem dX10_isCarriedOut_60 : decode cX10_isCarriedOut 60 = .ok (.iload_n 3, 1) := by decide +kernel
theorem dX10_isCarriedOut_61 : decode cX10_isCarriedOut 61 = .ok (.bipush 10, 2) := by decide +kernel
theorem dX10_isCarriedOut_63 : decode cX10_isCarriedOut 63 = .ok (.imul, 1) := by decide +kernel
theorem dX10_isCarriedOut_64 : decode cX10_isCarriedOut 64 = .ok (.iload 4, 2) := by decide +kernel
theorem dX10_isCarriedOut_66 : decode cX10_isCarriedOut 66 = .ok (.iadd, 1) := by decide +kernel
theorem dX10_isCarriedOut_67 : decode cX10_isCarriedOut 67 = .ok (.aload_n 1, 1) := by decide +kernel
theorem dX10_isCarriedOut_68 : decode cX10_isCarriedOut 68 = .ok (.iload_n 2, 1) := by decide +kernel
theorem dX10_isCarriedOut_69 : decode cX10_isCarriedOut 69 = .ok (.iconst 3, 1) := by decide +kernel
theorem dX10_isCarriedOut_70 : decode cX10_isCarriedOut 70 = .ok (.iadd, 1) := by decide +kernel
theorem dX10_isCarriedOut_71 : decode cX10_isCarriedOut 71 = .ok (.invokevirtual 160, 3) := by decide +kernel
theorem dX10_isCarriedOut_74 : decode cX10_isCarriedOut 74 = .ok (.bipush 48, 2) := by decide +kernel
theorem dX10_isCarriedOut_76 : decode cX10_isCarriedOut 76 = .ok (.isub, 1) := by decide +kernel
theorem dX10_isCarriedOut_77 : decode cX10_isCarriedOut 77 = .ok (.invokevirtual 44, 3) := by decide +kernel
theorem dX10_isCarriedOut_80 : decode cX10_isCarriedOut 80 = .ok (.ifCond .le 7, 3) := by decide +kernel
theorem dX10_isCarriedOut_83 : decode cX10_isCarriedOut 83 = .ok (.iconst 1, 1) := by decide +kernel
theorem dX10_isCarriedOut_84 : decode cX10_isCarriedOut 84 = .ok (.goto 4, 3) := by decide +kernel
theorem dX10_isCarriedOut_87 : decode cX10_isCarriedOut 87 = .ok (.iconst 0, 1) := by decide +kernel
theorem dX10_isCarriedOut_88 : decode cX10_isCarriedOut 88 = .ok (.ireturn, 1) := by decide +kernel
theorem dX10_isCarriedOut_89 : decode cX10_isCarriedOut 89 = .ok (.aload_n 0, 1) := by decide +kernel
theorem dX10_isCarriedOut_90 : decode cX10_isCarriedOut 90 = .ok (.getfield 16, 3) := by decide +kernel
theorem dX10_isCarriedOut_93 : decode cX10_isCarriedOut 93 = .ok (.iload_n 3, 1) := by decide +kernel
theorem dX10_isCarriedOut_94 : decode cX10_isCarriedOut 94 = .ok (.bipush 10, 2) := by decide +kernel
theorem dX10_isCarriedOut_96 : decode cX10_isCarriedOut 96 = .ok (.imul, 1) := by decide +kernel
theorem dX10_isCarriedOut_97 : decode cX10_isCarriedOut 97 = .ok (.iload 4, 2) := by decide +kernel
theorem dX10_isCarriedOut_99 : decode cX10_isCarriedOut 99 = .ok (.iadd, 1) := by decide +kernel
theorem dX10_isCarriedOut_100 : decode cX10_isCarriedOut 100 = .ok (.invokevirtual 48, 3) := by decide +kernel
theorem dX10_isCarriedOut_103 : decode cX10_isCarriedOut 103 = .ok (.ifCond .le 7, 3) := by decide +kernel
theorem dX10_isCarriedOut_106 : decode cX10_isCarriedOut 106 = .ok (.iconst 1, 1) := by decide +kernel
theorem dX10_isCarriedOut_107 : decode cX10_isCarriedOut 107 = .ok (.goto 4, 3) := by decide +kernel
theorem dX10_isCarriedOut_110 : decode cX10_isCarriedOut 110 = .ok (.iconst 0, 1) := by decide +kernel
theorem dX10_isCarriedOut_111 : decode cX10_isCarriedOut 111 = .ok (.ireturn, 1) := by decide +kernel
theorem dX10_isCarriedOut_112 : decode cX10_isCarriedOut 112 = .ok (.iload_n 3, 1) := by decide +kernel
theorem dX10_isCarriedOut_113 : decode cX10_isCarriedOut 113 = .ok (.iload 4, 2) := by decide +kernel
theorem dX10_isCarriedOut_115 : decode cX10_isCarriedOut 115 = .ok (.invokestatic 108, 3) := by decide +kernel
theorem dX10_isCarriedOut_118 : decode cX10_isCarriedOut 118 = .ok (.astore 5, 2) := by decide +kernel
theorem dX10_isCarriedOut_120 : decode cX10_isCarriedOut 120 = .ok (.aload 5, 2) := by decide +kernel
theorem dX10_isCarriedOut_122 : decode cX10_isCarriedOut 122 = .ok (.ifnonnull 5, 3) := by decide +kernel
theorem dX10_isCarriedOut_125 : decode cX10_isCarriedOut 125 = .ok (.iconst 0, 1) := by decide +kernel
theorem dX10_isCarriedOut_126 : decode cX10_isCarriedOut 126 = .ok (.ireturn, 1) := by decide +kernel
theorem dX10_isCarriedOut_127 : decode cX10_isCarriedOut 127 = .ok (.aload_n 0, 1) := by decide +kernel
theorem dX10_isCarriedOut_128 : decode cX10_isCarriedOut 128 = .ok (.getfield 16, 3) := by decide +kernel
theorem dX10_isCarriedOut_131 : decode cX10_isCarriedOut 131 = .ok (.aload 5, 2) := by decide +kernel
theorem dX10_isCarriedOut_133 : decode cX10_isCarriedOut 133 = .ok (.putfield 59, 3) := by decide +kernel
theorem dX10_isCarriedOut_136 : decode cX10_isCarriedOut 136 = .ok (.iconst 1, 1) := by decide +kernel
theorem dX10_isCarriedOut_137 : decode cX10_isCarriedOut 137 = .ok (.ireturn, 1) := by decide +kernel
theorem dX10_wayBy_0 : decode cX10_wayBy 0 = .ok (.aload_n 0, 1) := by decide +kernel
theorem dX10_wayBy_1 : decode cX10_wayBy 1 = .ok (.iload_n 1, 1) := by decide +kernel
theorem dX10_wayBy_2 : decode cX10_wayBy 2 = .ok (.invokevirtual 29, 3) := by decide +kernel
theorem dX10_wayBy_5 : decode cX10_wayBy 5 = .ok (.astore 4, 2) := by decide +kernel
theorem dX10_wayBy_7 : decode cX10_wayBy 7 = .ok (.aload 4, 2) := by decide +kernel
theorem dX10_wayBy_9 : decode cX10_wayBy 9 = .ok (.ifnull 10, 3) := by decide +kernel
theorem dX10_wayBy_12 : decode cX10_wayBy 12 = .ok (.iload_n 2, 1) := by decide +kernel
theorem dX10_wayBy_13 : decode cX10_wayBy 13 = .ok (.invokestatic 66, 3) := by decide +kernel
theorem dX10_wayBy_16 : decode cX10_wayBy 16 = .ok (.ifCond .ne 5, 3) := by decide +kernel
theorem dX10_wayBy_19 : decode cX10_wayBy 19 = .ok (.iconst (-1), 1) := by decide +kernel
theorem dX10_wayBy_20 : decode cX10_wayBy 20 = .ok (.ireturn, 1) := by decide +kernel
theorem dX10_wayBy_21 : decode cX10_wayBy 21 = .ok (.aload 4, 2) := by decide +kernel
theorem dX10_wayBy_23 : decode cX10_wayBy 23 = .ok (.iconst 1, 1) := by decide +kernel
theorem dX10_wayBy_24 : decode cX10_wayBy 24 = .ok (.invokevirtual 33, 3) := by decide +kernel
theorem dX10_wayBy_27 : decode cX10_wayBy 27 = .ok (.istore 5, 2) := by decide +kernel
theorem dX10_wayBy_29 : decode cX10_wayBy 29 = .ok (.iload 5, 2) := by decide +kernel
theorem dX10_wayBy_31 : decode cX10_wayBy 31 = .ok (.ifCond .eq 6, 3) := by decide +kernel
theorem dX10_wayBy_34 : decode cX10_wayBy 34 = .ok (.iload 5, 2) := by decide +kernel
theorem dX10_wayBy_36 : decode cX10_wayBy 36 = .ok (.ireturn, 1) := by decide +kernel
theorem dX10_wayBy_37 : decode cX10_wayBy 37 = .ok (.aload_n 0, 1) := by decide +kernel
theorem dX10_wayBy_38 : decode cX10_wayBy 38 = .ok (.aload 4, 2) := by decide +kernel
theorem dX10_wayBy_40 : decode cX10_wayBy 40 = .ok (.sipush 4095, 3) := by decide +kernel
theorem dX10_wayBy_43 : decode cX10_wayBy 43 = .ok (.invokevirtual 280, 3) := by decide +kernel
theorem dX10_wayBy_46 : decode cX10_wayBy 46 = .ok (.ifCond .ne 6, 3) := by decide +kernel
theorem dX10_wayBy_49 : decode cX10_wayBy 49 = .ok (.bipush (-4), 2) := by decide +kernel
theorem dX10_wayBy_51 : decode cX10_wayBy 51 = .ok (.ireturn, 1) := by decide +kernel
theorem dX10_wayBy_52 : decode cX10_wayBy 52 = .ok (.iload_n 3, 1) := by decide +kernel
theorem dX10_wayBy_53 : decode cX10_wayBy 53 = .ok (.ifCond .eq 13, 3) := by decide +kernel
theorem dX10_wayBy_56 : decode cX10_wayBy 56 = .ok (.aload_n 0, 1) := by decide +kernel
theorem dX10_wayBy_57 : decode cX10_wayBy 57 = .ok (.aload 4, 2) := by decide +kernel
theorem dX10_wayBy_59 : decode cX10_wayBy 59 = .ok (.iload_n 2, 1) := by decide +kernel
theorem dX10_wayBy_60 : decode cX10_wayBy 60 = .ok (.invokevirtual 283, 3) := by decide +kernel
theorem dX10_wayBy_63 : decode cX10_wayBy 63 = .ok (.goto 10, 3) := by decide +kernel
theorem dX10_wayBy_66 : decode cX10_wayBy 66 = .ok (.aload_n 0, 1) := by decide +kernel
theorem dX10_wayBy_67 : decode cX10_wayBy 67 = .ok (.aload 4, 2) := by decide +kernel
theorem dX10_wayBy_69 : decode cX10_wayBy 69 = .ok (.iload_n 2, 1) := by decide +kernel
theorem dX10_wayBy_70 : decode cX10_wayBy 70 = .ok (.invokevirtual 286, 3) := by decide +kernel
theorem dX10_wayBy_73 : decode cX10_wayBy 73 = .ok (.ireturn, 1) := by decide +kernel
theorem dX10_comesByAll_0 : decode cX10_comesByAll 0 = .ok (.iconst 0, 1) := by decide +kernel
theorem dX10_comesByAll_1 : decode cX10_comesByAll 1 = .ok (.istore_n 3, 1) := by decide +kernel
theorem dX10_comesByAll_2 : decode cX10_comesByAll 2 = .ok (.iload_n 3, 1) := by decide +kernel
theorem dX10_comesByAll_3 : decode cX10_comesByAll 3 = .ok (.aload_n 1, 1) := by decide +kernel
theorem dX10_comesByAll_4 : decode cX10_comesByAll 4 = .ok (.getfield 157, 3) := by decide +kernel
theorem dX10_comesByAll_7 : decode cX10_comesByAll 7 = .ok (.if_icmp .ge 28, 3) := by decide +kernel
theorem dX10_comesByAll_10 : decode cX10_comesByAll 10 = .ok (.aload_n 0, 1) := by decide +kernel
theorem dX10_comesByAll_11 : decode cX10_comesByAll 11 = .ok (.getfield 12, 3) := by decide +kernel
theorem dX10_comesByAll_14 : decode cX10_comesByAll 14 = .ok (.aload_n 1, 1) := by decide +kernel
theorem dX10_comesByAll_15 : decode cX10_comesByAll 15 = .ok (.iload_n 3, 1) := by decide +kernel
theorem dX10_comesByAll_16 : decode cX10_comesByAll 16 = .ok (.invokevirtual 160, 3) := by decide +kernel
theorem dX10_comesByAll_19 : decode cX10_comesByAll 19 = .ok (.invokevirtual 82, 3) := by decide +kernel
theorem dX10_comesByAll_22 : decode cX10_comesByAll 22 = .ok (.iload_n 2, 1) := by decide +kernel
theorem dX10_comesByAll_23 : decode cX10_comesByAll 23 = .ok (.iand, 1) := by decide +kernel
theorem dX10_comesByAll_24 : decode cX10_comesByAll 24 = .ok (.ifCond .ne 5, 3) := by decide +kernel
theorem dX10_comesByAll_27 : decode cX10_comesByAll 27 = .ok (.iconst 0, 1) := by decide +kernel
theorem dX10_comesByAll_28 : decode cX10_comesByAll 28 = .ok (.ireturn, 1) := by decide +kernel
theorem dX10_comesByAll_29 : decode cX10_comesByAll 29 = .ok (.iinc 3 1, 3) := by decide +kernel
theorem dX10_comesByAll_32 : decode cX10_comesByAll 32 = .ok (.goto (-30), 3) := by decide +kernel
theorem dX10_comesByAll_35 : decode cX10_comesByAll 35 = .ok (.iconst 1, 1) := by decide +kernel
theorem dX10_comesByAll_36 : decode cX10_comesByAll 36 = .ok (.ireturn, 1) := by decide +kernel
theorem dX10_leastWay_0 : decode cX10_leastWay 0 = .ok (.bipush 24, 2) := by decide +kernel
theorem dX10_leastWay_2 : decode cX10_leastWay 2 = .ok (.istore_n 3, 1) := by decide +kernel
theorem dX10_leastWay_3 : decode cX10_leastWay 3 = .ok (.iconst 0, 1) := by decide +kernel
theorem dX10_leastWay_4 : decode cX10_leastWay 4 = .ok (.istore 4, 2) := by decide +kernel
theorem dX10_leastWay_6 : decode cX10_leastWay 6 = .ok (.iload 4, 2) := by decide +kernel
theorem dX10_leastWay_8 : decode cX10_leastWay 8 = .ok (.iload_n 2, 1) := by decide +kernel
theorem dX10_leastWay_9 : decode cX10_leastWay 9 = .ok (.if_icmp .gt 68, 3) := by decide +kernel
theorem dX10_leastWay_12 : decode cX10_leastWay 12 = .ok (.iload_n 2, 1) := by decide +kernel
theorem dX10_leastWay_13 : decode cX10_leastWay 13 = .ok (.istore 5, 2) := by decide +kernel
theorem dX10_leastWay_15 : decode cX10_leastWay 15 = .ok (.iload 5, 2) := by decide +kernel
theorem dX10_leastWay_17 : decode cX10_leastWay 17 = .ok (.bipush 12, 2) := by decide +kernel
theorem dX10_leastWay_19 : decode cX10_leastWay 19 = .ok (.if_icmp .ge 52, 3) := by decide +kernel
theorem dX10_leastWay_22 : decode cX10_leastWay 22 = .ok (.iload 5, 2) := by decide +kernel
theorem dX10_leastWay_24 : decode cX10_leastWay 24 = .ok (.iload 4, 2) := by decide +kernel
theorem dX10_leastWay_26 : decode cX10_leastWay 26 = .ok (.isub, 1) := by decide +kernel
theorem dX10_leastWay_27 : decode cX10_leastWay 27 = .ok (.iload_n 2, 1) := by decide +kernel
theorem dX10_leastWay_28 : decode cX10_leastWay 28 = .ok (.iload 4, 2) := by decide +kernel
theorem dX10_leastWay_30 : decode cX10_leastWay 30 = .ok (.isub, 1) := by decide +kernel
theorem dX10_leastWay_31 : decode cX10_leastWay 31 = .ok (.iload 5, 2) := by decide +kernel
theorem dX10_leastWay_33 : decode cX10_leastWay 33 = .ok (.iload_n 2, 1) := by decide +kernel
theorem dX10_leastWay_34 : decode cX10_leastWay 34 = .ok (.isub, 1) := by decide +kernel
theorem dX10_leastWay_35 : decode cX10_leastWay 35 = .ok (.invokestatic 163, 3) := by decide +kernel
theorem dX10_leastWay_38 : decode cX10_leastWay 38 = .ok (.iadd, 1) := by decide +kernel
theorem dX10_leastWay_39 : decode cX10_leastWay 39 = .ok (.istore 6, 2) := by decide +kernel
theorem dX10_leastWay_41 : decode cX10_leastWay 41 = .ok (.iload 6, 2) := by decide +kernel
theorem dX10_leastWay_43 : decode cX10_leastWay 43 = .ok (.iload_n 3, 1) := by decide +kernel
theorem dX10_leastWay_44 : decode cX10_leastWay 44 = .ok (.if_icmp .ge 21, 3) := by decide +kernel
theorem dX10_leastWay_47 : decode cX10_leastWay 47 = .ok (.aload_n 0, 1) := by decide +kernel
theorem dX10_leastWay_48 : decode cX10_leastWay 48 = .ok (.aload_n 1, 1) := by decide +kernel
theorem dX10_leastWay_49 : decode cX10_leastWay 49 = .ok (.iload 4, 2) := by decide +kernel
theorem dX10_leastWay_51 : decode cX10_leastWay 51 = .ok (.iload 5, 2) := by decide +kernel
theorem dX10_leastWay_53 : decode cX10_leastWay 53 = .ok (.invokestatic 289, 3) := by decide +kernel
theorem dX10_leastWay_56 : decode cX10_leastWay 56 = .ok (.invokevirtual 280, 3) := by decide +kernel
theorem dX10_leastWay_59 : decode cX10_leastWay 59 = .ok (.ifCond .eq 6, 3) := by decide +kernel
theorem dX10_leastWay_62 : decode cX10_leastWay 62 = .ok (.iload 6, 2) := by decide +kernel
theorem dX10_leastWay_64 : decode cX10_leastWay 64 = .ok (.istore_n 3, 1) := by decide +kernel
theorem dX10_leastWay_65 : decode cX10_leastWay 65 = .ok (.iinc 5 1, 3) := by decide +kernel
theorem dX10_leastWay_68 : decode cX10_leastWay 68 = .ok (.goto (-53), 3) := by decide +kernel
theorem dX10_leastWay_71 : decode cX10_leastWay 71 = .ok (.iinc 4 1, 3) := by decide +kernel
theorem dX10_leastWay_74 : decode cX10_leastWay 74 = .ok (.goto (-68), 3) := by decide +kernel
theorem dX10_leastWay_77 : decode cX10_leastWay 77 = .ok (.iload_n 3, 1) := by decide +kernel
theorem dX10_leastWay_78 : decode cX10_leastWay 78 = .ok (.ireturn, 1) := by decide +kernel
theorem dX10_plotsBetween_0 : decode cX10_plotsBetween 0 = .ok (.sipush 4095, 3) := by decide +kernel
theorem dX10_plotsBetween_3 : decode cX10_plotsBetween 3 = .ok (.bipush 11, 2) := by decide +kernel
theorem dX10_plotsBetween_5 : decode cX10_plotsBetween 5 = .ok (.iload_n 1, 1) := by decide +kernel
theorem dX10_plotsBetween_6 : decode cX10_plotsBetween 6 = .ok (.isub, 1) := by decide +kernel
theorem dX10_plotsBetween_7 : decode cX10_plotsBetween 7 = .ok (.ishr, 1) := by decide +kernel
theorem dX10_plotsBetween_8 : decode cX10_plotsBetween 8 = .ok (.sipush 4095, 3) := by decide +kernel
theorem dX10_plotsBetween_11 : decode cX10_plotsBetween 11 = .ok (.iload_n 0, 1) := by decide +kernel
theorem dX10_plotsBetween_12 : decode cX10_plotsBetween 12 = .ok (.ishl, 1) := by decide +kernel
theorem dX10_plotsBetween_13 : decode cX10_plotsBetween 13 = .ok (.iand, 1) := by decide +kernel
theorem dX10_plotsBetween_14 : decode cX10_plotsBetween 14 = .ok (.ireturn, 1) := by decide +kernel
theorem dX10_wayOfSearch_0 : decode cX10_wayOfSearch 0 = .ok (.iload_n 2, 1) := by decide +kernel
theorem dX10_wayOfSearch_1 : decode cX10_wayOfSearch 1 = .ok (.bipush 6, 2) := by decide +kernel
theorem dX10_wayOfSearch_3 : decode cX10_wayOfSearch 3 = .ok (.if_icmp .ge 7, 3) := by decide +kernel
theorem dX10_wayOfSearch_6 : decode cX10_wayOfSearch 6 = .ok (.iconst (-1), 1) := by decide +kernel
theorem dX10_wayOfSearch_7 : decode cX10_wayOfSearch 7 = .ok (.goto 4, 3) := by decide +kernel
theorem dX10_wayOfSearch_10 : decode cX10_wayOfSearch 10 = .ok (.iconst 1, 1) := by decide +kernel
theorem dX10_wayOfSearch_11 : decode cX10_wayOfSearch 11 = .ok (.istore_n 3, 1) := by decide +kernel
theorem dX10_wayOfSearch_12 : decode cX10_wayOfSearch 12 = .ok (.iload_n 2, 1) := by decide +kernel
theorem dX10_wayOfSearch_13 : decode cX10_wayOfSearch 13 = .ok (.istore 4, 2) := by decide +kernel
theorem dX10_wayOfSearch_15 : decode cX10_wayOfSearch 15 = .ok (.iconst 0, 1) := by decide +kernel
theorem dX10_wayOfSearch_16 : decode cX10_wayOfSearch 16 = .ok (.istore 5, 2) := by decide +kernel
theorem dX10_wayOfSearch_18 : decode cX10_wayOfSearch 18 = .ok (.iconst 0, 1) := by decide +kernel
theorem dX10_wayOfSearch_19 : decode cX10_wayOfSearch 19 = .ok (.istore 6, 2) := by decide +kernel
theorem dX10_wayOfSearch_21 : decode cX10_wayOfSearch 21 = .ok (.iload 6, 2) := by decide +kernel
theorem dX10_wayOfSearch_23 : decode cX10_wayOfSearch 23 = .ok (.bipush 24, 2) := by decide +kernel
theorem dX10_wayOfSearch_25 : decode cX10_wayOfSearch 25 = .ok (.if_icmp .ge 56, 3) := by decide +kernel
theorem dX10_wayOfSearch_28 : decode cX10_wayOfSearch 28 = .ok (.iload 5, 2) := by decide +kernel
theorem dX10_wayOfSearch_30 : decode cX10_wayOfSearch 30 = .ok (.iconst 1, 1) := by decide +kernel
theorem dX10_wayOfSearch_31 : decode cX10_wayOfSearch 31 = .ok (.iload 4, 2) := by decide +kernel
theorem dX10_wayOfSearch_33 : decode cX10_wayOfSearch 33 = .ok (.ishl, 1) := by decide +kernel
theorem dX10_wayOfSearch_34 : decode cX10_wayOfSearch 34 = .ok (.ior, 1) := by decide +kernel
theorem dX10_wayOfSearch_35 : decode cX10_wayOfSearch 35 = .ok (.istore 5, 2) := by decide +kernel
theorem dX10_wayOfSearch_37 : decode cX10_wayOfSearch 37 = .ok (.aload_n 0, 1) := by decide +kernel
theorem dX10_wayOfSearch_38 : decode cX10_wayOfSearch 38 = .ok (.aload_n 1, 1) := by decide +kernel
theorem dX10_wayOfSearch_39 : decode cX10_wayOfSearch 39 = .ok (.iload 5, 2) := by decide +kernel
theorem dX10_wayOfSearch_41 : decode cX10_wayOfSearch 41 = .ok (.invokevirtual 280, 3) := by decide +kernel
theorem dX10_wayOfSearch_44 : decode cX10_wayOfSearch 44 = .ok (.ifCond .eq 6, 3) := by decide +kernel
theorem dX10_wayOfSearch_47 : decode cX10_wayOfSearch 47 = .ok (.iload 6, 2) := by decide +kernel
theorem dX10_wayOfSearch_49 : decode cX10_wayOfSearch 49 = .ok (.ireturn, 1) := by decide +kernel
theorem dX10_wayOfSearch_50 : decode cX10_wayOfSearch 50 = .ok (.iload 4, 2) := by decide +kernel
theorem dX10_wayOfSearch_52 : decode cX10_wayOfSearch 52 = .ok (.ifCond .ne 8, 3) := by decide +kernel
theorem dX10_wayOfSearch_55 : decode cX10_wayOfSearch 55 = .ok (.iconst 1, 1) := by decide +kernel
theorem dX10_wayOfSearch_56 : decode cX10_wayOfSearch 56 = .ok (.istore_n 3, 1) := by decide +kernel
theorem dX10_wayOfSearch_57 : decode cX10_wayOfSearch 57 = .ok (.goto 12, 3) := by decide +kernel
theorem dX10_wayOfSearch_60 : decode cX10_wayOfSearch 60 = .ok (.iload 4, 2) := by decide +kernel
theorem dX10_wayOfSearch_62 : decode cX10_wayOfSearch 62 = .ok (.bipush 11, 2) := by decide +kernel
theorem dX10_wayOfSearch_64 : decode cX10_wayOfSearch 64 = .ok (.if_icmp .ne 5, 3) := by decide +kernel
theorem dX10_wayOfSearch_67 : decode cX10_wayOfSearch 67 = .ok (.iconst (-1), 1) := by decide +kernel
theorem dX10_wayOfSearch_68 : decode cX10_wayOfSearch 68 = .ok (.istore_n 3, 1) := by decide +kernel
theorem dX10_wayOfSearch_69 : decode cX10_wayOfSearch 69 = .ok (.iload 4, 2) := by decide +kernel
theorem dX10_wayOfSearch_71 : decode cX10_wayOfSearch 71 = .ok (.iload_n 3, 1) := by decide +kernel
theorem dX10_wayOfSearch_72 : decode cX10_wayOfSearch 72 = .ok (.iadd, 1) := by decide +kernel
theorem dX10_wayOfSearch_73 : decode cX10_wayOfSearch 73 = .ok (.istore 4, 2) := by decide +kernel
theorem dX10_wayOfSearch_75 : decode cX10_wayOfSearch 75 = .ok (.iinc 6 1, 3) := by decide +kernel
theorem dX10_wayOfSearch_78 : decode cX10_wayOfSearch 78 = .ok (.goto (-57), 3) := by decide +kernel
theorem dX10_wayOfSearch_81 : decode cX10_wayOfSearch 81 = .ok (.bipush (-4), 2) := by decide +kernel
theorem dX10_wayOfSearch_83 : decode cX10_wayOfSearch 83 = .ok (.ireturn, 1) := by decide +kernel
theorem dX10_ordersFrom_0 : decode cX10_ordersFrom 0 = .ok (.iload_n 2, 1) := by decide +kernel
theorem dX10_ordersFrom_1 : decode cX10_ordersFrom 1 = .ok (.ifCond .gt 5, 3) := by decide +kernel
theorem dX10_ordersFrom_4 : decode cX10_ordersFrom 4 = .ok (.iconst 1, 1) := by decide +kernel
theorem dX10_ordersFrom_5 : decode cX10_ordersFrom 5 = .ok (.ireturn, 1) := by decide +kernel
theorem dX10_ordersFrom_6 : decode cX10_ordersFrom 6 = .ok (.iconst 0, 1) := by decide +kernel
theorem dX10_ordersFrom_7 : decode cX10_ordersFrom 7 = .ok (.istore_n 3, 1) := by decide +kernel
theorem dX10_ordersFrom_8 : decode cX10_ordersFrom 8 = .ok (.iconst 0, 1) := by decide +kernel
theorem dX10_ordersFrom_9 : decode cX10_ordersFrom 9 = .ok (.istore 4, 2) := by decide +kernel
theorem dX10_ordersFrom_11 : decode cX10_ordersFrom 11 = .ok (.iload 4, 2) := by decide +kernel
theorem dX10_ordersFrom_13 : decode cX10_ordersFrom 13 = .ok (.bipush 12, 2) := by decide +kernel
theorem dX10_ordersFrom_15 : decode cX10_ordersFrom 15 = .ok (.if_icmp .ge 49, 3) := by decide +kernel
theorem dX10_ordersFrom_18 : decode cX10_ordersFrom 18 = .ok (.aload_n 0, 1) := by decide +kernel
theorem dX10_ordersFrom_19 : decode cX10_ordersFrom 19 = .ok (.aload_n 1, 1) := by decide +kernel
theorem dX10_ordersFrom_20 : decode cX10_ordersFrom 20 = .ok (.iload 4, 2) := by decide +kernel
theorem dX10_ordersFrom_22 : decode cX10_ordersFrom 22 = .ok (.invokevirtual 292, 3) := by decide +kernel
theorem dX10_ordersFrom_25 : decode cX10_ordersFrom 25 = .ok (.ifCond .eq 33, 3) := by decide +kernel
theorem dX10_ordersFrom_28 : decode cX10_ordersFrom 28 = .ok (.aload_n 0, 1) := by decide +kernel
theorem dX10_ordersFrom_29 : decode cX10_ordersFrom 29 = .ok (.iload 4, 2) := by decide +kernel
theorem dX10_ordersFrom_31 : decode cX10_ordersFrom 31 = .ok (.aload_n 1, 1) := by decide +kernel
theorem dX10_ordersFrom_32 : decode cX10_ordersFrom 32 = .ok (.iload 4, 2) := by decide +kernel
theorem dX10_ordersFrom_34 : decode cX10_ordersFrom 34 = .ok (.invokevirtual 76, 3) := by decide +kernel
theorem dX10_ordersFrom_37 : decode cX10_ordersFrom 37 = .ok (.invokevirtual 44, 3) := by decide +kernel
theorem dX10_ordersFrom_40 : decode cX10_ordersFrom 40 = .ok (.pop, 1) := by decide +kernel
theorem dX10_ordersFrom_41 : decode cX10_ordersFrom 41 = .ok (.iload_n 3, 1) := by decide +kernel
theorem dX10_ordersFrom_42 : decode cX10_ordersFrom 42 = .ok (.aload_n 0, 1) := by decide +kernel
theorem dX10_ordersFrom_43 : decode cX10_ordersFrom 43 = .ok (.aload_n 1, 1) := by decide +kernel
theorem dX10_ordersFrom_44 : decode cX10_ordersFrom 44 = .ok (.iload_n 2, 1) := by decide +kernel
theorem dX10_ordersFrom_45 : decode cX10_ordersFrom 45 = .ok (.iconst 1, 1) := by decide +kernel
theorem dX10_ordersFrom_46 : decode cX10_ordersFrom 46 = .ok (.isub, 1) := by decide +kernel
theorem dX10_ordersFrom_47 : decode cX10_ordersFrom 47 = .ok (.invokestatic 127, 3) := by decide +kernel
theorem dX10_ordersFrom_50 : decode cX10_ordersFrom 50 = .ok (.iadd, 1) := by decide +kernel
theorem dX10_ordersFrom_51 : decode cX10_ordersFrom 51 = .ok (.istore_n 3, 1) := by decide +kernel
theorem dX10_ordersFrom_52 : decode cX10_ordersFrom 52 = .ok (.aload_n 0, 1) := by decide +kernel
theorem dX10_ordersFrom_53 : decode cX10_ordersFrom 53 = .ok (.iload 4, 2) := by decide +kernel
theorem dX10_ordersFrom_55 : decode cX10_ordersFrom 55 = .ok (.invokevirtual 296, 3) := by decide +kernel
theorem dX10_ordersFrom_58 : decode cX10_ordersFrom 58 = .ok (.iinc 4 1, 3) := by decide +kernel
theorem dX10_ordersFrom_61 : decode cX10_ordersFrom 61 = .ok (.goto (-50), 3) := by decide +kernel
theorem dX10_ordersFrom_64 : decode cX10_ordersFrom 64 = .ok (.iload_n 3, 1) := by decide +kernel
theorem dX10_ordersFrom_65 : decode cX10_ordersFrom 65 = .ok (.ireturn, 1) := by decide +kernel
theorem dX10_firstInOrder_0 : decode cX10_firstInOrder 0 = .ok (.iconst 0, 1) := by decide +kernel
theorem dX10_firstInOrder_1 : decode cX10_firstInOrder 1 = .ok (.istore_n 2, 1) := by decide +kernel
theorem dX10_firstInOrder_2 : decode cX10_firstInOrder 2 = .ok (.iload_n 2, 1) := by decide +kernel
theorem dX10_firstInOrder_3 : decode cX10_firstInOrder 3 = .ok (.bipush 12, 2) := by decide +kernel
theorem dX10_firstInOrder_5 : decode cX10_firstInOrder 5 = .ok (.if_icmp .ge 70, 3) := by decide +kernel
theorem dX10_firstInOrder_8 : decode cX10_firstInOrder 8 = .ok (.aload_n 0, 1) := by decide +kernel
theorem dX10_firstInOrder_9 : decode cX10_firstInOrder 9 = .ok (.getfield 16, 3) := by decide +kernel
theorem dX10_firstInOrder_12 : decode cX10_firstInOrder 12 = .ok (.aload_n 0, 1) := by decide +kernel
theorem dX10_firstInOrder_13 : decode cX10_firstInOrder 13 = .ok (.getfield 12, 3) := by decide +kernel
theorem dX10_firstInOrder_16 : decode cX10_firstInOrder 16 = .ok (.iload_n 2, 1) := by decide +kernel
theorem dX10_firstInOrder_17 : decode cX10_firstInOrder 17 = .ok (.invokevirtual 292, 3) := by decide +kernel
theorem dX10_firstInOrder_20 : decode cX10_firstInOrder 20 = .ok (.ifCond .eq 49, 3) := by decide +kernel
theorem dX10_firstInOrder_23 : decode cX10_firstInOrder 23 = .ok (.aload_n 0, 1) := by decide +kernel
theorem dX10_firstInOrder_24 : decode cX10_firstInOrder 24 = .ok (.getfield 16, 3) := by decide +kernel
theorem dX10_firstInOrder_27 : decode cX10_firstInOrder 27 = .ok (.iload_n 2, 1) := by decide +kernel
theorem dX10_firstInOrder_28 : decode cX10_firstInOrder 28 = .ok (.aload_n 0, 1) := by decide +kernel
theorem dX10_firstInOrder_29 : decode cX10_firstInOrder 29 = .ok (.getfield 12, 3) := by decide +kernel
theorem dX10_firstInOrder_32 : decode cX10_firstInOrder 32 = .ok (.iload_n 2, 1) := by decide +kernel
theorem dX10_firstInOrder_33 : decode cX10_firstInOrder 33 = .ok (.invokevirtual 76, 3) := by decide +kernel
theorem dX10_firstInOrder_36 : decode cX10_firstInOrder 36 = .ok (.invokevirtual 44, 3) := by decide +kernel
theorem dX10_firstInOrder_39 : decode cX10_firstInOrder 39 = .ok (.pop, 1) := by decide +kernel
theorem dX10_firstInOrder_40 : decode cX10_firstInOrder 40 = .ok (.aload_n 0, 1) := by decide +kernel
theorem dX10_firstInOrder_41 : decode cX10_firstInOrder 41 = .ok (.getfield 16, 3) := by decide +kernel
theorem dX10_firstInOrder_44 : decode cX10_firstInOrder 44 = .ok (.aload_n 0, 1) := by decide +kernel
theorem dX10_firstInOrder_45 : decode cX10_firstInOrder 45 = .ok (.getfield 12, 3) := by decide +kernel
theorem dX10_firstInOrder_48 : decode cX10_firstInOrder 48 = .ok (.iload_n 1, 1) := by decide +kernel
theorem dX10_firstInOrder_49 : decode cX10_firstInOrder 49 = .ok (.iconst 1, 1) := by decide +kernel
theorem dX10_firstInOrder_50 : decode cX10_firstInOrder 50 = .ok (.isub, 1) := by decide +kernel
theorem dX10_firstInOrder_51 : decode cX10_firstInOrder 51 = .ok (.invokestatic 127, 3) := by decide +kernel
theorem dX10_firstInOrder_54 : decode cX10_firstInOrder 54 = .ok (.istore_n 3, 1) := by decide +kernel
theorem dX10_firstInOrder_55 : decode cX10_firstInOrder 55 = .ok (.aload_n 0, 1) := by decide +kernel
theorem dX10_firstInOrder_56 : decode cX10_firstInOrder 56 = .ok (.getfield 16, 3) := by decide +kernel
theorem dX10_firstInOrder_59 : decode cX10_firstInOrder 59 = .ok (.iload_n 2, 1) := by decide +kernel
theorem dX10_firstInOrder_60 : decode cX10_firstInOrder 60 = .ok (.invokevirtual 296, 3) := by decide +kernel
theorem dX10_firstInOrder_63 : decode cX10_firstInOrder 63 = .ok (.iload_n 3, 1) := by decide +kernel
theorem dX10_firstInOrder_64 : decode cX10_firstInOrder 64 = .ok (.ifCond .le 5, 3) := by decide +kernel
theorem dX10_firstInOrder_67 : decode cX10_firstInOrder 67 = .ok (.iload_n 2, 1) := by decide +kernel
theorem dX10_firstInOrder_68 : decode cX10_firstInOrder 68 = .ok (.ireturn, 1) := by decide +kernel
theorem dX10_firstInOrder_69 : decode cX10_firstInOrder 69 = .ok (.iinc 2 1, 3) := by decide +kernel
theorem dX10_firstInOrder_72 : decode cX10_firstInOrder 72 = .ok (.goto (-70), 3) := by decide +kernel
theorem dX10_firstInOrder_75 : decode cX10_firstInOrder 75 = .ok (.bipush (-4), 2) := by decide +kernel
theorem dX10_firstInOrder_77 : decode cX10_firstInOrder 77 = .ok (.ireturn, 1) := by decide +kernel
theorem dX10_isTown_0 : decode cX10_isTown 0 = .ok (.aload_n 0, 1) := by decide +kernel
theorem dX10_isTown_1 : decode cX10_isTown 1 = .ok (.getfield 157, 3) := by decide +kernel
theorem dX10_isTown_4 : decode cX10_isTown 4 = .ok (.iconst 1, 1) := by decide +kernel
theorem dX10_isTown_5 : decode cX10_isTown 5 = .ok (.if_icmp .lt 12, 3) := by decide +kernel
theorem dX10_isTown_8 : decode cX10_isTown 8 = .ok (.aload_n 0, 1) := by decide +kernel
theorem dX10_isTown_9 : decode cX10_isTown 9 = .ok (.getfield 157, 3) := by decide +kernel
theorem dX10_isTown_12 : decode cX10_isTown 12 = .ok (.bipush 20, 2) := by decide +kernel
theorem dX10_isTown_14 : decode cX10_isTown 14 = .ok (.if_icmp .le 5, 3) := by decide +kernel
theorem dX10_isTown_17 : decode cX10_isTown 17 = .ok (.iconst 0, 1) := by decide +kernel
theorem dX10_isTown_18 : decode cX10_isTown 18 = .ok (.ireturn, 1) := by decide +kernel
theorem dX10_isTown_19 : decode cX10_isTown 19 = .ok (.iconst 0, 1) := by decide +kernel
theorem dX10_isTown_20 : decode cX10_isTown 20 = .ok (.istore_n 1, 1) := by decide +kernel
theorem dX10_isTown_21 : decode cX10_isTown 21 = .ok (.iload_n 1, 1) := by decide +kernel
theorem dX10_isTown_22 : decode cX10_isTown 22 = .ok (.aload_n 0, 1) := by decide +kernel
theorem dX10_isTown_23 : decode cX10_isTown 23 = .ok (.getfield 157, 3) := by decide +kernel
theorem dX10_isTown_26 : decode cX10_isTown 26 = .ok (.if_icmp .ge 20, 3) := by decide +kernel
theorem dX10_isTown_29 : decode cX10_isTown 29 = .ok (.aload_n 0, 1) := by decide +kernel
theorem dX10_isTown_30 : decode cX10_isTown 30 = .ok (.iload_n 1, 1) := by decide +kernel
theorem dX10_isTown_31 : decode cX10_isTown 31 = .ok (.invokevirtual 160, 3) := by decide +kernel
theorem dX10_isTown_34 : decode cX10_isTown 34 = .ok (.iconst 1, 1) := by decide +kernel
theorem dX10_isTown_35 : decode cX10_isTown 35 = .ok (.if_icmp .ge 5, 3) := by decide +kernel
theorem dX10_isTown_38 : decode cX10_isTown 38 = .ok (.iconst 0, 1) := by decide +kernel
theorem dX10_isTown_39 : decode cX10_isTown 39 = .ok (.ireturn, 1) := by decide +kernel
theorem dX10_isTown_40 : decode cX10_isTown 40 = .ok (.iinc 1 1, 3) := by decide +kernel
theorem dX10_isTown_43 : decode cX10_isTown 43 = .ok (.goto (-22), 3) := by decide +kernel
theorem dX10_isTown_46 : decode cX10_isTown 46 = .ok (.iconst 1, 1) := by decide +kernel
theorem dX10_isTown_47 : decode cX10_isTown 47 = .ok (.ireturn, 1) := by decide +kernel
theorem dX10_sharedIfRaised_0 : decode cX10_sharedIfRaised 0 = .ok (.iconst 0, 1) := by decide +kernel
theorem dX10_sharedIfRaised_1 : decode cX10_sharedIfRaised 1 = .ok (.istore_n 3, 1) := by decide +kernel
theorem dX10_sharedIfRaised_2 : decode cX10_sharedIfRaised 2 = .ok (.iconst 0, 1) := by decide +kernel
theorem dX10_sharedIfRaised_3 : decode cX10_sharedIfRaised 3 = .ok (.istore 4, 2) := by decide +kernel
theorem dX10_sharedIfRaised_5 : decode cX10_sharedIfRaised 5 = .ok (.iload 4, 2) := by decide +kernel
theorem dX10_sharedIfRaised_7 : decode cX10_sharedIfRaised 7 = .ok (.aload_n 1, 1) := by decide +kernel
theorem dX10_sharedIfRaised_8 : decode cX10_sharedIfRaised 8 = .ok (.getfield 157, 3) := by decide +kernel
theorem dX10_sharedIfRaised_11 : decode cX10_sharedIfRaised 11 = .ok (.if_icmp .ge 30, 3) := by decide +kernel
theorem dX10_sharedIfRaised_14 : decode cX10_sharedIfRaised 14 = .ok (.aload_n 0, 1) := by decide +kernel
theorem dX10_sharedIfRaised_15 : decode cX10_sharedIfRaised 15 = .ok (.getfield 12, 3) := by decide +kernel
theorem dX10_sharedIfRaised_18 : decode cX10_sharedIfRaised 18 = .ok (.aload_n 1, 1) := by decide +kernel
theorem dX10_sharedIfRaised_19 : decode cX10_sharedIfRaised 19 = .ok (.iload 4, 2) := by decide +kernel
theorem dX10_sharedIfRaised_21 : decode cX10_sharedIfRaised 21 = .ok (.invokevirtual 160, 3) := by decide +kernel
theorem dX10_sharedIfRaised_24 : decode cX10_sharedIfRaised 24 = .ok (.iload_n 2, 1) := by decide +kernel
theorem dX10_sharedIfRaised_25 : decode cX10_sharedIfRaised 25 = .ok (.iadd, 1) := by decide +kernel
theorem dX10_sharedIfRaised_26 : decode cX10_sharedIfRaised 26 = .ok (.invokevirtual 82, 3) := by decide +kernel
theorem dX10_sharedIfRaised_29 : decode cX10_sharedIfRaised 29 = .ok (.ifCond .eq 6, 3) := by decide +kernel
theorem dX10_sharedIfRaised_32 : decode cX10_sharedIfRaised 32 = .ok (.iinc 3 1, 3) := by decide +kernel
theorem dX10_sharedIfRaised_35 : decode cX10_sharedIfRaised 35 = .ok (.iinc 4 1, 3) := by decide +kernel
theorem dX10_sharedIfRaised_38 : decode cX10_sharedIfRaised 38 = .ok (.goto (-33), 3) := by decide +kernel
theorem dX10_sharedIfRaised_41 : decode cX10_sharedIfRaised 41 = .ok (.iload_n 3, 1) := by decide +kernel
theorem dX10_sharedIfRaised_42 : decode cX10_sharedIfRaised 42 = .ok (.ireturn, 1) := by decide +kernel
theorem dX10_leastRaise_0 : decode cX10_leastRaise 0 = .ok (.aload_n 0, 1) := by decide +kernel
theorem dX10_leastRaise_1 : decode cX10_leastRaise 1 = .ok (.getfield 12, 3) := by decide +kernel
theorem dX10_leastRaise_4 : decode cX10_leastRaise 4 = .ok (.invokevirtual 182, 3) := by decide +kernel
theorem dX10_leastRaise_7 : decode cX10_leastRaise 7 = .ok (.istore_n 2, 1) := by decide +kernel
theorem dX10_leastRaise_8 : decode cX10_leastRaise 8 = .ok (.iconst 0, 1) := by decide +kernel
theorem dX10_leastRaise_9 : decode cX10_leastRaise 9 = .ok (.istore_n 3, 1) := by decide +kernel
theorem dX10_leastRaise_10 : decode cX10_leastRaise 10 = .ok (.iload_n 3, 1) := by decide +kernel
theorem dX10_leastRaise_11 : decode cX10_leastRaise 11 = .ok (.iload_n 2, 1) := by decide +kernel
theorem dX10_leastRaise_12 : decode cX10_leastRaise 12 = .ok (.if_icmp .ge 20, 3) := by decide +kernel
theorem dX10_leastRaise_15 : decode cX10_leastRaise 15 = .ok (.aload_n 0, 1) := by decide +kernel
theorem dX10_leastRaise_16 : decode cX10_leastRaise 16 = .ok (.aload_n 1, 1) := by decide +kernel
theorem dX10_leastRaise_17 : decode cX10_leastRaise 17 = .ok (.iload_n 3, 1) := by decide +kernel
theorem dX10_leastRaise_18 : decode cX10_leastRaise 18 = .ok (.invokevirtual 138, 3) := by decide +kernel
theorem dX10_leastRaise_21 : decode cX10_leastRaise 21 = .ok (.ifCond .ne 5, 3) := by decide +kernel
theorem dX10_leastRaise_24 : decode cX10_leastRaise 24 = .ok (.iload_n 3, 1) := by decide +kernel
theorem dX10_leastRaise_25 : decode cX10_leastRaise 25 = .ok (.ireturn, 1) := by decide +kernel
theorem dX10_leastRaise_26 : decode cX10_leastRaise 26 = .ok (.iinc 3 1, 3) := by decide +kernel
theorem dX10_leastRaise_29 : decode cX10_leastRaise 29 = .ok (.goto (-19), 3) := by decide +kernel
theorem dX10_leastRaise_32 : decode cX10_leastRaise 32 = .ok (.iload_n 2, 1) := by decide +kernel
theorem dX10_leastRaise_33 : decode cX10_leastRaise 33 = .ok (.ireturn, 1) := by decide +kernel
theorem dX10_nextSeed_0 : decode cX10_nextSeed 0 = .ok (.iload_n 0, 1) := by decide +kernel
theorem dX10_nextSeed_1 : decode cX10_nextSeed 1 = .ok (.ldc_w 300, 3) := by decide +kernel
theorem dX10_nextSeed_4 : decode cX10_nextSeed 4 = .ok (.imul, 1) := by decide +kernel
theorem dX10_nextSeed_5 : decode cX10_nextSeed 5 = .ok (.sipush 12345, 3) := by decide +kernel
theorem dX10_nextSeed_8 : decode cX10_nextSeed 8 = .ok (.iadd, 1) := by decide +kernel
theorem dX10_nextSeed_9 : decode cX10_nextSeed 9 = .ok (.ireturn, 1) := by decide +kernel
theorem dX10_drawnBits_0 : decode cX10_drawnBits 0 = .ok (.iload_n 0, 1) := by decide +kernel
theorem dX10_drawnBits_1 : decode cX10_drawnBits 1 = .ok (.ldc_w 301, 3) := by decide +kernel
theorem dX10_drawnBits_4 : decode cX10_drawnBits 4 = .ok (.iand, 1) := by decide +kernel
theorem dX10_drawnBits_5 : decode cX10_drawnBits 5 = .ok (.bipush 16, 2) := by decide +kernel
theorem dX10_drawnBits_7 : decode cX10_drawnBits 7 = .ok (.ishr, 1) := by decide +kernel
theorem dX10_drawnBits_8 : decode cX10_drawnBits 8 = .ok (.ireturn, 1) := by decide +kernel
theorem dX10_caughtFailure_0 : decode cX10_caughtFailure 0 = .ok (.aload_n 0, 1) := by decide +kernel
theorem dX10_caughtFailure_1 : decode cX10_caughtFailure 1 = .ok (.invokevirtual 302, 3) := by decide +kernel
theorem dX10_caughtFailure_4 : decode cX10_caughtFailure 4 = .ok (.goto 28, 3) := by decide +kernel
theorem dX10_caughtFailure_7 : decode cX10_caughtFailure 7 = .ok (.astore_n 1, 1) := by decide +kernel
theorem dX10_caughtFailure_8 : decode cX10_caughtFailure 8 = .ok (.aload_n 0, 1) := by decide +kernel
theorem dX10_caughtFailure_9 : decode cX10_caughtFailure 9 = .ok (.getfield 185, 3) := by decide +kernel
theorem dX10_caughtFailure_12 : decode cX10_caughtFailure 12 = .ok (.bipush 100, 2) := by decide +kernel
theorem dX10_caughtFailure_14 : decode cX10_caughtFailure 14 = .ok (.iadd, 1) := by decide +kernel
theorem dX10_caughtFailure_15 : decode cX10_caughtFailure 15 = .ok (.ireturn, 1) := by decide +kernel
theorem dX10_caughtFailure_16 : decode cX10_caughtFailure 16 = .ok (.astore_n 1, 1) := by decide +kernel
theorem dX10_caughtFailure_17 : decode cX10_caughtFailure 17 = .ok (.aload_n 0, 1) := by decide +kernel
theorem dX10_caughtFailure_18 : decode cX10_caughtFailure 18 = .ok (.invokevirtual 237, 3) := by decide +kernel
theorem dX10_caughtFailure_21 : decode cX10_caughtFailure 21 = .ok (.sipush 200, 3) := by decide +kernel
theorem dX10_caughtFailure_24 : decode cX10_caughtFailure 24 = .ok (.iadd, 1) := by decide +kernel
theorem dX10_caughtFailure_25 : decode cX10_caughtFailure 25 = .ok (.ireturn, 1) := by decide +kernel
theorem dX10_caughtFailure_26 : decode cX10_caughtFailure 26 = .ok (.astore_n 1, 1) := by decide +kernel
theorem dX10_caughtFailure_27 : decode cX10_caughtFailure 27 = .ok (.aload_n 0, 1) := by decide +kernel
theorem dX10_caughtFailure_28 : decode cX10_caughtFailure 28 = .ok (.getfield 185, 3) := by decide +kernel
theorem dX10_caughtFailure_31 : decode cX10_caughtFailure 31 = .ok (.ireturn, 1) := by decide +kernel
theorem dX10_caughtFailure_32 : decode cX10_caughtFailure 32 = .ok (.bipush (-15), 2) := by decide +kernel
theorem dX10_caughtFailure_34 : decode cX10_caughtFailure 34 = .ok (.ireturn, 1) := by decide +kernel
theorem dX11_init_0 : decode cX11_init 0 = .ok (.aload_n 0, 1) := by decide +kernel
theorem dX11_init_1 : decode cX11_init 1 = .ok (.invokespecial 1, 3) := by decide +kernel
theorem dX11_init_4 : decode cX11_init 4 = .ok (.aload_n 0, 1) := by decide +kernel
theorem dX11_init_5 : decode cX11_init 5 = .ok (.bipush 30, 2) := by decide +kernel
theorem dX11_init_7 : decode cX11_init 7 = .ok (.newarray .int, 2) := by decide +kernel
theorem dX11_init_9 : decode cX11_init 9 = .ok (.putfield 7, 3) := by decide +kernel
theorem dX11_init_12 : decode cX11_init 12 = .ok (.aload_n 0, 1) := by decide +kernel
theorem dX11_init_13 : decode cX11_init 13 = .ok (.bipush 30, 2) := by decide +kernel
theorem dX11_init_15 : decode cX11_init 15 = .ok (.newarray .int, 2) := by decide +kernel
theorem dX11_init_17 : decode cX11_init 17 = .ok (.putfield 13, 3) := by decide +kernel
theorem dX11_init_20 : decode cX11_init 20 = .ok (.aload_n 0, 1) := by decide +kernel
theorem dX11_init_21 : decode cX11_init 21 = .ok (.bipush 12, 2) := by decide +kernel
theorem dX11_init_23 : decode cX11_init 23 = .ok (.newarray .int, 2) := by decide +kernel
theorem dX11_init_25 : decode cX11_init 25 = .ok (.putfield 16, 3) := by decide +kernel
theorem dX11_init_28 : decode cX11_init 28 = .ok (.aload_n 0, 1) := by decide +kernel
theorem dX11_init_29 : decode cX11_init 29 = .ok (.bipush 12, 2) := by decide +kernel
theorem dX11_init_31 : decode cX11_init 31 = .ok (.newarray .int, 2) := by decide +kernel
theorem dX11_init_33 : decode cX11_init 33 = .ok (.putfield 19, 3) := by decide +kernel
theorem dX11_init_36 : decode cX11_init 36 = .ok (.aload_n 0, 1) := by decide +kernel
theorem dX11_init_37 : decode cX11_init 37 = .ok (.iconst 3, 1) := by decide +kernel
theorem dX11_init_38 : decode cX11_init 38 = .ok (.newarray .int, 2) := by decide +kernel
theorem dX11_init_40 : decode cX11_init 40 = .ok (.putfield 22, 3) := by decide +kernel
theorem dX11_init_43 : decode cX11_init 43 = .ok (.aload_n 0, 1) := by decide +kernel
theorem dX11_init_44 : decode cX11_init 44 = .ok (.bipush 51, 2) := by decide +kernel
theorem dX11_init_46 : decode cX11_init 46 = .ok (.newarray .int, 2) := by decide +kernel
theorem dX11_init_48 : decode cX11_init 48 = .ok (.putfield 25, 3) := by decide +kernel
theorem dX11_init_51 : decode cX11_init 51 = .ok (.aload_n 0, 1) := by decide +kernel
theorem dX11_init_52 : decode cX11_init 52 = .ok (.bipush 51, 2) := by decide +kernel
theorem dX11_init_54 : decode cX11_init 54 = .ok (.newarray .int, 2) := by decide +kernel
theorem dX11_init_56 : decode cX11_init 56 = .ok (.putfield 28, 3) := by decide +kernel
theorem dX11_init_59 : decode cX11_init 59 = .ok (.aload_n 0, 1) := by decide +kernel
theorem dX11_init_60 : decode cX11_init 60 = .ok (.bipush 51, 2) := by decide +kernel
theorem dX11_init_62 : decode cX11_init 62 = .ok (.newarray .int, 2) := by decide +kernel
theorem dX11_init_64 : decode cX11_init 64 = .ok (.putfield 31, 3) := by decide +kernel
theorem dX11_init_67 : decode cX11_init 67 = .ok (.aload_n 0, 1) := by decide +kernel
theorem dX11_init_68 : decode cX11_init 68 = .ok (.bipush 51, 2) := by decide +kernel
theorem dX11_init_70 : decode cX11_init 70 = .ok (.newarray .int, 2) := by decide +kernel
theorem dX11_init_72 : decode cX11_init 72 = .ok (.putfield 34, 3) := by decide +kernel
theorem dX11_init_75 : decode cX11_init 75 = .ok (.aload_n 0, 1) := by decide +kernel
theorem dX11_init_76 : decode cX11_init 76 = .ok (.bipush 75, 2) := by decide +kernel
theorem dX11_init_78 : decode cX11_init 78 = .ok (.newarray .int, 2) := by decide +kernel
theorem dX11_init_80 : decode cX11_init 80 = .ok (.putfield 37, 3) := by decide +kernel
theorem dX11_init_83 : decode cX11_init 83 = .ok (.aload_n 0, 1) := by decide +kernel
theorem dX11_init_84 : decode cX11_init 84 = .ok (.bipush 75, 2) := by decide +kernel
theorem dX11_init_86 : decode cX11_init 86 = .ok (.newarray .int, 2) := by decide +kernel
theorem dX11_init_88 : decode cX11_init 88 = .ok (.putfield 40, 3) := by decide +kernel
theorem dX11_init_91 : decode cX11_init 91 = .ok (.aload_n 0, 1) := by decide +kernel
theorem dX11_init_92 : decode cX11_init 92 = .ok (.bipush 12, 2) := by decide +kernel
theorem dX11_init_94 : decode cX11_init 94 = .ok (.newarray .int, 2) := by decide +kernel
theorem dX11_init_96 : decode cX11_init 96 = .ok (.putfield 43, 3) := by decide +kernel
theorem dX11_init_99 : decode cX11_init 99 = .ok (.aload_n 0, 1) := by decide +kernel
theorem dX11_init_100 : decode cX11_init 100 = .ok (.bipush 12, 2) := by decide +kernel
theorem dX11_init_102 : decode cX11_init 102 = .ok (.newarray .int, 2) := by decide +kernel
theorem dX11_init_104 : decode cX11_init 104 = .ok (.putfield 46, 3) := by decide +kernel
theorem dX11_init_107 : decode cX11_init 107 = .ok (.aload_n 0, 1) := by decide +kernel
theorem dX11_init_108 : decode cX11_init 108 = .ok (.bipush 7, 2) := by decide +kernel
theorem dX11_init_110 : decode cX11_init 110 = .ok (.newarray .int, 2) := by decide +kernel
theorem dX11_init_112 : decode cX11_init 112 = .ok (.putfield 49, 3) := by decide +kernel
theorem dX11_init_115 : decode cX11_init 115 = .ok (.aload_n 0, 1) := by decide +kernel
theorem dX11_init_116 : decode cX11_init 116 = .ok (.bipush 8, 2) := by decide +kernel
theorem dX11_init_118 : decode cX11_init 118 = .ok (.newarray .int, 2) := by decide +kernel
theorem dX11_init_120 : decode cX11_init 120 = .ok (.putfield 52, 3) := by decide +kernel
theorem dX11_init_123 : decode cX11_init 123 = .ok (.aload_n 0, 1) := by decide +kernel
theorem dX11_init_124 : decode cX11_init 124 = .ok (.bipush 8, 2) := by decide +kernel
theorem dX11_init_126 : decode cX11_init 126 = .ok (.newarray .int, 2) := by decide +kernel
theorem dX11_init_128 : decode cX11_init 128 = .ok (.putfield 55, 3) := by decide +kernel
theorem dX11_init_131 : decode cX11_init 131 = .ok (.aload_n 0, 1) := by decide +kernel
theorem dX11_init_132 : decode cX11_init 132 = .ok (.bipush 8, 2) := by decide +kernel
theorem dX11_init_134 : decode cX11_init 134 = .ok (.newarray .int, 2) := by decide +kernel
theorem dX11_init_136 : decode cX11_init 136 = .ok (.putfield 58, 3) := by decide +kernel
theorem dX11_init_139 : decode cX11_init 139 = .ok (.aload_n 0, 1) := by decide +kernel
theorem dX11_init_140 : decode cX11_init 140 = .ok (.bipush 8, 2) := by decide +kernel
theorem dX11_init_142 : decode cX11_init 142 = .ok (.newarray .int, 2) := by decide +kernel
theorem dX11_init_144 : decode cX11_init 144 = .ok (.putfield 61, 3) := by decide +kernel
theorem dX11_init_147 : decode cX11_init 147 = .ok (.aload_n 0, 1) := by decide +kernel
theorem dX11_init_148 : decode cX11_init 148 = .ok (.bipush 8, 2) := by decide +kernel
theorem dX11_init_150 : decode cX11_init 150 = .ok (.newarray .int, 2) := by decide +kernel
theorem dX11_init_152 : decode cX11_init 152 = .ok (.putfield 64, 3) := by decide +kernel
theorem dX11_init_155 : decode cX11_init 155 = .ok (.aload_n 0, 1) := by decide +kernel
theorem dX11_init_156 : decode cX11_init 156 = .ok (.sipush 800, 3) := by decide +kernel
theorem dX11_init_159 : decode cX11_init 159 = .ok (.newarray .long, 2) := by decide +kernel
theorem dX11_init_161 : decode cX11_init 161 = .ok (.putfield 67, 3) := by decide +kernel
theorem dX11_init_164 : decode cX11_init 164 = .ok (.aload_n 0, 1) := by decide +kernel
theorem dX11_init_165 : decode cX11_init 165 = .ok (.bipush 100, 2) := by decide +kernel
theorem dX11_init_167 : decode cX11_init 167 = .ok (.newarray .long, 2) := by decide +kernel
theorem dX11_init_169 : decode cX11_init 169 = .ok (.putfield 71, 3) := by decide +kernel
theorem dX11_init_172 : decode cX11_init 172 = .ok (.aload_n 0, 1) := by decide +kernel
theorem dX11_init_173 : decode cX11_init 173 = .ok (.iconst 0, 1) := by decide +kernel
theorem dX11_init_174 : decode cX11_init 174 = .ok (.putfield 74, 3) := by decide +kernel
theorem dX11_init_177 : decode cX11_init 177 = .ok (.return_, 1) := by decide +kernel
theorem dX11_thrown_0 : decode cX11_thrown 0 = .ok (.aload_n 0, 1) := by decide +kernel
theorem dX11_thrown_1 : decode cX11_thrown 1 = .ok (.getfield 74, 3) := by decide +kernel
theorem dX11_thrown_4 : decode cX11_thrown 4 = .ok (.ireturn, 1) := by decide +kernel
theorem dX11_in_0 : decode cX11_in 0 = .ok (.lload_n 0, 1) := by decide +kernel
theorem dX11_in_1 : decode cX11_in 1 = .ok (.lload_n 2, 1) := by decide +kernel
theorem dX11_in_2 : decode cX11_in 2 = .ok (.lcmp, 1) := by decide +kernel
theorem dX11_in_3 : decode cX11_in 3 = .ok (.ifCond .lt 14, 3) := by decide +kernel
theorem dX11_in_6 : decode cX11_in 6 = .ok (.lload_n 0, 1) := by decide +kernel
theorem dX11_in_7 : decode cX11_in 7 = .ok (.lload 4, 2) := by decide +kernel
theorem dX11_in_9 : decode cX11_in 9 = .ok (.lcmp, 1) := by decide +kernel
theorem dX11_in_10 : decode cX11_in 10 = .ok (.ifCond .gt 7, 3) := by decide +kernel
theorem dX11_in_13 : decode cX11_in 13 = .ok (.iconst 1, 1) := by decide +kernel
theorem dX11_in_14 : decode cX11_in 14 = .ok (.goto 4, 3) := by decide +kernel
theorem dX11_in_17 : decode cX11_in 17 = .ok (.iconst 0, 1) := by decide +kernel
theorem dX11_in_18 : decode cX11_in 18 = .ok (.ireturn, 1) := by decide +kernel
theorem dX11_lookEmpty_0 : decode cX11_lookEmpty 0 = .ok (.iconst 0, 1) := by decide +kernel
theorem dX11_lookEmpty_1 : decode cX11_lookEmpty 1 = .ok (.istore_n 1, 1) := by decide +kernel
theorem dX11_lookEmpty_2 : decode cX11_lookEmpty 2 = .ok (.iload_n 1, 1) := by decide +kernel
theorem dX11_lookEmpty_3 : decode cX11_lookEmpty 3 = .ok (.bipush 12, 2) := by decide +kernel
theorem dX11_lookEmpty_5 : decode cX11_lookEmpty 5 = .ok (.if_icmp .ge 16, 3) := by decide +kernel
theorem dX11_lookEmpty_8 : decode cX11_lookEmpty 8 = .ok (.aload_n 0, 1) := by decide +kernel
theorem dX11_lookEmpty_9 : decode cX11_lookEmpty 9 = .ok (.getfield 19, 3) := by decide +kernel
theorem dX11_lookEmpty_12 : decode cX11_lookEmpty 12 = .ok (.iload_n 1, 1) := by decide +kernel
theorem dX11_lookEmpty_13 : decode cX11_lookEmpty 13 = .ok (.iconst 0, 1) := by decide +kernel
theorem dX11_lookEmpty_14 : decode cX11_lookEmpty 14 = .ok (.iastore, 1) := by decide +kernel
theorem dX11_lookEmpty_15 : decode cX11_lookEmpty 15 = .ok (.iinc 1 1, 3) := by decide +kernel
theorem dX11_lookEmpty_18 : decode cX11_lookEmpty 18 = .ok (.goto (-16), 3) := by decide +kernel
theorem dX11_lookEmpty_21 : decode cX11_lookEmpty 21 = .ok (.iconst 0, 1) := by decide +kernel
theorem dX11_lookEmpty_22 : decode cX11_lookEmpty 22 = .ok (.istore_n 1, 1) := by decide +kernel
theorem dX11_lookEmpty_23 : decode cX11_lookEmpty 23 = .ok (.iload_n 1, 1) := by decide +kernel
theorem dX11_lookEmpty_24 : decode cX11_lookEmpty 24 = .ok (.iconst 3, 1) := by decide +kernel
theorem dX11_lookEmpty_25 : decode cX11_lookEmpty 25 = .ok (.if_icmp .ge 16, 3) := by decide +kernel
theorem dX11_lookEmpty_28 : decode cX11_lookEmpty 28 = .ok (.aload_n 0, 1) := by decide +kernel
theorem dX11_lookEmpty_29 : decode cX11_lookEmpty 29 = .ok (.getfield 22, 3) := by decide +kernel
theorem dX11_lookEmpty_32 : decode cX11_lookEmpty 32 = .ok (.iload_n 1, 1) := by decide +kernel
theorem dX11_lookEmpty_33 : decode cX11_lookEmpty 33 = .ok (.iconst 0, 1) := by decide +kernel
theorem dX11_lookEmpty_34 : decode cX11_lookEmpty 34 = .ok (.iastore, 1) := by decide +kernel
theorem dX11_lookEmpty_35 : decode cX11_lookEmpty 35 = .ok (.iinc 1 1, 3) := by decide +kernel
theorem dX11_lookEmpty_38 : decode cX11_lookEmpty 38 = .ok (.goto (-15), 3) := by decide +kernel
theorem dX11_lookEmpty_41 : decode cX11_lookEmpty 41 = .ok (.return_, 1) := by decide +kernel
theorem dX11_lookNow_0 : decode cX11_lookNow 0 = .ok (.aload_n 0, 1) := by decide +kernel
theorem dX11_lookNow_1 : decode cX11_lookNow 1 = .ok (.invokevirtual 78, 3) := by decide +kernel
theorem dX11_lookNow_4 : decode cX11_lookNow 4 = .ok (.iconst 0, 1) := by decide +kernel
theorem dX11_lookNow_5 : decode cX11_lookNow 5 = .ok (.istore_n 1, 1) := by decide +kernel
theorem dX11_lookNow_6 : decode cX11_lookNow 6 = .ok (.iload_n 1, 1) := by decide +kernel
theorem dX11_lookNow_7 : decode cX11_lookNow 7 = .ok (.bipush 12, 2) := by decide +kernel
theorem dX11_lookNow_9 : decode cX11_lookNow 9 = .ok (.if_icmp .ge 21, 3) := by decide +kernel
theorem dX11_lookNow_12 : decode cX11_lookNow 12 = .ok (.aload_n 0, 1) := by decide +kernel
theorem dX11_lookNow_13 : decode cX11_lookNow 13 = .ok (.getfield 19, 3) := by decide +kernel
theorem dX11_lookNow_16 : decode cX11_lookNow 16 = .ok (.iload_n 1, 1) := by decide +kernel
theorem dX11_lookNow_17 : decode cX11_lookNow 17 = .ok (.aload_n 0, 1) := by decide +kernel
theorem dX11_lookNow_18 : decode cX11_lookNow 18 = .ok (.getfield 16, 3) := by decide +kernel
theorem dX11_lookNow_21 : decode cX11_lookNow 21 = .ok (.iload_n 1, 1) := by decide +kernel
theorem dX11_lookNow_22 : decode cX11_lookNow 22 = .ok (.iaload, 1) := by decide +kernel
theorem dX11_lookNow_23 : decode cX11_lookNow 23 = .ok (.iastore, 1) := by decide +kernel
theorem dX11_lookNow_24 : decode cX11_lookNow 24 = .ok (.iinc 1 1, 3) := by decide +kernel
theorem dX11_lookNow_27 : decode cX11_lookNow 27 = .ok (.goto (-21), 3) := by decide +kernel
theorem dX11_lookNow_30 : decode cX11_lookNow 30 = .ok (.iconst 0, 1) := by decide +kernel
theorem dX11_lookNow_31 : decode cX11_lookNow 31 = .ok (.istore_n 1, 1) := by decide +kernel
theorem dX11_lookNow_32 : decode cX11_lookNow 32 = .ok (.iload_n 1, 1) := by decide +kernel
theorem dX11_lookNow_33 : decode cX11_lookNow 33 = .ok (.aload_n 0, 1) := by decide +kernel
theorem dX11_lookNow_34 : decode cX11_lookNow 34 = .ok (.getfield 81, 3) := by decide +kernel
theorem dX11_lookNow_37 : decode cX11_lookNow 37 = .ok (.if_icmp .ge 39, 3) := by decide +kernel
theorem dX11_lookNow_40 : decode cX11_lookNow 40 = .ok (.aload_n 0, 1) := by decide +kernel
theorem dX11_lookNow_41 : decode cX11_lookNow 41 = .ok (.getfield 22, 3) := by decide +kernel
theorem dX11_lookNow_44 : decode cX11_lookNow 44 = .ok (.aload_n 0, 1) := by decide +kernel
theorem dX11_lookNow_45 : decode cX11_lookNow 45 = .ok (.getfield 7, 3) := by decide +kernel
theorem dX11_lookNow_48 : decode cX11_lookNow 48 = .ok (.iload_n 1, 1) := by decide +kernel
theorem dX11_lookNow_49 : decode cX11_lookNow 49 = .ok (.iaload, 1) := by decide +kernel
theorem dX11_lookNow_50 : decode cX11_lookNow 50 = .ok (.iconst 4, 1) := by decide +kernel
theorem dX11_lookNow_51 : decode cX11_lookNow 51 = .ok (.idiv, 1) := by decide +kernel
theorem dX11_lookNow_52 : decode cX11_lookNow 52 = .ok (.dup2, 1) := by decide +kernel
theorem dX11_lookNow_53 : decode cX11_lookNow 53 = .ok (.iaload, 1) := by decide +kernel
theorem dX11_lookNow_54 : decode cX11_lookNow 54 = .ok (.aload_n 0, 1) := by decide +kernel
theorem dX11_lookNow_55 : decode cX11_lookNow 55 = .ok (.getfield 13, 3) := by decide +kernel
theorem dX11_lookNow_58 : decode cX11_lookNow 58 = .ok (.iload_n 1, 1) := by decide +kernel
theorem dX11_lookNow_59 : decode cX11_lookNow 59 = .ok (.iaload, 1) := by decide +kernel
theorem dX11_lookNow_60 : decode cX11_lookNow 60 = .ok (.ifCond .le 7, 3) := by decide +kernel
theorem dX11_lookNow_63 : decode cX11_lookNow 63 = .ok (.iconst 1, 1) := by decide +kernel
theorem dX11_lookNow_64 : decode cX11_lookNow 64 = .ok (.goto 4, 3) := by decide +kernel
theorem dX11_lookNow_67 : decode cX11_lookNow 67 = .ok (.iconst 0, 1) := by decide +kernel
theorem dX11_lookNow_68 : decode cX11_lookNow 68 = .ok (.iadd, 1) := by decide +kernel
theorem dX11_lookNow_69 : decode cX11_lookNow 69 = .ok (.iastore, 1) := by decide +kernel
theorem dX11_lookNow_70 : decode cX11_lookNow 70 = .ok (.iinc 1 1, 3) := by decide +kernel
theorem dX11_lookNow_73 : decode cX11_lookNow 73 = .ok (.goto (-41), 3) := by decide +kernel
theorem dX11_lookNow_76 : decode cX11_lookNow 76 = .ok (.return_, 1) := by decide +kernel
theorem dX11_isHad_0 : decode cX11_isHad 0 = .ok (.iconst 0, 1) := by decide +kernel
theorem dX11_isHad_1 : decode cX11_isHad 1 = .ok (.istore_n 2, 1) := by decide +kernel
theorem dX11_isHad_2 : decode cX11_isHad 2 = .ok (.iconst 0, 1) := by decide +kernel
theorem dX11_isHad_3 : decode cX11_isHad 3 = .ok (.istore_n 3, 1) := by decide +kernel
theorem dX11_isHad_4 : decode cX11_isHad 4 = .ok (.iload_n 3, 1) := by decide +kernel
theorem dX11_isHad_5 : decode cX11_isHad 5 = .ok (.bipush 12, 2) := by decide +kernel
theorem dX11_isHad_7 : decode cX11_isHad 7 = .ok (.if_icmp .ge 29, 3) := by decide +kernel
theorem dX11_isHad_10 : decode cX11_isHad 10 = .ok (.iload_n 2, 1) := by decide +kernel
theorem dX11_isHad_11 : decode cX11_isHad 11 = .ok (.ifCond .ne 13, 3) := by decide +kernel
theorem dX11_isHad_14 : decode cX11_isHad 14 = .ok (.aload_n 0, 1) := by decide +kernel
theorem dX11_isHad_15 : decode cX11_isHad 15 = .ok (.getfield 19, 3) := by decide +kernel
theorem dX11_isHad_18 : decode cX11_isHad 18 = .ok (.iload_n 3, 1) := by decide +kernel
theorem dX11_isHad_19 : decode cX11_isHad 19 = .ok (.iaload, 1) := by decide +kernel
theorem dX11_isHad_20 : decode cX11_isHad 20 = .ok (.iload_n 1, 1) := by decide +kernel
theorem dX11_isHad_21 : decode cX11_isHad 21 = .ok (.if_icmp .ne 7, 3) := by decide +kernel
theorem dX11_isHad_24 : decode cX11_isHad 24 = .ok (.iconst 1, 1) := by decide +kernel
theorem dX11_isHad_25 : decode cX11_isHad 25 = .ok (.goto 4, 3) := by decide +kernel
theorem dX11_isHad_28 : decode cX11_isHad 28 = .ok (.iconst 0, 1) := by decide +kernel
theorem dX11_isHad_29 : decode cX11_isHad 29 = .ok (.istore_n 2, 1) := by decide +kernel
theorem dX11_isHad_30 : decode cX11_isHad 30 = .ok (.iinc 3 1, 3) := by decide +kernel
theorem dX11_isHad_33 : decode cX11_isHad 33 = .ok (.goto (-29), 3) := by decide +kernel
theorem dX11_isHad_36 : decode cX11_isHad 36 = .ok (.iload_n 2, 1) := by decide +kernel
theorem dX11_isHad_37 : decode cX11_isHad 37 = .ok (.ireturn, 1) := by decide +kernel
theorem dX11_greatest_0 : decode cX11_greatest 0 = .ok (.iconst 0, 1) := by decide +kernel
theorem dX11_greatest_1 : decode cX11_greatest 1 = .ok (.istore_n 1, 1) := by decide +kernel
theorem dX11_greatest_2 : decode cX11_greatest 2 = .ok (.iconst 0, 1) := by decide +kernel
theorem dX11_greatest_3 : decode cX11_greatest 3 = .ok (.istore_n 2, 1) := by decide +kernel
theorem dX11_greatest_4 : decode cX11_greatest 4 = .ok (.iload_n 2, 1) := by decide +kernel
theorem dX11_greatest_5 : decode cX11_greatest 5 = .ok (.bipush 12, 2) := by decide +kernel
theorem dX11_greatest_7 : decode cX11_greatest 7 = .ok (.if_icmp .ge 30, 3) := by decide +kernel
theorem dX11_greatest_10 : decode cX11_greatest 10 = .ok (.aload_n 0, 1) := by decide +kernel
theorem dX11_greatest_11 : decode cX11_greatest 11 = .ok (.getfield 19, 3) := by decide +kernel
theorem dX11_greatest_14 : decode cX11_greatest 14 = .ok (.iload_n 2, 1) := by decide +kernel
theorem dX11_greatest_15 : decode cX11_greatest 15 = .ok (.iaload, 1) := by decide +kernel
theorem dX11_greatest_16 : decode cX11_greatest 16 = .ok (.iload_n 1, 1) := by decide +kernel
theorem dX11_greatest_17 : decode cX11_greatest 17 = .ok (.if_icmp .le 12, 3) := by decide +kernel
theorem dX11_greatest_20 : decode cX11_greatest 20 = .ok (.aload_n 0, 1) := by decide +kernel
theorem dX11_greatest_21 : decode cX11_greatest 21 = .ok (.getfield 19, 3) := by decide +kernel
theorem dX11_greatest_24 : decode cX11_greatest 24 = .ok (.iload_n 2, 1) := by decide +kernel
theorem dX11_greatest_25 : decode cX11_greatest 25 = .ok (.iaload, 1) := by decide +kernel
theorem dX11_greatest_26 : decode cX11_greatest 26 = .ok (.goto 4, 3) := by decide +kernel
theorem dX11_greatest_29 : decode cX11_greatest 29 = .ok (.iload_n 1, 1) := by decide +kernel
theorem dX11_greatest_30 : decode cX11_greatest 30 = .ok (.istore_n 1, 1) := by decide +kernel
theorem dX11_greatest_31 : decode cX11_greatest 31 = .ok (.iinc 2 1, 3) := by decide +kernel
theorem dX11_greatest_34 : decode cX11_greatest 34 = .ok (.goto (-30), 3) := by decide +kernel
theorem dX11_greatest_37 : decode cX11_greatest 37 = .ok (.iload_n 1, 1) := by decide +kernel
theorem dX11_greatest_38 : decode cX11_greatest 38 = .ok (.ireturn, 1) := by decide +kernel
theorem dX11_firstGap_0 : decode cX11_firstGap 0 = .ok (.iconst 1, 1) := by decide +kernel
theorem dX11_firstGap_1 : decode cX11_firstGap 1 = .ok (.istore_n 1, 1) := by decide +kernel
theorem dX11_firstGap_2 : decode cX11_firstGap 2 = .ok (.aload_n 0, 1) := by decide +kernel
theorem dX11_firstGap_3 : decode cX11_firstGap 3 = .ok (.iload_n 1, 1) := by decide +kernel
theorem dX11_firstGap_4 : decode cX11_firstGap 4 = .ok (.invokevirtual 84, 3) := by decide +kernel
theorem dX11_firstGap_7 : decode cX11_firstGap 7 = .ok (.ifCond .eq 9, 3) := by decide +kernel
theorem dX11_firstGap_10 : decode cX11_firstGap 10 = .ok (.iinc 1 1, 3) := by decide +kernel
theorem dX11_firstGap_13 : decode cX11_firstGap 13 = .ok (.goto (-11), 3) := by decide +kernel
theorem dX11_firstGap_16 : decode cX11_firstGap 16 = .ok (.iload_n 1, 1) := by decide +kernel
theorem dX11_firstGap_17 : decode cX11_firstGap 17 = .ok (.ireturn, 1) := by decide +kernel
theorem dX11_skipped_0 : decode cX11_skipped 0 = .ok (.iload_n 0, 1) := by decide +kernel
theorem dX11_skipped_1 : decode cX11_skipped 1 = .ok (.istore_n 2, 1) := by decide +kernel
theorem dX11_skipped_2 : decode cX11_skipped 2 = .ok (.iconst 0, 1) := by decide +kernel
theorem dX11_skipped_3 : decode cX11_skipped 3 = .ok (.istore_n 3, 1) := by decide +kernel
theorem dX11_skipped_4 : decode cX11_skipped 4 = .ok (.iload_n 2, 1) := by decide +kernel
theorem dX11_skipped_5 : decode cX11_skipped 5 = .ok (.ifCond .le 28, 3) := by decide +kernel
theorem dX11_skipped_8 : decode cX11_skipped 8 = .ok (.iinc 3 1, 3) := by decide +kernel
theorem dX11_skipped_11 : decode cX11_skipped 11 = .ok (.iload_n 2, 1) := by decide +kernel
theorem dX11_skipped_12 : decode cX11_skipped 12 = .ok (.iload_n 1, 1) := by decide +kernel
theorem dX11_skipped_13 : decode cX11_skipped 13 = .ok (.iconst 2, 1) := by decide +kernel
theorem dX11_skipped_14 : decode cX11_skipped 14 = .ok (.if_icmp .lt 9, 3) := by decide +kernel
theorem dX11_skipped_17 : decode cX11_skipped 17 = .ok (.iload_n 3, 1) := by decide +kernel
theorem dX11_skipped_18 : decode cX11_skipped 18 = .ok (.iload_n 1, 1) := by decide +kernel
theorem dX11_skipped_19 : decode cX11_skipped 19 = .ok (.irem, 1) := by decide +kernel
theorem dX11_skipped_20 : decode cX11_skipped 20 = .ok (.ifCond .eq 7, 3) := by decide +kernel
theorem dX11_skipped_23 : decode cX11_skipped 23 = .ok (.iconst 1, 1) := by decide +kernel
theorem dX11_skipped_24 : decode cX11_skipped 24 = .ok (.goto 4, 3) := by decide +kernel
theorem dX11_skipped_27 : decode cX11_skipped 27 = .ok (.iconst 0, 1) := by decide +kernel
theorem dX11_skipped_28 : decode cX11_skipped 28 = .ok (.isub, 1) := by decide +kernel
theorem dX11_skipped_29 : decode cX11_skipped 29 = .ok (.istore_n 2, 1) := by decide +kernel
theorem dX11_skipped_30 : decode cX11_skipped 30 = .ok (.goto (-26), 3) := by decide +kernel
theorem dX11_skipped_33 : decode cX11_skipped 33 = .ok (.iload_n 3, 1) := by decide +kernel
theorem dX11_skipped_34 : decode cX11_skipped 34 = .ok (.ireturn, 1) := by decide +kernel
theorem dX11_numberBy_0 : decode cX11_numberBy 0 = .ok (.aload_n 0, 1) := by decide +kernel
theorem dX11_numberBy_1 : decode cX11_numberBy 1 = .ok (.getfield 22, 3) := by decide +kernel
theorem dX11_numberBy_4 : decode cX11_numberBy 4 = .ok (.iconst 0, 1) := by decide +kernel
theorem dX11_numberBy_5 : decode cX11_numberBy 5 = .ok (.iaload, 1) := by decide +kernel
theorem dX11_numberBy_6 : decode cX11_numberBy 6 = .ok (.aload_n 0, 1) := by decide +kernel
theorem dX11_numberBy_7 : decode cX11_numberBy 7 = .ok (.getfield 22, 3) := by decide +kernel
theorem dX11_numberBy_10 : decode cX11_numberBy 10 = .ok (.iconst 1, 1) := by decide +kernel
theorem dX11_numberBy_11 : decode cX11_numberBy 11 = .ok (.iaload, 1) := by decide +kernel
theorem dX11_numberBy_12 : decode cX11_numberBy 12 = .ok (.iadd, 1) := by decide +kernel
theorem dX11_numberBy_13 : decode cX11_numberBy 13 = .ok (.aload_n 0, 1) := by decide +kernel
theorem dX11_numberBy_14 : decode cX11_numberBy 14 = .ok (.getfield 22, 3) := by decide +kernel
theorem dX11_numberBy_17 : decode cX11_numberBy 17 = .ok (.iconst 2, 1) := by decide +kernel
theorem dX11_numberBy_18 : decode cX11_numberBy 18 = .ok (.iaload, 1) := by decide +kernel
theorem dX11_numberBy_19 : decode cX11_numberBy 19 = .ok (.iadd, 1) := by decide +kernel
theorem dX11_numberBy_20 : decode cX11_numberBy 20 = .ok (.iconst 1, 1) := by decide +kernel
theorem dX11_numberBy_21 : decode cX11_numberBy 21 = .ok (.iadd, 1) := by decide +kernel
theorem dX11_numberBy_22 : decode cX11_numberBy 22 = .ok (.istore 5, 2) := by decide +kernel
theorem dX11_numberBy_24 : decode cX11_numberBy 24 = .ok (.aload_n 0, 1) := by decide +kernel
theorem dX11_numberBy_25 : decode cX11_numberBy 25 = .ok (.getfield 22, 3) := by decide +kernel
theorem dX11_numberBy_28 : decode cX11_numberBy 28 = .ok (.iload_n 3, 1) := by decide +kernel
theorem dX11_numberBy_29 : decode cX11_numberBy 29 = .ok (.iconst 4, 1) := by decide +kernel
theorem dX11_numberBy_30 : decode cX11_numberBy 30 = .ok (.idiv, 1) := by decide +kernel
theorem dX11_numberBy_31 : decode cX11_numberBy 31 = .ok (.iaload, 1) := by decide +kernel
theorem dX11_numberBy_32 : decode cX11_numberBy 32 = .ok (.iconst 1, 1) := by decide +kernel
theorem dX11_numberBy_33 : decode cX11_numberBy 33 = .ok (.iadd, 1) := by decide +kernel
theorem dX11_numberBy_34 : decode cX11_numberBy 34 = .ok (.istore 6, 2) := by decide +kernel
theorem dX11_numberBy_36 : decode cX11_numberBy 36 = .ok (.iload_n 1, 1) := by decide +kernel
theorem dX11_numberBy_37 : decode cX11_numberBy 37 = .ok (.tableswitch 96 0 6 #[43, 46, 51, 54, 62, 67, 74], 43) := by decide +kernel
theorem dX11_numberBy_80 : decode cX11_numberBy 80 = .ok (.iload 5, 2) := by decide +kernel
theorem dX11_numberBy_82 : decode cX11_numberBy 82 = .ok (.ireturn, 1) := by decide +kernel
theorem dX11_numberBy_83 : decode cX11_numberBy 83 = .ok (.aload_n 0, 1) := by decide +kernel
theorem dX11_numberBy_84 : decode cX11_numberBy 84 = .ok (.invokevirtual 88, 3) := by decide +kernel
theorem dX11_numberBy_87 : decode cX11_numberBy 87 = .ok (.ireturn, 1) := by decide +kernel
theorem dX11_numberBy_88 : decode cX11_numberBy 88 = .ok (.iload 6, 2) := by decide +kernel
theorem dX11_numberBy_90 : decode cX11_numberBy 90 = .ok (.ireturn, 1) := by decide +kernel
theorem dX11_numberBy_91 : decode cX11_numberBy 91 = .ok (.iload 5, 2) := by decide +kernel
theorem dX11_numberBy_93 : decode cX11_numberBy 93 = .ok (.iload_n 2, 1) := by decide +kernel
theorem dX11_numberBy_94 : decode cX11_numberBy 94 = .ok (.iload 4, 2) := by decide +kernel
theorem dX11_numberBy_96 : decode cX11_numberBy 96 = .ok (.imul, 1) := by decide +kernel
theorem dX11_numberBy_97 : decode cX11_numberBy 97 = .ok (.iadd, 1) := by decide +kernel
theorem dX11_numberBy_98 : decode cX11_numberBy 98 = .ok (.ireturn, 1) := by decide +kernel
theorem dX11_numberBy_99 : decode cX11_numberBy 99 = .ok (.iconst 2, 1) := by decide +kernel
theorem dX11_numberBy_100 : decode cX11_numberBy 100 = .ok (.iload 5, 2) := by decide +kernel
theorem dX11_numberBy_102 : decode cX11_numberBy 102 = .ok (.imul, 1) := by decide +kernel
theorem dX11_numberBy_103 : decode cX11_numberBy 103 = .ok (.ireturn, 1) := by decide +kernel
theorem dX11_numberBy_104 : decode cX11_numberBy 104 = .ok (.iload 5, 2) := by decide +kernel
theorem dX11_numberBy_106 : decode cX11_numberBy 106 = .ok (.iload_n 2, 1) := by decide +kernel
theorem dX11_numberBy_107 : decode cX11_numberBy 107 = .ok (.invokestatic 92, 3) := by decide +kernel
theorem dX11_numberBy_110 : decode cX11_numberBy 110 = .ok (.ireturn, 1) := by decide +kernel
theorem dX11_numberBy_111 : decode cX11_numberBy 111 = .ok (.aload_n 0, 1) := by decide +kernel
theorem dX11_numberBy_112 : decode cX11_numberBy 112 = .ok (.invokevirtual 88, 3) := by decide +kernel
theorem dX11_numberBy_115 : decode cX11_numberBy 115 = .ok (.iload_n 2, 1) := by decide +kernel
theorem dX11_numberBy_116 : decode cX11_numberBy 116 = .ok (.if_icmp .ge 10, 3) := by decide +kernel
theorem dX11_numberBy_119 : decode cX11_numberBy 119 = .ok (.aload_n 0, 1) := by decide +kernel
theorem dX11_numberBy_120 : decode cX11_numberBy 120 = .ok (.invokevirtual 88, 3) := by decide +kernel
theorem dX11_numberBy_123 : decode cX11_numberBy 123 = .ok (.goto 9, 3) := by decide +kernel
theorem dX11_numberBy_126 : decode cX11_numberBy 126 = .ok (.aload_n 0, 1) := by decide +kernel
theorem dX11_numberBy_127 : decode cX11_numberBy 127 = .ok (.invokevirtual 96, 3) := by decide +kernel
theorem dX11_numberBy_130 : decode cX11_numberBy 130 = .ok (.iconst 1, 1) := by decide +kernel
theorem dX11_numberBy_131 : decode cX11_numberBy 131 = .ok (.iadd, 1) := by decide +kernel
theorem dX11_numberBy_132 : decode cX11_numberBy 132 = .ok (.ireturn, 1) := by decide +kernel
theorem dX11_numberBy_133 : decode cX11_numberBy 133 = .ok (.iload_n 3, 1) := by decide +kernel
theorem dX11_numberBy_134 : decode cX11_numberBy 134 = .ok (.iconst 2, 1) := by decide +kernel
theorem dX11_numberBy_135 : decode cX11_numberBy 135 = .ok (.irem, 1) := by decide +kernel
theorem dX11_numberBy_136 : decode cX11_numberBy 136 = .ok (.ifCond .ne 12, 3) := by decide +kernel
theorem dX11_numberBy_139 : decode cX11_numberBy 139 = .ok (.iconst 2, 1) := by decide +kernel
theorem dX11_numberBy_140 : decode cX11_numberBy 140 = .ok (.iload 6, 2) := by decide +kernel
theorem dX11_numberBy_142 : decode cX11_numberBy 142 = .ok (.imul, 1) := by decide +kernel
theorem dX11_numberBy_143 : decode cX11_numberBy 143 = .ok (.iconst 1, 1) := by decide +kernel
theorem dX11_numberBy_144 : decode cX11_numberBy 144 = .ok (.isub, 1) := by decide +kernel
theorem dX11_numberBy_145 : decode cX11_numberBy 145 = .ok (.goto 7, 3) := by decide +kernel
theorem dX11_numberBy_148 : decode cX11_numberBy 148 = .ok (.iconst 2, 1) := by decide +kernel
theorem dX11_numberBy_149 : decode cX11_numberBy 149 = .ok (.iload 6, 2) := by decide +kernel
theorem dX11_numberBy_151 : decode cX11_numberBy 151 = .ok (.imul, 1) := by decide +kernel
theorem dX11_numberBy_152 : decode cX11_numberBy 152 = .ok (.ireturn, 1) := by decide +kernel
theorem dX11_buildLooked_0 : decode cX11_buildLooked 0 = .ok (.aload_n 0, 1) := by decide +kernel
theorem dX11_buildLooked_1 : decode cX11_buildLooked 1 = .ok (.getfield 19, 3) := by decide +kernel
theorem dX11_buildLooked_4 : decode cX11_buildLooked 4 = .ok (.iload_n 3, 1) := by decide +kernel
theorem dX11_buildLooked_5 : decode cX11_buildLooked 5 = .ok (.aload_n 0, 1) := by decide +kernel
theorem dX11_buildLooked_6 : decode cX11_buildLooked 6 = .ok (.iload_n 1, 1) := by decide +kernel
theorem dX11_buildLooked_7 : decode cX11_buildLooked 7 = .ok (.iload_n 2, 1) := by decide +kernel
theorem dX11_buildLooked_8 : decode cX11_buildLooked 8 = .ok (.iload_n 3, 1) := by decide +kernel
theorem dX11_buildLooked_9 : decode cX11_buildLooked 9 = .ok (.iload 4, 2) := by decide +kernel
theorem dX11_buildLooked_11 : decode cX11_buildLooked 11 = .ok (.invokevirtual 99, 3) := by decide +kernel
theorem dX11_buildLooked_14 : decode cX11_buildLooked 14 = .ok (.iastore, 1) := by decide +kernel
theorem dX11_buildLooked_15 : decode cX11_buildLooked 15 = .ok (.aload_n 0, 1) := by decide +kernel
theorem dX11_buildLooked_16 : decode cX11_buildLooked 16 = .ok (.getfield 22, 3) := by decide +kernel
theorem dX11_buildLooked_19 : decode cX11_buildLooked 19 = .ok (.iload_n 3, 1) := by decide +kernel
theorem dX11_buildLooked_20 : decode cX11_buildLooked 20 = .ok (.iconst 4, 1) := by decide +kernel
theorem dX11_buildLooked_21 : decode cX11_buildLooked 21 = .ok (.idiv, 1) := by decide +kernel
theorem dX11_buildLooked_22 : decode cX11_buildLooked 22 = .ok (.dup2, 1) := by decide +kernel
theorem dX11_buildLooked_23 : decode cX11_buildLooked 23 = .ok (.iaload, 1) := by decide +kernel
theorem dX11_buildLooked_24 : decode cX11_buildLooked 24 = .ok (.iconst 1, 1) := by decide +kernel
theorem dX11_buildLooked_25 : decode cX11_buildLooked 25 = .ok (.iadd, 1) := by decide +kernel
theorem dX11_buildLooked_26 : decode cX11_buildLooked 26 = .ok (.iastore, 1) := by decide +kernel
theorem dX11_buildLooked_27 : decode cX11_buildLooked 27 = .ok (.return_, 1) := by decide +kernel
theorem dX11_replay_0 : decode cX11_replay 0 = .ok (.aload_n 0, 1) := by decide +kernel
theorem dX11_replay_1 : decode cX11_replay 1 = .ok (.invokevirtual 78, 3) := by decide +kernel
theorem dX11_replay_4 : decode cX11_replay 4 = .ok (.iconst 0, 1) := by decide +kernel
theorem dX11_replay_5 : decode cX11_replay 5 = .ok (.istore_n 3, 1) := by decide +kernel
theorem dX11_replay_6 : decode cX11_replay 6 = .ok (.iload_n 3, 1) := by decide +kernel
theorem dX11_replay_7 : decode cX11_replay 7 = .ok (.aload_n 0, 1) := by decide +kernel
theorem dX11_replay_8 : decode cX11_replay 8 = .ok (.getfield 81, 3) := by decide +kernel
theorem dX11_replay_11 : decode cX11_replay 11 = .ok (.if_icmp .ge 51, 3) := by decide +kernel
theorem dX11_replay_14 : decode cX11_replay 14 = .ok (.aload_n 0, 1) := by decide +kernel
theorem dX11_replay_15 : decode cX11_replay 15 = .ok (.getfield 13, 3) := by decide +kernel
theorem dX11_replay_18 : decode cX11_replay 18 = .ok (.iload_n 3, 1) := by decide +kernel
theorem dX11_replay_19 : decode cX11_replay 19 = .ok (.iaload, 1) := by decide +kernel
theorem dX11_replay_20 : decode cX11_replay 20 = .ok (.ifCond .le 24, 3) := by decide +kernel
theorem dX11_replay_23 : decode cX11_replay 23 = .ok (.aload_n 0, 1) := by decide +kernel
theorem dX11_replay_24 : decode cX11_replay 24 = .ok (.iload_n 1, 1) := by decide +kernel
theorem dX11_replay_25 : decode cX11_replay 25 = .ok (.iload_n 2, 1) := by decide +kernel
theorem dX11_replay_26 : decode cX11_replay 26 = .ok (.aload_n 0, 1) := by decide +kernel
theorem dX11_replay_27 : decode cX11_replay 27 = .ok (.getfield 7, 3) := by decide +kernel
theorem dX11_replay_30 : decode cX11_replay 30 = .ok (.iload_n 3, 1) := by decide +kernel
theorem dX11_replay_31 : decode cX11_replay 31 = .ok (.iaload, 1) := by decide +kernel
theorem dX11_replay_32 : decode cX11_replay 32 = .ok (.aload_n 0, 1) := by decide +kernel
theorem dX11_replay_33 : decode cX11_replay 33 = .ok (.getfield 13, 3) := by decide +kernel
theorem dX11_replay_36 : decode cX11_replay 36 = .ok (.iload_n 3, 1) := by decide +kernel
theorem dX11_replay_37 : decode cX11_replay 37 = .ok (.iaload, 1) := by decide +kernel
theorem dX11_replay_38 : decode cX11_replay 38 = .ok (.invokevirtual 103, 3) := by decide +kernel
theorem dX11_replay_41 : decode cX11_replay 41 = .ok (.goto 15, 3) := by decide +kernel
theorem dX11_replay_44 : decode cX11_replay 44 = .ok (.aload_n 0, 1) := by decide +kernel
theorem dX11_replay_45 : decode cX11_replay 45 = .ok (.getfield 19, 3) := by decide +kernel
theorem dX11_replay_48 : decode cX11_replay 48 = .ok (.aload_n 0, 1) := by decide +kernel
theorem dX11_replay_49 : decode cX11_replay 49 = .ok (.getfield 7, 3) := by decide +kernel
theorem dX11_replay_52 : decode cX11_replay 52 = .ok (.iload_n 3, 1) := by decide +kernel
theorem dX11_replay_53 : decode cX11_replay 53 = .ok (.iaload, 1) := by decide +kernel
theorem dX11_replay_54 : decode cX11_replay 54 = .ok (.iconst 0, 1) := by decide +kernel
theorem dX11_replay_55 : decode cX11_replay 55 = .ok (.iastore, 1) := by decide +kernel
theorem dX11_replay_56 : decode cX11_replay 56 = .ok (.iinc 3 1, 3) := by decide +kernel
theorem dX11_replay_59 : decode cX11_replay 59 = .ok (.goto (-53), 3) := by decide +kernel
theorem dX11_replay_62 : decode cX11_replay 62 = .ok (.return_, 1) := by decide +kernel
theorem dX11_here_0 : decode cX11_here 0 = .ok (.aload_n 0, 1) := by decide +kernel
theorem dX11_here_1 : decode cX11_here 1 = .ok (.getfield 107, 3) := by decide +kernel
theorem dX11_here_4 : decode cX11_here 4 = .ok (.aload_n 0, 1) := by decide +kernel
theorem dX11_here_5 : decode cX11_here 5 = .ok (.getfield 110, 3) := by decide +kernel
theorem dX11_here_8 : decode cX11_here 8 = .ok (.if_icmp .lt 7, 3) := by decide +kernel
theorem dX11_here_11 : decode cX11_here 11 = .ok (.iconst (-1), 1) := by decide +kernel
theorem dX11_here_12 : decode cX11_here 12 = .ok (.goto 22, 3) := by decide +kernel
theorem dX11_here_15 : decode cX11_here 15 = .ok (.aload_n 0, 1) := by decide +kernel
theorem dX11_here_16 : decode cX11_here 16 = .ok (.getfield 67, 3) := by decide +kernel
theorem dX11_here_19 : decode cX11_here 19 = .ok (.aload_n 0, 1) := by decide +kernel
theorem dX11_here_20 : decode cX11_here 20 = .ok (.getfield 113, 3) := by decide +kernel
theorem dX11_here_23 : decode cX11_here 23 = .ok (.aload_n 0, 1) := by decide +kernel
theorem dX11_here_24 : decode cX11_here 24 = .ok (.getfield 107, 3) := by decide +kernel
theorem dX11_here_27 : decode cX11_here 27 = .ok (.iadd, 1) := by decide +kernel
theorem dX11_here_28 : decode cX11_here 28 = .ok (.laload, 1) := by decide +kernel
theorem dX11_here_29 : decode cX11_here 29 = .ok (.l2i, 1) := by decide +kernel
theorem dX11_here_30 : decode cX11_here 30 = .ok (.sipush 255, 3) := by decide +kernel
theorem dX11_here_33 : decode cX11_here 33 = .ok (.iand, 1) := by decide +kernel
theorem dX11_here_34 : decode cX11_here 34 = .ok (.ireturn, 1) := by decide +kernel
theorem dX11_readDigit_0 : decode cX11_readDigit 0 = .ok (.aload_n 0, 1) := by decide +kernel
theorem dX11_readDigit_1 : decode cX11_readDigit 1 = .ok (.aload_n 0, 1) := by decide +kernel
theorem dX11_readDigit_2 : decode cX11_readDigit 2 = .ok (.getfield 116, 3) := by decide +kernel
theorem dX11_readDigit_5 : decode cX11_readDigit 5 = .ok (.ifCond .ne 20, 3) := by decide +kernel
theorem dX11_readDigit_8 : decode cX11_readDigit 8 = .ok (.aload_n 0, 1) := by decide +kernel
theorem dX11_readDigit_9 : decode cX11_readDigit 9 = .ok (.invokevirtual 120, 3) := by decide +kernel
theorem dX11_readDigit_12 : decode cX11_readDigit 12 = .ok (.i2l, 1) := by decide +kernel
theorem dX11_readDigit_13 : decode cX11_readDigit 13 = .ok (.ldc2_w 123, 3) := by decide +kernel
theorem dX11_readDigit_16 : decode cX11_readDigit 16 = .ok (.ldc2_w 125, 3) := by decide +kernel
theorem dX11_readDigit_19 : decode cX11_readDigit 19 = .ok (.invokestatic 127, 3) := by decide +kernel
theorem dX11_readDigit_22 : decode cX11_readDigit 22 = .ok (.ifCond .ne 7, 3) := by decide +kernel
theorem dX11_readDigit_25 : decode cX11_readDigit 25 = .ok (.iconst 1, 1) := by decide +kernel
theorem dX11_readDigit_26 : decode cX11_readDigit 26 = .ok (.goto 4, 3) := by decide +kernel
theorem dX11_readDigit_29 : decode cX11_readDigit 29 = .ok (.iconst 0, 1) := by decide +kernel
theorem dX11_readDigit_30 : decode cX11_readDigit 30 = .ok (.putfield 116, 3) := by decide +kernel
theorem dX11_readDigit_33 : decode cX11_readDigit 33 = .ok (.aload_n 0, 1) := by decide +kernel
theorem dX11_readDigit_34 : decode cX11_readDigit 34 = .ok (.getfield 116, 3) := by decide +kernel
theorem dX11_readDigit_37 : decode cX11_readDigit 37 = .ok (.ifCond .eq 5, 3) := by decide +kernel
theorem dX11_readDigit_40 : decode cX11_readDigit 40 = .ok (.iconst 0, 1) := by decide +kernel
theorem dX11_readDigit_41 : decode cX11_readDigit 41 = .ok (.ireturn, 1) := by decide +kernel
theorem dX11_readDigit_42 : decode cX11_readDigit 42 = .ok (.aload_n 0, 1) := by decide +kernel
theorem dX11_readDigit_43 : decode cX11_readDigit 43 = .ok (.dup, 1) := by decide +kernel
theorem dX11_readDigit_44 : decode cX11_readDigit 44 = .ok (.getfield 107, 3) := by decide +kernel
theorem dX11_readDigit_47 : decode cX11_readDigit 47 = .ok (.iconst 1, 1) := by decide +kernel
theorem dX11_readDigit_48 : decode cX11_readDigit 48 = .ok (.iadd, 1) := by decide +kernel
theorem dX11_readDigit_49 : decode cX11_readDigit 49 = .ok (.putfield 107, 3) := by decide +kernel
theorem dX11_readDigit_52 : decode cX11_readDigit 52 = .ok (.aload_n 0, 1) := by decide +kernel
theorem dX11_readDigit_53 : decode cX11_readDigit 53 = .ok (.getfield 67, 3) := by decide +kernel
theorem dX11_readDigit_56 : decode cX11_readDigit 56 = .ok (.aload_n 0, 1) := by decide +kernel
theorem dX11_readDigit_57 : decode cX11_readDigit 57 = .ok (.getfield 113, 3) := by decide +kernel
theorem dX11_readDigit_60 : decode cX11_readDigit 60 = .ok (.aload_n 0, 1) := by decide +kernel
theorem dX11_readDigit_61 : decode cX11_readDigit 61 = .ok (.getfield 107, 3) := by decide +kernel
theorem dX11_readDigit_64 : decode cX11_readDigit 64 = .ok (.iadd, 1) := by decide +kernel
theorem dX11_readDigit_65 : decode cX11_readDigit 65 = .ok (.iconst 1, 1) := by decide +kernel
theorem dX11_readDigit_66 : decode cX11_readDigit 66 = .ok (.isub, 1) := by decide +kernel
theorem dX11_readDigit_67 : decode cX11_readDigit 67 = .ok (.laload, 1) := by decide +kernel
theorem dX11_readDigit_68 : decode cX11_readDigit 68 = .ok (.l2i, 1) := by decide +kernel
theorem dX11_readDigit_69 : decode cX11_readDigit 69 = .ok (.bipush 48, 2) := by decide +kernel
theorem dX11_readDigit_71 : decode cX11_readDigit 71 = .ok (.isub, 1) := by decide +kernel
theorem dX11_readDigit_72 : decode cX11_readDigit 72 = .ok (.ireturn, 1) := by decide +kernel
theorem dX11_readStatement_0 : decode cX11_readStatement 0 = .ok (.aload_n 0, 1) := by decide +kernel
theorem dX11_readStatement_1 : decode cX11_readStatement 1 = .ok (.getfield 131, 3) := by decide +kernel
theorem dX11_readStatement_4 : decode cX11_readStatement 4 = .ok (.istore_n 1, 1) := by decide +kernel
theorem dX11_readStatement_5 : decode cX11_readStatement 5 = .ok (.aload_n 0, 1) := by decide +kernel
theorem dX11_readStatement_6 : decode cX11_readStatement 6 = .ok (.invokevirtual 120, 3) := by decide +kernel
theorem dX11_readStatement_9 : decode cX11_readStatement 9 = .ok (.istore_n 2, 1) := by decide +kernel
theorem dX11_readStatement_10 : decode cX11_readStatement 10 = .ok (.aload_n 0, 1) := by decide +kernel
theorem dX11_readStatement_11 : decode cX11_readStatement 11 = .ok (.getfield 25, 3) := by decide +kernel
theorem dX11_readStatement_14 : decode cX11_readStatement 14 = .ok (.iload_n 1, 1) := by decide +kernel
theorem dX11_readStatement_15 : decode cX11_readStatement 15 = .ok (.aload_n 0, 1) := by decide +kernel
theorem dX11_readStatement_16 : decode cX11_readStatement 16 = .ok (.getfield 107, 3) := by decide +kernel
theorem dX11_readStatement_19 : decode cX11_readStatement 19 = .ok (.iastore, 1) := by decide +kernel
theorem dX11_readStatement_20 : decode cX11_readStatement 20 = .ok (.aload_n 0, 1) := by decide +kernel
theorem dX11_readStatement_21 : decode cX11_readStatement 21 = .ok (.getfield 28, 3) := by decide +kernel
theorem dX11_readStatement_24 : decode cX11_readStatement 24 = .ok (.iload_n 1, 1) := by decide +kernel
theorem dX11_readStatement_25 : decode cX11_readStatement 25 = .ok (.iload_n 2, 1) := by decide +kernel
theorem dX11_readStatement_26 : decode cX11_readStatement 26 = .ok (.iastore, 1) := by decide +kernel
theorem dX11_readStatement_27 : decode cX11_readStatement 27 = .ok (.aload_n 0, 1) := by decide +kernel
theorem dX11_readStatement_28 : decode cX11_readStatement 28 = .ok (.aload_n 0, 1) := by decide +kernel
theorem dX11_readStatement_29 : decode cX11_readStatement 29 = .ok (.getfield 116, 3) := by decide +kernel
theorem dX11_readStatement_32 : decode cX11_readStatement 32 = .ok (.ifCond .ne 21, 3) := by decide +kernel
theorem dX11_readStatement_35 : decode cX11_readStatement 35 = .ok (.iload_n 2, 1) := by decide +kernel
theorem dX11_readStatement_36 : decode cX11_readStatement 36 = .ok (.bipush 98, 2) := by decide +kernel
theorem dX11_readStatement_38 : decode cX11_readStatement 38 = .ok (.if_icmp .eq 19, 3) := by decide +kernel
theorem dX11_readStatement_41 : decode cX11_readStatement 41 = .ok (.iload_n 2, 1) := by decide +kernel
theorem dX11_readStatement_42 : decode cX11_readStatement 42 = .ok (.bipush 102, 2) := by decide +kernel
theorem dX11_readStatement_44 : decode cX11_readStatement 44 = .ok (.if_icmp .eq 13, 3) := by decide +kernel
theorem dX11_readStatement_47 : decode cX11_readStatement 47 = .ok (.iload_n 2, 1) := by decide +kernel
theorem dX11_readStatement_48 : decode cX11_readStatement 48 = .ok (.bipush 108, 2) := by decide +kernel
theorem dX11_readStatement_50 : decode cX11_readStatement 50 = .ok (.if_icmp .eq 7, 3) := by decide +kernel
theorem dX11_readStatement_53 : decode cX11_readStatement 53 = .ok (.iconst 1, 1) := by decide +kernel
theorem dX11_readStatement_54 : decode cX11_readStatement 54 = .ok (.goto 4, 3) := by decide +kernel
theorem dX11_readStatement_57 : decode cX11_readStatement 57 = .ok (.iconst 0, 1) := by decide +kernel
theorem dX11_readStatement_58 : decode cX11_readStatement 58 = .ok (.putfield 116, 3) := by decide +kernel
theorem dX11_readStatement_61 : decode cX11_readStatement 61 = .ok (.aload_n 0, 1) := by decide +kernel
theorem dX11_readStatement_62 : decode cX11_readStatement 62 = .ok (.dup, 1) := by decide +kernel
theorem dX11_readStatement_63 : decode cX11_readStatement 63 = .ok (.getfield 107, 3) := by decide +kernel
theorem dX11_readStatement_66 : decode cX11_readStatement 66 = .ok (.aload_n 0, 1) := by decide +kernel
theorem dX11_readStatement_67 : decode cX11_readStatement 67 = .ok (.getfield 116, 3) := by decide +kernel
theorem dX11_readStatement_70 : decode cX11_readStatement 70 = .ok (.ifCond .eq 7, 3) := by decide +kernel
theorem dX11_readStatement_73 : decode cX11_readStatement 73 = .ok (.iconst 0, 1) := by decide +kernel
theorem dX11_readStatement_74 : decode cX11_readStatement 74 = .ok (.goto 4, 3) := by decide +kernel
theorem dX11_readStatement_77 : decode cX11_readStatement 77 = .ok (.iconst 1, 1) := by decide +kernel
theorem dX11_readStatement_78 : decode cX11_readStatement 78 = .ok (.iadd, 1) := by decide +kernel
theorem dX11_readStatement_79 : decode cX11_readStatement 79 = .ok (.putfield 107, 3) := by decide +kernel
theorem dX11_readStatement_82 : decode cX11_readStatement 82 = .ok (.aload_n 0, 1) := by decide +kernel
theorem dX11_readStatement_83 : decode cX11_readStatement 83 = .ok (.getfield 31, 3) := by decide +kernel
theorem dX11_readStatement_86 : decode cX11_readStatement 86 = .ok (.iload_n 1, 1) := by decide +kernel
theorem dX11_readStatement_87 : decode cX11_readStatement 87 = .ok (.aload_n 0, 1) := by decide +kernel
theorem dX11_readStatement_88 : decode cX11_readStatement 88 = .ok (.invokevirtual 134, 3) := by decide +kernel
theorem dX11_readStatement_91 : decode cX11_readStatement 91 = .ok (.iastore, 1) := by decide +kernel
theorem dX11_readStatement_92 : decode cX11_readStatement 92 = .ok (.iload_n 2, 1) := by decide +kernel
theorem dX11_readStatement_93 : decode cX11_readStatement 93 = .ok (.bipush 98, 2) := by decide +kernel
theorem dX11_readStatement_95 : decode cX11_readStatement 95 = .ok (.if_icmp .eq 9, 3) := by decide +kernel
theorem dX11_readStatement_98 : decode cX11_readStatement 98 = .ok (.iload_n 2, 1) := by decide +kernel
theorem dX11_readStatement_99 : decode cX11_readStatement 99 = .ok (.bipush 102, 2) := by decide +kernel
theorem dX11_readStatement_101 : decode cX11_readStatement 101 = .ok (.if_icmp .ne 23, 3) := by decide +kernel
theorem dX11_readStatement_104 : decode cX11_readStatement 104 = .ok (.aload_n 0, 1) := by decide +kernel
theorem dX11_readStatement_105 : decode cX11_readStatement 105 = .ok (.getfield 31, 3) := by decide +kernel
theorem dX11_readStatement_108 : decode cX11_readStatement 108 = .ok (.iload_n 1, 1) := by decide +kernel
theorem dX11_readStatement_109 : decode cX11_readStatement 109 = .ok (.bipush 10, 2) := by decide +kernel
theorem dX11_readStatement_111 : decode cX11_readStatement 111 = .ok (.aload_n 0, 1) := by decide +kernel
theorem dX11_readStatement_112 : decode cX11_readStatement 112 = .ok (.getfield 31, 3) := by decide +kernel
theorem dX11_readStatement_115 : decode cX11_readStatement 115 = .ok (.iload_n 1, 1) := by decide +kernel
theorem dX11_readStatement_116 : decode cX11_readStatement 116 = .ok (.iaload, 1) := by decide +kernel
theorem dX11_readStatement_117 : decode cX11_readStatement 117 = .ok (.imul, 1) := by decide +kernel
theorem dX11_readStatement_118 : decode cX11_readStatement 118 = .ok (.aload_n 0, 1) := by decide +kernel
theorem dX11_readStatement_119 : decode cX11_readStatement 119 = .ok (.invokevirtual 134, 3) := by decide +kernel
theorem dX11_readStatement_122 : decode cX11_readStatement 122 = .ok (.iadd, 1) := by decide +kernel
theorem dX11_readStatement_123 : decode cX11_readStatement 123 = .ok (.iastore, 1) := by decide +kernel
theorem dX11_readStatement_124 : decode cX11_readStatement 124 = .ok (.aload_n 0, 1) := by decide +kernel
theorem dX11_readStatement_125 : decode cX11_readStatement 125 = .ok (.getfield 34, 3) := by decide +kernel
theorem dX11_readStatement_128 : decode cX11_readStatement 128 = .ok (.iload_n 1, 1) := by decide +kernel
theorem dX11_readStatement_129 : decode cX11_readStatement 129 = .ok (.iload_n 2, 1) := by decide +kernel
theorem dX11_readStatement_130 : decode cX11_readStatement 130 = .ok (.bipush 102, 2) := by decide +kernel
theorem dX11_readStatement_132 : decode cX11_readStatement 132 = .ok (.if_icmp .ne 7, 3) := by decide +kernel
theorem dX11_readStatement_135 : decode cX11_readStatement 135 = .ok (.iconst 0, 1) := by decide +kernel
theorem dX11_readStatement_136 : decode cX11_readStatement 136 = .ok (.goto 7, 3) := by decide +kernel
theorem dX11_readStatement_139 : decode cX11_readStatement 139 = .ok (.aload_n 0, 1) := by decide +kernel
theorem dX11_readStatement_140 : decode cX11_readStatement 140 = .ok (.invokevirtual 134, 3) := by decide +kernel
theorem dX11_readStatement_143 : decode cX11_readStatement 143 = .ok (.iastore, 1) := by decide +kernel
theorem dX11_readStatement_144 : decode cX11_readStatement 144 = .ok (.aload_n 0, 1) := by decide +kernel
theorem dX11_readStatement_145 : decode cX11_readStatement 145 = .ok (.aload_n 0, 1) := by decide +kernel
theorem dX11_readStatement_146 : decode cX11_readStatement 146 = .ok (.getfield 116, 3) := by decide +kernel
theorem dX11_readStatement_149 : decode cX11_readStatement 149 = .ok (.ifCond .ne 12, 3) := by decide +kernel
theorem dX11_readStatement_152 : decode cX11_readStatement 152 = .ok (.aload_n 0, 1) := by decide +kernel
theorem dX11_readStatement_153 : decode cX11_readStatement 153 = .ok (.invokevirtual 120, 3) := by decide +kernel
theorem dX11_readStatement_156 : decode cX11_readStatement 156 = .ok (.bipush 59, 2) := by decide +kernel
theorem dX11_readStatement_158 : decode cX11_readStatement 158 = .ok (.if_icmp .eq 7, 3) := by decide +kernel
theorem dX11_readStatement_161 : decode cX11_readStatement 161 = .ok (.iconst 1, 1) := by decide +kernel
theorem dX11_readStatement_162 : decode cX11_readStatement 162 = .ok (.goto 4, 3) := by decide +kernel
theorem dX11_readStatement_165 : decode cX11_readStatement 165 = .ok (.iconst 0, 1) := by decide +kernel
theorem dX11_readStatement_166 : decode cX11_readStatement 166 = .ok (.putfield 116, 3) := by decide +kernel
theorem dX11_readStatement_169 : decode cX11_readStatement 169 = .ok (.aload_n 0, 1) := by decide +kernel
theorem dX11_readStatement_170 : decode cX11_readStatement 170 = .ok (.dup, 1) := by decide +kernel
theorem dX11_readStatement_171 : decode cX11_readStatement 171 = .ok (.getfield 107, 3) := by decide +kernel
theorem dX11_readStatement_174 : decode cX11_readStatement 174 = .ok (.aload_n 0, 1) := by decide +kernel
theorem dX11_readStatement_175 : decode cX11_readStatement 175 = .ok (.getfield 116, 3) := by decide +kernel
theorem dX11_readStatement_178 : decode cX11_readStatement 178 = .ok (.ifCond .eq 7, 3) := by decide +kernel
theorem dX11_readStatement_181 : decode cX11_readStatement 181 = .ok (.iconst 0, 1) := by decide +kernel
theorem dX11_readStatement_182 : decode cX11_readStatement 182 = .ok (.goto 4, 3) := by decide +kernel
theorem dX11_readStatement_185 : decode cX11_readStatement 185 = .ok (.iconst 1, 1) := by decide +kernel
theorem dX11_readStatement_186 : decode cX11_readStatement 186 = .ok (.iadd, 1) := by decide +kernel
theorem dX11_readStatement_187 : decode cX11_readStatement 187 = .ok (.putfield 107, 3) := by decide +kernel
theorem dX11_readStatement_190 : decode cX11_readStatement 190 = .ok (.aload_n 0, 1) := by decide +kernel
theorem dX11_readStatement_191 : decode cX11_readStatement 191 = .ok (.dup, 1) := by decide +kernel
theorem dX11_readStatement_192 : decode cX11_readStatement 192 = .ok (.getfield 131, 3) := by decide +kernel
theorem dX11_readStatement_195 : decode cX11_readStatement 195 = .ok (.iconst 1, 1) := by decide +kernel
theorem dX11_readStatement_196 : decode cX11_readStatement 196 = .ok (.iadd, 1) := by decide +kernel
theorem dX11_readStatement_197 : decode cX11_readStatement 197 = .ok (.putfield 131, 3) := by decide +kernel
theorem dX11_readStatement_200 : decode cX11_readStatement 200 = .ok (.return_, 1) := by decide +kernel
theorem dX11_builds_0 : decode cX11_builds 0 = .ok (.aload_n 0, 1) := by decide +kernel
theorem dX11_builds_1 : decode cX11_builds 1 = .ok (.invokevirtual 137, 3) := by decide +kernel
theorem dX11_builds_4 : decode cX11_builds 4 = .ok (.aload_n 0, 1) := by decide +kernel
theorem dX11_builds_5 : decode cX11_builds 5 = .ok (.getfield 16, 3) := by decide +kernel
theorem dX11_builds_8 : decode cX11_builds 8 = .ok (.iload_n 1, 1) := by decide +kernel
theorem dX11_builds_9 : decode cX11_builds 9 = .ok (.aload_n 0, 1) := by decide +kernel
theorem dX11_builds_10 : decode cX11_builds 10 = .ok (.aload_n 0, 1) := by decide +kernel
theorem dX11_builds_11 : decode cX11_builds 11 = .ok (.getfield 140, 3) := by decide +kernel
theorem dX11_builds_14 : decode cX11_builds 14 = .ok (.aload_n 0, 1) := by decide +kernel
theorem dX11_builds_15 : decode cX11_builds 15 = .ok (.getfield 143, 3) := by decide +kernel
theorem dX11_builds_18 : decode cX11_builds 18 = .ok (.iload_n 1, 1) := by decide +kernel
theorem dX11_builds_19 : decode cX11_builds 19 = .ok (.iload_n 2, 1) := by decide +kernel
theorem dX11_builds_20 : decode cX11_builds 20 = .ok (.invokevirtual 99, 3) := by decide +kernel
theorem dX11_builds_23 : decode cX11_builds 23 = .ok (.iastore, 1) := by decide +kernel
theorem dX11_builds_24 : decode cX11_builds 24 = .ok (.aload_n 0, 1) := by decide +kernel
theorem dX11_builds_25 : decode cX11_builds 25 = .ok (.getfield 7, 3) := by decide +kernel
theorem dX11_builds_28 : decode cX11_builds 28 = .ok (.aload_n 0, 1) := by decide +kernel
theorem dX11_builds_29 : decode cX11_builds 29 = .ok (.getfield 81, 3) := by decide +kernel
theorem dX11_builds_32 : decode cX11_builds 32 = .ok (.iload_n 1, 1) := by decide +kernel
theorem dX11_builds_33 : decode cX11_builds 33 = .ok (.iastore, 1) := by decide +kernel
theorem dX11_builds_34 : decode cX11_builds 34 = .ok (.aload_n 0, 1) := by decide +kernel
theorem dX11_builds_35 : decode cX11_builds 35 = .ok (.getfield 13, 3) := by decide +kernel
theorem dX11_builds_38 : decode cX11_builds 38 = .ok (.aload_n 0, 1) := by decide +kernel
theorem dX11_builds_39 : decode cX11_builds 39 = .ok (.getfield 81, 3) := by decide +kernel
theorem dX11_builds_42 : decode cX11_builds 42 = .ok (.iload_n 2, 1) := by decide +kernel
theorem dX11_builds_43 : decode cX11_builds 43 = .ok (.iastore, 1) := by decide +kernel
theorem dX11_builds_44 : decode cX11_builds 44 = .ok (.aload_n 0, 1) := by decide +kernel
theorem dX11_builds_45 : decode cX11_builds 45 = .ok (.dup, 1) := by decide +kernel
theorem dX11_builds_46 : decode cX11_builds 46 = .ok (.getfield 81, 3) := by decide +kernel
theorem dX11_builds_49 : decode cX11_builds 49 = .ok (.iconst 1, 1) := by decide +kernel
theorem dX11_builds_50 : decode cX11_builds 50 = .ok (.iadd, 1) := by decide +kernel
theorem dX11_builds_51 : decode cX11_builds 51 = .ok (.putfield 81, 3) := by decide +kernel
theorem dX11_builds_54 : decode cX11_builds 54 = .ok (.return_, 1) := by decide +kernel
theorem dX11_burns_0 : decode cX11_burns 0 = .ok (.aload_n 0, 1) := by decide +kernel
theorem dX11_burns_1 : decode cX11_burns 1 = .ok (.getfield 16, 3) := by decide +kernel
theorem dX11_burns_4 : decode cX11_burns 4 = .ok (.iload_n 1, 1) := by decide +kernel
theorem dX11_burns_5 : decode cX11_burns 5 = .ok (.iconst 0, 1) := by decide +kernel
theorem dX11_burns_6 : decode cX11_burns 6 = .ok (.iastore, 1) := by decide +kernel
theorem dX11_burns_7 : decode cX11_burns 7 = .ok (.aload_n 0, 1) := by decide +kernel
theorem dX11_burns_8 : decode cX11_burns 8 = .ok (.getfield 7, 3) := by decide +kernel
theorem dX11_burns_11 : decode cX11_burns 11 = .ok (.aload_n 0, 1) := by decide +kernel
theorem dX11_burns_12 : decode cX11_burns 12 = .ok (.getfield 81, 3) := by decide +kernel
theorem dX11_burns_15 : decode cX11_burns 15 = .ok (.iload_n 1, 1) := by decide +kernel
theorem dX11_burns_16 : decode cX11_burns 16 = .ok (.iastore, 1) := by decide +kernel
theorem dX11_burns_17 : decode cX11_burns 17 = .ok (.aload_n 0, 1) := by decide +kernel
theorem dX11_burns_18 : decode cX11_burns 18 = .ok (.getfield 13, 3) := by decide +kernel
theorem dX11_burns_21 : decode cX11_burns 21 = .ok (.aload_n 0, 1) := by decide +kernel
theorem dX11_burns_22 : decode cX11_burns 22 = .ok (.getfield 81, 3) := by decide +kernel
theorem dX11_burns_25 : decode cX11_burns 25 = .ok (.iconst 0, 1) := by decide +kernel
theorem dX11_burns_26 : decode cX11_burns 26 = .ok (.iastore, 1) := by decide +kernel
theorem dX11_burns_27 : decode cX11_burns 27 = .ok (.aload_n 0, 1) := by decide +kernel
theorem dX11_burns_28 : decode cX11_burns 28 = .ok (.dup, 1) := by decide +kernel
theorem dX11_burns_29 : decode cX11_burns 29 = .ok (.getfield 81, 3) := by decide +kernel
theorem dX11_burns_32 : decode cX11_burns 32 = .ok (.iconst 1, 1) := by decide +kernel
theorem dX11_burns_33 : decode cX11_burns 33 = .ok (.iadd, 1) := by decide +kernel
theorem dX11_burns_34 : decode cX11_burns 34 = .ok (.putfield 81, 3) := by decide +kernel
theorem dX11_burns_37 : decode cX11_burns 37 = .ok (.return_, 1) := by decide +kernel
theorem dX11_comes_0 : decode cX11_comes 0 = .ok (.aload_n 0, 1) := by decide +kernel
theorem dX11_comes_1 : decode cX11_comes 1 = .ok (.getfield 31, 3) := by decide +kernel
theorem dX11_comes_4 : decode cX11_comes 4 = .ok (.iload_n 1, 1) := by decide +kernel
theorem dX11_comes_5 : decode cX11_comes 5 = .ok (.iaload, 1) := by decide +kernel
theorem dX11_comes_6 : decode cX11_comes 6 = .ok (.istore_n 2, 1) := by decide +kernel
theorem dX11_comes_7 : decode cX11_comes 7 = .ok (.aload_n 0, 1) := by decide +kernel
theorem dX11_comes_8 : decode cX11_comes 8 = .ok (.getfield 34, 3) := by decide +kernel
theorem dX11_comes_11 : decode cX11_comes 11 = .ok (.iload_n 1, 1) := by decide +kernel
theorem dX11_comes_12 : decode cX11_comes 12 = .ok (.iaload, 1) := by decide +kernel
theorem dX11_comes_13 : decode cX11_comes 13 = .ok (.istore_n 3, 1) := by decide +kernel
theorem dX11_comes_14 : decode cX11_comes 14 = .ok (.aload_n 0, 1) := by decide +kernel
theorem dX11_comes_15 : decode cX11_comes 15 = .ok (.getfield 28, 3) := by decide +kernel
theorem dX11_comes_18 : decode cX11_comes 18 = .ok (.iload_n 1, 1) := by decide +kernel
theorem dX11_comes_19 : decode cX11_comes 19 = .ok (.iaload, 1) := by decide +kernel
theorem dX11_comes_20 : decode cX11_comes 20 = .ok (.lookupswitch 141 #[(98, 28), (102, 87)], 28) := by decide +kernel
theorem dX11_comes_48 : decode cX11_comes 48 = .ok (.iload_n 2, 1) := by decide +kernel
theorem dX11_comes_49 : decode cX11_comes 49 = .ok (.bipush 12, 2) := by decide +kernel
theorem dX11_comes_51 : decode cX11_comes 51 = .ok (.if_icmp .ge 39, 3) := by decide +kernel
theorem dX11_comes_54 : decode cX11_comes 54 = .ok (.iload_n 3, 1) := by decide +kernel
theorem dX11_comes_55 : decode cX11_comes 55 = .ok (.ifCond .le 35, 3) := by decide +kernel
theorem dX11_comes_58 : decode cX11_comes 58 = .ok (.aload_n 0, 1) := by decide +kernel
theorem dX11_comes_59 : decode cX11_comes 59 = .ok (.getfield 81, 3) := by decide +kernel
theorem dX11_comes_62 : decode cX11_comes 62 = .ok (.bipush 30, 2) := by decide +kernel
theorem dX11_comes_64 : decode cX11_comes 64 = .ok (.if_icmp .ge 26, 3) := by decide +kernel
theorem dX11_comes_67 : decode cX11_comes 67 = .ok (.aload_n 0, 1) := by decide +kernel
theorem dX11_comes_68 : decode cX11_comes 68 = .ok (.getfield 16, 3) := by decide +kernel
theorem dX11_comes_71 : decode cX11_comes 71 = .ok (.iload_n 2, 1) := by decide +kernel
theorem dX11_comes_72 : decode cX11_comes 72 = .ok (.bipush 12, 2) := by decide +kernel
theorem dX11_comes_74 : decode cX11_comes 74 = .ok (.if_icmp .ge 7, 3) := by decide +kernel
theorem dX11_comes_77 : decode cX11_comes 77 = .ok (.iload_n 2, 1) := by decide +kernel
theorem dX11_comes_78 : decode cX11_comes 78 = .ok (.goto 4, 3) := by decide +kernel
theorem dX11_comes_81 : decode cX11_comes 81 = .ok (.iconst 0, 1) := by decide +kernel
theorem dX11_comes_82 : decode cX11_comes 82 = .ok (.iaload, 1) := by decide +kernel
theorem dX11_comes_83 : decode cX11_comes 83 = .ok (.ifCond .ne 7, 3) := by decide +kernel
theorem dX11_comes_86 : decode cX11_comes 86 = .ok (.iconst 1, 1) := by decide +kernel
theorem dX11_comes_87 : decode cX11_comes 87 = .ok (.goto 4, 3) := by decide +kernel
theorem dX11_comes_90 : decode cX11_comes 90 = .ok (.iconst 0, 1) := by decide +kernel
theorem dX11_comes_91 : decode cX11_comes 91 = .ok (.istore 4, 2) := by decide +kernel
theorem dX11_comes_93 : decode cX11_comes 93 = .ok (.iload 4, 2) := by decide +kernel
theorem dX11_comes_95 : decode cX11_comes 95 = .ok (.ifCond .eq 9, 3) := by decide +kernel
theorem dX11_comes_98 : decode cX11_comes 98 = .ok (.aload_n 0, 1) := by decide +kernel
theorem dX11_comes_99 : decode cX11_comes 99 = .ok (.iload_n 2, 1) := by decide +kernel
theorem dX11_comes_100 : decode cX11_comes 100 = .ok (.iload_n 3, 1) := by decide +kernel
theorem dX11_comes_101 : decode cX11_comes 101 = .ok (.invokevirtual 146, 3) := by decide +kernel
theorem dX11_comes_104 : decode cX11_comes 104 = .ok (.iload 4, 2) := by decide +kernel
theorem dX11_comes_106 : decode cX11_comes 106 = .ok (.ireturn, 1) := by decide +kernel
theorem dX11_comes_107 : decode cX11_comes 107 = .ok (.iload_n 2, 1) := by decide +kernel
theorem dX11_comes_108 : decode cX11_comes 108 = .ok (.bipush 12, 2) := by decide +kernel
theorem dX11_comes_110 : decode cX11_comes 110 = .ok (.if_icmp .ge 35, 3) := by decide +kernel
theorem dX11_comes_113 : decode cX11_comes 113 = .ok (.aload_n 0, 1) := by decide +kernel
theorem dX11_comes_114 : decode cX11_comes 114 = .ok (.getfield 81, 3) := by decide +kernel
theorem dX11_comes_117 : decode cX11_comes 117 = .ok (.bipush 30, 2) := by decide +kernel
theorem dX11_comes_119 : decode cX11_comes 119 = .ok (.if_icmp .ge 26, 3) := by decide +kernel
theorem dX11_comes_122 : decode cX11_comes 122 = .ok (.aload_n 0, 1) := by decide +kernel
theorem dX11_comes_123 : decode cX11_comes 123 = .ok (.getfield 16, 3) := by decide +kernel
theorem dX11_comes_126 : decode cX11_comes 126 = .ok (.iload_n 2, 1) := by decide +kernel
theorem dX11_comes_127 : decode cX11_comes 127 = .ok (.bipush 12, 2) := by decide +kernel
theorem dX11_comes_129 : decode cX11_comes 129 = .ok (.if_icmp .ge 7, 3) := by decide +kernel
theorem dX11_comes_132 : decode cX11_comes 132 = .ok (.iload_n 2, 1) := by decide +kernel
theorem dX11_comes_133 : decode cX11_comes 133 = .ok (.goto 4, 3) := by decide +kernel
theorem dX11_comes_136 : decode cX11_comes 136 = .ok (.iconst 0, 1) := by decide +kernel
theorem dX11_comes_137 : decode cX11_comes 137 = .ok (.iaload, 1) := by decide +kernel
theorem dX11_comes_138 : decode cX11_comes 138 = .ok (.ifCond .le 7, 3) := by decide +kernel
theorem dX11_comes_141 : decode cX11_comes 141 = .ok (.iconst 1, 1) := by decide +kernel
theorem dX11_comes_142 : decode cX11_comes 142 = .ok (.goto 4, 3) := by decide +kernel
theorem dX11_comes_145 : decode cX11_comes 145 = .ok (.iconst 0, 1) := by decide +kernel
theorem dX11_comes_146 : decode cX11_comes 146 = .ok (.istore 4, 2) := by decide +kernel
theorem dX11_comes_148 : decode cX11_comes 148 = .ok (.iload 4, 2) := by decide +kernel
theorem dX11_comes_150 : decode cX11_comes 150 = .ok (.ifCond .eq 8, 3) := by decide +kernel
theorem dX11_comes_153 : decode cX11_comes 153 = .ok (.aload_n 0, 1) := by decide +kernel
theorem dX11_comes_154 : decode cX11_comes 154 = .ok (.iload_n 2, 1) := by decide +kernel
theorem dX11_comes_155 : decode cX11_comes 155 = .ok (.invokevirtual 150, 3) := by decide +kernel
theorem dX11_comes_158 : decode cX11_comes 158 = .ok (.iload 4, 2) := by decide +kernel
theorem dX11_comes_160 : decode cX11_comes 160 = .ok (.ireturn, 1) := by decide +kernel
theorem dX11_comes_161 : decode cX11_comes 161 = .ok (.iload_n 2, 1) := by decide +kernel
theorem dX11_comes_162 : decode cX11_comes 162 = .ok (.bipush 8, 2) := by decide +kernel
theorem dX11_comes_164 : decode cX11_comes 164 = .ok (.if_icmp .ge 7, 3) := by decide +kernel
theorem dX11_comes_167 : decode cX11_comes 167 = .ok (.iconst 1, 1) := by decide +kernel
theorem dX11_comes_168 : decode cX11_comes 168 = .ok (.goto 4, 3) := by decide +kernel
theorem dX11_comes_171 : decode cX11_comes 171 = .ok (.iconst 0, 1) := by decide +kernel
theorem dX11_comes_172 : decode cX11_comes 172 = .ok (.istore 4, 2) := by decide +kernel
theorem dX11_comes_174 : decode cX11_comes 174 = .ok (.aload_n 0, 1) := by decide +kernel
theorem dX11_comes_175 : decode cX11_comes 175 = .ok (.iload 4, 2) := by decide +kernel
theorem dX11_comes_177 : decode cX11_comes 177 = .ok (.ifCond .eq 7, 3) := by decide +kernel
theorem dX11_comes_180 : decode cX11_comes 180 = .ok (.iload_n 2, 1) := by decide +kernel
theorem dX11_comes_181 : decode cX11_comes 181 = .ok (.goto 7, 3) := by decide +kernel
theorem dX11_comes_184 : decode cX11_comes 184 = .ok (.aload_n 0, 1) := by decide +kernel
theorem dX11_comes_185 : decode cX11_comes 185 = .ok (.getfield 140, 3) := by decide +kernel
theorem dX11_comes_188 : decode cX11_comes 188 = .ok (.putfield 140, 3) := by decide +kernel
theorem dX11_comes_191 : decode cX11_comes 191 = .ok (.aload_n 0, 1) := by decide +kernel
theorem dX11_comes_192 : decode cX11_comes 192 = .ok (.iload 4, 2) := by decide +kernel
theorem dX11_comes_194 : decode cX11_comes 194 = .ok (.ifCond .eq 7, 3) := by decide +kernel
theorem dX11_comes_197 : decode cX11_comes 197 = .ok (.iload_n 3, 1) := by decide +kernel
theorem dX11_comes_198 : decode cX11_comes 198 = .ok (.goto 7, 3) := by decide +kernel
theorem dX11_comes_201 : decode cX11_comes 201 = .ok (.aload_n 0, 1) := by decide +kernel
theorem dX11_comes_202 : decode cX11_comes 202 = .ok (.getfield 143, 3) := by decide +kernel
theorem dX11_comes_205 : decode cX11_comes 205 = .ok (.putfield 143, 3) := by decide +kernel
theorem dX11_comes_208 : decode cX11_comes 208 = .ok (.iload 4, 2) := by decide +kernel
theorem dX11_comes_210 : decode cX11_comes 210 = .ok (.ireturn, 1) := by decide +kernel
theorem dX11_street_0 : decode cX11_street 0 = .ok (.aload_n 0, 1) := by decide +kernel
theorem dX11_street_1 : decode cX11_street 1 = .ok (.iconst 0, 1) := by decide +kernel
theorem dX11_street_2 : decode cX11_street 2 = .ok (.putfield 74, 3) := by decide +kernel
theorem dX11_street_5 : decode cX11_street 5 = .ok (.aload_n 0, 1) := by decide +kernel
theorem dX11_street_6 : decode cX11_street 6 = .ok (.iload_n 1, 1) := by decide +kernel
theorem dX11_street_7 : decode cX11_street 7 = .ok (.iconst 0, 1) := by decide +kernel
theorem dX11_street_8 : decode cX11_street 8 = .ok (.invokevirtual 154, 3) := by decide +kernel
theorem dX11_street_11 : decode cX11_street 11 = .ok (.istore_n 2, 1) := by decide +kernel
theorem dX11_street_12 : decode cX11_street 12 = .ok (.iload_n 2, 1) := by decide +kernel
theorem dX11_street_13 : decode cX11_street 13 = .ok (.ifCond .ge 5, 3) := by decide +kernel
theorem dX11_street_16 : decode cX11_street 16 = .ok (.iload_n 2, 1) := by decide +kernel
theorem dX11_street_17 : decode cX11_street 17 = .ok (.ireturn, 1) := by decide +kernel
theorem dX11_street_18 : decode cX11_street 18 = .ok (.aload_n 0, 1) := by decide +kernel
theorem dX11_street_19 : decode cX11_street 19 = .ok (.bipush 100, 2) := by decide +kernel
theorem dX11_street_21 : decode cX11_street 21 = .ok (.iload_n 1, 1) := by decide +kernel
theorem dX11_street_22 : decode cX11_street 22 = .ok (.imul, 1) := by decide +kernel
theorem dX11_street_23 : decode cX11_street 23 = .ok (.putfield 113, 3) := by decide +kernel
theorem dX11_street_26 : decode cX11_street 26 = .ok (.aload_n 0, 1) := by decide +kernel
theorem dX11_street_27 : decode cX11_street 27 = .ok (.aload_n 0, 1) := by decide +kernel
theorem dX11_street_28 : decode cX11_street 28 = .ok (.getfield 64, 3) := by decide +kernel
theorem dX11_street_31 : decode cX11_street 31 = .ok (.iload_n 1, 1) := by decide +kernel
theorem dX11_street_32 : decode cX11_street 32 = .ok (.iaload, 1) := by decide +kernel
theorem dX11_street_33 : decode cX11_street 33 = .ok (.putfield 110, 3) := by decide +kernel
theorem dX11_street_36 : decode cX11_street 36 = .ok (.aload_n 0, 1) := by decide +kernel
theorem dX11_street_37 : decode cX11_street 37 = .ok (.iconst 0, 1) := by decide +kernel
theorem dX11_street_38 : decode cX11_street 38 = .ok (.putfield 107, 3) := by decide +kernel
theorem dX11_street_41 : decode cX11_street 41 = .ok (.aload_n 0, 1) := by decide +kernel
theorem dX11_street_42 : decode cX11_street 42 = .ok (.iconst 0, 1) := by decide +kernel
theorem dX11_street_43 : decode cX11_street 43 = .ok (.putfield 116, 3) := by decide +kernel
theorem dX11_street_46 : decode cX11_street 46 = .ok (.aload_n 0, 1) := by decide +kernel
theorem dX11_street_47 : decode cX11_street 47 = .ok (.iconst 0, 1) := by decide +kernel
theorem dX11_street_48 : decode cX11_street 48 = .ok (.putfield 131, 3) := by decide +kernel
theorem dX11_street_51 : decode cX11_street 51 = .ok (.aload_n 0, 1) := by decide +kernel
theorem dX11_street_52 : decode cX11_street 52 = .ok (.getfield 116, 3) := by decide +kernel
theorem dX11_street_55 : decode cX11_street 55 = .ok (.ifCond .ne 28, 3) := by decide +kernel
theorem dX11_street_58 : decode cX11_street 58 = .ok (.aload_n 0, 1) := by decide +kernel
theorem dX11_street_59 : decode cX11_street 59 = .ok (.getfield 131, 3) := by decide +kernel
theorem dX11_street_62 : decode cX11_street 62 = .ok (.ifCond .eq 14, 3) := by decide +kernel
theorem dX11_street_65 : decode cX11_street 65 = .ok (.aload_n 0, 1) := by decide +kernel
theorem dX11_street_66 : decode cX11_street 66 = .ok (.getfield 107, 3) := by decide +kernel
theorem dX11_street_69 : decode cX11_street 69 = .ok (.aload_n 0, 1) := by decide +kernel
theorem dX11_street_70 : decode cX11_street 70 = .ok (.getfield 110, 3) := by decide +kernel
theorem dX11_street_73 : decode cX11_street 73 = .ok (.if_icmp .ge 10, 3) := by decide +kernel
theorem dX11_street_76 : decode cX11_street 76 = .ok (.aload_n 0, 1) := by decide +kernel
theorem dX11_street_77 : decode cX11_street 77 = .ok (.invokevirtual 157, 3) := by decide +kernel
theorem dX11_street_80 : decode cX11_street 80 = .ok (.goto (-29), 3) := by decide +kernel
theorem dX11_street_83 : decode cX11_street 83 = .ok (.aload_n 0, 1) := by decide +kernel
theorem dX11_street_84 : decode cX11_street 84 = .ok (.getfield 116, 3) := by decide +kernel
theorem dX11_street_87 : decode cX11_street 87 = .ok (.ifCond .eq 12, 3) := by decide +kernel
theorem dX11_street_90 : decode cX11_street 90 = .ok (.sipush (-1000), 3) := by decide +kernel
theorem dX11_street_93 : decode cX11_street 93 = .ok (.aload_n 0, 1) := by decide +kernel
theorem dX11_street_94 : decode cX11_street 94 = .ok (.getfield 107, 3) := by decide +kernel
theorem dX11_street_97 : decode cX11_street 97 = .ok (.isub, 1) := by decide +kernel
theorem dX11_street_98 : decode cX11_street 98 = .ok (.ireturn, 1) := by decide +kernel
theorem dX11_street_99 : decode cX11_street 99 = .ok (.aload_n 0, 1) := by decide +kernel
theorem dX11_street_100 : decode cX11_street 100 = .ok (.aload_n 0, 1) := by decide +kernel
theorem dX11_street_101 : decode cX11_street 101 = .ok (.getfield 37, 3) := by decide +kernel
theorem dX11_street_104 : decode cX11_street 104 = .ok (.iconst 1, 1) := by decide +kernel
theorem dX11_street_105 : decode cX11_street 105 = .ok (.invokevirtual 160, 3) := by decide +kernel
theorem dX11_street_108 : decode cX11_street 108 = .ok (.iconst 0, 1) := by decide +kernel
theorem dX11_street_109 : decode cX11_street 109 = .ok (.istore_n 3, 1) := by decide +kernel
theorem dX11_street_110 : decode cX11_street 110 = .ok (.iload_n 3, 1) := by decide +kernel
theorem dX11_street_111 : decode cX11_street 111 = .ok (.aload_n 0, 1) := by decide +kernel
theorem dX11_street_112 : decode cX11_street 112 = .ok (.getfield 131, 3) := by decide +kernel
theorem dX11_street_115 : decode cX11_street 115 = .ok (.if_icmp .ge 37, 3) := by decide +kernel
theorem dX11_street_118 : decode cX11_street 118 = .ok (.aload_n 0, 1) := by decide +kernel
theorem dX11_street_119 : decode cX11_street 119 = .ok (.iload_n 3, 1) := by decide +kernel
theorem dX11_street_120 : decode cX11_street 120 = .ok (.invokevirtual 164, 3) := by decide +kernel
theorem dX11_street_123 : decode cX11_street 123 = .ok (.ifCond .ne 23, 3) := by decide +kernel
theorem dX11_street_126 : decode cX11_street 126 = .ok (.aload_n 0, 1) := by decide +kernel
theorem dX11_street_127 : decode cX11_street 127 = .ok (.aload_n 0, 1) := by decide +kernel
theorem dX11_street_128 : decode cX11_street 128 = .ok (.getfield 37, 3) := by decide +kernel
theorem dX11_street_131 : decode cX11_street 131 = .ok (.iconst 0, 1) := by decide +kernel
theorem dX11_street_132 : decode cX11_street 132 = .ok (.invokevirtual 160, 3) := by decide +kernel
theorem dX11_street_135 : decode cX11_street 135 = .ok (.sipush (-2000), 3) := by decide +kernel
theorem dX11_street_138 : decode cX11_street 138 = .ok (.aload_n 0, 1) := by decide +kernel
theorem dX11_street_139 : decode cX11_street 139 = .ok (.getfield 25, 3) := by decide +kernel
theorem dX11_street_142 : decode cX11_street 142 = .ok (.iload_n 3, 1) := by decide +kernel
theorem dX11_street_143 : decode cX11_street 143 = .ok (.iaload, 1) := by decide +kernel
theorem dX11_street_144 : decode cX11_street 144 = .ok (.isub, 1) := by decide +kernel
theorem dX11_street_145 : decode cX11_street 145 = .ok (.ireturn, 1) := by decide +kernel
theorem dX11_street_146 : decode cX11_street 146 = .ok (.iinc 3 1, 3) := by decide +kernel
theorem dX11_street_149 : decode cX11_street 149 = .ok (.goto (-39), 3) := by decide +kernel
theorem dX11_street_152 : decode cX11_street 152 = .ok (.aload_n 0, 1) := by decide +kernel
theorem dX11_street_153 : decode cX11_street 153 = .ok (.getfield 131, 3) := by decide +kernel
theorem dX11_street_156 : decode cX11_street 156 = .ok (.ireturn, 1) := by decide +kernel
theorem dX11_carry_0 : decode cX11_carry 0 = .ok (.aload_n 0, 1) := by decide +kernel
theorem dX11_carry_1 : decode cX11_carry 1 = .ok (.getfield 167, 3) := by decide +kernel
theorem dX11_carry_4 : decode cX11_carry 4 = .ok (.ifCond .eq 13, 3) := by decide +kernel
theorem dX11_carry_7 : decode cX11_carry 7 = .ok (.aload_n 0, 1) := by decide +kernel
theorem dX11_carry_8 : decode cX11_carry 8 = .ok (.getfield 170, 3) := by decide +kernel
theorem dX11_carry_11 : decode cX11_carry 11 = .ok (.aload_n 0, 1) := by decide +kernel
theorem dX11_carry_12 : decode cX11_carry 12 = .ok (.getfield 173, 3) := by decide +kernel
theorem dX11_carry_15 : decode cX11_carry 15 = .ok (.iload_n 1, 1) := by decide +kernel
theorem dX11_carry_16 : decode cX11_carry 16 = .ok (.iastore, 1) := by decide +kernel
theorem dX11_carry_17 : decode cX11_carry 17 = .ok (.aload_n 0, 1) := by decide +kernel
theorem dX11_carry_18 : decode cX11_carry 18 = .ok (.dup, 1) := by decide +kernel
theorem dX11_carry_19 : decode cX11_carry 19 = .ok (.getfield 173, 3) := by decide +kernel
theorem dX11_carry_22 : decode cX11_carry 22 = .ok (.iconst 1, 1) := by decide +kernel
theorem dX11_carry_23 : decode cX11_carry 23 = .ok (.iadd, 1) := by decide +kernel
theorem dX11_carry_24 : decode cX11_carry 24 = .ok (.putfield 173, 3) := by decide +kernel
theorem dX11_carry_27 : decode cX11_carry 27 = .ok (.aload_n 0, 1) := by decide +kernel
theorem dX11_carry_28 : decode cX11_carry 28 = .ok (.getfield 170, 3) := by decide +kernel
theorem dX11_carry_31 : decode cX11_carry 31 = .ok (.aload_n 0, 1) := by decide +kernel
theorem dX11_carry_32 : decode cX11_carry 32 = .ok (.getfield 173, 3) := by decide +kernel
theorem dX11_carry_35 : decode cX11_carry 35 = .ok (.iconst 1, 1) := by decide +kernel
theorem dX11_carry_36 : decode cX11_carry 36 = .ok (.isub, 1) := by decide +kernel
theorem dX11_carry_37 : decode cX11_carry 37 = .ok (.iaload, 1) := by decide +kernel
theorem dX11_carry_38 : decode cX11_carry 38 = .ok (.ireturn, 1) := by decide +kernel
theorem dX11_carryAll_0 : decode cX11_carryAll 0 = .ok (.aload_n 0, 1) := by decide +kernel
theorem dX11_carryAll_1 : decode cX11_carryAll 1 = .ok (.aload_n 1, 1) := by decide +kernel
theorem dX11_carryAll_2 : decode cX11_carryAll 2 = .ok (.putfield 170, 3) := by decide +kernel
theorem dX11_carryAll_5 : decode cX11_carryAll 5 = .ok (.aload_n 0, 1) := by decide +kernel
theorem dX11_carryAll_6 : decode cX11_carryAll 6 = .ok (.iload_n 2, 1) := by decide +kernel
theorem dX11_carryAll_7 : decode cX11_carryAll 7 = .ok (.putfield 167, 3) := by decide +kernel
theorem dX11_carryAll_10 : decode cX11_carryAll 10 = .ok (.aload_n 0, 1) := by decide +kernel
theorem dX11_carryAll_11 : decode cX11_carryAll 11 = .ok (.iconst 0, 1) := by decide +kernel
theorem dX11_carryAll_12 : decode cX11_carryAll 12 = .ok (.putfield 173, 3) := by decide +kernel
theorem dX11_carryAll_15 : decode cX11_carryAll 15 = .ok (.aload_n 0, 1) := by decide +kernel
theorem dX11_carryAll_16 : decode cX11_carryAll 16 = .ok (.aload_n 0, 1) := by decide +kernel
theorem dX11_carryAll_17 : decode cX11_carryAll 17 = .ok (.aload_n 0, 1) := by decide +kernel
theorem dX11_carryAll_18 : decode cX11_carryAll 18 = .ok (.getfield 140, 3) := by decide +kernel
theorem dX11_carryAll_21 : decode cX11_carryAll 21 = .ok (.invokevirtual 176, 3) := by decide +kernel
theorem dX11_carryAll_24 : decode cX11_carryAll 24 = .ok (.putfield 140, 3) := by decide +kernel
theorem dX11_carryAll_27 : decode cX11_carryAll 27 = .ok (.aload_n 0, 1) := by decide +kernel
theorem dX11_carryAll_28 : decode cX11_carryAll 28 = .ok (.aload_n 0, 1) := by decide +kernel
theorem dX11_carryAll_29 : decode cX11_carryAll 29 = .ok (.aload_n 0, 1) := by decide +kernel
theorem dX11_carryAll_30 : decode cX11_carryAll 30 = .ok (.getfield 143, 3) := by decide +kernel
theorem dX11_carryAll_33 : decode cX11_carryAll 33 = .ok (.invokevirtual 176, 3) := by decide +kernel
theorem dX11_carryAll_36 : decode cX11_carryAll 36 = .ok (.putfield 143, 3) := by decide +kernel
theorem dX11_carryAll_39 : decode cX11_carryAll 39 = .ok (.aload_n 0, 1) := by decide +kernel
theorem dX11_carryAll_40 : decode cX11_carryAll 40 = .ok (.aload_n 0, 1) := by decide +kernel
theorem dX11_carryAll_41 : decode cX11_carryAll 41 = .ok (.aload_n 0, 1) := by decide +kernel
theorem dX11_carryAll_42 : decode cX11_carryAll 42 = .ok (.getfield 81, 3) := by decide +kernel
theorem dX11_carryAll_45 : decode cX11_carryAll 45 = .ok (.invokevirtual 176, 3) := by decide +kernel
theorem dX11_carryAll_48 : decode cX11_carryAll 48 = .ok (.putfield 81, 3) := by decide +kernel
theorem dX11_carryAll_51 : decode cX11_carryAll 51 = .ok (.iconst 0, 1) := by decide +kernel
theorem dX11_carryAll_52 : decode cX11_carryAll 52 = .ok (.istore_n 3, 1) := by decide +kernel
theorem dX11_carryAll_53 : decode cX11_carryAll 53 = .ok (.iload_n 3, 1) := by decide +kernel
theorem dX11_carryAll_54 : decode cX11_carryAll 54 = .ok (.bipush 30, 2) := by decide +kernel
theorem dX11_carryAll_56 : decode cX11_carryAll 56 = .ok (.if_icmp .ge 41, 3) := by decide +kernel
theorem dX11_carryAll_59 : decode cX11_carryAll 59 = .ok (.aload_n 0, 1) := by decide +kernel
theorem dX11_carryAll_60 : decode cX11_carryAll 60 = .ok (.getfield 7, 3) := by decide +kernel
theorem dX11_carryAll_63 : decode cX11_carryAll 63 = .ok (.iload_n 3, 1) := by decide +kernel
theorem dX11_carryAll_64 : decode cX11_carryAll 64 = .ok (.aload_n 0, 1) := by decide +kernel
theorem dX11_carryAll_65 : decode cX11_carryAll 65 = .ok (.aload_n 0, 1) := by decide +kernel
theorem dX11_carryAll_66 : decode cX11_carryAll 66 = .ok (.getfield 7, 3) := by decide +kernel
theorem dX11_carryAll_69 : decode cX11_carryAll 69 = .ok (.iload_n 3, 1) := by decide +kernel
theorem dX11_carryAll_70 : decode cX11_carryAll 70 = .ok (.iaload, 1) := by decide +kernel
theorem dX11_carryAll_71 : decode cX11_carryAll 71 = .ok (.invokevirtual 176, 3) := by decide +kernel
theorem dX11_carryAll_74 : decode cX11_carryAll 74 = .ok (.iastore, 1) := by decide +kernel
theorem dX11_carryAll_75 : decode cX11_carryAll 75 = .ok (.aload_n 0, 1) := by decide +kernel
theorem dX11_carryAll_76 : decode cX11_carryAll 76 = .ok (.getfield 13, 3) := by decide +kernel
theorem dX11_carryAll_79 : decode cX11_carryAll 79 = .ok (.iload_n 3, 1) := by decide +kernel
theorem dX11_carryAll_80 : decode cX11_carryAll 80 = .ok (.aload_n 0, 1) := by decide +kernel
theorem dX11_carryAll_81 : decode cX11_carryAll 81 = .ok (.aload_n 0, 1) := by decide +kernel
theorem dX11_carryAll_82 : decode cX11_carryAll 82 = .ok (.getfield 13, 3) := by decide +kernel
theorem dX11_carryAll_85 : decode cX11_carryAll 85 = .ok (.iload_n 3, 1) := by decide +kernel
theorem dX11_carryAll_86 : decode cX11_carryAll 86 = .ok (.iaload, 1) := by decide +kernel
theorem dX11_carryAll_87 : decode cX11_carryAll 87 = .ok (.invokevirtual 176, 3) := by decide +kernel
theorem dX11_carryAll_90 : decode cX11_carryAll 90 = .ok (.iastore, 1) := by decide +kernel
theorem dX11_carryAll_91 : decode cX11_carryAll 91 = .ok (.iinc 3 1, 3) := by decide +kernel
theorem dX11_carryAll_94 : decode cX11_carryAll 94 = .ok (.goto (-41), 3) := by decide +kernel
theorem dX11_carryAll_97 : decode cX11_carryAll 97 = .ok (.iconst 0, 1) := by decide +kernel
theorem dX11_carryAll_98 : decode cX11_carryAll 98 = .ok (.istore_n 3, 1) := by decide +kernel
theorem dX11_carryAll_99 : decode cX11_carryAll 99 = .ok (.iload_n 3, 1) := by decide +kernel
theorem dX11_carryAll_100 : decode cX11_carryAll 100 = .ok (.bipush 12, 2) := by decide +kernel
theorem dX11_carryAll_102 : decode cX11_carryAll 102 = .ok (.if_icmp .ge 25, 3) := by decide +kernel
theorem dX11_carryAll_105 : decode cX11_carryAll 105 = .ok (.aload_n 0, 1) := by decide +kernel
theorem dX11_carryAll_106 : decode cX11_carryAll 106 = .ok (.getfield 16, 3) := by decide +kernel
theorem dX11_carryAll_109 : decode cX11_carryAll 109 = .ok (.iload_n 3, 1) := by decide +kernel
theorem dX11_carryAll_110 : decode cX11_carryAll 110 = .ok (.aload_n 0, 1) := by decide +kernel
theorem dX11_carryAll_111 : decode cX11_carryAll 111 = .ok (.aload_n 0, 1) := by decide +kernel
theorem dX11_carryAll_112 : decode cX11_carryAll 112 = .ok (.getfield 16, 3) := by decide +kernel
theorem dX11_carryAll_115 : decode cX11_carryAll 115 = .ok (.iload_n 3, 1) := by decide +kernel
theorem dX11_carryAll_116 : decode cX11_carryAll 116 = .ok (.iaload, 1) := by decide +kernel
theorem dX11_carryAll_117 : decode cX11_carryAll 117 = .ok (.invokevirtual 176, 3) := by decide +kernel
theorem dX11_carryAll_120 : decode cX11_carryAll 120 = .ok (.iastore, 1) := by decide +kernel
theorem dX11_carryAll_121 : decode cX11_carryAll 121 = .ok (.iinc 3 1, 3) := by decide +kernel
theorem dX11_carryAll_124 : decode cX11_carryAll 124 = .ok (.goto (-25), 3) := by decide +kernel
theorem dX11_carryAll_127 : decode cX11_carryAll 127 = .ok (.return_, 1) := by decide +kernel
theorem dX11_image_0 : decode cX11_image 0 = .ok (.aload_n 0, 1) := by decide +kernel
theorem dX11_image_1 : decode cX11_image 1 = .ok (.iconst 0, 1) := by decide +kernel
theorem dX11_image_2 : decode cX11_image 2 = .ok (.putfield 74, 3) := by decide +kernel
theorem dX11_image_5 : decode cX11_image 5 = .ok (.aload_n 0, 1) := by decide +kernel
theorem dX11_image_6 : decode cX11_image 6 = .ok (.iconst 1, 1) := by decide +kernel
theorem dX11_image_7 : decode cX11_image 7 = .ok (.putfield 180, 3) := by decide +kernel
theorem dX11_image_10 : decode cX11_image 10 = .ok (.aload_n 0, 1) := by decide +kernel
theorem dX11_image_11 : decode cX11_image 11 = .ok (.aload_n 0, 1) := by decide +kernel
theorem dX11_image_12 : decode cX11_image 12 = .ok (.getfield 40, 3) := by decide +kernel
theorem dX11_image_15 : decode cX11_image 15 = .ok (.iconst 1, 1) := by decide +kernel
theorem dX11_image_16 : decode cX11_image 16 = .ok (.invokevirtual 160, 3) := by decide +kernel
theorem dX11_image_19 : decode cX11_image 19 = .ok (.aload_n 0, 1) := by decide +kernel
theorem dX11_image_20 : decode cX11_image 20 = .ok (.getfield 81, 3) := by decide +kernel
theorem dX11_image_23 : decode cX11_image 23 = .ok (.ireturn, 1) := by decide +kernel
theorem dX11_restore_0 : decode cX11_restore 0 = .ok (.aload_n 0, 1) := by decide +kernel
theorem dX11_restore_1 : decode cX11_restore 1 = .ok (.iconst 0, 1) := by decide +kernel
theorem dX11_restore_2 : decode cX11_restore 2 = .ok (.putfield 74, 3) := by decide +kernel
theorem dX11_restore_5 : decode cX11_restore 5 = .ok (.aload_n 0, 1) := by decide +kernel
theorem dX11_restore_6 : decode cX11_restore 6 = .ok (.getfield 180, 3) := by decide +kernel
theorem dX11_restore_9 : decode cX11_restore 9 = .ok (.ifCond .ne 6, 3) := by decide +kernel
theorem dX11_restore_12 : decode cX11_restore 12 = .ok (.bipush (-3), 2) := by decide +kernel
theorem dX11_restore_14 : decode cX11_restore 14 = .ok (.ireturn, 1) := by decide +kernel
theorem dX11_restore_15 : decode cX11_restore 15 = .ok (.aload_n 0, 1) := by decide +kernel
theorem dX11_restore_16 : decode cX11_restore 16 = .ok (.aload_n 0, 1) := by decide +kernel
theorem dX11_restore_17 : decode cX11_restore 17 = .ok (.getfield 40, 3) := by decide +kernel
theorem dX11_restore_20 : decode cX11_restore 20 = .ok (.iconst 0, 1) := by decide +kernel
theorem dX11_restore_21 : decode cX11_restore 21 = .ok (.invokevirtual 160, 3) := by decide +kernel
theorem dX11_restore_24 : decode cX11_restore 24 = .ok (.aload_n 0, 1) := by decide +kernel
theorem dX11_restore_25 : decode cX11_restore 25 = .ok (.getfield 81, 3) := by decide +kernel
theorem dX11_restore_28 : decode cX11_restore 28 = .ok (.ireturn, 1) := by decide +kernel
theorem dX11_isPlot_0 : decode cX11_isPlot 0 = .ok (.iload_n 0, 1) := by decide +kernel
theorem dX11_isPlot_1 : decode cX11_isPlot 1 = .ok (.i2l, 1) := by decide +kernel
theorem dX11_isPlot_2 : decode cX11_isPlot 2 = .ok (.lconst 0, 1) := by decide +kernel
theorem dX11_isPlot_3 : decode cX11_isPlot 3 = .ok (.ldc2_w 183, 3) := by decide +kernel
theorem dX11_isPlot_6 : decode cX11_isPlot 6 = .ok (.invokestatic 127, 3) := by decide +kernel
theorem dX11_isPlot_9 : decode cX11_isPlot 9 = .ok (.ireturn, 1) := by decide +kernel
theorem dX11_build_0 : decode cX11_build 0 = .ok (.aload_n 0, 1) := by decide +kernel
theorem dX11_build_1 : decode cX11_build 1 = .ok (.iconst 0, 1) := by decide +kernel
theorem dX11_build_2 : decode cX11_build 2 = .ok (.putfield 74, 3) := by decide +kernel
theorem dX11_build_5 : decode cX11_build 5 = .ok (.iload_n 1, 1) := by decide +kernel
theorem dX11_build_6 : decode cX11_build 6 = .ok (.invokestatic 185, 3) := by decide +kernel
theorem dX11_build_9 : decode cX11_build 9 = .ok (.ifCond .eq 15, 3) := by decide +kernel
theorem dX11_build_12 : decode cX11_build 12 = .ok (.iload_n 2, 1) := by decide +kernel
theorem dX11_build_13 : decode cX11_build 13 = .ok (.i2l, 1) := by decide +kernel
theorem dX11_build_14 : decode cX11_build 14 = .ok (.lconst 1, 1) := by decide +kernel
theorem dX11_build_15 : decode cX11_build 15 = .ok (.ldc2_w 188, 3) := by decide +kernel
theorem dX11_build_18 : decode cX11_build 18 = .ok (.invokestatic 127, 3) := by decide +kernel
theorem dX11_build_21 : decode cX11_build 21 = .ok (.ifCond .ne 5, 3) := by decide +kernel
theorem dX11_build_24 : decode cX11_build 24 = .ok (.iconst (-1), 1) := by decide +kernel
theorem dX11_build_25 : decode cX11_build 25 = .ok (.ireturn, 1) := by decide +kernel
theorem dX11_build_26 : decode cX11_build 26 = .ok (.aload_n 0, 1) := by decide +kernel
theorem dX11_build_27 : decode cX11_build 27 = .ok (.getfield 16, 3) := by decide +kernel
theorem dX11_build_30 : decode cX11_build 30 = .ok (.iload_n 1, 1) := by decide +kernel
theorem dX11_build_31 : decode cX11_build 31 = .ok (.iaload, 1) := by decide +kernel
theorem dX11_build_32 : decode cX11_build 32 = .ok (.ifCond .gt 12, 3) := by decide +kernel
theorem dX11_build_35 : decode cX11_build 35 = .ok (.aload_n 0, 1) := by decide +kernel
theorem dX11_build_36 : decode cX11_build 36 = .ok (.getfield 81, 3) := by decide +kernel
theorem dX11_build_39 : decode cX11_build 39 = .ok (.bipush 30, 2) := by decide +kernel
theorem dX11_build_41 : decode cX11_build 41 = .ok (.if_icmp .ne 20, 3) := by decide +kernel
theorem dX11_build_44 : decode cX11_build 44 = .ok (.aload_n 0, 1) := by decide +kernel
theorem dX11_build_45 : decode cX11_build 45 = .ok (.getfield 16, 3) := by decide +kernel
theorem dX11_build_48 : decode cX11_build 48 = .ok (.iload_n 1, 1) := by decide +kernel
theorem dX11_build_49 : decode cX11_build 49 = .ok (.iaload, 1) := by decide +kernel
theorem dX11_build_50 : decode cX11_build 50 = .ok (.ifCond .le 8, 3) := by decide +kernel
theorem dX11_build_53 : decode cX11_build 53 = .ok (.bipush (-3), 2) := by decide +kernel
theorem dX11_build_55 : decode cX11_build 55 = .ok (.goto 5, 3) := by decide +kernel
theorem dX11_build_58 : decode cX11_build 58 = .ok (.bipush (-2), 2) := by decide +kernel
theorem dX11_build_60 : decode cX11_build 60 = .ok (.ireturn, 1) := by decide +kernel
theorem dX11_build_61 : decode cX11_build 61 = .ok (.aload_n 0, 1) := by decide +kernel
theorem dX11_build_62 : decode cX11_build 62 = .ok (.iload_n 1, 1) := by decide +kernel
theorem dX11_build_63 : decode cX11_build 63 = .ok (.iload_n 2, 1) := by decide +kernel
theorem dX11_build_64 : decode cX11_build 64 = .ok (.invokevirtual 146, 3) := by decide +kernel
theorem dX11_build_67 : decode cX11_build 67 = .ok (.aload_n 0, 1) := by decide +kernel
theorem dX11_build_68 : decode cX11_build 68 = .ok (.getfield 16, 3) := by decide +kernel
theorem dX11_build_71 : decode cX11_build 71 = .ok (.iload_n 1, 1) := by decide +kernel
theorem dX11_build_72 : decode cX11_build 72 = .ok (.iaload, 1) := by decide +kernel
theorem dX11_build_73 : decode cX11_build 73 = .ok (.ireturn, 1) := by decide +kernel
theorem dX11_burn_0 : decode cX11_burn 0 = .ok (.aload_n 0, 1) := by decide +kernel
theorem dX11_burn_1 : decode cX11_burn 1 = .ok (.iconst 0, 1) := by decide +kernel
theorem dX11_burn_2 : decode cX11_burn 2 = .ok (.putfield 74, 3) := by decide +kernel
theorem dX11_burn_5 : decode cX11_burn 5 = .ok (.iload_n 1, 1) := by decide +kernel
theorem dX11_burn_6 : decode cX11_burn 6 = .ok (.invokestatic 185, 3) := by decide +kernel
theorem dX11_burn_9 : decode cX11_burn 9 = .ok (.ifCond .ne 5, 3) := by decide +kernel
theorem dX11_burn_12 : decode cX11_burn 12 = .ok (.iconst (-1), 1) := by decide +kernel
theorem dX11_burn_13 : decode cX11_burn 13 = .ok (.ireturn, 1) := by decide +kernel
theorem dX11_burn_14 : decode cX11_burn 14 = .ok (.aload_n 0, 1) := by decide +kernel
theorem dX11_burn_15 : decode cX11_burn 15 = .ok (.getfield 16, 3) := by decide +kernel
theorem dX11_burn_18 : decode cX11_burn 18 = .ok (.iload_n 1, 1) := by decide +kernel
theorem dX11_burn_19 : decode cX11_burn 19 = .ok (.iaload, 1) := by decide +kernel
theorem dX11_burn_20 : decode cX11_burn 20 = .ok (.ifCond .eq 12, 3) := by decide +kernel
theorem dX11_burn_23 : decode cX11_burn 23 = .ok (.aload_n 0, 1) := by decide +kernel
theorem dX11_burn_24 : decode cX11_burn 24 = .ok (.getfield 81, 3) := by decide +kernel
theorem dX11_burn_27 : decode cX11_burn 27 = .ok (.bipush 30, 2) := by decide +kernel
theorem dX11_burn_29 : decode cX11_burn 29 = .ok (.if_icmp .ne 20, 3) := by decide +kernel
theorem dX11_burn_32 : decode cX11_burn 32 = .ok (.aload_n 0, 1) := by decide +kernel
theorem dX11_burn_33 : decode cX11_burn 33 = .ok (.getfield 16, 3) := by decide +kernel
theorem dX11_burn_36 : decode cX11_burn 36 = .ok (.iload_n 1, 1) := by decide +kernel
theorem dX11_burn_37 : decode cX11_burn 37 = .ok (.iaload, 1) := by decide +kernel
theorem dX11_burn_38 : decode cX11_burn 38 = .ok (.ifCond .ne 8, 3) := by decide +kernel
theorem dX11_burn_41 : decode cX11_burn 41 = .ok (.bipush (-3), 2) := by decide +kernel
theorem dX11_burn_43 : decode cX11_burn 43 = .ok (.goto 5, 3) := by decide +kernel
theorem dX11_burn_46 : decode cX11_burn 46 = .ok (.bipush (-2), 2) := by decide +kernel
theorem dX11_burn_48 : decode cX11_burn 48 = .ok (.ireturn, 1) := by decide +kernel
theorem dX11_burn_49 : decode cX11_burn 49 = .ok (.aload_n 0, 1) := by decide +kernel
theorem dX11_burn_50 : decode cX11_burn 50 = .ok (.getfield 16, 3) := by decide +kernel
theorem dX11_burn_53 : decode cX11_burn 53 = .ok (.iload_n 1, 1) := by decide +kernel
theorem dX11_burn_54 : decode cX11_burn 54 = .ok (.iaload, 1) := by decide +kernel
theorem dX11_burn_55 : decode cX11_burn 55 = .ok (.istore_n 2, 1) := by decide +kernel
theorem dX11_burn_56 : decode cX11_burn 56 = .ok (.aload_n 0, 1) := by decide +kernel
theorem dX11_burn_57 : decode cX11_burn 57 = .ok (.iload_n 1, 1) := by decide +kernel
theorem dX11_burn_58 : decode cX11_burn 58 = .ok (.invokevirtual 150, 3) := by decide +kernel
theorem dX11_burn_61 : decode cX11_burn 61 = .ok (.iload_n 2, 1) := by decide +kernel
theorem dX11_burn_62 : decode cX11_burn 62 = .ok (.ireturn, 1) := by decide +kernel
theorem dX11_wrongLaw_0 : decode cX11_wrongLaw 0 = .ok (.iload_n 1, 1) := by decide +kernel
theorem dX11_wrongLaw_1 : decode cX11_wrongLaw 1 = .ok (.i2l, 1) := by decide +kernel
theorem dX11_wrongLaw_2 : decode cX11_wrongLaw 2 = .ok (.lconst 0, 1) := by decide +kernel
theorem dX11_wrongLaw_3 : decode cX11_wrongLaw 3 = .ok (.ldc2_w 190, 3) := by decide +kernel
theorem dX11_wrongLaw_6 : decode cX11_wrongLaw 6 = .ok (.invokestatic 127, 3) := by decide +kernel
theorem dX11_wrongLaw_9 : decode cX11_wrongLaw 9 = .ok (.ifCond .ne 7, 3) := by decide +kernel
theorem dX11_wrongLaw_12 : decode cX11_wrongLaw 12 = .ok (.iconst (-1), 1) := by decide +kernel
theorem dX11_wrongLaw_13 : decode cX11_wrongLaw 13 = .ok (.goto 33, 3) := by decide +kernel
theorem dX11_wrongLaw_16 : decode cX11_wrongLaw 16 = .ok (.aload_n 0, 1) := by decide +kernel
theorem dX11_wrongLaw_17 : decode cX11_wrongLaw 17 = .ok (.getfield 52, 3) := by decide +kernel
theorem dX11_wrongLaw_20 : decode cX11_wrongLaw 20 = .ok (.iload_n 1, 1) := by decide +kernel
theorem dX11_wrongLaw_21 : decode cX11_wrongLaw 21 = .ok (.iaload, 1) := by decide +kernel
theorem dX11_wrongLaw_22 : decode cX11_wrongLaw 22 = .ok (.ifCond .ne 8, 3) := by decide +kernel
theorem dX11_wrongLaw_25 : decode cX11_wrongLaw 25 = .ok (.bipush (-11), 2) := by decide +kernel
theorem dX11_wrongLaw_27 : decode cX11_wrongLaw 27 = .ok (.goto 19, 3) := by decide +kernel
theorem dX11_wrongLaw_30 : decode cX11_wrongLaw 30 = .ok (.aload_n 0, 1) := by decide +kernel
theorem dX11_wrongLaw_31 : decode cX11_wrongLaw 31 = .ok (.getfield 52, 3) := by decide +kernel
theorem dX11_wrongLaw_34 : decode cX11_wrongLaw 34 = .ok (.iload_n 1, 1) := by decide +kernel
theorem dX11_wrongLaw_35 : decode cX11_wrongLaw 35 = .ok (.iaload, 1) := by decide +kernel
theorem dX11_wrongLaw_36 : decode cX11_wrongLaw 36 = .ok (.iconst 1, 1) := by decide +kernel
theorem dX11_wrongLaw_37 : decode cX11_wrongLaw 37 = .ok (.if_icmp .eq 8, 3) := by decide +kernel
theorem dX11_wrongLaw_40 : decode cX11_wrongLaw 40 = .ok (.bipush (-12), 2) := by decide +kernel
theorem dX11_wrongLaw_42 : decode cX11_wrongLaw 42 = .ok (.goto 4, 3) := by decide +kernel
theorem dX11_wrongLaw_45 : decode cX11_wrongLaw 45 = .ok (.iconst 0, 1) := by decide +kernel
theorem dX11_wrongLaw_46 : decode cX11_wrongLaw 46 = .ok (.ireturn, 1) := by decide +kernel
theorem dX11_enact_0 : decode cX11_enact 0 = .ok (.aload_n 0, 1) := by decide +kernel
theorem dX11_enact_1 : decode cX11_enact 1 = .ok (.iconst 0, 1) := by decide +kernel
theorem dX11_enact_2 : decode cX11_enact 2 = .ok (.putfield 74, 3) := by decide +kernel
theorem dX11_enact_5 : decode cX11_enact 5 = .ok (.aload_n 0, 1) := by decide +kernel
theorem dX11_enact_6 : decode cX11_enact 6 = .ok (.iload_n 1, 1) := by decide +kernel
theorem dX11_enact_7 : decode cX11_enact 7 = .ok (.invokevirtual 192, 3) := by decide +kernel
theorem dX11_enact_10 : decode cX11_enact 10 = .ok (.istore_n 2, 1) := by decide +kernel
theorem dX11_enact_11 : decode cX11_enact 11 = .ok (.iload_n 2, 1) := by decide +kernel
theorem dX11_enact_12 : decode cX11_enact 12 = .ok (.ifCond .ge 5, 3) := by decide +kernel
theorem dX11_enact_15 : decode cX11_enact 15 = .ok (.iload_n 2, 1) := by decide +kernel
theorem dX11_enact_16 : decode cX11_enact 16 = .ok (.ireturn, 1) := by decide +kernel
theorem dX11_enact_17 : decode cX11_enact 17 = .ok (.aload_n 0, 1) := by decide +kernel
theorem dX11_enact_18 : decode cX11_enact 18 = .ok (.getfield 140, 3) := by decide +kernel
theorem dX11_enact_21 : decode cX11_enact 21 = .ok (.istore_n 3, 1) := by decide +kernel
theorem dX11_enact_22 : decode cX11_enact 22 = .ok (.aload_n 0, 1) := by decide +kernel
theorem dX11_enact_23 : decode cX11_enact 23 = .ok (.aload_n 0, 1) := by decide +kernel
theorem dX11_enact_24 : decode cX11_enact 24 = .ok (.getfield 55, 3) := by decide +kernel
theorem dX11_enact_27 : decode cX11_enact 27 = .ok (.iload_n 1, 1) := by decide +kernel
theorem dX11_enact_28 : decode cX11_enact 28 = .ok (.iaload, 1) := by decide +kernel
theorem dX11_enact_29 : decode cX11_enact 29 = .ok (.putfield 140, 3) := by decide +kernel
theorem dX11_enact_32 : decode cX11_enact 32 = .ok (.aload_n 0, 1) := by decide +kernel
theorem dX11_enact_33 : decode cX11_enact 33 = .ok (.aload_n 0, 1) := by decide +kernel
theorem dX11_enact_34 : decode cX11_enact 34 = .ok (.getfield 58, 3) := by decide +kernel
theorem dX11_enact_37 : decode cX11_enact 37 = .ok (.iload_n 1, 1) := by decide +kernel
theorem dX11_enact_38 : decode cX11_enact 38 = .ok (.iaload, 1) := by decide +kernel
theorem dX11_enact_39 : decode cX11_enact 39 = .ok (.putfield 143, 3) := by decide +kernel
theorem dX11_enact_42 : decode cX11_enact 42 = .ok (.iload_n 3, 1) := by decide +kernel
theorem dX11_enact_43 : decode cX11_enact 43 = .ok (.ireturn, 1) := by decide +kernel
theorem dX11_builtAt_0 : decode cX11_builtAt 0 = .ok (.iconst (-1), 1) := by decide +kernel
theorem dX11_builtAt_1 : decode cX11_builtAt 1 = .ok (.istore_n 2, 1) := by decide +kernel
theorem dX11_builtAt_2 : decode cX11_builtAt 2 = .ok (.iconst 0, 1) := by decide +kernel
theorem dX11_builtAt_3 : decode cX11_builtAt 3 = .ok (.istore_n 3, 1) := by decide +kernel
theorem dX11_builtAt_4 : decode cX11_builtAt 4 = .ok (.iload_n 3, 1) := by decide +kernel
theorem dX11_builtAt_5 : decode cX11_builtAt 5 = .ok (.aload_n 0, 1) := by decide +kernel
theorem dX11_builtAt_6 : decode cX11_builtAt 6 = .ok (.getfield 81, 3) := by decide +kernel
theorem dX11_builtAt_9 : decode cX11_builtAt 9 = .ok (.if_icmp .ge 25, 3) := by decide +kernel
theorem dX11_builtAt_12 : decode cX11_builtAt 12 = .ok (.aload_n 0, 1) := by decide +kernel
theorem dX11_builtAt_13 : decode cX11_builtAt 13 = .ok (.getfield 7, 3) := by decide +kernel
theorem dX11_builtAt_16 : decode cX11_builtAt 16 = .ok (.iload_n 3, 1) := by decide +kernel
theorem dX11_builtAt_17 : decode cX11_builtAt 17 = .ok (.iaload, 1) := by decide +kernel
theorem dX11_builtAt_18 : decode cX11_builtAt 18 = .ok (.iload_n 1, 1) := by decide +kernel
theorem dX11_builtAt_19 : decode cX11_builtAt 19 = .ok (.if_icmp .ne 7, 3) := by decide +kernel
theorem dX11_builtAt_22 : decode cX11_builtAt 22 = .ok (.iload_n 3, 1) := by decide +kernel
theorem dX11_builtAt_23 : decode cX11_builtAt 23 = .ok (.goto 4, 3) := by decide +kernel
theorem dX11_builtAt_26 : decode cX11_builtAt 26 = .ok (.iload_n 2, 1) := by decide +kernel
theorem dX11_builtAt_27 : decode cX11_builtAt 27 = .ok (.istore_n 2, 1) := by decide +kernel
theorem dX11_builtAt_28 : decode cX11_builtAt 28 = .ok (.iinc 3 1, 3) := by decide +kernel
theorem dX11_builtAt_31 : decode cX11_builtAt 31 = .ok (.goto (-27), 3) := by decide +kernel
theorem dX11_builtAt_34 : decode cX11_builtAt 34 = .ok (.iload_n 2, 1) := by decide +kernel
theorem dX11_builtAt_35 : decode cX11_builtAt 35 = .ok (.ireturn, 1) := by decide +kernel
theorem dX11_house_0 : decode cX11_house 0 = .ok (.aload_n 0, 1) := by decide +kernel
theorem dX11_house_1 : decode cX11_house 1 = .ok (.iconst 0, 1) := by decide +kernel
theorem dX11_house_2 : decode cX11_house 2 = .ok (.putfield 74, 3) := by decide +kernel
theorem dX11_house_5 : decode cX11_house 5 = .ok (.iload_n 1, 1) := by decide +kernel
theorem dX11_house_6 : decode cX11_house 6 = .ok (.invokestatic 185, 3) := by decide +kernel
theorem dX11_house_9 : decode cX11_house 9 = .ok (.ifCond .eq 15, 3) := by decide +kernel
theorem dX11_house_12 : decode cX11_house 12 = .ok (.iload_n 2, 1) := by decide +kernel
theorem dX11_house_13 : decode cX11_house 13 = .ok (.i2l, 1) := by decide +kernel
theorem dX11_house_14 : decode cX11_house 14 = .ok (.lconst 0, 1) := by decide +kernel
theorem dX11_house_15 : decode cX11_house 15 = .ok (.ldc2_w 195, 3) := by decide +kernel
theorem dX11_house_18 : decode cX11_house 18 = .ok (.invokestatic 127, 3) := by decide +kernel
theorem dX11_house_21 : decode cX11_house 21 = .ok (.ifCond .ne 5, 3) := by decide +kernel
theorem dX11_house_24 : decode cX11_house 24 = .ok (.iconst (-1), 1) := by decide +kernel
theorem dX11_house_25 : decode cX11_house 25 = .ok (.ireturn, 1) := by decide +kernel
theorem dX11_house_26 : decode cX11_house 26 = .ok (.aload_n 0, 1) := by decide +kernel
theorem dX11_house_27 : decode cX11_house 27 = .ok (.getfield 16, 3) := by decide +kernel
theorem dX11_house_30 : decode cX11_house 30 = .ok (.iload_n 1, 1) := by decide +kernel
theorem dX11_house_31 : decode cX11_house 31 = .ok (.iaload, 1) := by decide +kernel
theorem dX11_house_32 : decode cX11_house 32 = .ok (.ifCond .ne 6, 3) := by decide +kernel
theorem dX11_house_35 : decode cX11_house 35 = .ok (.bipush (-4), 2) := by decide +kernel
theorem dX11_house_37 : decode cX11_house 37 = .ok (.ireturn, 1) := by decide +kernel
theorem dX11_house_38 : decode cX11_house 38 = .ok (.aload_n 0, 1) := by decide +kernel
theorem dX11_house_39 : decode cX11_house 39 = .ok (.iload_n 1, 1) := by decide +kernel
theorem dX11_house_40 : decode cX11_house 40 = .ok (.invokevirtual 197, 3) := by decide +kernel
theorem dX11_house_43 : decode cX11_house 43 = .ok (.istore_n 3, 1) := by decide +kernel
theorem dX11_house_44 : decode cX11_house 44 = .ok (.iload_n 2, 1) := by decide +kernel
theorem dX11_house_45 : decode cX11_house 45 = .ok (.ifCond .ne 12, 3) := by decide +kernel
theorem dX11_house_48 : decode cX11_house 48 = .ok (.aload_n 0, 1) := by decide +kernel
theorem dX11_house_49 : decode cX11_house 49 = .ok (.getfield 16, 3) := by decide +kernel
theorem dX11_house_52 : decode cX11_house 52 = .ok (.iload_n 1, 1) := by decide +kernel
theorem dX11_house_53 : decode cX11_house 53 = .ok (.iaload, 1) := by decide +kernel
theorem dX11_house_54 : decode cX11_house 54 = .ok (.goto 25, 3) := by decide +kernel
theorem dX11_house_57 : decode cX11_house 57 = .ok (.iload_n 2, 1) := by decide +kernel
theorem dX11_house_58 : decode cX11_house 58 = .ok (.iconst 1, 1) := by decide +kernel
theorem dX11_house_59 : decode cX11_house 59 = .ok (.if_icmp .ne 12, 3) := by decide +kernel
theorem dX11_house_62 : decode cX11_house 62 = .ok (.aload_n 0, 1) := by decide +kernel
theorem dX11_house_63 : decode cX11_house 63 = .ok (.getfield 13, 3) := by decide +kernel
theorem dX11_house_66 : decode cX11_house 66 = .ok (.iload_n 3, 1) := by decide +kernel
theorem dX11_house_67 : decode cX11_house 67 = .ok (.iaload, 1) := by decide +kernel
theorem dX11_house_68 : decode cX11_house 68 = .ok (.goto 11, 3) := by decide +kernel
theorem dX11_house_71 : decode cX11_house 71 = .ok (.aload_n 0, 1) := by decide +kernel
theorem dX11_house_72 : decode cX11_house 72 = .ok (.getfield 81, 3) := by decide +kernel
theorem dX11_house_75 : decode cX11_house 75 = .ok (.iload_n 3, 1) := by decide +kernel
theorem dX11_house_76 : decode cX11_house 76 = .ok (.isub, 1) := by decide +kernel
theorem dX11_house_77 : decode cX11_house 77 = .ok (.iconst 1, 1) := by decide +kernel
theorem dX11_house_78 : decode cX11_house 78 = .ok (.isub, 1) := by decide +kernel
theorem dX11_house_79 : decode cX11_house 79 = .ok (.ireturn, 1) := by decide +kernel
theorem dX11_have_0 : decode cX11_have 0 = .ok (.aload_n 0, 1) := by decide +kernel
theorem dX11_have_1 : decode cX11_have 1 = .ok (.iconst 0, 1) := by decide +kernel
theorem dX11_have_2 : decode cX11_have 2 = .ok (.putfield 74, 3) := by decide +kernel
theorem dX11_have_5 : decode cX11_have 5 = .ok (.iload_n 1, 1) := by decide +kernel
theorem dX11_have_6 : decode cX11_have 6 = .ok (.iconst 1, 1) := by decide +kernel
theorem dX11_have_7 : decode cX11_have 7 = .ok (.if_icmp .ge 5, 3) := by decide +kernel
theorem dX11_have_10 : decode cX11_have 10 = .ok (.iconst (-1), 1) := by decide +kernel
theorem dX11_have_11 : decode cX11_have 11 = .ok (.ireturn, 1) := by decide +kernel
theorem dX11_have_12 : decode cX11_have 12 = .ok (.iconst 0, 1) := by decide +kernel
theorem dX11_have_13 : decode cX11_have 13 = .ok (.istore_n 2, 1) := by decide +kernel
theorem dX11_have_14 : decode cX11_have 14 = .ok (.iconst 0, 1) := by decide +kernel
theorem dX11_have_15 : decode cX11_have 15 = .ok (.istore_n 3, 1) := by decide +kernel
theorem dX11_have_16 : decode cX11_have 16 = .ok (.iload_n 3, 1) := by decide +kernel
theorem dX11_have_17 : decode cX11_have 17 = .ok (.bipush 12, 2) := by decide +kernel
theorem dX11_have_19 : decode cX11_have 19 = .ok (.if_icmp .ge 29, 3) := by decide +kernel
theorem dX11_have_22 : decode cX11_have 22 = .ok (.iload_n 2, 1) := by decide +kernel
theorem dX11_have_23 : decode cX11_have 23 = .ok (.aload_n 0, 1) := by decide +kernel
theorem dX11_have_24 : decode cX11_have 24 = .ok (.getfield 16, 3) := by decide +kernel
theorem dX11_have_27 : decode cX11_have 27 = .ok (.iload_n 3, 1) := by decide +kernel
theorem dX11_have_28 : decode cX11_have 28 = .ok (.iaload, 1) := by decide +kernel
theorem dX11_have_29 : decode cX11_have 29 = .ok (.iload_n 1, 1) := by decide +kernel
theorem dX11_have_30 : decode cX11_have 30 = .ok (.if_icmp .ne 9, 3) := by decide +kernel
theorem dX11_have_33 : decode cX11_have 33 = .ok (.iconst 1, 1) := by decide +kernel
theorem dX11_have_34 : decode cX11_have 34 = .ok (.iload_n 3, 1) := by decide +kernel
theorem dX11_have_35 : decode cX11_have 35 = .ok (.ishl, 1) := by decide +kernel
theorem dX11_have_36 : decode cX11_have 36 = .ok (.goto 4, 3) := by decide +kernel
theorem dX11_have_39 : decode cX11_have 39 = .ok (.iconst 0, 1) := by decide +kernel
theorem dX11_have_40 : decode cX11_have 40 = .ok (.ior, 1) := by decide +kernel
theorem dX11_have_41 : decode cX11_have 41 = .ok (.istore_n 2, 1) := by decide +kernel
theorem dX11_have_42 : decode cX11_have 42 = .ok (.iinc 3 1, 3) := by decide +kernel
theorem dX11_have_45 : decode cX11_have 45 = .ok (.goto (-29), 3) := by decide +kernel
theorem dX11_have_48 : decode cX11_have 48 = .ok (.iload_n 2, 1) := by decide +kernel
theorem dX11_have_49 : decode cX11_have 49 = .ok (.ireturn, 1) := by decide +kernel
theorem dX11_would_0 : decode cX11_would 0 = .ok (.aload_n 0, 1) := by decide +kernel
theorem dX11_would_1 : decode cX11_would 1 = .ok (.iconst 0, 1) := by decide +kernel
theorem dX11_would_2 : decode cX11_would 2 = .ok (.putfield 74, 3) := by decide +kernel
theorem dX11_would_5 : decode cX11_would 5 = .ok (.iload_n 1, 1) := by decide +kernel
theorem dX11_would_6 : decode cX11_would 6 = .ok (.invokestatic 185, 3) := by decide +kernel
theorem dX11_would_9 : decode cX11_would 9 = .ok (.ifCond .eq 15, 3) := by decide +kernel
theorem dX11_would_12 : decode cX11_would 12 = .ok (.iload_n 2, 1) := by decide +kernel
theorem dX11_would_13 : decode cX11_would 13 = .ok (.i2l, 1) := by decide +kernel
theorem dX11_would_14 : decode cX11_would 14 = .ok (.lconst 1, 1) := by decide +kernel
theorem dX11_would_15 : decode cX11_would 15 = .ok (.ldc2_w 188, 3) := by decide +kernel
theorem dX11_would_18 : decode cX11_would 18 = .ok (.invokestatic 127, 3) := by decide +kernel
theorem dX11_would_21 : decode cX11_would 21 = .ok (.ifCond .ne 5, 3) := by decide +kernel
theorem dX11_would_24 : decode cX11_would 24 = .ok (.iconst (-1), 1) := by decide +kernel
theorem dX11_would_25 : decode cX11_would 25 = .ok (.ireturn, 1) := by decide +kernel
theorem dX11_would_26 : decode cX11_would 26 = .ok (.aload_n 0, 1) := by decide +kernel
theorem dX11_would_27 : decode cX11_would 27 = .ok (.invokevirtual 137, 3) := by decide +kernel
theorem dX11_would_30 : decode cX11_would 30 = .ok (.aload_n 0, 1) := by decide +kernel
theorem dX11_would_31 : decode cX11_would 31 = .ok (.aload_n 0, 1) := by decide +kernel
theorem dX11_would_32 : decode cX11_would 32 = .ok (.getfield 140, 3) := by decide +kernel
theorem dX11_would_35 : decode cX11_would 35 = .ok (.aload_n 0, 1) := by decide +kernel
theorem dX11_would_36 : decode cX11_would 36 = .ok (.getfield 143, 3) := by decide +kernel
theorem dX11_would_39 : decode cX11_would 39 = .ok (.iload_n 1, 1) := by decide +kernel
theorem dX11_would_40 : decode cX11_would 40 = .ok (.iload_n 2, 1) := by decide +kernel
theorem dX11_would_41 : decode cX11_would 41 = .ok (.invokevirtual 99, 3) := by decide +kernel
theorem dX11_would_44 : decode cX11_would 44 = .ok (.ireturn, 1) := by decide +kernel
theorem dX11_where_0 : decode cX11_where 0 = .ok (.aload_n 0, 1) := by decide +kernel
theorem dX11_where_1 : decode cX11_where 1 = .ok (.iconst 0, 1) := by decide +kernel
theorem dX11_where_2 : decode cX11_where 2 = .ok (.putfield 74, 3) := by decide +kernel
theorem dX11_where_5 : decode cX11_where 5 = .ok (.iload_n 1, 1) := by decide +kernel
theorem dX11_where_6 : decode cX11_where 6 = .ok (.iconst 1, 1) := by decide +kernel
theorem dX11_where_7 : decode cX11_where 7 = .ok (.if_icmp .lt 15, 3) := by decide +kernel
theorem dX11_where_10 : decode cX11_where 10 = .ok (.iload_n 2, 1) := by decide +kernel
theorem dX11_where_11 : decode cX11_where 11 = .ok (.i2l, 1) := by decide +kernel
theorem dX11_where_12 : decode cX11_where 12 = .ok (.lconst 1, 1) := by decide +kernel
theorem dX11_where_13 : decode cX11_where 13 = .ok (.ldc2_w 188, 3) := by decide +kernel
theorem dX11_where_16 : decode cX11_where 16 = .ok (.invokestatic 127, 3) := by decide +kernel
theorem dX11_where_19 : decode cX11_where 19 = .ok (.ifCond .ne 5, 3) := by decide +kernel
theorem dX11_where_22 : decode cX11_where 22 = .ok (.iconst (-1), 1) := by decide +kernel
theorem dX11_where_23 : decode cX11_where 23 = .ok (.ireturn, 1) := by decide +kernel
theorem dX11_where_24 : decode cX11_where 24 = .ok (.aload_n 0, 1) := by decide +kernel
theorem dX11_where_25 : decode cX11_where 25 = .ok (.invokevirtual 137, 3) := by decide +kernel
theorem dX11_where_28 : decode cX11_where 28 = .ok (.iconst 0, 1) := by decide +kernel
theorem dX11_where_29 : decode cX11_where 29 = .ok (.istore_n 3, 1) := by decide +kernel
theorem dX11_where_30 : decode cX11_where 30 = .ok (.iconst 0, 1) := by decide +kernel
theorem dX11_where_31 : decode cX11_where 31 = .ok (.istore 4, 2) := by decide +kernel
theorem dX11_where_33 : decode cX11_where 33 = .ok (.iload 4, 2) := by decide +kernel
theorem dX11_where_35 : decode cX11_where 35 = .ok (.bipush 12, 2) := by decide +kernel
theorem dX11_where_37 : decode cX11_where 37 = .ok (.if_icmp .ge 49, 3) := by decide +kernel
theorem dX11_where_40 : decode cX11_where 40 = .ok (.iload_n 3, 1) := by decide +kernel
theorem dX11_where_41 : decode cX11_where 41 = .ok (.aload_n 0, 1) := by decide +kernel
theorem dX11_where_42 : decode cX11_where 42 = .ok (.getfield 16, 3) := by decide +kernel
theorem dX11_where_45 : decode cX11_where 45 = .ok (.iload 4, 2) := by decide +kernel
theorem dX11_where_47 : decode cX11_where 47 = .ok (.iaload, 1) := by decide +kernel
theorem dX11_where_48 : decode cX11_where 48 = .ok (.ifCond .ne 29, 3) := by decide +kernel
theorem dX11_where_51 : decode cX11_where 51 = .ok (.aload_n 0, 1) := by decide +kernel
theorem dX11_where_52 : decode cX11_where 52 = .ok (.aload_n 0, 1) := by decide +kernel
theorem dX11_where_53 : decode cX11_where 53 = .ok (.getfield 140, 3) := by decide +kernel
theorem dX11_where_56 : decode cX11_where 56 = .ok (.aload_n 0, 1) := by decide +kernel
theorem dX11_where_57 : decode cX11_where 57 = .ok (.getfield 143, 3) := by decide +kernel
theorem dX11_where_60 : decode cX11_where 60 = .ok (.iload 4, 2) := by decide +kernel
theorem dX11_where_62 : decode cX11_where 62 = .ok (.iload_n 2, 1) := by decide +kernel
theorem dX11_where_63 : decode cX11_where 63 = .ok (.invokevirtual 99, 3) := by decide +kernel
theorem dX11_where_66 : decode cX11_where 66 = .ok (.iload_n 1, 1) := by decide +kernel
theorem dX11_where_67 : decode cX11_where 67 = .ok (.if_icmp .ne 10, 3) := by decide +kernel
theorem dX11_where_70 : decode cX11_where 70 = .ok (.iconst 1, 1) := by decide +kernel
theorem dX11_where_71 : decode cX11_where 71 = .ok (.iload 4, 2) := by decide +kernel
theorem dX11_where_73 : decode cX11_where 73 = .ok (.ishl, 1) := by decide +kernel
theorem dX11_where_74 : decode cX11_where 74 = .ok (.goto 4, 3) := by decide +kernel
theorem dX11_where_77 : decode cX11_where 77 = .ok (.iconst 0, 1) := by decide +kernel
theorem dX11_where_78 : decode cX11_where 78 = .ok (.ior, 1) := by decide +kernel
theorem dX11_where_79 : decode cX11_where 79 = .ok (.istore_n 3, 1) := by decide +kernel
theorem dX11_where_80 : decode cX11_where 80 = .ok (.iinc 4 1, 3) := by decide +kernel
theorem dX11_where_83 : decode cX11_where 83 = .ok (.goto (-50), 3) := by decide +kernel
theorem dX11_where_86 : decode cX11_where 86 = .ok (.iload_n 3, 1) := by decide +kernel
theorem dX11_where_87 : decode cX11_where 87 = .ok (.ireturn, 1) := by decide +kernel
theorem dX11_letter_0 : decode cX11_letter 0 = .ok (.aload_n 0, 1) := by decide +kernel
theorem dX11_letter_1 : decode cX11_letter 1 = .ok (.iconst 0, 1) := by decide +kernel
theorem dX11_letter_2 : decode cX11_letter 2 = .ok (.putfield 74, 3) := by decide +kernel
theorem dX11_letter_5 : decode cX11_letter 5 = .ok (.iload_n 1, 1) := by decide +kernel
theorem dX11_letter_6 : decode cX11_letter 6 = .ok (.i2l, 1) := by decide +kernel
theorem dX11_letter_7 : decode cX11_letter 7 = .ok (.lconst 1, 1) := by decide +kernel
theorem dX11_letter_8 : decode cX11_letter 8 = .ok (.ldc2_w 200, 3) := by decide +kernel
theorem dX11_letter_11 : decode cX11_letter 11 = .ok (.invokestatic 127, 3) := by decide +kernel
theorem dX11_letter_14 : decode cX11_letter 14 = .ok (.ifCond .ne 5, 3) := by decide +kernel
theorem dX11_letter_17 : decode cX11_letter 17 = .ok (.iconst (-1), 1) := by decide +kernel
theorem dX11_letter_18 : decode cX11_letter 18 = .ok (.ireturn, 1) := by decide +kernel
theorem dX11_letter_19 : decode cX11_letter 19 = .ok (.iload_n 1, 1) := by decide +kernel
theorem dX11_letter_20 : decode cX11_letter 20 = .ok (.istore_n 2, 1) := by decide +kernel
theorem dX11_letter_21 : decode cX11_letter 21 = .ok (.iconst 0, 1) := by decide +kernel
theorem dX11_letter_22 : decode cX11_letter 22 = .ok (.istore_n 3, 1) := by decide +kernel
theorem dX11_letter_23 : decode cX11_letter 23 = .ok (.iload_n 3, 1) := by decide +kernel
theorem dX11_letter_24 : decode cX11_letter 24 = .ok (.aload_n 0, 1) := by decide +kernel
theorem dX11_letter_25 : decode cX11_letter 25 = .ok (.getfield 81, 3) := by decide +kernel
theorem dX11_letter_28 : decode cX11_letter 28 = .ok (.if_icmp .ge 52, 3) := by decide +kernel
theorem dX11_letter_31 : decode cX11_letter 31 = .ok (.aload_n 0, 1) := by decide +kernel
theorem dX11_letter_32 : decode cX11_letter 32 = .ok (.getfield 7, 3) := by decide +kernel
theorem dX11_letter_35 : decode cX11_letter 35 = .ok (.iload_n 3, 1) := by decide +kernel
theorem dX11_letter_36 : decode cX11_letter 36 = .ok (.iaload, 1) := by decide +kernel
theorem dX11_letter_37 : decode cX11_letter 37 = .ok (.istore 4, 2) := by decide +kernel
theorem dX11_letter_39 : decode cX11_letter 39 = .ok (.iload_n 2, 1) := by decide +kernel
theorem dX11_letter_40 : decode cX11_letter 40 = .ok (.aload_n 0, 1) := by decide +kernel
theorem dX11_letter_41 : decode cX11_letter 41 = .ok (.getfield 16, 3) := by decide +kernel
theorem dX11_letter_44 : decode cX11_letter 44 = .ok (.iload 4, 2) := by decide +kernel
theorem dX11_letter_46 : decode cX11_letter 46 = .ok (.iaload, 1) := by decide +kernel
theorem dX11_letter_47 : decode cX11_letter 47 = .ok (.ifCond .le 17, 3) := by decide +kernel
theorem dX11_letter_50 : decode cX11_letter 50 = .ok (.aload_n 0, 1) := by decide +kernel
theorem dX11_letter_51 : decode cX11_letter 51 = .ok (.iload 4, 2) := by decide +kernel
theorem dX11_letter_53 : decode cX11_letter 53 = .ok (.invokevirtual 197, 3) := by decide +kernel
theorem dX11_letter_56 : decode cX11_letter 56 = .ok (.iload_n 3, 1) := by decide +kernel
theorem dX11_letter_57 : decode cX11_letter 57 = .ok (.if_icmp .ne 7, 3) := by decide +kernel
theorem dX11_letter_60 : decode cX11_letter 60 = .ok (.iconst 1, 1) := by decide +kernel
theorem dX11_letter_61 : decode cX11_letter 61 = .ok (.goto 4, 3) := by decide +kernel
theorem dX11_letter_64 : decode cX11_letter 64 = .ok (.iconst 0, 1) := by decide +kernel
theorem dX11_letter_65 : decode cX11_letter 65 = .ok (.isub, 1) := by decide +kernel
theorem dX11_letter_66 : decode cX11_letter 66 = .ok (.istore_n 2, 1) := by decide +kernel
theorem dX11_letter_67 : decode cX11_letter 67 = .ok (.iload_n 2, 1) := by decide +kernel
theorem dX11_letter_68 : decode cX11_letter 68 = .ok (.ifCond .ne 6, 3) := by decide +kernel
theorem dX11_letter_71 : decode cX11_letter 71 = .ok (.iload 4, 2) := by decide +kernel
theorem dX11_letter_73 : decode cX11_letter 73 = .ok (.ireturn, 1) := by decide +kernel
theorem dX11_letter_74 : decode cX11_letter 74 = .ok (.iinc 3 1, 3) := by decide +kernel
theorem dX11_letter_77 : decode cX11_letter 77 = .ok (.goto (-54), 3) := by decide +kernel
theorem dX11_letter_80 : decode cX11_letter 80 = .ok (.bipush (-4), 2) := by decide +kernel
theorem dX11_letter_82 : decode cX11_letter 82 = .ok (.ireturn, 1) := by decide +kernel
theorem dX11_gapsLooked_0 : decode cX11_gapsLooked 0 = .ok (.iconst 0, 1) := by decide +kernel
theorem dX11_gapsLooked_1 : decode cX11_gapsLooked 1 = .ok (.istore_n 1, 1) := by decide +kernel
theorem dX11_gapsLooked_2 : decode cX11_gapsLooked 2 = .ok (.iconst 1, 1) := by decide +kernel
theorem dX11_gapsLooked_3 : decode cX11_gapsLooked 3 = .ok (.istore_n 2, 1) := by decide +kernel
theorem dX11_gapsLooked_4 : decode cX11_gapsLooked 4 = .ok (.iload_n 2, 1) := by decide +kernel
theorem dX11_gapsLooked_5 : decode cX11_gapsLooked 5 = .ok (.aload_n 0, 1) := by decide +kernel
theorem dX11_gapsLooked_6 : decode cX11_gapsLooked 6 = .ok (.invokevirtual 96, 3) := by decide +kernel
theorem dX11_gapsLooked_9 : decode cX11_gapsLooked 9 = .ok (.if_icmp .gt 25, 3) := by decide +kernel
theorem dX11_gapsLooked_12 : decode cX11_gapsLooked 12 = .ok (.iload_n 1, 1) := by decide +kernel
theorem dX11_gapsLooked_13 : decode cX11_gapsLooked 13 = .ok (.aload_n 0, 1) := by decide +kernel
theorem dX11_gapsLooked_14 : decode cX11_gapsLooked 14 = .ok (.iload_n 2, 1) := by decide +kernel
theorem dX11_gapsLooked_15 : decode cX11_gapsLooked 15 = .ok (.invokevirtual 84, 3) := by decide +kernel
theorem dX11_gapsLooked_18 : decode cX11_gapsLooked 18 = .ok (.ifCond .eq 7, 3) := by decide +kernel
theorem dX11_gapsLooked_21 : decode cX11_gapsLooked 21 = .ok (.iconst 0, 1) := by decide +kernel
theorem dX11_gapsLooked_22 : decode cX11_gapsLooked 22 = .ok (.goto 4, 3) := by decide +kernel
theorem dX11_gapsLooked_25 : decode cX11_gapsLooked 25 = .ok (.iconst 1, 1) := by decide +kernel
theorem dX11_gapsLooked_26 : decode cX11_gapsLooked 26 = .ok (.iadd, 1) := by decide +kernel
theorem dX11_gapsLooked_27 : decode cX11_gapsLooked 27 = .ok (.istore_n 1, 1) := by decide +kernel
theorem dX11_gapsLooked_28 : decode cX11_gapsLooked 28 = .ok (.iinc 2 1, 3) := by decide +kernel
theorem dX11_gapsLooked_31 : decode cX11_gapsLooked 31 = .ok (.goto (-27), 3) := by decide +kernel
theorem dX11_gapsLooked_34 : decode cX11_gapsLooked 34 = .ok (.iload_n 1, 1) := by decide +kernel
theorem dX11_gapsLooked_35 : decode cX11_gapsLooked 35 = .ok (.ireturn, 1) := by decide +kernel
theorem dX11_gaps_0 : decode cX11_gaps 0 = .ok (.aload_n 0, 1) := by decide +kernel
theorem dX11_gaps_1 : decode cX11_gaps 1 = .ok (.iconst 0, 1) := by decide +kernel
theorem dX11_gaps_2 : decode cX11_gaps 2 = .ok (.putfield 74, 3) := by decide +kernel
theorem dX11_gaps_5 : decode cX11_gaps 5 = .ok (.aload_n 0, 1) := by decide +kernel
theorem dX11_gaps_6 : decode cX11_gaps 6 = .ok (.invokevirtual 137, 3) := by decide +kernel
theorem dX11_gaps_9 : decode cX11_gaps 9 = .ok (.aload_n 0, 1) := by decide +kernel
theorem dX11_gaps_10 : decode cX11_gaps 10 = .ok (.invokevirtual 202, 3) := by decide +kernel
theorem dX11_gaps_13 : decode cX11_gaps 13 = .ok (.ireturn, 1) := by decide +kernel
theorem dX11_isIn_0 : decode cX11_isIn 0 = .ok (.iconst 0, 1) := by decide +kernel
theorem dX11_isIn_1 : decode cX11_isIn 1 = .ok (.istore 5, 2) := by decide +kernel
theorem dX11_isIn_3 : decode cX11_isIn 3 = .ok (.iload_n 3, 1) := by decide +kernel
theorem dX11_isIn_4 : decode cX11_isIn 4 = .ok (.istore 6, 2) := by decide +kernel
theorem dX11_isIn_6 : decode cX11_isIn 6 = .ok (.iload 6, 2) := by decide +kernel
theorem dX11_isIn_8 : decode cX11_isIn 8 = .ok (.iload 4, 2) := by decide +kernel
theorem dX11_isIn_10 : decode cX11_isIn 10 = .ok (.if_icmp .gt 44, 3) := by decide +kernel
theorem dX11_isIn_13 : decode cX11_isIn 13 = .ok (.iload 5, 2) := by decide +kernel
theorem dX11_isIn_15 : decode cX11_isIn 15 = .ok (.ifCond .ne 26, 3) := by decide +kernel
theorem dX11_isIn_18 : decode cX11_isIn 18 = .ok (.aload_n 0, 1) := by decide +kernel
theorem dX11_isIn_19 : decode cX11_isIn 19 = .ok (.getfield 16, 3) := by decide +kernel
theorem dX11_isIn_22 : decode cX11_isIn 22 = .ok (.iload 6, 2) := by decide +kernel
theorem dX11_isIn_24 : decode cX11_isIn 24 = .ok (.iaload, 1) := by decide +kernel
theorem dX11_isIn_25 : decode cX11_isIn 25 = .ok (.ifCond .le 20, 3) := by decide +kernel
theorem dX11_isIn_28 : decode cX11_isIn 28 = .ok (.aload_n 0, 1) := by decide +kernel
theorem dX11_isIn_29 : decode cX11_isIn 29 = .ok (.getfield 16, 3) := by decide +kernel
theorem dX11_isIn_32 : decode cX11_isIn 32 = .ok (.iload 6, 2) := by decide +kernel
theorem dX11_isIn_34 : decode cX11_isIn 34 = .ok (.iaload, 1) := by decide +kernel
theorem dX11_isIn_35 : decode cX11_isIn 35 = .ok (.i2l, 1) := by decide +kernel
theorem dX11_isIn_36 : decode cX11_isIn 36 = .ok (.lload_n 1, 1) := by decide +kernel
theorem dX11_isIn_37 : decode cX11_isIn 37 = .ok (.lcmp, 1) := by decide +kernel
theorem dX11_isIn_38 : decode cX11_isIn 38 = .ok (.ifCond .ne 7, 3) := by decide +kernel
theorem dX11_isIn_41 : decode cX11_isIn 41 = .ok (.iconst 1, 1) := by decide +kernel
theorem dX11_isIn_42 : decode cX11_isIn 42 = .ok (.goto 4, 3) := by decide +kernel
theorem dX11_isIn_45 : decode cX11_isIn 45 = .ok (.iconst 0, 1) := by decide +kernel
theorem dX11_isIn_46 : decode cX11_isIn 46 = .ok (.istore 5, 2) := by decide +kernel
theorem dX11_isIn_48 : decode cX11_isIn 48 = .ok (.iinc 6 1, 3) := by decide +kernel
theorem dX11_isIn_51 : decode cX11_isIn 51 = .ok (.goto (-45), 3) := by decide +kernel
theorem dX11_isIn_54 : decode cX11_isIn 54 = .ok (.iload 5, 2) := by decide +kernel
theorem dX11_isIn_56 : decode cX11_isIn 56 = .ok (.ireturn, 1) := by decide +kernel
theorem dX11_areMet_0 : decode cX11_areMet 0 = .ok (.iconst 1, 1) := by decide +kernel
theorem dX11_areMet_1 : decode cX11_areMet 1 = .ok (.istore 4, 2) := by decide +kernel
theorem dX11_areMet_3 : decode cX11_areMet 3 = .ok (.iconst 0, 1) := by decide +kernel
theorem dX11_areMet_4 : decode cX11_areMet 4 = .ok (.istore 5, 2) := by decide +kernel
theorem dX11_areMet_6 : decode cX11_areMet 6 = .ok (.iload 5, 2) := by decide +kernel
theorem dX11_areMet_8 : decode cX11_areMet 8 = .ok (.aload_n 0, 1) := by decide +kernel
theorem dX11_areMet_9 : decode cX11_areMet 9 = .ok (.getfield 64, 3) := by decide +kernel
theorem dX11_areMet_12 : decode cX11_areMet 12 = .ok (.iload_n 1, 1) := by decide +kernel
theorem dX11_areMet_13 : decode cX11_areMet 13 = .ok (.iaload, 1) := by decide +kernel
theorem dX11_areMet_14 : decode cX11_areMet 14 = .ok (.if_icmp .ge 42, 3) := by decide +kernel
theorem dX11_areMet_17 : decode cX11_areMet 17 = .ok (.iload 4, 2) := by decide +kernel
theorem dX11_areMet_19 : decode cX11_areMet 19 = .ok (.ifCond .eq 28, 3) := by decide +kernel
theorem dX11_areMet_22 : decode cX11_areMet 22 = .ok (.aload_n 0, 1) := by decide +kernel
theorem dX11_areMet_23 : decode cX11_areMet 23 = .ok (.aload_n 0, 1) := by decide +kernel
theorem dX11_areMet_24 : decode cX11_areMet 24 = .ok (.getfield 67, 3) := by decide +kernel
theorem dX11_areMet_27 : decode cX11_areMet 27 = .ok (.bipush 100, 2) := by decide +kernel
theorem dX11_areMet_29 : decode cX11_areMet 29 = .ok (.iload_n 1, 1) := by decide +kernel
theorem dX11_areMet_30 : decode cX11_areMet 30 = .ok (.imul, 1) := by decide +kernel
theorem dX11_areMet_31 : decode cX11_areMet 31 = .ok (.iload 5, 2) := by decide +kernel
theorem dX11_areMet_33 : decode cX11_areMet 33 = .ok (.iadd, 1) := by decide +kernel
theorem dX11_areMet_34 : decode cX11_areMet 34 = .ok (.laload, 1) := by decide +kernel
theorem dX11_areMet_35 : decode cX11_areMet 35 = .ok (.iload_n 2, 1) := by decide +kernel
theorem dX11_areMet_36 : decode cX11_areMet 36 = .ok (.iload_n 3, 1) := by decide +kernel
theorem dX11_areMet_37 : decode cX11_areMet 37 = .ok (.invokevirtual 205, 3) := by decide +kernel
theorem dX11_areMet_40 : decode cX11_areMet 40 = .ok (.ifCond .eq 7, 3) := by decide +kernel
theorem dX11_areMet_43 : decode cX11_areMet 43 = .ok (.iconst 1, 1) := by decide +kernel
theorem dX11_areMet_44 : decode cX11_areMet 44 = .ok (.goto 4, 3) := by decide +kernel
theorem dX11_areMet_47 : decode cX11_areMet 47 = .ok (.iconst 0, 1) := by decide +kernel
theorem dX11_areMet_48 : decode cX11_areMet 48 = .ok (.istore 4, 2) := by decide +kernel
theorem dX11_areMet_50 : decode cX11_areMet 50 = .ok (.iinc 5 1, 3) := by decide +kernel
theorem dX11_areMet_53 : decode cX11_areMet 53 = .ok (.goto (-47), 3) := by decide +kernel
theorem dX11_areMet_56 : decode cX11_areMet 56 = .ok (.iload 4, 2) := by decide +kernel
theorem dX11_areMet_58 : decode cX11_areMet 58 = .ok (.ireturn, 1) := by decide +kernel
theorem dX11_walk_0 : decode cX11_walk 0 = .ok (.aload_n 0, 1) := by decide +kernel
theorem dX11_walk_1 : decode cX11_walk 1 = .ok (.iconst 0, 1) := by decide +kernel
theorem dX11_walk_2 : decode cX11_walk 2 = .ok (.putfield 74, 3) := by decide +kernel
theorem dX11_walk_5 : decode cX11_walk 5 = .ok (.iload_n 2, 1) := by decide +kernel
theorem dX11_walk_6 : decode cX11_walk 6 = .ok (.invokestatic 185, 3) := by decide +kernel
theorem dX11_walk_9 : decode cX11_walk 9 = .ok (.ifCond .eq 12, 3) := by decide +kernel
theorem dX11_walk_12 : decode cX11_walk 12 = .ok (.aload_n 0, 1) := by decide +kernel
theorem dX11_walk_13 : decode cX11_walk 13 = .ok (.iload_n 1, 1) := by decide +kernel
theorem dX11_walk_14 : decode cX11_walk 14 = .ok (.iconst 1, 1) := by decide +kernel
theorem dX11_walk_15 : decode cX11_walk 15 = .ok (.invokevirtual 154, 3) := by decide +kernel
theorem dX11_walk_18 : decode cX11_walk 18 = .ok (.goto 4, 3) := by decide +kernel
theorem dX11_walk_21 : decode cX11_walk 21 = .ok (.iconst (-1), 1) := by decide +kernel
theorem dX11_walk_22 : decode cX11_walk 22 = .ok (.istore_n 3, 1) := by decide +kernel
theorem dX11_walk_23 : decode cX11_walk 23 = .ok (.iload_n 3, 1) := by decide +kernel
theorem dX11_walk_24 : decode cX11_walk 24 = .ok (.ifCond .ge 5, 3) := by decide +kernel
theorem dX11_walk_27 : decode cX11_walk 27 = .ok (.iload_n 3, 1) := by decide +kernel
theorem dX11_walk_28 : decode cX11_walk 28 = .ok (.ireturn, 1) := by decide +kernel
theorem dX11_walk_29 : decode cX11_walk 29 = .ok (.bipush (-4), 2) := by decide +kernel
theorem dX11_walk_31 : decode cX11_walk 31 = .ok (.istore 4, 2) := by decide +kernel
theorem dX11_walk_33 : decode cX11_walk 33 = .ok (.iconst 0, 1) := by decide +kernel
theorem dX11_walk_34 : decode cX11_walk 34 = .ok (.istore 5, 2) := by decide +kernel
theorem dX11_walk_36 : decode cX11_walk 36 = .ok (.iload 5, 2) := by decide +kernel
theorem dX11_walk_38 : decode cX11_walk 38 = .ok (.iload_n 2, 1) := by decide +kernel
theorem dX11_walk_39 : decode cX11_walk 39 = .ok (.if_icmp .gt 92, 3) := by decide +kernel
theorem dX11_walk_42 : decode cX11_walk 42 = .ok (.iload_n 2, 1) := by decide +kernel
theorem dX11_walk_43 : decode cX11_walk 43 = .ok (.istore 6, 2) := by decide +kernel
theorem dX11_walk_45 : decode cX11_walk 45 = .ok (.iload 6, 2) := by decide +kernel
theorem dX11_walk_47 : decode cX11_walk 47 = .ok (.bipush 12, 2) := by decide +kernel
theorem dX11_walk_49 : decode cX11_walk 49 = .ok (.if_icmp .ge 76, 3) := by decide +kernel
theorem dX11_walk_52 : decode cX11_walk 52 = .ok (.iload_n 2, 1) := by decide +kernel
theorem dX11_walk_53 : decode cX11_walk 53 = .ok (.iload 5, 2) := by decide +kernel
theorem dX11_walk_55 : decode cX11_walk 55 = .ok (.isub, 1) := by decide +kernel
theorem dX11_walk_56 : decode cX11_walk 56 = .ok (.iload 6, 2) := by decide +kernel
theorem dX11_walk_58 : decode cX11_walk 58 = .ok (.iload_n 2, 1) := by decide +kernel
theorem dX11_walk_59 : decode cX11_walk 59 = .ok (.isub, 1) := by decide +kernel
theorem dX11_walk_60 : decode cX11_walk 60 = .ok (.if_icmp .ge 10, 3) := by decide +kernel
theorem dX11_walk_63 : decode cX11_walk 63 = .ok (.iload_n 2, 1) := by decide +kernel
theorem dX11_walk_64 : decode cX11_walk 64 = .ok (.iload 5, 2) := by decide +kernel
theorem dX11_walk_66 : decode cX11_walk 66 = .ok (.isub, 1) := by decide +kernel
theorem dX11_walk_67 : decode cX11_walk 67 = .ok (.goto 7, 3) := by decide +kernel
theorem dX11_walk_70 : decode cX11_walk 70 = .ok (.iload 6, 2) := by decide +kernel
theorem dX11_walk_72 : decode cX11_walk 72 = .ok (.iload_n 2, 1) := by decide +kernel
theorem dX11_walk_73 : decode cX11_walk 73 = .ok (.isub, 1) := by decide +kernel
theorem dX11_walk_74 : decode cX11_walk 74 = .ok (.istore 7, 2) := by decide +kernel
theorem dX11_walk_76 : decode cX11_walk 76 = .ok (.iload 6, 2) := by decide +kernel
theorem dX11_walk_78 : decode cX11_walk 78 = .ok (.iload 5, 2) := by decide +kernel
theorem dX11_walk_80 : decode cX11_walk 80 = .ok (.isub, 1) := by decide +kernel
theorem dX11_walk_81 : decode cX11_walk 81 = .ok (.iload 7, 2) := by decide +kernel
theorem dX11_walk_83 : decode cX11_walk 83 = .ok (.iadd, 1) := by decide +kernel
theorem dX11_walk_84 : decode cX11_walk 84 = .ok (.istore 8, 2) := by decide +kernel
theorem dX11_walk_86 : decode cX11_walk 86 = .ok (.aload_n 0, 1) := by decide +kernel
theorem dX11_walk_87 : decode cX11_walk 87 = .ok (.iload_n 1, 1) := by decide +kernel
theorem dX11_walk_88 : decode cX11_walk 88 = .ok (.iload 5, 2) := by decide +kernel
theorem dX11_walk_90 : decode cX11_walk 90 = .ok (.iload 6, 2) := by decide +kernel
theorem dX11_walk_92 : decode cX11_walk 92 = .ok (.invokevirtual 209, 3) := by decide +kernel
theorem dX11_walk_95 : decode cX11_walk 95 = .ok (.ifCond .eq 20, 3) := by decide +kernel
theorem dX11_walk_98 : decode cX11_walk 98 = .ok (.iload 4, 2) := by decide +kernel
theorem dX11_walk_100 : decode cX11_walk 100 = .ok (.ifCond .lt 10, 3) := by decide +kernel
theorem dX11_walk_103 : decode cX11_walk 103 = .ok (.iload 8, 2) := by decide +kernel
theorem dX11_walk_105 : decode cX11_walk 105 = .ok (.iload 4, 2) := by decide +kernel
theorem dX11_walk_107 : decode cX11_walk 107 = .ok (.if_icmp .ge 8, 3) := by decide +kernel
theorem dX11_walk_110 : decode cX11_walk 110 = .ok (.iload 8, 2) := by decide +kernel
theorem dX11_walk_112 : decode cX11_walk 112 = .ok (.goto 5, 3) := by decide +kernel
theorem dX11_walk_115 : decode cX11_walk 115 = .ok (.iload 4, 2) := by decide +kernel
theorem dX11_walk_117 : decode cX11_walk 117 = .ok (.istore 4, 2) := by decide +kernel
theorem dX11_walk_119 : decode cX11_walk 119 = .ok (.iinc 6 1, 3) := by decide +kernel
theorem dX11_walk_122 : decode cX11_walk 122 = .ok (.goto (-77), 3) := by decide +kernel
theorem dX11_walk_125 : decode cX11_walk 125 = .ok (.iinc 5 1, 3) := by decide +kernel
theorem dX11_walk_128 : decode cX11_walk 128 = .ok (.goto (-92), 3) := by decide +kernel
theorem dX11_walk_131 : decode cX11_walk 131 = .ok (.iload 4, 2) := by decide +kernel
theorem dX11_walk_133 : decode cX11_walk 133 = .ok (.ireturn, 1) := by decide +kernel
theorem dX11_search_0 : decode cX11_search 0 = .ok (.aload_n 0, 1) := by decide +kernel
theorem dX11_search_1 : decode cX11_search 1 = .ok (.iconst 0, 1) := by decide +kernel
theorem dX11_search_2 : decode cX11_search 2 = .ok (.putfield 74, 3) := by decide +kernel
theorem dX11_search_5 : decode cX11_search 5 = .ok (.iload_n 2, 1) := by decide +kernel
theorem dX11_search_6 : decode cX11_search 6 = .ok (.invokestatic 185, 3) := by decide +kernel
theorem dX11_search_9 : decode cX11_search 9 = .ok (.ifCond .eq 12, 3) := by decide +kernel
theorem dX11_search_12 : decode cX11_search 12 = .ok (.aload_n 0, 1) := by decide +kernel
theorem dX11_search_13 : decode cX11_search 13 = .ok (.iload_n 1, 1) := by decide +kernel
theorem dX11_search_14 : decode cX11_search 14 = .ok (.iconst 1, 1) := by decide +kernel
theorem dX11_search_15 : decode cX11_search 15 = .ok (.invokevirtual 154, 3) := by decide +kernel
theorem dX11_search_18 : decode cX11_search 18 = .ok (.goto 4, 3) := by decide +kernel
theorem dX11_search_21 : decode cX11_search 21 = .ok (.iconst (-1), 1) := by decide +kernel
theorem dX11_search_22 : decode cX11_search 22 = .ok (.istore_n 3, 1) := by decide +kernel
theorem dX11_search_23 : decode cX11_search 23 = .ok (.iload_n 3, 1) := by decide +kernel
theorem dX11_search_24 : decode cX11_search 24 = .ok (.ifCond .ge 5, 3) := by decide +kernel
theorem dX11_search_27 : decode cX11_search 27 = .ok (.iload_n 3, 1) := by decide +kernel
theorem dX11_search_28 : decode cX11_search 28 = .ok (.ireturn, 1) := by decide +kernel
theorem dX11_search_29 : decode cX11_search 29 = .ok (.iload_n 2, 1) := by decide +kernel
theorem dX11_search_30 : decode cX11_search 30 = .ok (.istore 4, 2) := by decide +kernel
theorem dX11_search_32 : decode cX11_search 32 = .ok (.iload_n 2, 1) := by decide +kernel
theorem dX11_search_33 : decode cX11_search 33 = .ok (.istore 5, 2) := by decide +kernel
theorem dX11_search_35 : decode cX11_search 35 = .ok (.iload_n 2, 1) := by decide +kernel
theorem dX11_search_36 : decode cX11_search 36 = .ok (.istore 6, 2) := by decide +kernel
theorem dX11_search_38 : decode cX11_search 38 = .ok (.iload_n 2, 1) := by decide +kernel
theorem dX11_search_39 : decode cX11_search 39 = .ok (.bipush 6, 2) := by decide +kernel
theorem dX11_search_41 : decode cX11_search 41 = .ok (.if_icmp .ge 7, 3) := by decide +kernel
theorem dX11_search_44 : decode cX11_search 44 = .ok (.iconst (-1), 1) := by decide +kernel
theorem dX11_search_45 : decode cX11_search 45 = .ok (.goto 4, 3) := by decide +kernel
theorem dX11_search_48 : decode cX11_search 48 = .ok (.iconst 1, 1) := by decide +kernel
theorem dX11_search_49 : decode cX11_search 49 = .ok (.istore 7, 2) := by decide +kernel
theorem dX11_search_51 : decode cX11_search 51 = .ok (.iload_n 2, 1) := by decide +kernel
theorem dX11_search_52 : decode cX11_search 52 = .ok (.bipush 6, 2) := by decide +kernel
theorem dX11_search_54 : decode cX11_search 54 = .ok (.if_icmp .ge 7, 3) := by decide +kernel
theorem dX11_search_57 : decode cX11_search 57 = .ok (.iconst 0, 1) := by decide +kernel
theorem dX11_search_58 : decode cX11_search 58 = .ok (.goto 5, 3) := by decide +kernel
theorem dX11_search_61 : decode cX11_search 61 = .ok (.bipush 11, 2) := by decide +kernel
theorem dX11_search_63 : decode cX11_search 63 = .ok (.istore 8, 2) := by decide +kernel
theorem dX11_search_65 : decode cX11_search 65 = .ok (.iconst 0, 1) := by decide +kernel
theorem dX11_search_66 : decode cX11_search 66 = .ok (.istore 9, 2) := by decide +kernel
theorem dX11_search_68 : decode cX11_search 68 = .ok (.iload 9, 2) := by decide +kernel
theorem dX11_search_70 : decode cX11_search 70 = .ok (.bipush 30, 2) := by decide +kernel
theorem dX11_search_72 : decode cX11_search 72 = .ok (.if_icmp .ge 103, 3) := by decide +kernel
theorem dX11_search_75 : decode cX11_search 75 = .ok (.aload_n 0, 1) := by decide +kernel
theorem dX11_search_76 : decode cX11_search 76 = .ok (.iload_n 1, 1) := by decide +kernel
theorem dX11_search_77 : decode cX11_search 77 = .ok (.iload 4, 2) := by decide +kernel
theorem dX11_search_79 : decode cX11_search 79 = .ok (.iload 5, 2) := by decide +kernel
theorem dX11_search_81 : decode cX11_search 81 = .ok (.invokevirtual 209, 3) := by decide +kernel
theorem dX11_search_84 : decode cX11_search 84 = .ok (.ifCond .ne 91, 3) := by decide +kernel
theorem dX11_search_87 : decode cX11_search 87 = .ok (.iload 6, 2) := by decide +kernel
theorem dX11_search_89 : decode cX11_search 89 = .ok (.iload 8, 2) := by decide +kernel
theorem dX11_search_91 : decode cX11_search 91 = .ok (.if_icmp .ne 9, 3) := by decide +kernel
theorem dX11_search_94 : decode cX11_search 94 = .ok (.iload 7, 2) := by decide +kernel
theorem dX11_search_96 : decode cX11_search 96 = .ok (.ineg, 1) := by decide +kernel
theorem dX11_search_97 : decode cX11_search 97 = .ok (.goto 5, 3) := by decide +kernel
theorem dX11_search_100 : decode cX11_search 100 = .ok (.iload 7, 2) := by decide +kernel
theorem dX11_search_102 : decode cX11_search 102 = .ok (.istore 7, 2) := by decide +kernel
theorem dX11_search_104 : decode cX11_search 104 = .ok (.iload 6, 2) := by decide +kernel
theorem dX11_search_106 : decode cX11_search 106 = .ok (.iload 8, 2) := by decide +kernel
theorem dX11_search_108 : decode cX11_search 108 = .ok (.if_icmp .ne 7, 3) := by decide +kernel
theorem dX11_search_111 : decode cX11_search 111 = .ok (.iconst (-1), 1) := by decide +kernel
theorem dX11_search_112 : decode cX11_search 112 = .ok (.goto 5, 3) := by decide +kernel
theorem dX11_search_115 : decode cX11_search 115 = .ok (.iload 8, 2) := by decide +kernel
theorem dX11_search_117 : decode cX11_search 117 = .ok (.istore 8, 2) := by decide +kernel
theorem dX11_search_119 : decode cX11_search 119 = .ok (.iload 6, 2) := by decide +kernel
theorem dX11_search_121 : decode cX11_search 121 = .ok (.iload 7, 2) := by decide +kernel
theorem dX11_search_123 : decode cX11_search 123 = .ok (.iadd, 1) := by decide +kernel
theorem dX11_search_124 : decode cX11_search 124 = .ok (.istore 6, 2) := by decide +kernel
theorem dX11_search_126 : decode cX11_search 126 = .ok (.iload 6, 2) := by decide +kernel
theorem dX11_search_128 : decode cX11_search 128 = .ok (.invokestatic 185, 3) := by decide +kernel
theorem dX11_search_131 : decode cX11_search 131 = .ok (.ifCond .ne 6, 3) := by decide +kernel
theorem dX11_search_134 : decode cX11_search 134 = .ok (.bipush (-4), 2) := by decide +kernel
theorem dX11_search_136 : decode cX11_search 136 = .ok (.ireturn, 1) := by decide +kernel
theorem dX11_search_137 : decode cX11_search 137 = .ok (.iload 6, 2) := by decide +kernel
theorem dX11_search_139 : decode cX11_search 139 = .ok (.iload 4, 2) := by decide +kernel
theorem dX11_search_141 : decode cX11_search 141 = .ok (.if_icmp .ge 8, 3) := by decide +kernel
theorem dX11_search_144 : decode cX11_search 144 = .ok (.iload 6, 2) := by decide +kernel
theorem dX11_search_146 : decode cX11_search 146 = .ok (.goto 5, 3) := by decide +kernel
theorem dX11_search_149 : decode cX11_search 149 = .ok (.iload 4, 2) := by decide +kernel
theorem dX11_search_151 : decode cX11_search 151 = .ok (.istore 4, 2) := by decide +kernel
theorem dX11_search_153 : decode cX11_search 153 = .ok (.iload 6, 2) := by decide +kernel
theorem dX11_search_155 : decode cX11_search 155 = .ok (.iload 5, 2) := by decide +kernel
theorem dX11_search_157 : decode cX11_search 157 = .ok (.if_icmp .le 8, 3) := by decide +kernel
theorem dX11_search_160 : decode cX11_search 160 = .ok (.iload 6, 2) := by decide +kernel
theorem dX11_search_162 : decode cX11_search 162 = .ok (.goto 5, 3) := by decide +kernel
theorem dX11_search_165 : decode cX11_search 165 = .ok (.iload 5, 2) := by decide +kernel
theorem dX11_search_167 : decode cX11_search 167 = .ok (.istore 5, 2) := by decide +kernel
theorem dX11_search_169 : decode cX11_search 169 = .ok (.iinc 9 1, 3) := by decide +kernel
theorem dX11_search_172 : decode cX11_search 172 = .ok (.goto (-104), 3) := by decide +kernel
theorem dX11_search_175 : decode cX11_search 175 = .ok (.iload 9, 2) := by decide +kernel
theorem dX11_search_177 : decode cX11_search 177 = .ok (.ireturn, 1) := by decide +kernel
theorem dX11_riseLooked_0 : decode cX11_riseLooked 0 = .ok (.iconst 0, 1) := by decide +kernel
theorem dX11_riseLooked_1 : decode cX11_riseLooked 1 = .ok (.istore_n 1, 1) := by decide +kernel
theorem dX11_riseLooked_2 : decode cX11_riseLooked 2 = .ok (.iconst 0, 1) := by decide +kernel
theorem dX11_riseLooked_3 : decode cX11_riseLooked 3 = .ok (.istore_n 2, 1) := by decide +kernel
theorem dX11_riseLooked_4 : decode cX11_riseLooked 4 = .ok (.iload_n 2, 1) := by decide +kernel
theorem dX11_riseLooked_5 : decode cX11_riseLooked 5 = .ok (.bipush 12, 2) := by decide +kernel
theorem dX11_riseLooked_7 : decode cX11_riseLooked 7 = .ok (.if_icmp .ge 148, 3) := by decide +kernel
theorem dX11_riseLooked_10 : decode cX11_riseLooked 10 = .ok (.aload_n 0, 1) := by decide +kernel
theorem dX11_riseLooked_11 : decode cX11_riseLooked 11 = .ok (.getfield 43, 3) := by decide +kernel
theorem dX11_riseLooked_14 : decode cX11_riseLooked 14 = .ok (.iload_n 2, 1) := by decide +kernel
theorem dX11_riseLooked_15 : decode cX11_riseLooked 15 = .ok (.aload_n 0, 1) := by decide +kernel
theorem dX11_riseLooked_16 : decode cX11_riseLooked 16 = .ok (.getfield 19, 3) := by decide +kernel
theorem dX11_riseLooked_19 : decode cX11_riseLooked 19 = .ok (.iload_n 2, 1) := by decide +kernel
theorem dX11_riseLooked_20 : decode cX11_riseLooked 20 = .ok (.iaload, 1) := by decide +kernel
theorem dX11_riseLooked_21 : decode cX11_riseLooked 21 = .ok (.ifCond .le 7, 3) := by decide +kernel
theorem dX11_riseLooked_24 : decode cX11_riseLooked 24 = .ok (.iconst 1, 1) := by decide +kernel
theorem dX11_riseLooked_25 : decode cX11_riseLooked 25 = .ok (.goto 4, 3) := by decide +kernel
theorem dX11_riseLooked_28 : decode cX11_riseLooked 28 = .ok (.iconst 0, 1) := by decide +kernel
theorem dX11_riseLooked_29 : decode cX11_riseLooked 29 = .ok (.iastore, 1) := by decide +kernel
theorem dX11_riseLooked_30 : decode cX11_riseLooked 30 = .ok (.iconst 0, 1) := by decide +kernel
theorem dX11_riseLooked_31 : decode cX11_riseLooked 31 = .ok (.istore_n 3, 1) := by decide +kernel
theorem dX11_riseLooked_32 : decode cX11_riseLooked 32 = .ok (.iload_n 3, 1) := by decide +kernel
theorem dX11_riseLooked_33 : decode cX11_riseLooked 33 = .ok (.iload_n 2, 1) := by decide +kernel
theorem dX11_riseLooked_34 : decode cX11_riseLooked 34 = .ok (.if_icmp .ge 94, 3) := by decide +kernel
theorem dX11_riseLooked_37 : decode cX11_riseLooked 37 = .ok (.aload_n 0, 1) := by decide +kernel
theorem dX11_riseLooked_38 : decode cX11_riseLooked 38 = .ok (.getfield 19, 3) := by decide +kernel
theorem dX11_riseLooked_41 : decode cX11_riseLooked 41 = .ok (.iload_n 2, 1) := by decide +kernel
theorem dX11_riseLooked_42 : decode cX11_riseLooked 42 = .ok (.iaload, 1) := by decide +kernel
theorem dX11_riseLooked_43 : decode cX11_riseLooked 43 = .ok (.ifCond .le 85, 3) := by decide +kernel
theorem dX11_riseLooked_46 : decode cX11_riseLooked 46 = .ok (.aload_n 0, 1) := by decide +kernel
theorem dX11_riseLooked_47 : decode cX11_riseLooked 47 = .ok (.getfield 19, 3) := by decide +kernel
theorem dX11_riseLooked_50 : decode cX11_riseLooked 50 = .ok (.iload_n 3, 1) := by decide +kernel
theorem dX11_riseLooked_51 : decode cX11_riseLooked 51 = .ok (.iaload, 1) := by decide +kernel
theorem dX11_riseLooked_52 : decode cX11_riseLooked 52 = .ok (.ifCond .le 39, 3) := by decide +kernel
theorem dX11_riseLooked_55 : decode cX11_riseLooked 55 = .ok (.aload_n 0, 1) := by decide +kernel
theorem dX11_riseLooked_56 : decode cX11_riseLooked 56 = .ok (.getfield 19, 3) := by decide +kernel
theorem dX11_riseLooked_59 : decode cX11_riseLooked 59 = .ok (.iload_n 3, 1) := by decide +kernel
theorem dX11_riseLooked_60 : decode cX11_riseLooked 60 = .ok (.iaload, 1) := by decide +kernel
theorem dX11_riseLooked_61 : decode cX11_riseLooked 61 = .ok (.aload_n 0, 1) := by decide +kernel
theorem dX11_riseLooked_62 : decode cX11_riseLooked 62 = .ok (.getfield 19, 3) := by decide +kernel
theorem dX11_riseLooked_65 : decode cX11_riseLooked 65 = .ok (.iload_n 2, 1) := by decide +kernel
theorem dX11_riseLooked_66 : decode cX11_riseLooked 66 = .ok (.iaload, 1) := by decide +kernel
theorem dX11_riseLooked_67 : decode cX11_riseLooked 67 = .ok (.if_icmp .ge 24, 3) := by decide +kernel
theorem dX11_riseLooked_70 : decode cX11_riseLooked 70 = .ok (.aload_n 0, 1) := by decide +kernel
theorem dX11_riseLooked_71 : decode cX11_riseLooked 71 = .ok (.getfield 43, 3) := by decide +kernel
theorem dX11_riseLooked_74 : decode cX11_riseLooked 74 = .ok (.iload_n 3, 1) := by decide +kernel
theorem dX11_riseLooked_75 : decode cX11_riseLooked 75 = .ok (.iaload, 1) := by decide +kernel
theorem dX11_riseLooked_76 : decode cX11_riseLooked 76 = .ok (.iconst 1, 1) := by decide +kernel
theorem dX11_riseLooked_77 : decode cX11_riseLooked 77 = .ok (.iadd, 1) := by decide +kernel
theorem dX11_riseLooked_78 : decode cX11_riseLooked 78 = .ok (.aload_n 0, 1) := by decide +kernel
theorem dX11_riseLooked_79 : decode cX11_riseLooked 79 = .ok (.getfield 43, 3) := by decide +kernel
theorem dX11_riseLooked_82 : decode cX11_riseLooked 82 = .ok (.iload_n 2, 1) := by decide +kernel
theorem dX11_riseLooked_83 : decode cX11_riseLooked 83 = .ok (.iaload, 1) := by decide +kernel
theorem dX11_riseLooked_84 : decode cX11_riseLooked 84 = .ok (.if_icmp .le 7, 3) := by decide +kernel
theorem dX11_riseLooked_87 : decode cX11_riseLooked 87 = .ok (.iconst 1, 1) := by decide +kernel
theorem dX11_riseLooked_88 : decode cX11_riseLooked 88 = .ok (.goto 4, 3) := by decide +kernel
theorem dX11_riseLooked_91 : decode cX11_riseLooked 91 = .ok (.iconst 0, 1) := by decide +kernel
theorem dX11_riseLooked_92 : decode cX11_riseLooked 92 = .ok (.istore 4, 2) := by decide +kernel
end
section
theorem dX11_riseLooked_94 : decode cX11_riseLooked 94 = .ok (.aload_n 0, 1) := by decide +kernel
theorem dX11_riseLooked_95 : decode cX11_riseLooked 95 = .ok (.getfield 43, 3) := by decide +kernel
theorem dX11_riseLooked_98 : decode cX11_riseLooked 98 = .ok (.iload_n 2, 1) := by decide +kernel
theorem dX11_riseLooked_99 : decode cX11_riseLooked 99 = .ok (.iload 4, 2) := by decide +kernel
theorem dX11_riseLooked_101 : decode cX11_riseLooked 101 = .ok (.ifCond .eq 14, 3) := by decide +kernel
theorem dX11_riseLooked_104 : decode cX11_riseLooked 104 = .ok (.aload_n 0, 1) := by decide +kernel
theorem dX11_riseLooked_105 : decode cX11_riseLooked 105 = .ok (.getfield 43, 3) := by decide +kernel
theorem dX11_riseLooked_108 : decode cX11_riseLooked 108 = .ok (.iload_n 3, 1) := by decide +kernel
theorem dX11_riseLooked_109 : decode cX11_riseLooked 109 = .ok (.iaload, 1) := by decide +kernel
theorem dX11_riseLooked_110 : decode cX11_riseLooked 110 = .ok (.iconst 1, 1) := by decide +kernel
theorem dX11_riseLooked_111 : decode cX11_riseLooked 111 = .ok (.iadd, 1) := by decide +kernel
theorem dX11_riseLooked_112 : decode cX11_riseLooked 112 = .ok (.goto 9, 3) := by decide +kernel
theorem dX11_riseLooked_115 : decode cX11_riseLooked 115 = .ok (.aload_n 0, 1) := by decide +kernel
theorem dX11_riseLooked_116 : decode cX11_riseLooked 116 = .ok (.getfield 43, 3) := by decide +kernel
theorem dX11_riseLooked_119 : decode cX11_riseLooked 119 = .ok (.iload_n 2, 1) := by decide +kernel
theorem dX11_riseLooked_120 : decode cX11_riseLooked 120 = .ok (.iaload, 1) := by decide +kernel
theorem dX11_riseLooked_121 : decode cX11_riseLooked 121 = .ok (.iastore, 1) := by decide +kernel
theorem dX11_riseLooked_122 : decode cX11_riseLooked 122 = .ok (.iinc 3 1, 3) := by decide +kernel
theorem dX11_riseLooked_125 : decode cX11_riseLooked 125 = .ok (.goto (-93), 3) := by decide +kernel
theorem dX11_riseLooked_128 : decode cX11_riseLooked 128 = .ok (.aload_n 0, 1) := by decide +kernel
theorem dX11_riseLooked_129 : decode cX11_riseLooked 129 = .ok (.getfield 43, 3) := by decide +kernel
theorem dX11_riseLooked_132 : decode cX11_riseLooked 132 = .ok (.iload_n 2, 1) := by decide +kernel
theorem dX11_riseLooked_133 : decode cX11_riseLooked 133 = .ok (.iaload, 1) := by decide +kernel
theorem dX11_riseLooked_134 : decode cX11_riseLooked 134 = .ok (.iload_n 1, 1) := by decide +kernel
theorem dX11_riseLooked_135 : decode cX11_riseLooked 135 = .ok (.if_icmp .le 12, 3) := by decide +kernel
theorem dX11_riseLooked_138 : decode cX11_riseLooked 138 = .ok (.aload_n 0, 1) := by decide +kernel
theorem dX11_riseLooked_139 : decode cX11_riseLooked 139 = .ok (.getfield 43, 3) := by decide +kernel
theorem dX11_riseLooked_142 : decode cX11_riseLooked 142 = .ok (.iload_n 2, 1) := by decide +kernel
theorem dX11_riseLooked_143 : decode cX11_riseLooked 143 = .ok (.iaload, 1) := by decide +kernel
theorem dX11_riseLooked_144 : decode cX11_riseLooked 144 = .ok (.goto 4, 3) := by decide +kernel
theorem dX11_riseLooked_147 : decode cX11_riseLooked 147 = .ok (.iload_n 1, 1) := by decide +kernel
theorem dX11_riseLooked_148 : decode cX11_riseLooked 148 = .ok (.istore_n 1, 1) := by decide +kernel
theorem dX11_riseLooked_149 : decode cX11_riseLooked 149 = .ok (.iinc 2 1, 3) := by decide +kernel
theorem dX11_riseLooked_152 : decode cX11_riseLooked 152 = .ok (.goto (-148), 3) := by decide +kernel
theorem dX11_riseLooked_155 : decode cX11_riseLooked 155 = .ok (.iload_n 1, 1) := by decide +kernel
theorem dX11_riseLooked_156 : decode cX11_riseLooked 156 = .ok (.ireturn, 1) := by decide +kernel
theorem dX11_rise_0 : decode cX11_rise 0 = .ok (.aload_n 0, 1) := by decide +kernel
theorem dX11_rise_1 : decode cX11_rise 1 = .ok (.iconst 0, 1) := by decide +kernel
theorem dX11_rise_2 : decode cX11_rise 2 = .ok (.putfield 74, 3) := by decide +kernel
theorem dX11_rise_5 : decode cX11_rise 5 = .ok (.aload_n 0, 1) := by decide +kernel
theorem dX11_rise_6 : decode cX11_rise 6 = .ok (.invokevirtual 137, 3) := by decide +kernel
theorem dX11_rise_9 : decode cX11_rise 9 = .ok (.aload_n 0, 1) := by decide +kernel
theorem dX11_rise_10 : decode cX11_rise 10 = .ok (.invokevirtual 213, 3) := by decide +kernel
theorem dX11_rise_13 : decode cX11_rise 13 = .ok (.ireturn, 1) := by decide +kernel
theorem dX11_falls_0 : decode cX11_falls 0 = .ok (.aload_n 0, 1) := by decide +kernel
theorem dX11_falls_1 : decode cX11_falls 1 = .ok (.iconst 0, 1) := by decide +kernel
theorem dX11_falls_2 : decode cX11_falls 2 = .ok (.putfield 74, 3) := by decide +kernel
theorem dX11_falls_5 : decode cX11_falls 5 = .ok (.iconst 0, 1) := by decide +kernel
theorem dX11_falls_6 : decode cX11_falls 6 = .ok (.istore_n 1, 1) := by decide +kernel
theorem dX11_falls_7 : decode cX11_falls 7 = .ok (.iconst 0, 1) := by decide +kernel
theorem dX11_falls_8 : decode cX11_falls 8 = .ok (.istore_n 2, 1) := by decide +kernel
theorem dX11_falls_9 : decode cX11_falls 9 = .ok (.iconst 0, 1) := by decide +kernel
theorem dX11_falls_10 : decode cX11_falls 10 = .ok (.istore_n 3, 1) := by decide +kernel
theorem dX11_falls_11 : decode cX11_falls 11 = .ok (.iload_n 3, 1) := by decide +kernel
theorem dX11_falls_12 : decode cX11_falls 12 = .ok (.bipush 12, 2) := by decide +kernel
theorem dX11_falls_14 : decode cX11_falls 14 = .ok (.if_icmp .ge 56, 3) := by decide +kernel
theorem dX11_falls_17 : decode cX11_falls 17 = .ok (.iload_n 1, 1) := by decide +kernel
theorem dX11_falls_18 : decode cX11_falls 18 = .ok (.aload_n 0, 1) := by decide +kernel
theorem dX11_falls_19 : decode cX11_falls 19 = .ok (.getfield 16, 3) := by decide +kernel
theorem dX11_falls_22 : decode cX11_falls 22 = .ok (.iload_n 3, 1) := by decide +kernel
theorem dX11_falls_23 : decode cX11_falls 23 = .ok (.iaload, 1) := by decide +kernel
theorem dX11_falls_24 : decode cX11_falls 24 = .ok (.ifCond .le 17, 3) := by decide +kernel
theorem dX11_falls_27 : decode cX11_falls 27 = .ok (.aload_n 0, 1) := by decide +kernel
theorem dX11_falls_28 : decode cX11_falls 28 = .ok (.getfield 16, 3) := by decide +kernel
theorem dX11_falls_31 : decode cX11_falls 31 = .ok (.iload_n 3, 1) := by decide +kernel
theorem dX11_falls_32 : decode cX11_falls 32 = .ok (.iaload, 1) := by decide +kernel
theorem dX11_falls_33 : decode cX11_falls 33 = .ok (.iload_n 2, 1) := by decide +kernel
theorem dX11_falls_34 : decode cX11_falls 34 = .ok (.if_icmp .gt 7, 3) := by decide +kernel
theorem dX11_falls_37 : decode cX11_falls 37 = .ok (.iconst 1, 1) := by decide +kernel
theorem dX11_falls_38 : decode cX11_falls 38 = .ok (.goto 4, 3) := by decide +kernel
theorem dX11_falls_41 : decode cX11_falls 41 = .ok (.iconst 0, 1) := by decide +kernel
theorem dX11_falls_42 : decode cX11_falls 42 = .ok (.iadd, 1) := by decide +kernel
theorem dX11_falls_43 : decode cX11_falls 43 = .ok (.istore_n 1, 1) := by decide +kernel
theorem dX11_falls_44 : decode cX11_falls 44 = .ok (.aload_n 0, 1) := by decide +kernel
theorem dX11_falls_45 : decode cX11_falls 45 = .ok (.getfield 16, 3) := by decide +kernel
theorem dX11_falls_48 : decode cX11_falls 48 = .ok (.iload_n 3, 1) := by decide +kernel
theorem dX11_falls_49 : decode cX11_falls 49 = .ok (.iaload, 1) := by decide +kernel
theorem dX11_falls_50 : decode cX11_falls 50 = .ok (.ifCond .le 12, 3) := by decide +kernel
theorem dX11_falls_53 : decode cX11_falls 53 = .ok (.aload_n 0, 1) := by decide +kernel
theorem dX11_falls_54 : decode cX11_falls 54 = .ok (.getfield 16, 3) := by decide +kernel
theorem dX11_falls_57 : decode cX11_falls 57 = .ok (.iload_n 3, 1) := by decide +kernel
theorem dX11_falls_58 : decode cX11_falls 58 = .ok (.iaload, 1) := by decide +kernel
theorem dX11_falls_59 : decode cX11_falls 59 = .ok (.goto 4, 3) := by decide +kernel
theorem dX11_falls_62 : decode cX11_falls 62 = .ok (.iload_n 2, 1) := by decide +kernel
theorem dX11_falls_63 : decode cX11_falls 63 = .ok (.istore_n 2, 1) := by decide +kernel
theorem dX11_falls_64 : decode cX11_falls 64 = .ok (.iinc 3 1, 3) := by decide +kernel
theorem dX11_falls_67 : decode cX11_falls 67 = .ok (.goto (-56), 3) := by decide +kernel
theorem dX11_falls_70 : decode cX11_falls 70 = .ok (.iload_n 1, 1) := by decide +kernel
theorem dX11_falls_71 : decode cX11_falls 71 = .ok (.ireturn, 1) := by decide +kernel
theorem dX11_byLaw_0 : decode cX11_byLaw 0 = .ok (.aload_n 0, 1) := by decide +kernel
theorem dX11_byLaw_1 : decode cX11_byLaw 1 = .ok (.iconst 0, 1) := by decide +kernel
theorem dX11_byLaw_2 : decode cX11_byLaw 2 = .ok (.putfield 74, 3) := by decide +kernel
theorem dX11_byLaw_5 : decode cX11_byLaw 5 = .ok (.iload_n 1, 1) := by decide +kernel
theorem dX11_byLaw_6 : decode cX11_byLaw 6 = .ok (.invokestatic 185, 3) := by decide +kernel
theorem dX11_byLaw_9 : decode cX11_byLaw 9 = .ok (.ifCond .eq 27, 3) := by decide +kernel
theorem dX11_byLaw_12 : decode cX11_byLaw 12 = .ok (.iload_n 2, 1) := by decide +kernel
theorem dX11_byLaw_13 : decode cX11_byLaw 13 = .ok (.i2l, 1) := by decide +kernel
theorem dX11_byLaw_14 : decode cX11_byLaw 14 = .ok (.lconst 0, 1) := by decide +kernel
theorem dX11_byLaw_15 : decode cX11_byLaw 15 = .ok (.ldc2_w 190, 3) := by decide +kernel
theorem dX11_byLaw_18 : decode cX11_byLaw 18 = .ok (.invokestatic 127, 3) := by decide +kernel
theorem dX11_byLaw_21 : decode cX11_byLaw 21 = .ok (.ifCond .eq 15, 3) := by decide +kernel
theorem dX11_byLaw_24 : decode cX11_byLaw 24 = .ok (.iload_n 3, 1) := by decide +kernel
theorem dX11_byLaw_25 : decode cX11_byLaw 25 = .ok (.i2l, 1) := by decide +kernel
theorem dX11_byLaw_26 : decode cX11_byLaw 26 = .ok (.lconst 0, 1) := by decide +kernel
theorem dX11_byLaw_27 : decode cX11_byLaw 27 = .ok (.ldc2_w 188, 3) := by decide +kernel
theorem dX11_byLaw_30 : decode cX11_byLaw 30 = .ok (.invokestatic 127, 3) := by decide +kernel
theorem dX11_byLaw_33 : decode cX11_byLaw 33 = .ok (.ifCond .ne 5, 3) := by decide +kernel
theorem dX11_byLaw_36 : decode cX11_byLaw 36 = .ok (.iconst (-1), 1) := by decide +kernel
theorem dX11_byLaw_37 : decode cX11_byLaw 37 = .ok (.ireturn, 1) := by decide +kernel
theorem dX11_byLaw_38 : decode cX11_byLaw 38 = .ok (.aload_n 0, 1) := by decide +kernel
theorem dX11_byLaw_39 : decode cX11_byLaw 39 = .ok (.iload_n 2, 1) := by decide +kernel
theorem dX11_byLaw_40 : decode cX11_byLaw 40 = .ok (.iload_n 3, 1) := by decide +kernel
theorem dX11_byLaw_41 : decode cX11_byLaw 41 = .ok (.invokevirtual 216, 3) := by decide +kernel
theorem dX11_byLaw_44 : decode cX11_byLaw 44 = .ok (.aload_n 0, 1) := by decide +kernel
theorem dX11_byLaw_45 : decode cX11_byLaw 45 = .ok (.getfield 19, 3) := by decide +kernel
theorem dX11_byLaw_48 : decode cX11_byLaw 48 = .ok (.iload_n 1, 1) := by decide +kernel
theorem dX11_byLaw_49 : decode cX11_byLaw 49 = .ok (.iaload, 1) := by decide +kernel
theorem dX11_byLaw_50 : decode cX11_byLaw 50 = .ok (.ifCond .ne 8, 3) := by decide +kernel
theorem dX11_byLaw_53 : decode cX11_byLaw 53 = .ok (.bipush (-4), 2) := by decide +kernel
theorem dX11_byLaw_55 : decode cX11_byLaw 55 = .ok (.goto 9, 3) := by decide +kernel
theorem dX11_byLaw_58 : decode cX11_byLaw 58 = .ok (.aload_n 0, 1) := by decide +kernel
theorem dX11_byLaw_59 : decode cX11_byLaw 59 = .ok (.getfield 19, 3) := by decide +kernel
theorem dX11_byLaw_62 : decode cX11_byLaw 62 = .ok (.iload_n 1, 1) := by decide +kernel
theorem dX11_byLaw_63 : decode cX11_byLaw 63 = .ok (.iaload, 1) := by decide +kernel
theorem dX11_byLaw_64 : decode cX11_byLaw 64 = .ok (.ireturn, 1) := by decide +kernel
theorem dX11_areAsNow_0 : decode cX11_areAsNow 0 = .ok (.iconst 1, 1) := by decide +kernel
theorem dX11_areAsNow_1 : decode cX11_areAsNow 1 = .ok (.istore_n 1, 1) := by decide +kernel
theorem dX11_areAsNow_2 : decode cX11_areAsNow 2 = .ok (.iconst 0, 1) := by decide +kernel
theorem dX11_areAsNow_3 : decode cX11_areAsNow 3 = .ok (.istore_n 2, 1) := by decide +kernel
theorem dX11_areAsNow_4 : decode cX11_areAsNow 4 = .ok (.iload_n 2, 1) := by decide +kernel
theorem dX11_areAsNow_5 : decode cX11_areAsNow 5 = .ok (.bipush 12, 2) := by decide +kernel
theorem dX11_areAsNow_7 : decode cX11_areAsNow 7 = .ok (.if_icmp .ge 34, 3) := by decide +kernel
theorem dX11_areAsNow_10 : decode cX11_areAsNow 10 = .ok (.iload_n 1, 1) := by decide +kernel
theorem dX11_areAsNow_11 : decode cX11_areAsNow 11 = .ok (.ifCond .eq 22, 3) := by decide +kernel
theorem dX11_areAsNow_14 : decode cX11_areAsNow 14 = .ok (.aload_n 0, 1) := by decide +kernel
theorem dX11_areAsNow_15 : decode cX11_areAsNow 15 = .ok (.getfield 19, 3) := by decide +kernel
theorem dX11_areAsNow_18 : decode cX11_areAsNow 18 = .ok (.iload_n 2, 1) := by decide +kernel
theorem dX11_areAsNow_19 : decode cX11_areAsNow 19 = .ok (.iaload, 1) := by decide +kernel
theorem dX11_areAsNow_20 : decode cX11_areAsNow 20 = .ok (.aload_n 0, 1) := by decide +kernel
theorem dX11_areAsNow_21 : decode cX11_areAsNow 21 = .ok (.getfield 16, 3) := by decide +kernel
theorem dX11_areAsNow_24 : decode cX11_areAsNow 24 = .ok (.iload_n 2, 1) := by decide +kernel
theorem dX11_areAsNow_25 : decode cX11_areAsNow 25 = .ok (.iaload, 1) := by decide +kernel
theorem dX11_areAsNow_26 : decode cX11_areAsNow 26 = .ok (.if_icmp .ne 7, 3) := by decide +kernel
theorem dX11_areAsNow_29 : decode cX11_areAsNow 29 = .ok (.iconst 1, 1) := by decide +kernel
theorem dX11_areAsNow_30 : decode cX11_areAsNow 30 = .ok (.goto 4, 3) := by decide +kernel
theorem dX11_areAsNow_33 : decode cX11_areAsNow 33 = .ok (.iconst 0, 1) := by decide +kernel
theorem dX11_areAsNow_34 : decode cX11_areAsNow 34 = .ok (.istore_n 1, 1) := by decide +kernel
theorem dX11_areAsNow_35 : decode cX11_areAsNow 35 = .ok (.iinc 2 1, 3) := by decide +kernel
theorem dX11_areAsNow_38 : decode cX11_areAsNow 38 = .ok (.goto (-34), 3) := by decide +kernel
theorem dX11_areAsNow_41 : decode cX11_areAsNow 41 = .ok (.iload_n 1, 1) := by decide +kernel
theorem dX11_areAsNow_42 : decode cX11_areAsNow 42 = .ok (.ireturn, 1) := by decide +kernel
theorem dX11_laws_0 : decode cX11_laws 0 = .ok (.aload_n 0, 1) := by decide +kernel
theorem dX11_laws_1 : decode cX11_laws 1 = .ok (.iconst 0, 1) := by decide +kernel
theorem dX11_laws_2 : decode cX11_laws 2 = .ok (.putfield 74, 3) := by decide +kernel
theorem dX11_laws_5 : decode cX11_laws 5 = .ok (.iload_n 1, 1) := by decide +kernel
theorem dX11_laws_6 : decode cX11_laws 6 = .ok (.i2l, 1) := by decide +kernel
theorem dX11_laws_7 : decode cX11_laws 7 = .ok (.lconst 0, 1) := by decide +kernel
theorem dX11_laws_8 : decode cX11_laws 8 = .ok (.ldc2_w 188, 3) := by decide +kernel
theorem dX11_laws_11 : decode cX11_laws 11 = .ok (.invokestatic 127, 3) := by decide +kernel
theorem dX11_laws_14 : decode cX11_laws 14 = .ok (.ifCond .ne 5, 3) := by decide +kernel
theorem dX11_laws_17 : decode cX11_laws 17 = .ok (.iconst (-1), 1) := by decide +kernel
theorem dX11_laws_18 : decode cX11_laws 18 = .ok (.ireturn, 1) := by decide +kernel
theorem dX11_laws_19 : decode cX11_laws 19 = .ok (.iconst 0, 1) := by decide +kernel
theorem dX11_laws_20 : decode cX11_laws 20 = .ok (.istore_n 2, 1) := by decide +kernel
theorem dX11_laws_21 : decode cX11_laws 21 = .ok (.iconst 0, 1) := by decide +kernel
theorem dX11_laws_22 : decode cX11_laws 22 = .ok (.istore_n 3, 1) := by decide +kernel
theorem dX11_laws_23 : decode cX11_laws 23 = .ok (.iload_n 3, 1) := by decide +kernel
theorem dX11_laws_24 : decode cX11_laws 24 = .ok (.bipush 8, 2) := by decide +kernel
theorem dX11_laws_26 : decode cX11_laws 26 = .ok (.if_icmp .ge 32, 3) := by decide +kernel
theorem dX11_laws_29 : decode cX11_laws 29 = .ok (.aload_n 0, 1) := by decide +kernel
theorem dX11_laws_30 : decode cX11_laws 30 = .ok (.iload_n 3, 1) := by decide +kernel
theorem dX11_laws_31 : decode cX11_laws 31 = .ok (.iload_n 1, 1) := by decide +kernel
theorem dX11_laws_32 : decode cX11_laws 32 = .ok (.invokevirtual 216, 3) := by decide +kernel
theorem dX11_laws_35 : decode cX11_laws 35 = .ok (.iload_n 2, 1) := by decide +kernel
theorem dX11_laws_36 : decode cX11_laws 36 = .ok (.aload_n 0, 1) := by decide +kernel
theorem dX11_laws_37 : decode cX11_laws 37 = .ok (.invokevirtual 219, 3) := by decide +kernel
theorem dX11_laws_40 : decode cX11_laws 40 = .ok (.ifCond .eq 9, 3) := by decide +kernel
theorem dX11_laws_43 : decode cX11_laws 43 = .ok (.iconst 1, 1) := by decide +kernel
theorem dX11_laws_44 : decode cX11_laws 44 = .ok (.iload_n 3, 1) := by decide +kernel
theorem dX11_laws_45 : decode cX11_laws 45 = .ok (.ishl, 1) := by decide +kernel
theorem dX11_laws_46 : decode cX11_laws 46 = .ok (.goto 4, 3) := by decide +kernel
theorem dX11_laws_49 : decode cX11_laws 49 = .ok (.iconst 0, 1) := by decide +kernel
theorem dX11_laws_50 : decode cX11_laws 50 = .ok (.ior, 1) := by decide +kernel
theorem dX11_laws_51 : decode cX11_laws 51 = .ok (.istore_n 2, 1) := by decide +kernel
theorem dX11_laws_52 : decode cX11_laws 52 = .ok (.iinc 3 1, 3) := by decide +kernel
theorem dX11_laws_55 : decode cX11_laws 55 = .ok (.goto (-32), 3) := by decide +kernel
theorem dX11_laws_58 : decode cX11_laws 58 = .ok (.iload_n 2, 1) := by decide +kernel
theorem dX11_laws_59 : decode cX11_laws 59 = .ok (.ireturn, 1) := by decide +kernel
theorem dX11_houseMany_0 : decode cX11_houseMany 0 = .ok (.iconst 0, 1) := by decide +kernel
theorem dX11_houseMany_1 : decode cX11_houseMany 1 = .ok (.istore_n 1, 1) := by decide +kernel
theorem dX11_houseMany_2 : decode cX11_houseMany 2 = .ok (.iconst 0, 1) := by decide +kernel
theorem dX11_houseMany_3 : decode cX11_houseMany 3 = .ok (.istore_n 2, 1) := by decide +kernel
theorem dX11_houseMany_4 : decode cX11_houseMany 4 = .ok (.iload_n 2, 1) := by decide +kernel
theorem dX11_houseMany_5 : decode cX11_houseMany 5 = .ok (.bipush 12, 2) := by decide +kernel
theorem dX11_houseMany_7 : decode cX11_houseMany 7 = .ok (.if_icmp .ge 71, 3) := by decide +kernel
theorem dX11_houseMany_10 : decode cX11_houseMany 10 = .ok (.aload_n 0, 1) := by decide +kernel
theorem dX11_houseMany_11 : decode cX11_houseMany 11 = .ok (.getfield 46, 3) := by decide +kernel
theorem dX11_houseMany_14 : decode cX11_houseMany 14 = .ok (.iload_n 1, 1) := by decide +kernel
theorem dX11_houseMany_15 : decode cX11_houseMany 15 = .ok (.bipush 12, 2) := by decide +kernel
theorem dX11_houseMany_17 : decode cX11_houseMany 17 = .ok (.if_icmp .ge 7, 3) := by decide +kernel
theorem dX11_houseMany_20 : decode cX11_houseMany 20 = .ok (.iload_n 1, 1) := by decide +kernel
theorem dX11_houseMany_21 : decode cX11_houseMany 21 = .ok (.goto 4, 3) := by decide +kernel
theorem dX11_houseMany_24 : decode cX11_houseMany 24 = .ok (.iconst 0, 1) := by decide +kernel
theorem dX11_houseMany_25 : decode cX11_houseMany 25 = .ok (.aload_n 0, 1) := by decide +kernel
theorem dX11_houseMany_26 : decode cX11_houseMany 26 = .ok (.getfield 16, 3) := by decide +kernel
theorem dX11_houseMany_29 : decode cX11_houseMany 29 = .ok (.iload_n 2, 1) := by decide +kernel
theorem dX11_houseMany_30 : decode cX11_houseMany 30 = .ok (.iaload, 1) := by decide +kernel
theorem dX11_houseMany_31 : decode cX11_houseMany 31 = .ok (.ifCond .le 7, 3) := by decide +kernel
theorem dX11_houseMany_34 : decode cX11_houseMany 34 = .ok (.iload_n 2, 1) := by decide +kernel
theorem dX11_houseMany_35 : decode cX11_houseMany 35 = .ok (.goto 19, 3) := by decide +kernel
theorem dX11_houseMany_38 : decode cX11_houseMany 38 = .ok (.aload_n 0, 1) := by decide +kernel
theorem dX11_houseMany_39 : decode cX11_houseMany 39 = .ok (.getfield 46, 3) := by decide +kernel
theorem dX11_houseMany_42 : decode cX11_houseMany 42 = .ok (.iload_n 1, 1) := by decide +kernel
theorem dX11_houseMany_43 : decode cX11_houseMany 43 = .ok (.bipush 12, 2) := by decide +kernel
theorem dX11_houseMany_45 : decode cX11_houseMany 45 = .ok (.if_icmp .ge 7, 3) := by decide +kernel
theorem dX11_houseMany_48 : decode cX11_houseMany 48 = .ok (.iload_n 1, 1) := by decide +kernel
theorem dX11_houseMany_49 : decode cX11_houseMany 49 = .ok (.goto 4, 3) := by decide +kernel
theorem dX11_houseMany_52 : decode cX11_houseMany 52 = .ok (.iconst 0, 1) := by decide +kernel
theorem dX11_houseMany_53 : decode cX11_houseMany 53 = .ok (.iaload, 1) := by decide +kernel
theorem dX11_houseMany_54 : decode cX11_houseMany 54 = .ok (.iastore, 1) := by decide +kernel
theorem dX11_houseMany_55 : decode cX11_houseMany 55 = .ok (.iload_n 1, 1) := by decide +kernel
theorem dX11_houseMany_56 : decode cX11_houseMany 56 = .ok (.aload_n 0, 1) := by decide +kernel
theorem dX11_houseMany_57 : decode cX11_houseMany 57 = .ok (.getfield 16, 3) := by decide +kernel
theorem dX11_houseMany_60 : decode cX11_houseMany 60 = .ok (.iload_n 2, 1) := by decide +kernel
theorem dX11_houseMany_61 : decode cX11_houseMany 61 = .ok (.iaload, 1) := by decide +kernel
theorem dX11_houseMany_62 : decode cX11_houseMany 62 = .ok (.ifCond .le 7, 3) := by decide +kernel
theorem dX11_houseMany_65 : decode cX11_houseMany 65 = .ok (.iconst 1, 1) := by decide +kernel
theorem dX11_houseMany_66 : decode cX11_houseMany 66 = .ok (.goto 4, 3) := by decide +kernel
theorem dX11_houseMany_69 : decode cX11_houseMany 69 = .ok (.iconst 0, 1) := by decide +kernel
theorem dX11_houseMany_70 : decode cX11_houseMany 70 = .ok (.iadd, 1) := by decide +kernel
theorem dX11_houseMany_71 : decode cX11_houseMany 71 = .ok (.istore_n 1, 1) := by decide +kernel
theorem dX11_houseMany_72 : decode cX11_houseMany 72 = .ok (.iinc 2 1, 3) := by decide +kernel
theorem dX11_houseMany_75 : decode cX11_houseMany 75 = .ok (.goto (-71), 3) := by decide +kernel
theorem dX11_houseMany_78 : decode cX11_houseMany 78 = .ok (.iload_n 1, 1) := by decide +kernel
theorem dX11_houseMany_79 : decode cX11_houseMany 79 = .ok (.ireturn, 1) := by decide +kernel
theorem dX11_nextOrder_0 : decode cX11_nextOrder 0 = .ok (.iload_n 1, 1) := by decide +kernel
theorem dX11_nextOrder_1 : decode cX11_nextOrder 1 = .ok (.iconst 2, 1) := by decide +kernel
theorem dX11_nextOrder_2 : decode cX11_nextOrder 2 = .ok (.isub, 1) := by decide +kernel
theorem dX11_nextOrder_3 : decode cX11_nextOrder 3 = .ok (.istore_n 2, 1) := by decide +kernel
theorem dX11_nextOrder_4 : decode cX11_nextOrder 4 = .ok (.iload_n 2, 1) := by decide +kernel
theorem dX11_nextOrder_5 : decode cX11_nextOrder 5 = .ok (.ifCond .lt 26, 3) := by decide +kernel
theorem dX11_nextOrder_8 : decode cX11_nextOrder 8 = .ok (.aload_n 0, 1) := by decide +kernel
theorem dX11_nextOrder_9 : decode cX11_nextOrder 9 = .ok (.getfield 49, 3) := by decide +kernel
theorem dX11_nextOrder_12 : decode cX11_nextOrder 12 = .ok (.iload_n 2, 1) := by decide +kernel
theorem dX11_nextOrder_13 : decode cX11_nextOrder 13 = .ok (.iaload, 1) := by decide +kernel
theorem dX11_nextOrder_14 : decode cX11_nextOrder 14 = .ok (.aload_n 0, 1) := by decide +kernel
theorem dX11_nextOrder_15 : decode cX11_nextOrder 15 = .ok (.getfield 49, 3) := by decide +kernel
theorem dX11_nextOrder_18 : decode cX11_nextOrder 18 = .ok (.iload_n 2, 1) := by decide +kernel
theorem dX11_nextOrder_19 : decode cX11_nextOrder 19 = .ok (.iconst 1, 1) := by decide +kernel
theorem dX11_nextOrder_20 : decode cX11_nextOrder 20 = .ok (.iadd, 1) := by decide +kernel
theorem dX11_nextOrder_21 : decode cX11_nextOrder 21 = .ok (.iaload, 1) := by decide +kernel
theorem dX11_nextOrder_22 : decode cX11_nextOrder 22 = .ok (.if_icmp .le 9, 3) := by decide +kernel
theorem dX11_nextOrder_25 : decode cX11_nextOrder 25 = .ok (.iinc 2 (-1), 3) := by decide +kernel
theorem dX11_nextOrder_28 : decode cX11_nextOrder 28 = .ok (.goto (-24), 3) := by decide +kernel
theorem dX11_nextOrder_31 : decode cX11_nextOrder 31 = .ok (.iload_n 2, 1) := by decide +kernel
theorem dX11_nextOrder_32 : decode cX11_nextOrder 32 = .ok (.ifCond .ge 5, 3) := by decide +kernel
theorem dX11_nextOrder_35 : decode cX11_nextOrder 35 = .ok (.iconst 0, 1) := by decide +kernel
theorem dX11_nextOrder_36 : decode cX11_nextOrder 36 = .ok (.ireturn, 1) := by decide +kernel
theorem dX11_nextOrder_37 : decode cX11_nextOrder 37 = .ok (.iload_n 1, 1) := by decide +kernel
theorem dX11_nextOrder_38 : decode cX11_nextOrder 38 = .ok (.iconst 1, 1) := by decide +kernel
theorem dX11_nextOrder_39 : decode cX11_nextOrder 39 = .ok (.isub, 1) := by decide +kernel
theorem dX11_nextOrder_40 : decode cX11_nextOrder 40 = .ok (.istore_n 3, 1) := by decide +kernel
theorem dX11_nextOrder_41 : decode cX11_nextOrder 41 = .ok (.aload_n 0, 1) := by decide +kernel
theorem dX11_nextOrder_42 : decode cX11_nextOrder 42 = .ok (.getfield 49, 3) := by decide +kernel
theorem dX11_nextOrder_45 : decode cX11_nextOrder 45 = .ok (.iload_n 3, 1) := by decide +kernel
theorem dX11_nextOrder_46 : decode cX11_nextOrder 46 = .ok (.iaload, 1) := by decide +kernel
theorem dX11_nextOrder_47 : decode cX11_nextOrder 47 = .ok (.aload_n 0, 1) := by decide +kernel
theorem dX11_nextOrder_48 : decode cX11_nextOrder 48 = .ok (.getfield 49, 3) := by decide +kernel
theorem dX11_nextOrder_51 : decode cX11_nextOrder 51 = .ok (.iload_n 2, 1) := by decide +kernel
theorem dX11_nextOrder_52 : decode cX11_nextOrder 52 = .ok (.iaload, 1) := by decide +kernel
theorem dX11_nextOrder_53 : decode cX11_nextOrder 53 = .ok (.if_icmp .ge 9, 3) := by decide +kernel
theorem dX11_nextOrder_56 : decode cX11_nextOrder 56 = .ok (.iinc 3 (-1), 3) := by decide +kernel
theorem dX11_nextOrder_59 : decode cX11_nextOrder 59 = .ok (.goto (-18), 3) := by decide +kernel
theorem dX11_nextOrder_62 : decode cX11_nextOrder 62 = .ok (.aload_n 0, 1) := by decide +kernel
theorem dX11_nextOrder_63 : decode cX11_nextOrder 63 = .ok (.getfield 49, 3) := by decide +kernel
theorem dX11_nextOrder_66 : decode cX11_nextOrder 66 = .ok (.iload_n 2, 1) := by decide +kernel
theorem dX11_nextOrder_67 : decode cX11_nextOrder 67 = .ok (.iaload, 1) := by decide +kernel
theorem dX11_nextOrder_68 : decode cX11_nextOrder 68 = .ok (.istore 4, 2) := by decide +kernel
theorem dX11_nextOrder_70 : decode cX11_nextOrder 70 = .ok (.aload_n 0, 1) := by decide +kernel
theorem dX11_nextOrder_71 : decode cX11_nextOrder 71 = .ok (.getfield 49, 3) := by decide +kernel
theorem dX11_nextOrder_74 : decode cX11_nextOrder 74 = .ok (.iload_n 2, 1) := by decide +kernel
theorem dX11_nextOrder_75 : decode cX11_nextOrder 75 = .ok (.aload_n 0, 1) := by decide +kernel
theorem dX11_nextOrder_76 : decode cX11_nextOrder 76 = .ok (.getfield 49, 3) := by decide +kernel
theorem dX11_nextOrder_79 : decode cX11_nextOrder 79 = .ok (.iload_n 3, 1) := by decide +kernel
theorem dX11_nextOrder_80 : decode cX11_nextOrder 80 = .ok (.iaload, 1) := by decide +kernel
theorem dX11_nextOrder_81 : decode cX11_nextOrder 81 = .ok (.iastore, 1) := by decide +kernel
theorem dX11_nextOrder_82 : decode cX11_nextOrder 82 = .ok (.aload_n 0, 1) := by decide +kernel
theorem dX11_nextOrder_83 : decode cX11_nextOrder 83 = .ok (.getfield 49, 3) := by decide +kernel
theorem dX11_nextOrder_86 : decode cX11_nextOrder 86 = .ok (.iload_n 3, 1) := by decide +kernel
theorem dX11_nextOrder_87 : decode cX11_nextOrder 87 = .ok (.iload 4, 2) := by decide +kernel
theorem dX11_nextOrder_89 : decode cX11_nextOrder 89 = .ok (.iastore, 1) := by decide +kernel
theorem dX11_nextOrder_90 : decode cX11_nextOrder 90 = .ok (.iload_n 2, 1) := by decide +kernel
theorem dX11_nextOrder_91 : decode cX11_nextOrder 91 = .ok (.iconst 1, 1) := by decide +kernel
theorem dX11_nextOrder_92 : decode cX11_nextOrder 92 = .ok (.iadd, 1) := by decide +kernel
theorem dX11_nextOrder_93 : decode cX11_nextOrder 93 = .ok (.istore 5, 2) := by decide +kernel
theorem dX11_nextOrder_95 : decode cX11_nextOrder 95 = .ok (.iload_n 1, 1) := by decide +kernel
theorem dX11_nextOrder_96 : decode cX11_nextOrder 96 = .ok (.iconst 1, 1) := by decide +kernel
theorem dX11_nextOrder_97 : decode cX11_nextOrder 97 = .ok (.isub, 1) := by decide +kernel
theorem dX11_nextOrder_98 : decode cX11_nextOrder 98 = .ok (.istore 6, 2) := by decide +kernel
theorem dX11_nextOrder_100 : decode cX11_nextOrder 100 = .ok (.iload 5, 2) := by decide +kernel
theorem dX11_nextOrder_102 : decode cX11_nextOrder 102 = .ok (.iload 6, 2) := by decide +kernel
theorem dX11_nextOrder_104 : decode cX11_nextOrder 104 = .ok (.if_icmp .ge 44, 3) := by decide +kernel
theorem dX11_nextOrder_107 : decode cX11_nextOrder 107 = .ok (.aload_n 0, 1) := by decide +kernel
theorem dX11_nextOrder_108 : decode cX11_nextOrder 108 = .ok (.getfield 49, 3) := by decide +kernel
theorem dX11_nextOrder_111 : decode cX11_nextOrder 111 = .ok (.iload 5, 2) := by decide +kernel
theorem dX11_nextOrder_113 : decode cX11_nextOrder 113 = .ok (.iaload, 1) := by decide +kernel
theorem dX11_nextOrder_114 : decode cX11_nextOrder 114 = .ok (.istore 4, 2) := by decide +kernel
theorem dX11_nextOrder_116 : decode cX11_nextOrder 116 = .ok (.aload_n 0, 1) := by decide +kernel
theorem dX11_nextOrder_117 : decode cX11_nextOrder 117 = .ok (.getfield 49, 3) := by decide +kernel
theorem dX11_nextOrder_120 : decode cX11_nextOrder 120 = .ok (.iload 5, 2) := by decide +kernel
theorem dX11_nextOrder_122 : decode cX11_nextOrder 122 = .ok (.aload_n 0, 1) := by decide +kernel
theorem dX11_nextOrder_123 : decode cX11_nextOrder 123 = .ok (.getfield 49, 3) := by decide +kernel
theorem dX11_nextOrder_126 : decode cX11_nextOrder 126 = .ok (.iload 6, 2) := by decide +kernel
theorem dX11_nextOrder_128 : decode cX11_nextOrder 128 = .ok (.iaload, 1) := by decide +kernel
theorem dX11_nextOrder_129 : decode cX11_nextOrder 129 = .ok (.iastore, 1) := by decide +kernel
theorem dX11_nextOrder_130 : decode cX11_nextOrder 130 = .ok (.aload_n 0, 1) := by decide +kernel
theorem dX11_nextOrder_131 : decode cX11_nextOrder 131 = .ok (.getfield 49, 3) := by decide +kernel
theorem dX11_nextOrder_134 : decode cX11_nextOrder 134 = .ok (.iload 6, 2) := by decide +kernel
theorem dX11_nextOrder_136 : decode cX11_nextOrder 136 = .ok (.iload 4, 2) := by decide +kernel
theorem dX11_nextOrder_138 : decode cX11_nextOrder 138 = .ok (.iastore, 1) := by decide +kernel
theorem dX11_nextOrder_139 : decode cX11_nextOrder 139 = .ok (.iinc 5 1, 3) := by decide +kernel
theorem dX11_nextOrder_142 : decode cX11_nextOrder 142 = .ok (.iinc 6 (-1), 3) := by decide +kernel
theorem dX11_nextOrder_145 : decode cX11_nextOrder 145 = .ok (.goto (-45), 3) := by decide +kernel
theorem dX11_nextOrder_148 : decode cX11_nextOrder 148 = .ok (.iconst 1, 1) := by decide +kernel
theorem dX11_nextOrder_149 : decode cX11_nextOrder 149 = .ok (.ireturn, 1) := by decide +kernel
theorem dX11_orders_0 : decode cX11_orders 0 = .ok (.aload_n 0, 1) := by decide +kernel
theorem dX11_orders_1 : decode cX11_orders 1 = .ok (.iconst 0, 1) := by decide +kernel
theorem dX11_orders_2 : decode cX11_orders 2 = .ok (.putfield 74, 3) := by decide +kernel
theorem dX11_orders_5 : decode cX11_orders 5 = .ok (.iload_n 1, 1) := by decide +kernel
theorem dX11_orders_6 : decode cX11_orders 6 = .ok (.i2l, 1) := by decide +kernel
theorem dX11_orders_7 : decode cX11_orders 7 = .ok (.lconst 0, 1) := by decide +kernel
theorem dX11_orders_8 : decode cX11_orders 8 = .ok (.lconst 1, 1) := by decide +kernel
theorem dX11_orders_9 : decode cX11_orders 9 = .ok (.invokestatic 127, 3) := by decide +kernel
theorem dX11_orders_12 : decode cX11_orders 12 = .ok (.ifCond .ne 5, 3) := by decide +kernel
theorem dX11_orders_15 : decode cX11_orders 15 = .ok (.iconst (-1), 1) := by decide +kernel
theorem dX11_orders_16 : decode cX11_orders 16 = .ok (.ireturn, 1) := by decide +kernel
theorem dX11_orders_17 : decode cX11_orders 17 = .ok (.aload_n 0, 1) := by decide +kernel
theorem dX11_orders_18 : decode cX11_orders 18 = .ok (.invokevirtual 223, 3) := by decide +kernel
theorem dX11_orders_21 : decode cX11_orders 21 = .ok (.istore_n 2, 1) := by decide +kernel
theorem dX11_orders_22 : decode cX11_orders 22 = .ok (.iload_n 2, 1) := by decide +kernel
theorem dX11_orders_23 : decode cX11_orders 23 = .ok (.bipush 7, 2) := by decide +kernel
theorem dX11_orders_25 : decode cX11_orders 25 = .ok (.if_icmp .le 6, 3) := by decide +kernel
theorem dX11_orders_28 : decode cX11_orders 28 = .ok (.bipush (-2), 2) := by decide +kernel
theorem dX11_orders_30 : decode cX11_orders 30 = .ok (.ireturn, 1) := by decide +kernel
theorem dX11_orders_31 : decode cX11_orders 31 = .ok (.iconst 0, 1) := by decide +kernel
theorem dX11_orders_32 : decode cX11_orders 32 = .ok (.istore_n 3, 1) := by decide +kernel
theorem dX11_orders_33 : decode cX11_orders 33 = .ok (.bipush (-4), 2) := by decide +kernel
theorem dX11_orders_35 : decode cX11_orders 35 = .ok (.istore 4, 2) := by decide +kernel
theorem dX11_orders_37 : decode cX11_orders 37 = .ok (.iconst 0, 1) := by decide +kernel
theorem dX11_orders_38 : decode cX11_orders 38 = .ok (.istore 5, 2) := by decide +kernel
theorem dX11_orders_40 : decode cX11_orders 40 = .ok (.iload 5, 2) := by decide +kernel
theorem dX11_orders_42 : decode cX11_orders 42 = .ok (.iload_n 2, 1) := by decide +kernel
theorem dX11_orders_43 : decode cX11_orders 43 = .ok (.if_icmp .ge 18, 3) := by decide +kernel
theorem dX11_orders_46 : decode cX11_orders 46 = .ok (.aload_n 0, 1) := by decide +kernel
theorem dX11_orders_47 : decode cX11_orders 47 = .ok (.getfield 49, 3) := by decide +kernel
theorem dX11_orders_50 : decode cX11_orders 50 = .ok (.iload 5, 2) := by decide +kernel
theorem dX11_orders_52 : decode cX11_orders 52 = .ok (.iload 5, 2) := by decide +kernel
theorem dX11_orders_54 : decode cX11_orders 54 = .ok (.iastore, 1) := by decide +kernel
theorem dX11_orders_55 : decode cX11_orders 55 = .ok (.iinc 5 1, 3) := by decide +kernel
theorem dX11_orders_58 : decode cX11_orders 58 = .ok (.goto (-18), 3) := by decide +kernel
theorem dX11_orders_61 : decode cX11_orders 61 = .ok (.iconst 1, 1) := by decide +kernel
theorem dX11_orders_62 : decode cX11_orders 62 = .ok (.istore 5, 2) := by decide +kernel
theorem dX11_orders_64 : decode cX11_orders 64 = .ok (.iload 5, 2) := by decide +kernel
theorem dX11_orders_66 : decode cX11_orders 66 = .ok (.ifCond .eq 147, 3) := by decide +kernel
theorem dX11_orders_69 : decode cX11_orders 69 = .ok (.aload_n 0, 1) := by decide +kernel
theorem dX11_orders_70 : decode cX11_orders 70 = .ok (.invokevirtual 78, 3) := by decide +kernel
theorem dX11_orders_73 : decode cX11_orders 73 = .ok (.iconst 1, 1) := by decide +kernel
theorem dX11_orders_74 : decode cX11_orders 74 = .ok (.istore 6, 2) := by decide +kernel
theorem dX11_orders_76 : decode cX11_orders 76 = .ok (.iconst 0, 1) := by decide +kernel
theorem dX11_orders_77 : decode cX11_orders 77 = .ok (.istore 7, 2) := by decide +kernel
theorem dX11_orders_79 : decode cX11_orders 79 = .ok (.iload 7, 2) := by decide +kernel
theorem dX11_orders_81 : decode cX11_orders 81 = .ok (.iload_n 2, 1) := by decide +kernel
theorem dX11_orders_82 : decode cX11_orders 82 = .ok (.if_icmp .ge 77, 3) := by decide +kernel
theorem dX11_orders_85 : decode cX11_orders 85 = .ok (.iload 6, 2) := by decide +kernel
theorem dX11_orders_87 : decode cX11_orders 87 = .ok (.ifCond .eq 72, 3) := by decide +kernel
theorem dX11_orders_90 : decode cX11_orders 90 = .ok (.aload_n 0, 1) := by decide +kernel
theorem dX11_orders_91 : decode cX11_orders 91 = .ok (.getfield 46, 3) := by decide +kernel
theorem dX11_orders_94 : decode cX11_orders 94 = .ok (.aload_n 0, 1) := by decide +kernel
theorem dX11_orders_95 : decode cX11_orders 95 = .ok (.getfield 49, 3) := by decide +kernel
theorem dX11_orders_98 : decode cX11_orders 98 = .ok (.iload 7, 2) := by decide +kernel
theorem dX11_orders_100 : decode cX11_orders 100 = .ok (.iaload, 1) := by decide +kernel
theorem dX11_orders_101 : decode cX11_orders 101 = .ok (.iaload, 1) := by decide +kernel
theorem dX11_orders_102 : decode cX11_orders 102 = .ok (.istore 8, 2) := by decide +kernel
theorem dX11_orders_104 : decode cX11_orders 104 = .ok (.aload_n 0, 1) := by decide +kernel
theorem dX11_orders_105 : decode cX11_orders 105 = .ok (.aload_n 0, 1) := by decide +kernel
theorem dX11_orders_106 : decode cX11_orders 106 = .ok (.getfield 140, 3) := by decide +kernel
theorem dX11_orders_109 : decode cX11_orders 109 = .ok (.aload_n 0, 1) := by decide +kernel
theorem dX11_orders_110 : decode cX11_orders 110 = .ok (.getfield 143, 3) := by decide +kernel
theorem dX11_orders_113 : decode cX11_orders 113 = .ok (.iload 8, 2) := by decide +kernel
theorem dX11_orders_115 : decode cX11_orders 115 = .ok (.aload_n 0, 1) := by decide +kernel
theorem dX11_orders_116 : decode cX11_orders 116 = .ok (.getfield 13, 3) := by decide +kernel
theorem dX11_orders_119 : decode cX11_orders 119 = .ok (.aload_n 0, 1) := by decide +kernel
theorem dX11_orders_120 : decode cX11_orders 120 = .ok (.iload 8, 2) := by decide +kernel
theorem dX11_orders_122 : decode cX11_orders 122 = .ok (.invokevirtual 197, 3) := by decide +kernel
theorem dX11_orders_125 : decode cX11_orders 125 = .ok (.iaload, 1) := by decide +kernel
theorem dX11_orders_126 : decode cX11_orders 126 = .ok (.invokevirtual 103, 3) := by decide +kernel
theorem dX11_orders_129 : decode cX11_orders 129 = .ok (.aload_n 0, 1) := by decide +kernel
theorem dX11_orders_130 : decode cX11_orders 130 = .ok (.getfield 19, 3) := by decide +kernel
theorem dX11_orders_133 : decode cX11_orders 133 = .ok (.iload 8, 2) := by decide +kernel
theorem dX11_orders_135 : decode cX11_orders 135 = .ok (.iaload, 1) := by decide +kernel
theorem dX11_orders_136 : decode cX11_orders 136 = .ok (.aload_n 0, 1) := by decide +kernel
theorem dX11_orders_137 : decode cX11_orders 137 = .ok (.getfield 16, 3) := by decide +kernel
theorem dX11_orders_140 : decode cX11_orders 140 = .ok (.iload 8, 2) := by decide +kernel
theorem dX11_orders_142 : decode cX11_orders 142 = .ok (.iaload, 1) := by decide +kernel
theorem dX11_orders_143 : decode cX11_orders 143 = .ok (.if_icmp .ne 7, 3) := by decide +kernel
theorem dX11_orders_146 : decode cX11_orders 146 = .ok (.iconst 1, 1) := by decide +kernel
theorem dX11_orders_147 : decode cX11_orders 147 = .ok (.goto 4, 3) := by decide +kernel
theorem dX11_orders_150 : decode cX11_orders 150 = .ok (.iconst 0, 1) := by decide +kernel
theorem dX11_orders_151 : decode cX11_orders 151 = .ok (.istore 6, 2) := by decide +kernel
theorem dX11_orders_153 : decode cX11_orders 153 = .ok (.iinc 7 1, 3) := by decide +kernel
theorem dX11_orders_156 : decode cX11_orders 156 = .ok (.goto (-77), 3) := by decide +kernel
theorem dX11_orders_159 : decode cX11_orders 159 = .ok (.iload 6, 2) := by decide +kernel
theorem dX11_orders_161 : decode cX11_orders 161 = .ok (.ifCond .eq 25, 3) := by decide +kernel
theorem dX11_orders_164 : decode cX11_orders 164 = .ok (.iload_n 3, 1) := by decide +kernel
theorem dX11_orders_165 : decode cX11_orders 165 = .ok (.ifCond .ne 21, 3) := by decide +kernel
theorem dX11_orders_168 : decode cX11_orders 168 = .ok (.iload_n 2, 1) := by decide +kernel
theorem dX11_orders_169 : decode cX11_orders 169 = .ok (.ifCond .le 17, 3) := by decide +kernel
theorem dX11_orders_172 : decode cX11_orders 172 = .ok (.aload_n 0, 1) := by decide +kernel
theorem dX11_orders_173 : decode cX11_orders 173 = .ok (.getfield 46, 3) := by decide +kernel
theorem dX11_orders_176 : decode cX11_orders 176 = .ok (.aload_n 0, 1) := by decide +kernel
theorem dX11_orders_177 : decode cX11_orders 177 = .ok (.getfield 49, 3) := by decide +kernel
theorem dX11_orders_180 : decode cX11_orders 180 = .ok (.iconst 0, 1) := by decide +kernel
theorem dX11_orders_181 : decode cX11_orders 181 = .ok (.iaload, 1) := by decide +kernel
theorem dX11_orders_182 : decode cX11_orders 182 = .ok (.iaload, 1) := by decide +kernel
theorem dX11_orders_183 : decode cX11_orders 183 = .ok (.goto 5, 3) := by decide +kernel
theorem dX11_orders_186 : decode cX11_orders 186 = .ok (.iload 4, 2) := by decide +kernel
theorem dX11_orders_188 : decode cX11_orders 188 = .ok (.istore 4, 2) := by decide +kernel
theorem dX11_orders_190 : decode cX11_orders 190 = .ok (.iload_n 3, 1) := by decide +kernel
theorem dX11_orders_191 : decode cX11_orders 191 = .ok (.iload 6, 2) := by decide +kernel
theorem dX11_orders_193 : decode cX11_orders 193 = .ok (.ifCond .eq 7, 3) := by decide +kernel
theorem dX11_orders_196 : decode cX11_orders 196 = .ok (.iconst 1, 1) := by decide +kernel
theorem dX11_orders_197 : decode cX11_orders 197 = .ok (.goto 4, 3) := by decide +kernel
theorem dX11_orders_200 : decode cX11_orders 200 = .ok (.iconst 0, 1) := by decide +kernel
theorem dX11_orders_201 : decode cX11_orders 201 = .ok (.iadd, 1) := by decide +kernel
theorem dX11_orders_202 : decode cX11_orders 202 = .ok (.istore_n 3, 1) := by decide +kernel
theorem dX11_orders_203 : decode cX11_orders 203 = .ok (.aload_n 0, 1) := by decide +kernel
theorem dX11_orders_204 : decode cX11_orders 204 = .ok (.iload_n 2, 1) := by decide +kernel
theorem dX11_orders_205 : decode cX11_orders 205 = .ok (.invokevirtual 226, 3) := by decide +kernel
theorem dX11_orders_208 : decode cX11_orders 208 = .ok (.istore 5, 2) := by decide +kernel
theorem dX11_orders_210 : decode cX11_orders 210 = .ok (.goto (-146), 3) := by decide +kernel
theorem dX11_orders_213 : decode cX11_orders 213 = .ok (.iload_n 1, 1) := by decide +kernel
theorem dX11_orders_214 : decode cX11_orders 214 = .ok (.ifCond .ne 7, 3) := by decide +kernel
theorem dX11_orders_217 : decode cX11_orders 217 = .ok (.iload_n 3, 1) := by decide +kernel
theorem dX11_orders_218 : decode cX11_orders 218 = .ok (.goto 5, 3) := by decide +kernel
theorem dX11_orders_221 : decode cX11_orders 221 = .ok (.iload 4, 2) := by decide +kernel
theorem dX11_orders_223 : decode cX11_orders 223 = .ok (.ireturn, 1) := by decide +kernel
theorem dX11_joined_0 : decode cX11_joined 0 = .ok (.aload_n 0, 1) := by decide +kernel
theorem dX11_joined_1 : decode cX11_joined 1 = .ok (.iconst 0, 1) := by decide +kernel
theorem dX11_joined_2 : decode cX11_joined 2 = .ok (.putfield 74, 3) := by decide +kernel
theorem dX11_joined_5 : decode cX11_joined 5 = .ok (.iload_n 2, 1) := by decide +kernel
theorem dX11_joined_6 : decode cX11_joined 6 = .ok (.i2l, 1) := by decide +kernel
theorem dX11_joined_7 : decode cX11_joined 7 = .ok (.lconst 0, 1) := by decide +kernel
theorem dX11_joined_8 : decode cX11_joined 8 = .ok (.lconst 1, 1) := by decide +kernel
theorem dX11_joined_9 : decode cX11_joined 9 = .ok (.invokestatic 127, 3) := by decide +kernel
theorem dX11_joined_12 : decode cX11_joined 12 = .ok (.ifCond .eq 12, 3) := by decide +kernel
theorem dX11_joined_15 : decode cX11_joined 15 = .ok (.aload_n 0, 1) := by decide +kernel
theorem dX11_joined_16 : decode cX11_joined 16 = .ok (.iload_n 1, 1) := by decide +kernel
theorem dX11_joined_17 : decode cX11_joined 17 = .ok (.iconst 1, 1) := by decide +kernel
theorem dX11_joined_18 : decode cX11_joined 18 = .ok (.invokevirtual 154, 3) := by decide +kernel
theorem dX11_joined_21 : decode cX11_joined 21 = .ok (.goto 4, 3) := by decide +kernel
theorem dX11_joined_24 : decode cX11_joined 24 = .ok (.iconst (-1), 1) := by decide +kernel
theorem dX11_joined_25 : decode cX11_joined 25 = .ok (.istore_n 3, 1) := by decide +kernel
theorem dX11_joined_26 : decode cX11_joined 26 = .ok (.iload_n 3, 1) := by decide +kernel
theorem dX11_joined_27 : decode cX11_joined 27 = .ok (.ifCond .ge 5, 3) := by decide +kernel
theorem dX11_joined_30 : decode cX11_joined 30 = .ok (.iload_n 3, 1) := by decide +kernel
theorem dX11_joined_31 : decode cX11_joined 31 = .ok (.ireturn, 1) := by decide +kernel
theorem dX11_joined_32 : decode cX11_joined 32 = .ok (.aload_n 0, 1) := by decide +kernel
theorem dX11_joined_33 : decode cX11_joined 33 = .ok (.getfield 64, 3) := by decide +kernel
theorem dX11_joined_36 : decode cX11_joined 36 = .ok (.iload_n 1, 1) := by decide +kernel
theorem dX11_joined_37 : decode cX11_joined 37 = .ok (.iaload, 1) := by decide +kernel
theorem dX11_joined_38 : decode cX11_joined 38 = .ok (.i2l, 1) := by decide +kernel
theorem dX11_joined_39 : decode cX11_joined 39 = .ok (.lconst 1, 1) := by decide +kernel
theorem dX11_joined_40 : decode cX11_joined 40 = .ok (.ldc2_w 229, 3) := by decide +kernel
theorem dX11_joined_43 : decode cX11_joined 43 = .ok (.invokestatic 127, 3) := by decide +kernel
theorem dX11_joined_46 : decode cX11_joined 46 = .ok (.istore 4, 2) := by decide +kernel
theorem dX11_joined_48 : decode cX11_joined 48 = .ok (.iconst 0, 1) := by decide +kernel
theorem dX11_joined_49 : decode cX11_joined 49 = .ok (.istore 5, 2) := by decide +kernel
theorem dX11_joined_51 : decode cX11_joined 51 = .ok (.iload 5, 2) := by decide +kernel
theorem dX11_joined_53 : decode cX11_joined 53 = .ok (.aload_n 0, 1) := by decide +kernel
theorem dX11_joined_54 : decode cX11_joined 54 = .ok (.getfield 64, 3) := by decide +kernel
theorem dX11_joined_57 : decode cX11_joined 57 = .ok (.iload_n 1, 1) := by decide +kernel
theorem dX11_joined_58 : decode cX11_joined 58 = .ok (.iaload, 1) := by decide +kernel
theorem dX11_joined_59 : decode cX11_joined 59 = .ok (.if_icmp .ge 38, 3) := by decide +kernel
theorem dX11_joined_62 : decode cX11_joined 62 = .ok (.iload 4, 2) := by decide +kernel
theorem dX11_joined_64 : decode cX11_joined 64 = .ok (.ifCond .eq 33, 3) := by decide +kernel
theorem dX11_joined_67 : decode cX11_joined 67 = .ok (.aload_n 0, 1) := by decide +kernel
theorem dX11_joined_68 : decode cX11_joined 68 = .ok (.getfield 67, 3) := by decide +kernel
theorem dX11_joined_71 : decode cX11_joined 71 = .ok (.bipush 100, 2) := by decide +kernel
theorem dX11_joined_73 : decode cX11_joined 73 = .ok (.iload_n 1, 1) := by decide +kernel
theorem dX11_joined_74 : decode cX11_joined 74 = .ok (.imul, 1) := by decide +kernel
theorem dX11_joined_75 : decode cX11_joined 75 = .ok (.iload 5, 2) := by decide +kernel
theorem dX11_joined_77 : decode cX11_joined 77 = .ok (.iadd, 1) := by decide +kernel
theorem dX11_joined_78 : decode cX11_joined 78 = .ok (.laload, 1) := by decide +kernel
theorem dX11_joined_79 : decode cX11_joined 79 = .ok (.lconst 0, 1) := by decide +kernel
theorem dX11_joined_80 : decode cX11_joined 80 = .ok (.lcmp, 1) := by decide +kernel
theorem dX11_joined_81 : decode cX11_joined 81 = .ok (.ifCond .le 7, 3) := by decide +kernel
theorem dX11_joined_84 : decode cX11_joined 84 = .ok (.iconst 1, 1) := by decide +kernel
theorem dX11_joined_85 : decode cX11_joined 85 = .ok (.goto 4, 3) := by decide +kernel
theorem dX11_joined_88 : decode cX11_joined 88 = .ok (.iconst 0, 1) := by decide +kernel
theorem dX11_joined_89 : decode cX11_joined 89 = .ok (.istore 4, 2) := by decide +kernel
theorem dX11_joined_91 : decode cX11_joined 91 = .ok (.iinc 5 1, 3) := by decide +kernel
theorem dX11_joined_94 : decode cX11_joined 94 = .ok (.goto (-43), 3) := by decide +kernel
theorem dX11_joined_97 : decode cX11_joined 97 = .ok (.iload 4, 2) := by decide +kernel
theorem dX11_joined_99 : decode cX11_joined 99 = .ok (.ifCond .ne 6, 3) := by decide +kernel
theorem dX11_joined_102 : decode cX11_joined 102 = .ok (.bipush (-13), 2) := by decide +kernel
theorem dX11_joined_104 : decode cX11_joined 104 = .ok (.ireturn, 1) := by decide +kernel
theorem dX11_joined_105 : decode cX11_joined 105 = .ok (.iconst 0, 1) := by decide +kernel
theorem dX11_joined_106 : decode cX11_joined 106 = .ok (.istore 5, 2) := by decide +kernel
theorem dX11_joined_108 : decode cX11_joined 108 = .ok (.aload_n 0, 1) := by decide +kernel
theorem dX11_joined_109 : decode cX11_joined 109 = .ok (.iload_n 1, 1) := by decide +kernel
theorem dX11_joined_110 : decode cX11_joined 110 = .ok (.iconst 0, 1) := by decide +kernel
theorem dX11_joined_111 : decode cX11_joined 111 = .ok (.invokevirtual 231, 3) := by decide +kernel
theorem dX11_joined_114 : decode cX11_joined 114 = .ok (.istore 6, 2) := by decide +kernel
theorem dX11_joined_116 : decode cX11_joined 116 = .ok (.iload_n 2, 1) := by decide +kernel
theorem dX11_joined_117 : decode cX11_joined 117 = .ok (.iconst 1, 1) := by decide +kernel
theorem dX11_joined_118 : decode cX11_joined 118 = .ok (.if_icmp .ne 19, 3) := by decide +kernel
theorem dX11_joined_121 : decode cX11_joined 121 = .ok (.aload_n 0, 1) := by decide +kernel
theorem dX11_joined_122 : decode cX11_joined 122 = .ok (.iload_n 1, 1) := by decide +kernel
theorem dX11_joined_123 : decode cX11_joined 123 = .ok (.iload 5, 2) := by decide +kernel
theorem dX11_joined_125 : decode cX11_joined 125 = .ok (.invokevirtual 231, 3) := by decide +kernel
theorem dX11_joined_128 : decode cX11_joined 128 = .ok (.ifCond .le 9, 3) := by decide +kernel
theorem dX11_joined_131 : decode cX11_joined 131 = .ok (.iinc 5 1, 3) := by decide +kernel
theorem dX11_joined_134 : decode cX11_joined 134 = .ok (.goto (-18), 3) := by decide +kernel
theorem dX11_joined_137 : decode cX11_joined 137 = .ok (.iload_n 2, 1) := by decide +kernel
theorem dX11_joined_138 : decode cX11_joined 138 = .ok (.ifCond .ne 8, 3) := by decide +kernel
theorem dX11_joined_141 : decode cX11_joined 141 = .ok (.iload 6, 2) := by decide +kernel
theorem dX11_joined_143 : decode cX11_joined 143 = .ok (.goto 5, 3) := by decide +kernel
theorem dX11_joined_146 : decode cX11_joined 146 = .ok (.iload 5, 2) := by decide +kernel
theorem dX11_joined_148 : decode cX11_joined 148 = .ok (.ireturn, 1) := by decide +kernel
theorem dX11_hadOf_0 : decode cX11_hadOf 0 = .ok (.iconst 0, 1) := by decide +kernel
theorem dX11_hadOf_1 : decode cX11_hadOf 1 = .ok (.istore_n 3, 1) := by decide +kernel
theorem dX11_hadOf_2 : decode cX11_hadOf 2 = .ok (.iconst 0, 1) := by decide +kernel
theorem dX11_hadOf_3 : decode cX11_hadOf 3 = .ok (.istore 4, 2) := by decide +kernel
theorem dX11_hadOf_5 : decode cX11_hadOf 5 = .ok (.iload 4, 2) := by decide +kernel
theorem dX11_hadOf_7 : decode cX11_hadOf 7 = .ok (.aload_n 0, 1) := by decide +kernel
theorem dX11_hadOf_8 : decode cX11_hadOf 8 = .ok (.getfield 64, 3) := by decide +kernel
theorem dX11_hadOf_11 : decode cX11_hadOf 11 = .ok (.iload_n 1, 1) := by decide +kernel
theorem dX11_hadOf_12 : decode cX11_hadOf 12 = .ok (.iaload, 1) := by decide +kernel
theorem dX11_hadOf_13 : decode cX11_hadOf 13 = .ok (.if_icmp .ge 42, 3) := by decide +kernel
theorem dX11_hadOf_16 : decode cX11_hadOf 16 = .ok (.iload_n 3, 1) := by decide +kernel
theorem dX11_hadOf_17 : decode cX11_hadOf 17 = .ok (.aload_n 0, 1) := by decide +kernel
theorem dX11_hadOf_18 : decode cX11_hadOf 18 = .ok (.aload_n 0, 1) := by decide +kernel
theorem dX11_hadOf_19 : decode cX11_hadOf 19 = .ok (.getfield 67, 3) := by decide +kernel
theorem dX11_hadOf_22 : decode cX11_hadOf 22 = .ok (.bipush 100, 2) := by decide +kernel
theorem dX11_hadOf_24 : decode cX11_hadOf 24 = .ok (.iload_n 1, 1) := by decide +kernel
theorem dX11_hadOf_25 : decode cX11_hadOf 25 = .ok (.imul, 1) := by decide +kernel
theorem dX11_hadOf_26 : decode cX11_hadOf 26 = .ok (.iload 4, 2) := by decide +kernel
theorem dX11_hadOf_28 : decode cX11_hadOf 28 = .ok (.iadd, 1) := by decide +kernel
theorem dX11_hadOf_29 : decode cX11_hadOf 29 = .ok (.laload, 1) := by decide +kernel
theorem dX11_hadOf_30 : decode cX11_hadOf 30 = .ok (.iload_n 2, 1) := by decide +kernel
theorem dX11_hadOf_31 : decode cX11_hadOf 31 = .ok (.i2l, 1) := by decide +kernel
theorem dX11_hadOf_32 : decode cX11_hadOf 32 = .ok (.ladd, 1) := by decide +kernel
theorem dX11_hadOf_33 : decode cX11_hadOf 33 = .ok (.iconst 0, 1) := by decide +kernel
theorem dX11_hadOf_34 : decode cX11_hadOf 34 = .ok (.bipush 11, 2) := by decide +kernel
theorem dX11_hadOf_36 : decode cX11_hadOf 36 = .ok (.invokevirtual 205, 3) := by decide +kernel
theorem dX11_hadOf_39 : decode cX11_hadOf 39 = .ok (.ifCond .eq 7, 3) := by decide +kernel
theorem dX11_hadOf_42 : decode cX11_hadOf 42 = .ok (.iconst 1, 1) := by decide +kernel
theorem dX11_hadOf_43 : decode cX11_hadOf 43 = .ok (.goto 4, 3) := by decide +kernel
theorem dX11_hadOf_46 : decode cX11_hadOf 46 = .ok (.iconst 0, 1) := by decide +kernel
theorem dX11_hadOf_47 : decode cX11_hadOf 47 = .ok (.iadd, 1) := by decide +kernel
theorem dX11_hadOf_48 : decode cX11_hadOf 48 = .ok (.istore_n 3, 1) := by decide +kernel
theorem dX11_hadOf_49 : decode cX11_hadOf 49 = .ok (.iinc 4 1, 3) := by decide +kernel
theorem dX11_hadOf_52 : decode cX11_hadOf 52 = .ok (.goto (-47), 3) := by decide +kernel
theorem dX11_hadOf_55 : decode cX11_hadOf 55 = .ok (.iload_n 3, 1) := by decide +kernel
theorem dX11_hadOf_56 : decode cX11_hadOf 56 = .ok (.ireturn, 1) := by decide +kernel
theorem dX11_draw_0 : decode cX11_draw 0 = .ok (.aload_n 0, 1) := by decide +kernel
theorem dX11_draw_1 : decode cX11_draw 1 = .ok (.aload_n 0, 1) := by decide +kernel
theorem dX11_draw_2 : decode cX11_draw 2 = .ok (.getfield 234, 3) := by decide +kernel
theorem dX11_draw_5 : decode cX11_draw 5 = .ok (.ldc 237, 2) := by decide +kernel
theorem dX11_draw_7 : decode cX11_draw 7 = .ok (.imul, 1) := by decide +kernel
theorem dX11_draw_8 : decode cX11_draw 8 = .ok (.sipush 12345, 3) := by decide +kernel
theorem dX11_draw_11 : decode cX11_draw 11 = .ok (.iadd, 1) := by decide +kernel
theorem dX11_draw_12 : decode cX11_draw 12 = .ok (.putfield 234, 3) := by decide +kernel
theorem dX11_draw_15 : decode cX11_draw 15 = .ok (.aload_n 0, 1) := by decide +kernel
theorem dX11_draw_16 : decode cX11_draw 16 = .ok (.getfield 234, 3) := by decide +kernel
theorem dX11_draw_19 : decode cX11_draw 19 = .ok (.ldc 238, 2) := by decide +kernel
theorem dX11_draw_21 : decode cX11_draw 21 = .ok (.iand, 1) := by decide +kernel
theorem dX11_draw_22 : decode cX11_draw 22 = .ok (.ldc 239, 2) := by decide +kernel
theorem dX11_draw_24 : decode cX11_draw 24 = .ok (.idiv, 1) := by decide +kernel
theorem dX11_draw_25 : decode cX11_draw 25 = .ok (.iload_n 1, 1) := by decide +kernel
theorem dX11_draw_26 : decode cX11_draw 26 = .ok (.irem, 1) := by decide +kernel
theorem dX11_draw_27 : decode cX11_draw 27 = .ok (.ireturn, 1) := by decide +kernel
theorem dX11_seeded_0 : decode cX11_seeded 0 = .ok (.aload_n 0, 1) := by decide +kernel
theorem dX11_seeded_1 : decode cX11_seeded 1 = .ok (.iconst 0, 1) := by decide +kernel
theorem dX11_seeded_2 : decode cX11_seeded 2 = .ok (.putfield 74, 3) := by decide +kernel
theorem dX11_seeded_5 : decode cX11_seeded 5 = .ok (.iload_n 1, 1) := by decide +kernel
theorem dX11_seeded_6 : decode cX11_seeded 6 = .ok (.i2l, 1) := by decide +kernel
theorem dX11_seeded_7 : decode cX11_seeded 7 = .ok (.lconst 1, 1) := by decide +kernel
theorem dX11_seeded_8 : decode cX11_seeded 8 = .ok (.ldc2_w 240, 3) := by decide +kernel
theorem dX11_seeded_11 : decode cX11_seeded 11 = .ok (.invokestatic 127, 3) := by decide +kernel
theorem dX11_seeded_14 : decode cX11_seeded 14 = .ok (.ifCond .eq 13, 3) := by decide +kernel
theorem dX11_seeded_17 : decode cX11_seeded 17 = .ok (.iload_n 3, 1) := by decide +kernel
theorem dX11_seeded_18 : decode cX11_seeded 18 = .ok (.i2l, 1) := by decide +kernel
theorem dX11_seeded_19 : decode cX11_seeded 19 = .ok (.lconst 0, 1) := by decide +kernel
theorem dX11_seeded_20 : decode cX11_seeded 20 = .ok (.lconst 1, 1) := by decide +kernel
theorem dX11_seeded_21 : decode cX11_seeded 21 = .ok (.invokestatic 127, 3) := by decide +kernel
theorem dX11_seeded_24 : decode cX11_seeded 24 = .ok (.ifCond .ne 5, 3) := by decide +kernel
theorem dX11_seeded_27 : decode cX11_seeded 27 = .ok (.iconst (-1), 1) := by decide +kernel
theorem dX11_seeded_28 : decode cX11_seeded 28 = .ok (.ireturn, 1) := by decide +kernel
theorem dX11_seeded_29 : decode cX11_seeded 29 = .ok (.aload_n 0, 1) := by decide +kernel
theorem dX11_seeded_30 : decode cX11_seeded 30 = .ok (.iload_n 2, 1) := by decide +kernel
theorem dX11_seeded_31 : decode cX11_seeded 31 = .ok (.putfield 234, 3) := by decide +kernel
theorem dX11_seeded_34 : decode cX11_seeded 34 = .ok (.aload_n 0, 1) := by decide +kernel
theorem dX11_seeded_35 : decode cX11_seeded 35 = .ok (.invokevirtual 78, 3) := by decide +kernel
theorem dX11_seeded_38 : decode cX11_seeded 38 = .ok (.iconst 0, 1) := by decide +kernel
theorem dX11_seeded_39 : decode cX11_seeded 39 = .ok (.istore 4, 2) := by decide +kernel
theorem dX11_seeded_41 : decode cX11_seeded 41 = .ok (.iload 4, 2) := by decide +kernel
theorem dX11_seeded_43 : decode cX11_seeded 43 = .ok (.iload_n 1, 1) := by decide +kernel
theorem dX11_seeded_44 : decode cX11_seeded 44 = .ok (.if_icmp .ge 64, 3) := by decide +kernel
theorem dX11_seeded_47 : decode cX11_seeded 47 = .ok (.aload_n 0, 1) := by decide +kernel
theorem dX11_seeded_48 : decode cX11_seeded 48 = .ok (.bipush 12, 2) := by decide +kernel
theorem dX11_seeded_50 : decode cX11_seeded 50 = .ok (.invokevirtual 242, 3) := by decide +kernel
theorem dX11_seeded_53 : decode cX11_seeded 53 = .ok (.istore 5, 2) := by decide +kernel
theorem dX11_seeded_55 : decode cX11_seeded 55 = .ok (.aload_n 0, 1) := by decide +kernel
theorem dX11_seeded_56 : decode cX11_seeded 56 = .ok (.bipush 9, 2) := by decide +kernel
theorem dX11_seeded_58 : decode cX11_seeded 58 = .ok (.invokevirtual 242, 3) := by decide +kernel
theorem dX11_seeded_61 : decode cX11_seeded 61 = .ok (.iconst 1, 1) := by decide +kernel
theorem dX11_seeded_62 : decode cX11_seeded 62 = .ok (.iadd, 1) := by decide +kernel
theorem dX11_seeded_63 : decode cX11_seeded 63 = .ok (.istore 6, 2) := by decide +kernel
theorem dX11_seeded_65 : decode cX11_seeded 65 = .ok (.aload_n 0, 1) := by decide +kernel
theorem dX11_seeded_66 : decode cX11_seeded 66 = .ok (.getfield 19, 3) := by decide +kernel
theorem dX11_seeded_69 : decode cX11_seeded 69 = .ok (.iload 5, 2) := by decide +kernel
theorem dX11_seeded_71 : decode cX11_seeded 71 = .ok (.iaload, 1) := by decide +kernel
theorem dX11_seeded_72 : decode cX11_seeded 72 = .ok (.ifCond .le 14, 3) := by decide +kernel
theorem dX11_seeded_75 : decode cX11_seeded 75 = .ok (.aload_n 0, 1) := by decide +kernel
theorem dX11_seeded_76 : decode cX11_seeded 76 = .ok (.getfield 19, 3) := by decide +kernel
theorem dX11_seeded_79 : decode cX11_seeded 79 = .ok (.iload 5, 2) := by decide +kernel
theorem dX11_seeded_81 : decode cX11_seeded 81 = .ok (.iconst 0, 1) := by decide +kernel
theorem dX11_seeded_82 : decode cX11_seeded 82 = .ok (.iastore, 1) := by decide +kernel
theorem dX11_seeded_83 : decode cX11_seeded 83 = .ok (.goto 19, 3) := by decide +kernel
theorem dX11_seeded_86 : decode cX11_seeded 86 = .ok (.aload_n 0, 1) := by decide +kernel
theorem dX11_seeded_87 : decode cX11_seeded 87 = .ok (.aload_n 0, 1) := by decide +kernel
theorem dX11_seeded_88 : decode cX11_seeded 88 = .ok (.getfield 140, 3) := by decide +kernel
theorem dX11_seeded_91 : decode cX11_seeded 91 = .ok (.aload_n 0, 1) := by decide +kernel
theorem dX11_seeded_92 : decode cX11_seeded 92 = .ok (.getfield 143, 3) := by decide +kernel
theorem dX11_seeded_95 : decode cX11_seeded 95 = .ok (.iload 5, 2) := by decide +kernel
theorem dX11_seeded_97 : decode cX11_seeded 97 = .ok (.iload 6, 2) := by decide +kernel
theorem dX11_seeded_99 : decode cX11_seeded 99 = .ok (.invokevirtual 103, 3) := by decide +kernel
theorem dX11_seeded_102 : decode cX11_seeded 102 = .ok (.iinc 4 1, 3) := by decide +kernel
theorem dX11_seeded_105 : decode cX11_seeded 105 = .ok (.goto (-64), 3) := by decide +kernel
theorem dX11_seeded_108 : decode cX11_seeded 108 = .ok (.iload_n 3, 1) := by decide +kernel
theorem dX11_seeded_109 : decode cX11_seeded 109 = .ok (.ifCond .ne 10, 3) := by decide +kernel
theorem dX11_seeded_112 : decode cX11_seeded 112 = .ok (.aload_n 0, 1) := by decide +kernel
theorem dX11_seeded_113 : decode cX11_seeded 113 = .ok (.invokevirtual 202, 3) := by decide +kernel
theorem dX11_seeded_116 : decode cX11_seeded 116 = .ok (.goto 7, 3) := by decide +kernel
theorem dX11_seeded_119 : decode cX11_seeded 119 = .ok (.aload_n 0, 1) := by decide +kernel
theorem dX11_seeded_120 : decode cX11_seeded 120 = .ok (.invokevirtual 213, 3) := by decide +kernel
theorem dX11_seeded_123 : decode cX11_seeded 123 = .ok (.ireturn, 1) := by decide +kernel
theorem dX11_skippedIn_0 : decode cX11_skippedIn 0 = .ok (.aload_n 0, 1) := by decide +kernel
theorem dX11_skippedIn_1 : decode cX11_skippedIn 1 = .ok (.getfield 61, 3) := by decide +kernel
theorem dX11_skippedIn_4 : decode cX11_skippedIn 4 = .ok (.iload_n 1, 1) := by decide +kernel
theorem dX11_skippedIn_5 : decode cX11_skippedIn 5 = .ok (.iaload, 1) := by decide +kernel
theorem dX11_skippedIn_6 : decode cX11_skippedIn 6 = .ok (.ifCond .ne 9, 3) := by decide +kernel
theorem dX11_skippedIn_9 : decode cX11_skippedIn 9 = .ok (.ldc2_w 245, 3) := by decide +kernel
theorem dX11_skippedIn_12 : decode cX11_skippedIn 12 = .ok (.goto 22, 3) := by decide +kernel
theorem dX11_skippedIn_15 : decode cX11_skippedIn 15 = .ok (.aload_n 0, 1) := by decide +kernel
theorem dX11_skippedIn_16 : decode cX11_skippedIn 16 = .ok (.getfield 61, 3) := by decide +kernel
theorem dX11_skippedIn_19 : decode cX11_skippedIn 19 = .ok (.iload_n 1, 1) := by decide +kernel
theorem dX11_skippedIn_20 : decode cX11_skippedIn 20 = .ok (.iaload, 1) := by decide +kernel
theorem dX11_skippedIn_21 : decode cX11_skippedIn 21 = .ok (.iconst 1, 1) := by decide +kernel
theorem dX11_skippedIn_22 : decode cX11_skippedIn 22 = .ok (.if_icmp .ne 9, 3) := by decide +kernel
theorem dX11_skippedIn_25 : decode cX11_skippedIn 25 = .ok (.ldc2_w 247, 3) := by decide +kernel
theorem dX11_skippedIn_28 : decode cX11_skippedIn 28 = .ok (.goto 6, 3) := by decide +kernel
theorem dX11_skippedIn_31 : decode cX11_skippedIn 31 = .ok (.ldc2_w 249, 3) := by decide +kernel
theorem dX11_skippedIn_34 : decode cX11_skippedIn 34 = .ok (.lreturn, 1) := by decide +kernel
theorem dX11_judge_0 : decode cX11_judge 0 = .ok (.aload_n 0, 1) := by decide +kernel
theorem dX11_judge_1 : decode cX11_judge 1 = .ok (.iconst 0, 1) := by decide +kernel
theorem dX11_judge_2 : decode cX11_judge 2 = .ok (.putfield 74, 3) := by decide +kernel
theorem dX11_judge_5 : decode cX11_judge 5 = .ok (.aload_n 0, 1) := by decide +kernel
theorem dX11_judge_6 : decode cX11_judge 6 = .ok (.iload_n 1, 1) := by decide +kernel
theorem dX11_judge_7 : decode cX11_judge 7 = .ok (.invokevirtual 251, 3) := by decide +kernel
theorem dX11_judge_10 : decode cX11_judge 10 = .ok (.istore_n 2, 1) := by decide +kernel
theorem dX11_judge_11 : decode cX11_judge 11 = .ok (.iload_n 2, 1) := by decide +kernel
theorem dX11_judge_12 : decode cX11_judge 12 = .ok (.ifCond .ge 5, 3) := by decide +kernel
theorem dX11_judge_15 : decode cX11_judge 15 = .ok (.iload_n 2, 1) := by decide +kernel
theorem dX11_judge_16 : decode cX11_judge 16 = .ok (.ireturn, 1) := by decide +kernel
theorem dX11_judge_17 : decode cX11_judge 17 = .ok (.iconst 0, 1) := by decide +kernel
theorem dX11_judge_18 : decode cX11_judge 18 = .ok (.istore_n 3, 1) := by decide +kernel
theorem dX11_judge_19 : decode cX11_judge 19 = .ok (.iload_n 3, 1) := by decide +kernel
theorem dX11_judge_20 : decode cX11_judge 20 = .ok (.bipush 12, 2) := by decide +kernel
theorem dX11_judge_22 : decode cX11_judge 22 = .ok (.if_icmp .ge 58, 3) := by decide +kernel
theorem dX11_judge_25 : decode cX11_judge 25 = .ok (.iload_n 3, 1) := by decide +kernel
theorem dX11_judge_26 : decode cX11_judge 26 = .ok (.aload_n 0, 1) := by decide +kernel
theorem dX11_judge_27 : decode cX11_judge 27 = .ok (.getfield 64, 3) := by decide +kernel
theorem dX11_judge_30 : decode cX11_judge 30 = .ok (.iload_n 1, 1) := by decide +kernel
theorem dX11_judge_31 : decode cX11_judge 31 = .ok (.iaload, 1) := by decide +kernel
theorem dX11_judge_32 : decode cX11_judge 32 = .ok (.if_icmp .ge 48, 3) := by decide +kernel
theorem dX11_judge_35 : decode cX11_judge 35 = .ok (.aload_n 0, 1) := by decide +kernel
theorem dX11_judge_36 : decode cX11_judge 36 = .ok (.getfield 67, 3) := by decide +kernel
theorem dX11_judge_39 : decode cX11_judge 39 = .ok (.bipush 100, 2) := by decide +kernel
theorem dX11_judge_41 : decode cX11_judge 41 = .ok (.iload_n 1, 1) := by decide +kernel
theorem dX11_judge_42 : decode cX11_judge 42 = .ok (.imul, 1) := by decide +kernel
theorem dX11_judge_43 : decode cX11_judge 43 = .ok (.iload_n 3, 1) := by decide +kernel
theorem dX11_judge_44 : decode cX11_judge 44 = .ok (.iadd, 1) := by decide +kernel
theorem dX11_judge_45 : decode cX11_judge 45 = .ok (.laload, 1) := by decide +kernel
theorem dX11_judge_46 : decode cX11_judge 46 = .ok (.lstore 4, 2) := by decide +kernel
theorem dX11_judge_48 : decode cX11_judge 48 = .ok (.lload 4, 2) := by decide +kernel
theorem dX11_judge_50 : decode cX11_judge 50 = .ok (.aload_n 0, 1) := by decide +kernel
theorem dX11_judge_51 : decode cX11_judge 51 = .ok (.iload_n 1, 1) := by decide +kernel
theorem dX11_judge_52 : decode cX11_judge 52 = .ok (.invokevirtual 254, 3) := by decide +kernel
theorem dX11_judge_55 : decode cX11_judge 55 = .ok (.lcmp, 1) := by decide +kernel
theorem dX11_judge_56 : decode cX11_judge 56 = .ok (.ifCond .eq 18, 3) := by decide +kernel
theorem dX11_judge_59 : decode cX11_judge 59 = .ok (.lload 4, 2) := by decide +kernel
theorem dX11_judge_61 : decode cX11_judge 61 = .ok (.aload_n 0, 1) := by decide +kernel
theorem dX11_judge_62 : decode cX11_judge 62 = .ok (.getfield 16, 3) := by decide +kernel
theorem dX11_judge_65 : decode cX11_judge 65 = .ok (.iload_n 3, 1) := by decide +kernel
theorem dX11_judge_66 : decode cX11_judge 66 = .ok (.iaload, 1) := by decide +kernel
theorem dX11_judge_67 : decode cX11_judge 67 = .ok (.i2l, 1) := by decide +kernel
theorem dX11_judge_68 : decode cX11_judge 68 = .ok (.lcmp, 1) := by decide +kernel
theorem dX11_judge_69 : decode cX11_judge 69 = .ok (.ifCond .eq 5, 3) := by decide +kernel
theorem dX11_judge_72 : decode cX11_judge 72 = .ok (.iload_n 3, 1) := by decide +kernel
theorem dX11_judge_73 : decode cX11_judge 73 = .ok (.ireturn, 1) := by decide +kernel
theorem dX11_judge_74 : decode cX11_judge 74 = .ok (.iinc 3 1, 3) := by decide +kernel
theorem dX11_judge_77 : decode cX11_judge 77 = .ok (.goto (-58), 3) := by decide +kernel
theorem dX11_judge_80 : decode cX11_judge 80 = .ok (.aload_n 0, 1) := by decide +kernel
theorem dX11_judge_81 : decode cX11_judge 81 = .ok (.getfield 64, 3) := by decide +kernel
theorem dX11_judge_84 : decode cX11_judge 84 = .ok (.iload_n 1, 1) := by decide +kernel
theorem dX11_judge_85 : decode cX11_judge 85 = .ok (.iaload, 1) := by decide +kernel
theorem dX11_judge_86 : decode cX11_judge 86 = .ok (.bipush 12, 2) := by decide +kernel
theorem dX11_judge_88 : decode cX11_judge 88 = .ok (.if_icmp .ge 12, 3) := by decide +kernel
theorem dX11_judge_91 : decode cX11_judge 91 = .ok (.aload_n 0, 1) := by decide +kernel
theorem dX11_judge_92 : decode cX11_judge 92 = .ok (.getfield 64, 3) := by decide +kernel
theorem dX11_judge_95 : decode cX11_judge 95 = .ok (.iload_n 1, 1) := by decide +kernel
theorem dX11_judge_96 : decode cX11_judge 96 = .ok (.iaload, 1) := by decide +kernel
theorem dX11_judge_97 : decode cX11_judge 97 = .ok (.goto 21, 3) := by decide +kernel
theorem dX11_judge_100 : decode cX11_judge 100 = .ok (.aload_n 0, 1) := by decide +kernel
theorem dX11_judge_101 : decode cX11_judge 101 = .ok (.getfield 64, 3) := by decide +kernel
theorem dX11_judge_104 : decode cX11_judge 104 = .ok (.iload_n 1, 1) := by decide +kernel
theorem dX11_judge_105 : decode cX11_judge 105 = .ok (.iaload, 1) := by decide +kernel
theorem dX11_judge_106 : decode cX11_judge 106 = .ok (.bipush 12, 2) := by decide +kernel
theorem dX11_judge_108 : decode cX11_judge 108 = .ok (.if_icmp .le 8, 3) := by decide +kernel
theorem dX11_judge_111 : decode cX11_judge 111 = .ok (.bipush 12, 2) := by decide +kernel
theorem dX11_judge_113 : decode cX11_judge 113 = .ok (.goto 5, 3) := by decide +kernel
theorem dX11_judge_116 : decode cX11_judge 116 = .ok (.bipush (-4), 2) := by decide +kernel
theorem dX11_judge_118 : decode cX11_judge 118 = .ok (.ireturn, 1) := by decide +kernel
theorem dX11_count_0 : decode cX11_count 0 = .ok (.aload_n 0, 1) := by decide +kernel
theorem dX11_count_1 : decode cX11_count 1 = .ok (.iconst 0, 1) := by decide +kernel
theorem dX11_count_2 : decode cX11_count 2 = .ok (.putfield 74, 3) := by decide +kernel
theorem dX11_count_5 : decode cX11_count 5 = .ok (.aload_n 0, 1) := by decide +kernel
theorem dX11_count_6 : decode cX11_count 6 = .ok (.invokevirtual 137, 3) := by decide +kernel
theorem dX11_count_9 : decode cX11_count 9 = .ok (.iload_n 1, 1) := by decide +kernel
theorem dX11_count_10 : decode cX11_count 10 = .ok (.tableswitch 84 0 5 #[38, 43, 48, 69, 74, 79], 38) := by decide +kernel
theorem dX11_count_48 : decode cX11_count 48 = .ok (.aload_n 0, 1) := by decide +kernel
theorem dX11_count_49 : decode cX11_count 49 = .ok (.invokevirtual 223, 3) := by decide +kernel
theorem dX11_count_52 : decode cX11_count 52 = .ok (.ireturn, 1) := by decide +kernel
theorem dX11_count_53 : decode cX11_count 53 = .ok (.aload_n 0, 1) := by decide +kernel
theorem dX11_count_54 : decode cX11_count 54 = .ok (.getfield 81, 3) := by decide +kernel
theorem dX11_count_57 : decode cX11_count 57 = .ok (.ireturn, 1) := by decide +kernel
theorem dX11_count_58 : decode cX11_count 58 = .ok (.aload_n 0, 1) := by decide +kernel
theorem dX11_count_59 : decode cX11_count 59 = .ok (.getfield 22, 3) := by decide +kernel
theorem dX11_count_62 : decode cX11_count 62 = .ok (.iconst 0, 1) := by decide +kernel
theorem dX11_count_63 : decode cX11_count 63 = .ok (.iaload, 1) := by decide +kernel
theorem dX11_count_64 : decode cX11_count 64 = .ok (.aload_n 0, 1) := by decide +kernel
theorem dX11_count_65 : decode cX11_count 65 = .ok (.getfield 22, 3) := by decide +kernel
theorem dX11_count_68 : decode cX11_count 68 = .ok (.iconst 1, 1) := by decide +kernel
theorem dX11_count_69 : decode cX11_count 69 = .ok (.iaload, 1) := by decide +kernel
theorem dX11_count_70 : decode cX11_count 70 = .ok (.iadd, 1) := by decide +kernel
theorem dX11_count_71 : decode cX11_count 71 = .ok (.aload_n 0, 1) := by decide +kernel
theorem dX11_count_72 : decode cX11_count 72 = .ok (.getfield 22, 3) := by decide +kernel
theorem dX11_count_75 : decode cX11_count 75 = .ok (.iconst 2, 1) := by decide +kernel
theorem dX11_count_76 : decode cX11_count 76 = .ok (.iaload, 1) := by decide +kernel
theorem dX11_count_77 : decode cX11_count 77 = .ok (.iadd, 1) := by decide +kernel
theorem dX11_count_78 : decode cX11_count 78 = .ok (.ireturn, 1) := by decide +kernel
theorem dX11_count_79 : decode cX11_count 79 = .ok (.aload_n 0, 1) := by decide +kernel
theorem dX11_count_80 : decode cX11_count 80 = .ok (.invokevirtual 96, 3) := by decide +kernel
theorem dX11_count_83 : decode cX11_count 83 = .ok (.ireturn, 1) := by decide +kernel
theorem dX11_count_84 : decode cX11_count 84 = .ok (.aload_n 0, 1) := by decide +kernel
theorem dX11_count_85 : decode cX11_count 85 = .ok (.getfield 140, 3) := by decide +kernel
theorem dX11_count_88 : decode cX11_count 88 = .ok (.ireturn, 1) := by decide +kernel
theorem dX11_count_89 : decode cX11_count 89 = .ok (.aload_n 0, 1) := by decide +kernel
theorem dX11_count_90 : decode cX11_count 90 = .ok (.getfield 143, 3) := by decide +kernel
theorem dX11_count_93 : decode cX11_count 93 = .ok (.ireturn, 1) := by decide +kernel
theorem dX11_count_94 : decode cX11_count 94 = .ok (.iconst (-1), 1) := by decide +kernel
theorem dX11_count_95 : decode cX11_count 95 = .ok (.ireturn, 1) := by decide +kernel
theorem dX11_wrongSort_0 : decode cX11_wrongSort 0 = .ok (.aload_n 0, 1) := by decide +kernel
theorem dX11_wrongSort_1 : decode cX11_wrongSort 1 = .ok (.iload_n 1, 1) := by decide +kernel
theorem dX11_wrongSort_2 : decode cX11_wrongSort 2 = .ok (.invokevirtual 251, 3) := by decide +kernel
theorem dX11_wrongSort_5 : decode cX11_wrongSort 5 = .ok (.ifCond .ge 11, 3) := by decide +kernel
theorem dX11_wrongSort_8 : decode cX11_wrongSort 8 = .ok (.aload_n 0, 1) := by decide +kernel
theorem dX11_wrongSort_9 : decode cX11_wrongSort 9 = .ok (.iload_n 1, 1) := by decide +kernel
theorem dX11_wrongSort_10 : decode cX11_wrongSort 10 = .ok (.invokevirtual 251, 3) := by decide +kernel
theorem dX11_wrongSort_13 : decode cX11_wrongSort 13 = .ok (.goto 19, 3) := by decide +kernel
theorem dX11_wrongSort_16 : decode cX11_wrongSort 16 = .ok (.aload_n 0, 1) := by decide +kernel
theorem dX11_wrongSort_17 : decode cX11_wrongSort 17 = .ok (.getfield 61, 3) := by decide +kernel
theorem dX11_wrongSort_20 : decode cX11_wrongSort 20 = .ok (.iload_n 1, 1) := by decide +kernel
theorem dX11_wrongSort_21 : decode cX11_wrongSort 21 = .ok (.iaload, 1) := by decide +kernel
theorem dX11_wrongSort_22 : decode cX11_wrongSort 22 = .ok (.iload_n 2, 1) := by decide +kernel
theorem dX11_wrongSort_23 : decode cX11_wrongSort 23 = .ok (.if_icmp .eq 8, 3) := by decide +kernel
theorem dX11_wrongSort_26 : decode cX11_wrongSort 26 = .ok (.bipush (-12), 2) := by decide +kernel
theorem dX11_wrongSort_28 : decode cX11_wrongSort 28 = .ok (.goto 4, 3) := by decide +kernel
theorem dX11_wrongSort_31 : decode cX11_wrongSort 31 = .ok (.iconst 0, 1) := by decide +kernel
theorem dX11_wrongSort_32 : decode cX11_wrongSort 32 = .ok (.ireturn, 1) := by decide +kernel
theorem dX11_keep_0 : decode cX11_keep 0 = .ok (.aload_n 0, 1) := by decide +kernel
theorem dX11_keep_1 : decode cX11_keep 1 = .ok (.iconst 0, 1) := by decide +kernel
theorem dX11_keep_2 : decode cX11_keep 2 = .ok (.putfield 74, 3) := by decide +kernel
theorem dX11_keep_5 : decode cX11_keep 5 = .ok (.iload_n 1, 1) := by decide +kernel
theorem dX11_keep_6 : decode cX11_keep 6 = .ok (.i2l, 1) := by decide +kernel
theorem dX11_keep_7 : decode cX11_keep 7 = .ok (.lconst 0, 1) := by decide +kernel
theorem dX11_keep_8 : decode cX11_keep 8 = .ok (.ldc2_w 190, 3) := by decide +kernel
theorem dX11_keep_11 : decode cX11_keep 11 = .ok (.invokestatic 127, 3) := by decide +kernel
theorem dX11_keep_14 : decode cX11_keep 14 = .ok (.ifCond .eq 43, 3) := by decide +kernel
theorem dX11_keep_17 : decode cX11_keep 17 = .ok (.iload_n 2, 1) := by decide +kernel
theorem dX11_keep_18 : decode cX11_keep 18 = .ok (.i2l, 1) := by decide +kernel
theorem dX11_keep_19 : decode cX11_keep 19 = .ok (.lconst 0, 1) := by decide +kernel
theorem dX11_keep_20 : decode cX11_keep 20 = .ok (.lconst 1, 1) := by decide +kernel
theorem dX11_keep_21 : decode cX11_keep 21 = .ok (.invokestatic 127, 3) := by decide +kernel
theorem dX11_keep_24 : decode cX11_keep 24 = .ok (.ifCond .eq 33, 3) := by decide +kernel
theorem dX11_keep_27 : decode cX11_keep 27 = .ok (.iload_n 2, 1) := by decide +kernel
theorem dX11_keep_28 : decode cX11_keep 28 = .ok (.iconst 1, 1) := by decide +kernel
theorem dX11_keep_29 : decode cX11_keep 29 = .ok (.if_icmp .ne 30, 3) := by decide +kernel
theorem dX11_keep_32 : decode cX11_keep 32 = .ok (.iload_n 3, 1) := by decide +kernel
theorem dX11_keep_33 : decode cX11_keep 33 = .ok (.i2l, 1) := by decide +kernel
theorem dX11_keep_34 : decode cX11_keep 34 = .ok (.lconst 0, 1) := by decide +kernel
theorem dX11_keep_35 : decode cX11_keep 35 = .ok (.ldc2_w 190, 3) := by decide +kernel
theorem dX11_keep_38 : decode cX11_keep 38 = .ok (.invokestatic 127, 3) := by decide +kernel
theorem dX11_keep_41 : decode cX11_keep 41 = .ok (.ifCond .eq 16, 3) := by decide +kernel
theorem dX11_keep_44 : decode cX11_keep 44 = .ok (.iload 4, 2) := by decide +kernel
theorem dX11_keep_46 : decode cX11_keep 46 = .ok (.i2l, 1) := by decide +kernel
theorem dX11_keep_47 : decode cX11_keep 47 = .ok (.lconst 0, 1) := by decide +kernel
theorem dX11_keep_48 : decode cX11_keep 48 = .ok (.ldc2_w 188, 3) := by decide +kernel
theorem dX11_keep_51 : decode cX11_keep 51 = .ok (.invokestatic 127, 3) := by decide +kernel
theorem dX11_keep_54 : decode cX11_keep 54 = .ok (.ifCond .ne 5, 3) := by decide +kernel
theorem dX11_keep_57 : decode cX11_keep 57 = .ok (.iconst (-1), 1) := by decide +kernel
theorem dX11_keep_58 : decode cX11_keep 58 = .ok (.ireturn, 1) := by decide +kernel
theorem dX11_keep_59 : decode cX11_keep 59 = .ok (.aload_n 0, 1) := by decide +kernel
theorem dX11_keep_60 : decode cX11_keep 60 = .ok (.getfield 52, 3) := by decide +kernel
theorem dX11_keep_63 : decode cX11_keep 63 = .ok (.iload_n 1, 1) := by decide +kernel
theorem dX11_keep_64 : decode cX11_keep 64 = .ok (.iload_n 2, 1) := by decide +kernel
theorem dX11_keep_65 : decode cX11_keep 65 = .ok (.iastore, 1) := by decide +kernel
theorem dX11_keep_66 : decode cX11_keep 66 = .ok (.aload_n 0, 1) := by decide +kernel
theorem dX11_keep_67 : decode cX11_keep 67 = .ok (.getfield 55, 3) := by decide +kernel
theorem dX11_keep_70 : decode cX11_keep 70 = .ok (.iload_n 1, 1) := by decide +kernel
theorem dX11_keep_71 : decode cX11_keep 71 = .ok (.iload_n 2, 1) := by decide +kernel
theorem dX11_keep_72 : decode cX11_keep 72 = .ok (.iconst 1, 1) := by decide +kernel
theorem dX11_keep_73 : decode cX11_keep 73 = .ok (.if_icmp .ne 7, 3) := by decide +kernel
theorem dX11_keep_76 : decode cX11_keep 76 = .ok (.iload_n 3, 1) := by decide +kernel
theorem dX11_keep_77 : decode cX11_keep 77 = .ok (.goto 4, 3) := by decide +kernel
theorem dX11_keep_80 : decode cX11_keep 80 = .ok (.iconst 0, 1) := by decide +kernel
theorem dX11_keep_81 : decode cX11_keep 81 = .ok (.iastore, 1) := by decide +kernel
theorem dX11_keep_82 : decode cX11_keep 82 = .ok (.aload_n 0, 1) := by decide +kernel
theorem dX11_keep_83 : decode cX11_keep 83 = .ok (.getfield 58, 3) := by decide +kernel
theorem dX11_keep_86 : decode cX11_keep 86 = .ok (.iload_n 1, 1) := by decide +kernel
theorem dX11_keep_87 : decode cX11_keep 87 = .ok (.iload_n 2, 1) := by decide +kernel
theorem dX11_keep_88 : decode cX11_keep 88 = .ok (.iconst 1, 1) := by decide +kernel
theorem dX11_keep_89 : decode cX11_keep 89 = .ok (.if_icmp .ne 8, 3) := by decide +kernel
theorem dX11_keep_92 : decode cX11_keep 92 = .ok (.iload 4, 2) := by decide +kernel
theorem dX11_keep_94 : decode cX11_keep 94 = .ok (.goto 4, 3) := by decide +kernel
theorem dX11_keep_97 : decode cX11_keep 97 = .ok (.iconst 0, 1) := by decide +kernel
theorem dX11_keep_98 : decode cX11_keep 98 = .ok (.iastore, 1) := by decide +kernel
theorem dX11_keep_99 : decode cX11_keep 99 = .ok (.iconst 0, 1) := by decide +kernel
theorem dX11_keep_100 : decode cX11_keep 100 = .ok (.ireturn, 1) := by decide +kernel
theorem dX11_wrongRow_0 : decode cX11_wrongRow 0 = .ok (.iload_n 1, 1) := by decide +kernel
theorem dX11_wrongRow_1 : decode cX11_wrongRow 1 = .ok (.i2l, 1) := by decide +kernel
theorem dX11_wrongRow_2 : decode cX11_wrongRow 2 = .ok (.lconst 0, 1) := by decide +kernel
theorem dX11_wrongRow_3 : decode cX11_wrongRow 3 = .ok (.ldc2_w 190, 3) := by decide +kernel
theorem dX11_wrongRow_6 : decode cX11_wrongRow 6 = .ok (.invokestatic 127, 3) := by decide +kernel
theorem dX11_wrongRow_9 : decode cX11_wrongRow 9 = .ok (.ifCond .ne 7, 3) := by decide +kernel
theorem dX11_wrongRow_12 : decode cX11_wrongRow 12 = .ok (.iconst (-1), 1) := by decide +kernel
theorem dX11_wrongRow_13 : decode cX11_wrongRow 13 = .ok (.goto 33, 3) := by decide +kernel
theorem dX11_wrongRow_16 : decode cX11_wrongRow 16 = .ok (.aload_n 0, 1) := by decide +kernel
theorem dX11_wrongRow_17 : decode cX11_wrongRow 17 = .ok (.getfield 52, 3) := by decide +kernel
theorem dX11_wrongRow_20 : decode cX11_wrongRow 20 = .ok (.iload_n 1, 1) := by decide +kernel
theorem dX11_wrongRow_21 : decode cX11_wrongRow 21 = .ok (.iaload, 1) := by decide +kernel
theorem dX11_wrongRow_22 : decode cX11_wrongRow 22 = .ok (.ifCond .ne 8, 3) := by decide +kernel
theorem dX11_wrongRow_25 : decode cX11_wrongRow 25 = .ok (.bipush (-11), 2) := by decide +kernel
theorem dX11_wrongRow_27 : decode cX11_wrongRow 27 = .ok (.goto 19, 3) := by decide +kernel
theorem dX11_wrongRow_30 : decode cX11_wrongRow 30 = .ok (.aload_n 0, 1) := by decide +kernel
theorem dX11_wrongRow_31 : decode cX11_wrongRow 31 = .ok (.getfield 52, 3) := by decide +kernel
theorem dX11_wrongRow_34 : decode cX11_wrongRow 34 = .ok (.iload_n 1, 1) := by decide +kernel
theorem dX11_wrongRow_35 : decode cX11_wrongRow 35 = .ok (.iaload, 1) := by decide +kernel
theorem dX11_wrongRow_36 : decode cX11_wrongRow 36 = .ok (.iconst 2, 1) := by decide +kernel
theorem dX11_wrongRow_37 : decode cX11_wrongRow 37 = .ok (.if_icmp .eq 8, 3) := by decide +kernel
theorem dX11_wrongRow_40 : decode cX11_wrongRow 40 = .ok (.bipush (-12), 2) := by decide +kernel
theorem dX11_wrongRow_42 : decode cX11_wrongRow 42 = .ok (.goto 4, 3) := by decide +kernel
theorem dX11_wrongRow_45 : decode cX11_wrongRow 45 = .ok (.iconst 0, 1) := by decide +kernel
theorem dX11_wrongRow_46 : decode cX11_wrongRow 46 = .ok (.ireturn, 1) := by decide +kernel
theorem dX11_narrowed_0 : decode cX11_narrowed 0 = .ok (.iload_n 1, 1) := by decide +kernel
theorem dX11_narrowed_1 : decode cX11_narrowed 1 = .ok (.ifCond .ne 9, 3) := by decide +kernel
theorem dX11_narrowed_4 : decode cX11_narrowed 4 = .ok (.iload_n 0, 1) := by decide +kernel
theorem dX11_narrowed_5 : decode cX11_narrowed 5 = .ok (.i2b, 1) := by decide +kernel
theorem dX11_narrowed_6 : decode cX11_narrowed 6 = .ok (.i2l, 1) := by decide +kernel
theorem dX11_narrowed_7 : decode cX11_narrowed 7 = .ok (.goto 16, 3) := by decide +kernel
theorem dX11_narrowed_10 : decode cX11_narrowed 10 = .ok (.iload_n 1, 1) := by decide +kernel
theorem dX11_narrowed_11 : decode cX11_narrowed 11 = .ok (.iconst 1, 1) := by decide +kernel
theorem dX11_narrowed_12 : decode cX11_narrowed 12 = .ok (.if_icmp .ne 9, 3) := by decide +kernel
theorem dX11_narrowed_15 : decode cX11_narrowed 15 = .ok (.iload_n 0, 1) := by decide +kernel
theorem dX11_narrowed_16 : decode cX11_narrowed 16 = .ok (.i2s, 1) := by decide +kernel
theorem dX11_narrowed_17 : decode cX11_narrowed 17 = .ok (.i2l, 1) := by decide +kernel
theorem dX11_narrowed_18 : decode cX11_narrowed 18 = .ok (.goto 5, 3) := by decide +kernel
theorem dX11_narrowed_21 : decode cX11_narrowed 21 = .ok (.iload_n 0, 1) := by decide +kernel
theorem dX11_narrowed_22 : decode cX11_narrowed 22 = .ok (.i2l, 1) := by decide +kernel
theorem dX11_narrowed_23 : decode cX11_narrowed 23 = .ok (.lreturn, 1) := by decide +kernel
theorem dX11_row_0 : decode cX11_row 0 = .ok (.aload_n 0, 1) := by decide +kernel
theorem dX11_row_1 : decode cX11_row 1 = .ok (.iconst 0, 1) := by decide +kernel
theorem dX11_row_2 : decode cX11_row 2 = .ok (.putfield 74, 3) := by decide +kernel
theorem dX11_row_5 : decode cX11_row 5 = .ok (.iload_n 1, 1) := by decide +kernel
theorem dX11_row_6 : decode cX11_row 6 = .ok (.i2l, 1) := by decide +kernel
theorem dX11_row_7 : decode cX11_row 7 = .ok (.lconst 0, 1) := by decide +kernel
theorem dX11_row_8 : decode cX11_row 8 = .ok (.ldc2_w 190, 3) := by decide +kernel
theorem dX11_row_11 : decode cX11_row 11 = .ok (.invokestatic 127, 3) := by decide +kernel
theorem dX11_row_14 : decode cX11_row 14 = .ok (.ifCond .eq 21, 3) := by decide +kernel
theorem dX11_row_17 : decode cX11_row 17 = .ok (.iload_n 2, 1) := by decide +kernel
theorem dX11_row_18 : decode cX11_row 18 = .ok (.i2l, 1) := by decide +kernel
theorem dX11_row_19 : decode cX11_row 19 = .ok (.lconst 0, 1) := by decide +kernel
theorem dX11_row_20 : decode cX11_row 20 = .ok (.ldc2_w 195, 3) := by decide +kernel
theorem dX11_row_23 : decode cX11_row 23 = .ok (.invokestatic 127, 3) := by decide +kernel
theorem dX11_row_26 : decode cX11_row 26 = .ok (.ifCond .eq 9, 3) := by decide +kernel
theorem dX11_row_29 : decode cX11_row 29 = .ok (.iload_n 3, 1) := by decide +kernel
theorem dX11_row_30 : decode cX11_row 30 = .ok (.bipush 100, 2) := by decide +kernel
theorem dX11_row_32 : decode cX11_row 32 = .ok (.if_icmp .le 5, 3) := by decide +kernel
theorem dX11_row_35 : decode cX11_row 35 = .ok (.iconst (-1), 1) := by decide +kernel
theorem dX11_row_36 : decode cX11_row 36 = .ok (.ireturn, 1) := by decide +kernel
theorem dX11_row_37 : decode cX11_row 37 = .ok (.iload_n 3, 1) := by decide +kernel
theorem dX11_row_38 : decode cX11_row 38 = .ok (.ifCond .ge 6, 3) := by decide +kernel
theorem dX11_row_41 : decode cX11_row 41 = .ok (.bipush (-14), 2) := by decide +kernel
theorem dX11_row_43 : decode cX11_row 43 = .ok (.ireturn, 1) := by decide +kernel
theorem dX11_row_44 : decode cX11_row 44 = .ok (.aload_n 0, 1) := by decide +kernel
theorem dX11_row_45 : decode cX11_row 45 = .ok (.getfield 52, 3) := by decide +kernel
theorem dX11_row_48 : decode cX11_row 48 = .ok (.iload_n 1, 1) := by decide +kernel
theorem dX11_row_49 : decode cX11_row 49 = .ok (.iconst 2, 1) := by decide +kernel
theorem dX11_row_50 : decode cX11_row 50 = .ok (.iastore, 1) := by decide +kernel
theorem dX11_row_51 : decode cX11_row 51 = .ok (.aload_n 0, 1) := by decide +kernel
theorem dX11_row_52 : decode cX11_row 52 = .ok (.getfield 61, 3) := by decide +kernel
theorem dX11_row_55 : decode cX11_row 55 = .ok (.iload_n 1, 1) := by decide +kernel
theorem dX11_row_56 : decode cX11_row 56 = .ok (.iload_n 2, 1) := by decide +kernel
theorem dX11_row_57 : decode cX11_row 57 = .ok (.iastore, 1) := by decide +kernel
theorem dX11_row_58 : decode cX11_row 58 = .ok (.aload_n 0, 1) := by decide +kernel
theorem dX11_row_59 : decode cX11_row 59 = .ok (.getfield 64, 3) := by decide +kernel
theorem dX11_row_62 : decode cX11_row 62 = .ok (.iload_n 1, 1) := by decide +kernel
theorem dX11_row_63 : decode cX11_row 63 = .ok (.iload_n 3, 1) := by decide +kernel
theorem dX11_row_64 : decode cX11_row 64 = .ok (.iastore, 1) := by decide +kernel
theorem dX11_row_65 : decode cX11_row 65 = .ok (.iconst 0, 1) := by decide +kernel
theorem dX11_row_66 : decode cX11_row 66 = .ok (.istore 4, 2) := by decide +kernel
theorem dX11_row_68 : decode cX11_row 68 = .ok (.iload 4, 2) := by decide +kernel
theorem dX11_row_70 : decode cX11_row 70 = .ok (.bipush 100, 2) := by decide +kernel
theorem dX11_row_72 : decode cX11_row 72 = .ok (.if_icmp .ge 22, 3) := by decide +kernel
theorem dX11_row_75 : decode cX11_row 75 = .ok (.aload_n 0, 1) := by decide +kernel
theorem dX11_row_76 : decode cX11_row 76 = .ok (.getfield 67, 3) := by decide +kernel
theorem dX11_row_79 : decode cX11_row 79 = .ok (.bipush 100, 2) := by decide +kernel
theorem dX11_row_81 : decode cX11_row 81 = .ok (.iload_n 1, 1) := by decide +kernel
theorem dX11_row_82 : decode cX11_row 82 = .ok (.imul, 1) := by decide +kernel
theorem dX11_row_83 : decode cX11_row 83 = .ok (.iload 4, 2) := by decide +kernel
theorem dX11_row_85 : decode cX11_row 85 = .ok (.iadd, 1) := by decide +kernel
theorem dX11_row_86 : decode cX11_row 86 = .ok (.lconst 0, 1) := by decide +kernel
theorem dX11_row_87 : decode cX11_row 87 = .ok (.lastore, 1) := by decide +kernel
theorem dX11_row_88 : decode cX11_row 88 = .ok (.iinc 4 1, 3) := by decide +kernel
theorem dX11_row_91 : decode cX11_row 91 = .ok (.goto (-23), 3) := by decide +kernel
theorem dX11_row_94 : decode cX11_row 94 = .ok (.iconst 0, 1) := by decide +kernel
theorem dX11_row_95 : decode cX11_row 95 = .ok (.ireturn, 1) := by decide +kernel
theorem dX11_put_0 : decode cX11_put 0 = .ok (.aload_n 0, 1) := by decide +kernel
theorem dX11_put_1 : decode cX11_put 1 = .ok (.iconst 0, 1) := by decide +kernel
theorem dX11_put_2 : decode cX11_put 2 = .ok (.putfield 74, 3) := by decide +kernel
theorem dX11_put_5 : decode cX11_put 5 = .ok (.aload_n 0, 1) := by decide +kernel
theorem dX11_put_6 : decode cX11_put 6 = .ok (.iload_n 1, 1) := by decide +kernel
theorem dX11_put_7 : decode cX11_put 7 = .ok (.invokevirtual 251, 3) := by decide +kernel
theorem dX11_put_10 : decode cX11_put 10 = .ok (.istore 4, 2) := by decide +kernel
theorem dX11_put_12 : decode cX11_put 12 = .ok (.iload 4, 2) := by decide +kernel
theorem dX11_put_14 : decode cX11_put 14 = .ok (.ifCond .ge 6, 3) := by decide +kernel
theorem dX11_put_17 : decode cX11_put 17 = .ok (.iload 4, 2) := by decide +kernel
theorem dX11_put_19 : decode cX11_put 19 = .ok (.ireturn, 1) := by decide +kernel
theorem dX11_put_20 : decode cX11_put 20 = .ok (.iload_n 2, 1) := by decide +kernel
theorem dX11_put_21 : decode cX11_put 21 = .ok (.i2l, 1) := by decide +kernel
theorem dX11_put_22 : decode cX11_put 22 = .ok (.lconst 0, 1) := by decide +kernel
theorem dX11_put_23 : decode cX11_put 23 = .ok (.aload_n 0, 1) := by decide +kernel
theorem dX11_put_24 : decode cX11_put 24 = .ok (.getfield 64, 3) := by decide +kernel
theorem dX11_put_27 : decode cX11_put 27 = .ok (.iload_n 1, 1) := by decide +kernel
theorem dX11_put_28 : decode cX11_put 28 = .ok (.iaload, 1) := by decide +kernel
theorem dX11_put_29 : decode cX11_put 29 = .ok (.iconst 1, 1) := by decide +kernel
theorem dX11_put_30 : decode cX11_put 30 = .ok (.isub, 1) := by decide +kernel
theorem dX11_put_31 : decode cX11_put 31 = .ok (.i2l, 1) := by decide +kernel
theorem dX11_put_32 : decode cX11_put 32 = .ok (.invokestatic 127, 3) := by decide +kernel
theorem dX11_put_35 : decode cX11_put 35 = .ok (.ifCond .ne 6, 3) := by decide +kernel
theorem dX11_put_38 : decode cX11_put 38 = .ok (.bipush (-13), 2) := by decide +kernel
theorem dX11_put_40 : decode cX11_put 40 = .ok (.ireturn, 1) := by decide +kernel
theorem dX11_put_41 : decode cX11_put 41 = .ok (.aload_n 0, 1) := by decide +kernel
theorem dX11_put_42 : decode cX11_put 42 = .ok (.getfield 67, 3) := by decide +kernel
theorem dX11_put_45 : decode cX11_put 45 = .ok (.bipush 100, 2) := by decide +kernel
theorem dX11_put_47 : decode cX11_put 47 = .ok (.iload_n 1, 1) := by decide +kernel
theorem dX11_put_48 : decode cX11_put 48 = .ok (.imul, 1) := by decide +kernel
theorem dX11_put_49 : decode cX11_put 49 = .ok (.iload_n 2, 1) := by decide +kernel
theorem dX11_put_50 : decode cX11_put 50 = .ok (.iadd, 1) := by decide +kernel
theorem dX11_put_51 : decode cX11_put 51 = .ok (.iload_n 3, 1) := by decide +kernel
theorem dX11_put_52 : decode cX11_put 52 = .ok (.aload_n 0, 1) := by decide +kernel
theorem dX11_put_53 : decode cX11_put 53 = .ok (.getfield 61, 3) := by decide +kernel
theorem dX11_put_56 : decode cX11_put 56 = .ok (.iload_n 1, 1) := by decide +kernel
theorem dX11_put_57 : decode cX11_put 57 = .ok (.iaload, 1) := by decide +kernel
theorem dX11_put_58 : decode cX11_put 58 = .ok (.invokestatic 258, 3) := by decide +kernel
theorem dX11_put_61 : decode cX11_put 61 = .ok (.lastore, 1) := by decide +kernel
theorem dX11_put_62 : decode cX11_put 62 = .ok (.iconst 0, 1) := by decide +kernel
theorem dX11_put_63 : decode cX11_put 63 = .ok (.ireturn, 1) := by decide +kernel
theorem dX11_element_0 : decode cX11_element 0 = .ok (.aload_n 0, 1) := by decide +kernel
theorem dX11_element_1 : decode cX11_element 1 = .ok (.iload_n 1, 1) := by decide +kernel
theorem dX11_element_2 : decode cX11_element 2 = .ok (.invokevirtual 251, 3) := by decide +kernel
theorem dX11_element_5 : decode cX11_element 5 = .ok (.istore_n 3, 1) := by decide +kernel
theorem dX11_element_6 : decode cX11_element 6 = .ok (.aload_n 0, 1) := by decide +kernel
theorem dX11_element_7 : decode cX11_element 7 = .ok (.iload_n 3, 1) := by decide +kernel
theorem dX11_element_8 : decode cX11_element 8 = .ok (.iconst (-1), 1) := by decide +kernel
theorem dX11_element_9 : decode cX11_element 9 = .ok (.if_icmp .ne 7, 3) := by decide +kernel
theorem dX11_element_12 : decode cX11_element 12 = .ok (.iconst 1, 1) := by decide +kernel
theorem dX11_element_13 : decode cX11_element 13 = .ok (.goto 30, 3) := by decide +kernel
theorem dX11_element_16 : decode cX11_element 16 = .ok (.iload_n 3, 1) := by decide +kernel
theorem dX11_element_17 : decode cX11_element 17 = .ok (.ifCond .lt 21, 3) := by decide +kernel
theorem dX11_element_20 : decode cX11_element 20 = .ok (.iload_n 2, 1) := by decide +kernel
theorem dX11_element_21 : decode cX11_element 21 = .ok (.i2l, 1) := by decide +kernel
theorem dX11_element_22 : decode cX11_element 22 = .ok (.lconst 0, 1) := by decide +kernel
theorem dX11_element_23 : decode cX11_element 23 = .ok (.aload_n 0, 1) := by decide +kernel
theorem dX11_element_24 : decode cX11_element 24 = .ok (.getfield 64, 3) := by decide +kernel
theorem dX11_element_27 : decode cX11_element 27 = .ok (.iload_n 1, 1) := by decide +kernel
theorem dX11_element_28 : decode cX11_element 28 = .ok (.iaload, 1) := by decide +kernel
theorem dX11_element_29 : decode cX11_element 29 = .ok (.iconst 1, 1) := by decide +kernel
theorem dX11_element_30 : decode cX11_element 30 = .ok (.isub, 1) := by decide +kernel
theorem dX11_element_31 : decode cX11_element 31 = .ok (.i2l, 1) := by decide +kernel
theorem dX11_element_32 : decode cX11_element 32 = .ok (.invokestatic 127, 3) := by decide +kernel
theorem dX11_element_35 : decode cX11_element 35 = .ok (.ifCond .ne 7, 3) := by decide +kernel
theorem dX11_element_38 : decode cX11_element 38 = .ok (.iconst 2, 1) := by decide +kernel
theorem dX11_element_39 : decode cX11_element 39 = .ok (.goto 4, 3) := by decide +kernel
theorem dX11_element_42 : decode cX11_element 42 = .ok (.iconst 0, 1) := by decide +kernel
theorem dX11_element_43 : decode cX11_element 43 = .ok (.putfield 74, 3) := by decide +kernel
theorem dX11_element_46 : decode cX11_element 46 = .ok (.aload_n 0, 1) := by decide +kernel
theorem dX11_element_47 : decode cX11_element 47 = .ok (.getfield 74, 3) := by decide +kernel
theorem dX11_element_50 : decode cX11_element 50 = .ok (.ifCond .le 7, 3) := by decide +kernel
theorem dX11_element_53 : decode cX11_element 53 = .ok (.lconst 0, 1) := by decide +kernel
theorem dX11_element_54 : decode cX11_element 54 = .ok (.goto 14, 3) := by decide +kernel
theorem dX11_element_57 : decode cX11_element 57 = .ok (.aload_n 0, 1) := by decide +kernel
theorem dX11_element_58 : decode cX11_element 58 = .ok (.getfield 67, 3) := by decide +kernel
theorem dX11_element_61 : decode cX11_element 61 = .ok (.bipush 100, 2) := by decide +kernel
theorem dX11_element_63 : decode cX11_element 63 = .ok (.iload_n 1, 1) := by decide +kernel
theorem dX11_element_64 : decode cX11_element 64 = .ok (.imul, 1) := by decide +kernel
theorem dX11_element_65 : decode cX11_element 65 = .ok (.iload_n 2, 1) := by decide +kernel
theorem dX11_element_66 : decode cX11_element 66 = .ok (.iadd, 1) := by decide +kernel
theorem dX11_element_67 : decode cX11_element 67 = .ok (.laload, 1) := by decide +kernel
theorem dX11_element_68 : decode cX11_element 68 = .ok (.lreturn, 1) := by decide +kernel
theorem dX11_copy_0 : decode cX11_copy 0 = .ok (.aload_n 0, 1) := by decide +kernel
theorem dX11_copy_1 : decode cX11_copy 1 = .ok (.iconst 0, 1) := by decide +kernel
theorem dX11_copy_2 : decode cX11_copy 2 = .ok (.putfield 74, 3) := by decide +kernel
theorem dX11_copy_5 : decode cX11_copy 5 = .ok (.iload_n 1, 1) := by decide +kernel
theorem dX11_copy_6 : decode cX11_copy 6 = .ok (.i2l, 1) := by decide +kernel
theorem dX11_copy_7 : decode cX11_copy 7 = .ok (.lconst 0, 1) := by decide +kernel
theorem dX11_copy_8 : decode cX11_copy 8 = .ok (.ldc2_w 190, 3) := by decide +kernel
theorem dX11_copy_11 : decode cX11_copy 11 = .ok (.invokestatic 127, 3) := by decide +kernel
theorem dX11_copy_14 : decode cX11_copy 14 = .ok (.ifCond .eq 15, 3) := by decide +kernel
theorem dX11_copy_17 : decode cX11_copy 17 = .ok (.iload_n 3, 1) := by decide +kernel
theorem dX11_copy_18 : decode cX11_copy 18 = .ok (.i2l, 1) := by decide +kernel
theorem dX11_copy_19 : decode cX11_copy 19 = .ok (.lconst 0, 1) := by decide +kernel
theorem dX11_copy_20 : decode cX11_copy 20 = .ok (.ldc2_w 190, 3) := by decide +kernel
theorem dX11_copy_23 : decode cX11_copy 23 = .ok (.invokestatic 127, 3) := by decide +kernel
theorem dX11_copy_26 : decode cX11_copy 26 = .ok (.ifCond .ne 5, 3) := by decide +kernel
theorem dX11_copy_29 : decode cX11_copy 29 = .ok (.iconst (-1), 1) := by decide +kernel
theorem dX11_copy_30 : decode cX11_copy 30 = .ok (.ireturn, 1) := by decide +kernel
theorem dX11_copy_31 : decode cX11_copy 31 = .ok (.aload_n 0, 1) := by decide +kernel
theorem dX11_copy_32 : decode cX11_copy 32 = .ok (.getfield 52, 3) := by decide +kernel
theorem dX11_copy_35 : decode cX11_copy 35 = .ok (.iload_n 1, 1) := by decide +kernel
theorem dX11_copy_36 : decode cX11_copy 36 = .ok (.iaload, 1) := by decide +kernel
theorem dX11_copy_37 : decode cX11_copy 37 = .ok (.ifCond .eq 12, 3) := by decide +kernel
theorem dX11_copy_40 : decode cX11_copy 40 = .ok (.aload_n 0, 1) := by decide +kernel
theorem dX11_copy_41 : decode cX11_copy 41 = .ok (.getfield 52, 3) := by decide +kernel
theorem dX11_copy_44 : decode cX11_copy 44 = .ok (.iload_n 3, 1) := by decide +kernel
theorem dX11_copy_45 : decode cX11_copy 45 = .ok (.iaload, 1) := by decide +kernel
theorem dX11_copy_46 : decode cX11_copy 46 = .ok (.ifCond .ne 6, 3) := by decide +kernel
theorem dX11_copy_49 : decode cX11_copy 49 = .ok (.bipush (-11), 2) := by decide +kernel
theorem dX11_copy_51 : decode cX11_copy 51 = .ok (.ireturn, 1) := by decide +kernel
theorem dX11_copy_52 : decode cX11_copy 52 = .ok (.aload_n 0, 1) := by decide +kernel
theorem dX11_copy_53 : decode cX11_copy 53 = .ok (.getfield 52, 3) := by decide +kernel
theorem dX11_copy_56 : decode cX11_copy 56 = .ok (.iload_n 1, 1) := by decide +kernel
theorem dX11_copy_57 : decode cX11_copy 57 = .ok (.iaload, 1) := by decide +kernel
theorem dX11_copy_58 : decode cX11_copy 58 = .ok (.iconst 2, 1) := by decide +kernel
theorem dX11_copy_59 : decode cX11_copy 59 = .ok (.if_icmp .ne 28, 3) := by decide +kernel
theorem dX11_copy_62 : decode cX11_copy 62 = .ok (.aload_n 0, 1) := by decide +kernel
theorem dX11_copy_63 : decode cX11_copy 63 = .ok (.getfield 52, 3) := by decide +kernel
theorem dX11_copy_66 : decode cX11_copy 66 = .ok (.iload_n 3, 1) := by decide +kernel
theorem dX11_copy_67 : decode cX11_copy 67 = .ok (.iaload, 1) := by decide +kernel
theorem dX11_copy_68 : decode cX11_copy 68 = .ok (.iconst 2, 1) := by decide +kernel
theorem dX11_copy_69 : decode cX11_copy 69 = .ok (.if_icmp .ne 18, 3) := by decide +kernel
theorem dX11_copy_72 : decode cX11_copy 72 = .ok (.aload_n 0, 1) := by decide +kernel
theorem dX11_copy_73 : decode cX11_copy 73 = .ok (.getfield 61, 3) := by decide +kernel
theorem dX11_copy_76 : decode cX11_copy 76 = .ok (.iload_n 1, 1) := by decide +kernel
theorem dX11_copy_77 : decode cX11_copy 77 = .ok (.iaload, 1) := by decide +kernel
theorem dX11_copy_78 : decode cX11_copy 78 = .ok (.aload_n 0, 1) := by decide +kernel
theorem dX11_copy_79 : decode cX11_copy 79 = .ok (.getfield 61, 3) := by decide +kernel
theorem dX11_copy_82 : decode cX11_copy 82 = .ok (.iload_n 3, 1) := by decide +kernel
theorem dX11_copy_83 : decode cX11_copy 83 = .ok (.iaload, 1) := by decide +kernel
theorem dX11_copy_84 : decode cX11_copy 84 = .ok (.if_icmp .eq 6, 3) := by decide +kernel
theorem dX11_copy_87 : decode cX11_copy 87 = .ok (.bipush (-12), 2) := by decide +kernel
theorem dX11_copy_89 : decode cX11_copy 89 = .ok (.ireturn, 1) := by decide +kernel
theorem dX11_copy_90 : decode cX11_copy 90 = .ok (.iload 5, 2) := by decide +kernel
theorem dX11_copy_92 : decode cX11_copy 92 = .ok (.ifCond .lt 39, 3) := by decide +kernel
theorem dX11_copy_95 : decode cX11_copy 95 = .ok (.iload_n 2, 1) := by decide +kernel
theorem dX11_copy_96 : decode cX11_copy 96 = .ok (.ifCond .lt 35, 3) := by decide +kernel
theorem dX11_copy_99 : decode cX11_copy 99 = .ok (.iload 4, 2) := by decide +kernel
theorem dX11_copy_101 : decode cX11_copy 101 = .ok (.ifCond .lt 30, 3) := by decide +kernel
theorem dX11_copy_104 : decode cX11_copy 104 = .ok (.iload_n 2, 1) := by decide +kernel
theorem dX11_copy_105 : decode cX11_copy 105 = .ok (.aload_n 0, 1) := by decide +kernel
theorem dX11_copy_106 : decode cX11_copy 106 = .ok (.getfield 64, 3) := by decide +kernel
theorem dX11_copy_109 : decode cX11_copy 109 = .ok (.iload_n 1, 1) := by decide +kernel
theorem dX11_copy_110 : decode cX11_copy 110 = .ok (.iaload, 1) := by decide +kernel
theorem dX11_copy_111 : decode cX11_copy 111 = .ok (.iload 5, 2) := by decide +kernel
theorem dX11_copy_113 : decode cX11_copy 113 = .ok (.isub, 1) := by decide +kernel
theorem dX11_copy_114 : decode cX11_copy 114 = .ok (.if_icmp .gt 17, 3) := by decide +kernel
theorem dX11_copy_117 : decode cX11_copy 117 = .ok (.iload 4, 2) := by decide +kernel
theorem dX11_copy_119 : decode cX11_copy 119 = .ok (.aload_n 0, 1) := by decide +kernel
theorem dX11_copy_120 : decode cX11_copy 120 = .ok (.getfield 64, 3) := by decide +kernel
theorem dX11_copy_123 : decode cX11_copy 123 = .ok (.iload_n 3, 1) := by decide +kernel
theorem dX11_copy_124 : decode cX11_copy 124 = .ok (.iaload, 1) := by decide +kernel
theorem dX11_copy_125 : decode cX11_copy 125 = .ok (.iload 5, 2) := by decide +kernel
theorem dX11_copy_127 : decode cX11_copy 127 = .ok (.isub, 1) := by decide +kernel
theorem dX11_copy_128 : decode cX11_copy 128 = .ok (.if_icmp .le 6, 3) := by decide +kernel
theorem dX11_copy_131 : decode cX11_copy 131 = .ok (.bipush (-13), 2) := by decide +kernel
theorem dX11_copy_133 : decode cX11_copy 133 = .ok (.ireturn, 1) := by decide +kernel
theorem dX11_copy_134 : decode cX11_copy 134 = .ok (.iconst 0, 1) := by decide +kernel
theorem dX11_copy_135 : decode cX11_copy 135 = .ok (.istore 6, 2) := by decide +kernel
theorem dX11_copy_137 : decode cX11_copy 137 = .ok (.iload 6, 2) := by decide +kernel
theorem dX11_copy_139 : decode cX11_copy 139 = .ok (.iload 5, 2) := by decide +kernel
theorem dX11_copy_141 : decode cX11_copy 141 = .ok (.if_icmp .ge 30, 3) := by decide +kernel
theorem dX11_copy_144 : decode cX11_copy 144 = .ok (.aload_n 0, 1) := by decide +kernel
theorem dX11_copy_145 : decode cX11_copy 145 = .ok (.getfield 71, 3) := by decide +kernel
theorem dX11_copy_148 : decode cX11_copy 148 = .ok (.iload 6, 2) := by decide +kernel
theorem dX11_copy_150 : decode cX11_copy 150 = .ok (.aload_n 0, 1) := by decide +kernel
theorem dX11_copy_151 : decode cX11_copy 151 = .ok (.getfield 67, 3) := by decide +kernel
theorem dX11_copy_154 : decode cX11_copy 154 = .ok (.bipush 100, 2) := by decide +kernel
theorem dX11_copy_156 : decode cX11_copy 156 = .ok (.iload_n 1, 1) := by decide +kernel
theorem dX11_copy_157 : decode cX11_copy 157 = .ok (.imul, 1) := by decide +kernel
theorem dX11_copy_158 : decode cX11_copy 158 = .ok (.iload_n 2, 1) := by decide +kernel
theorem dX11_copy_159 : decode cX11_copy 159 = .ok (.iadd, 1) := by decide +kernel
theorem dX11_copy_160 : decode cX11_copy 160 = .ok (.iload 6, 2) := by decide +kernel
theorem dX11_copy_162 : decode cX11_copy 162 = .ok (.iadd, 1) := by decide +kernel
theorem dX11_copy_163 : decode cX11_copy 163 = .ok (.laload, 1) := by decide +kernel
theorem dX11_copy_164 : decode cX11_copy 164 = .ok (.lastore, 1) := by decide +kernel
theorem dX11_copy_165 : decode cX11_copy 165 = .ok (.iinc 6 1, 3) := by decide +kernel
theorem dX11_copy_168 : decode cX11_copy 168 = .ok (.goto (-31), 3) := by decide +kernel
theorem dX11_copy_171 : decode cX11_copy 171 = .ok (.iconst 0, 1) := by decide +kernel
theorem dX11_copy_172 : decode cX11_copy 172 = .ok (.istore 6, 2) := by decide +kernel
theorem dX11_copy_174 : decode cX11_copy 174 = .ok (.iload 6, 2) := by decide +kernel
theorem dX11_copy_176 : decode cX11_copy 176 = .ok (.iload 5, 2) := by decide +kernel
theorem dX11_copy_178 : decode cX11_copy 178 = .ok (.if_icmp .ge 31, 3) := by decide +kernel
theorem dX11_copy_181 : decode cX11_copy 181 = .ok (.aload_n 0, 1) := by decide +kernel
theorem dX11_copy_182 : decode cX11_copy 182 = .ok (.getfield 67, 3) := by decide +kernel
theorem dX11_copy_185 : decode cX11_copy 185 = .ok (.bipush 100, 2) := by decide +kernel
theorem dX11_copy_187 : decode cX11_copy 187 = .ok (.iload_n 3, 1) := by decide +kernel
theorem dX11_copy_188 : decode cX11_copy 188 = .ok (.imul, 1) := by decide +kernel
theorem dX11_copy_189 : decode cX11_copy 189 = .ok (.iload 4, 2) := by decide +kernel
theorem dX11_copy_191 : decode cX11_copy 191 = .ok (.iadd, 1) := by decide +kernel
theorem dX11_copy_192 : decode cX11_copy 192 = .ok (.iload 6, 2) := by decide +kernel
theorem dX11_copy_194 : decode cX11_copy 194 = .ok (.iadd, 1) := by decide +kernel
theorem dX11_copy_195 : decode cX11_copy 195 = .ok (.aload_n 0, 1) := by decide +kernel
theorem dX11_copy_196 : decode cX11_copy 196 = .ok (.getfield 71, 3) := by decide +kernel
theorem dX11_copy_199 : decode cX11_copy 199 = .ok (.iload 6, 2) := by decide +kernel
theorem dX11_copy_201 : decode cX11_copy 201 = .ok (.laload, 1) := by decide +kernel
theorem dX11_copy_202 : decode cX11_copy 202 = .ok (.lastore, 1) := by decide +kernel
theorem dX11_copy_203 : decode cX11_copy 203 = .ok (.iinc 6 1, 3) := by decide +kernel
theorem dX11_copy_206 : decode cX11_copy 206 = .ok (.goto (-32), 3) := by decide +kernel
theorem dX11_copy_209 : decode cX11_copy 209 = .ok (.iload 5, 2) := by decide +kernel
theorem dX11_copy_211 : decode cX11_copy 211 = .ok (.ireturn, 1) := by decide +kernel
theorem dX11_taxOf_0 : decode cX11_taxOf 0 = .ok (.iload_n 0, 1) := by decide +kernel
theorem dX11_taxOf_1 : decode cX11_taxOf 1 = .ok (.tableswitch 66 1 7 #[43, 47, 49, 66, 52, 55, 62], 43) := by decide +kernel
theorem dX11_taxOf_44 : decode cX11_taxOf 44 = .ok (.iconst 3, 1) := by decide +kernel
theorem dX11_taxOf_45 : decode cX11_taxOf 45 = .ok (.iload_n 1, 1) := by decide +kernel
theorem dX11_taxOf_46 : decode cX11_taxOf 46 = .ok (.iadd, 1) := by decide +kernel
theorem dX11_taxOf_47 : decode cX11_taxOf 47 = .ok (.ireturn, 1) := by decide +kernel
theorem dX11_taxOf_48 : decode cX11_taxOf 48 = .ok (.iconst 2, 1) := by decide +kernel
theorem dX11_taxOf_49 : decode cX11_taxOf 49 = .ok (.ireturn, 1) := by decide +kernel
theorem dX11_taxOf_50 : decode cX11_taxOf 50 = .ok (.bipush 6, 2) := by decide +kernel
theorem dX11_taxOf_52 : decode cX11_taxOf 52 = .ok (.ireturn, 1) := by decide +kernel
theorem dX11_taxOf_53 : decode cX11_taxOf 53 = .ok (.bipush 7, 2) := by decide +kernel
theorem dX11_taxOf_55 : decode cX11_taxOf 55 = .ok (.ireturn, 1) := by decide +kernel
theorem dX11_taxOf_56 : decode cX11_taxOf 56 = .ok (.bipush 6, 2) := by decide +kernel
theorem dX11_taxOf_58 : decode cX11_taxOf 58 = .ok (.iconst 2, 1) := by decide +kernel
theorem dX11_taxOf_59 : decode cX11_taxOf 59 = .ok (.iload_n 1, 1) := by decide +kernel
theorem dX11_taxOf_60 : decode cX11_taxOf 60 = .ok (.imul, 1) := by decide +kernel
theorem dX11_taxOf_61 : decode cX11_taxOf 61 = .ok (.iadd, 1) := by decide +kernel
theorem dX11_taxOf_62 : decode cX11_taxOf 62 = .ok (.ireturn, 1) := by decide +kernel
theorem dX11_taxOf_63 : decode cX11_taxOf 63 = .ok (.iconst 2, 1) := by decide +kernel
theorem dX11_taxOf_64 : decode cX11_taxOf 64 = .ok (.iload_n 1, 1) := by decide +kernel
theorem dX11_taxOf_65 : decode cX11_taxOf 65 = .ok (.isub, 1) := by decide +kernel
theorem dX11_taxOf_66 : decode cX11_taxOf 66 = .ok (.ireturn, 1) := by decide +kernel
theorem dX11_taxOf_67 : decode cX11_taxOf 67 = .ok (.iconst 3, 1) := by decide +kernel
theorem dX11_taxOf_68 : decode cX11_taxOf 68 = .ok (.ireturn, 1) := by decide +kernel
theorem dX11_tax_0 : decode cX11_tax 0 = .ok (.aload_n 0, 1) := by decide +kernel
theorem dX11_tax_1 : decode cX11_tax 1 = .ok (.iconst 0, 1) := by decide +kernel
theorem dX11_tax_2 : decode cX11_tax 2 = .ok (.putfield 74, 3) := by decide +kernel
theorem dX11_tax_5 : decode cX11_tax 5 = .ok (.aload_n 0, 1) := by decide +kernel
theorem dX11_tax_6 : decode cX11_tax 6 = .ok (.iload_n 1, 1) := by decide +kernel
theorem dX11_tax_7 : decode cX11_tax 7 = .ok (.invokevirtual 192, 3) := by decide +kernel
theorem dX11_tax_10 : decode cX11_tax 10 = .ok (.ifCond .ge 11, 3) := by decide +kernel
theorem dX11_tax_13 : decode cX11_tax 13 = .ok (.aload_n 0, 1) := by decide +kernel
theorem dX11_tax_14 : decode cX11_tax 14 = .ok (.iload_n 1, 1) := by decide +kernel
theorem dX11_tax_15 : decode cX11_tax 15 = .ok (.invokevirtual 192, 3) := by decide +kernel
theorem dX11_tax_18 : decode cX11_tax 18 = .ok (.goto 18, 3) := by decide +kernel
theorem dX11_tax_21 : decode cX11_tax 21 = .ok (.aload_n 0, 1) := by decide +kernel
theorem dX11_tax_22 : decode cX11_tax 22 = .ok (.getfield 55, 3) := by decide +kernel
theorem dX11_tax_25 : decode cX11_tax 25 = .ok (.iload_n 1, 1) := by decide +kernel
theorem dX11_tax_26 : decode cX11_tax 26 = .ok (.iaload, 1) := by decide +kernel
theorem dX11_tax_27 : decode cX11_tax 27 = .ok (.aload_n 0, 1) := by decide +kernel
theorem dX11_tax_28 : decode cX11_tax 28 = .ok (.getfield 58, 3) := by decide +kernel
theorem dX11_tax_31 : decode cX11_tax 31 = .ok (.iload_n 1, 1) := by decide +kernel
theorem dX11_tax_32 : decode cX11_tax 32 = .ok (.iaload, 1) := by decide +kernel
theorem dX11_tax_33 : decode cX11_tax 33 = .ok (.invokestatic 262, 3) := by decide +kernel
theorem dX11_tax_36 : decode cX11_tax 36 = .ok (.ireturn, 1) := by decide +kernel
theorem dX11_toss_0 : decode cX11_toss 0 = .ok (.aload_n 0, 1) := by decide +kernel
theorem dX11_toss_1 : decode cX11_toss 1 = .ok (.iconst 0, 1) := by decide +kernel
theorem dX11_toss_2 : decode cX11_toss 2 = .ok (.putfield 74, 3) := by decide +kernel
theorem dX11_toss_5 : decode cX11_toss 5 = .ok (.aload_n 0, 1) := by decide +kernel
theorem dX11_toss_6 : decode cX11_toss 6 = .ok (.iload_n 1, 1) := by decide +kernel
theorem dX11_toss_7 : decode cX11_toss 7 = .ok (.invokevirtual 192, 3) := by decide +kernel
theorem dX11_toss_10 : decode cX11_toss 10 = .ok (.ifCond .ge 9, 3) := by decide +kernel
theorem dX11_toss_13 : decode cX11_toss 13 = .ok (.aload_n 0, 1) := by decide +kernel
theorem dX11_toss_14 : decode cX11_toss 14 = .ok (.iload_n 1, 1) := by decide +kernel
theorem dX11_toss_15 : decode cX11_toss 15 = .ok (.invokevirtual 192, 3) := by decide +kernel
theorem dX11_toss_18 : decode cX11_toss 18 = .ok (.ireturn, 1) := by decide +kernel
theorem dX11_toss_19 : decode cX11_toss 19 = .ok (.aload_n 0, 1) := by decide +kernel
theorem dX11_toss_20 : decode cX11_toss 20 = .ok (.getfield 55, 3) := by decide +kernel
theorem dX11_toss_23 : decode cX11_toss 23 = .ok (.iload_n 1, 1) := by decide +kernel
theorem dX11_toss_24 : decode cX11_toss 24 = .ok (.iaload, 1) := by decide +kernel
theorem dX11_toss_25 : decode cX11_toss 25 = .ok (.istore_n 2, 1) := by decide +kernel
theorem dX11_toss_26 : decode cX11_toss 26 = .ok (.aload_n 0, 1) := by decide +kernel
theorem dX11_toss_27 : decode cX11_toss 27 = .ok (.getfield 58, 3) := by decide +kernel
theorem dX11_toss_30 : decode cX11_toss 30 = .ok (.iload_n 1, 1) := by decide +kernel
theorem dX11_toss_31 : decode cX11_toss 31 = .ok (.iaload, 1) := by decide +kernel
theorem dX11_toss_32 : decode cX11_toss 32 = .ok (.istore_n 3, 1) := by decide +kernel
theorem dX11_toss_33 : decode cX11_toss 33 = .ok (.iload_n 2, 1) := by decide +kernel
theorem dX11_toss_34 : decode cX11_toss 34 = .ok (.iconst 4, 1) := by decide +kernel
theorem dX11_toss_35 : decode cX11_toss 35 = .ok (.if_icmp .eq 7, 3) := by decide +kernel
theorem dX11_toss_38 : decode cX11_toss 38 = .ok (.iload_n 3, 1) := by decide +kernel
theorem dX11_toss_39 : decode cX11_toss 39 = .ok (.ifCond .ne 6, 3) := by decide +kernel
theorem dX11_toss_42 : decode cX11_toss 42 = .ok (.bipush (-15), 2) := by decide +kernel
theorem dX11_toss_44 : decode cX11_toss 44 = .ok (.ireturn, 1) := by decide +kernel
theorem dX11_toss_45 : decode cX11_toss 45 = .ok (.iload_n 2, 1) := by decide +kernel
theorem dX11_toss_46 : decode cX11_toss 46 = .ok (.bipush 7, 2) := by decide +kernel
theorem dX11_toss_48 : decode cX11_toss 48 = .ok (.if_icmp .ne 10, 3) := by decide +kernel
theorem dX11_toss_51 : decode cX11_toss 51 = .ok (.bipush 100, 2) := by decide +kernel
theorem dX11_toss_53 : decode cX11_toss 53 = .ok (.iload_n 3, 1) := by decide +kernel
theorem dX11_toss_54 : decode cX11_toss 54 = .ok (.iadd, 1) := by decide +kernel
theorem dX11_toss_55 : decode cX11_toss 55 = .ok (.goto 22, 3) := by decide +kernel
theorem dX11_toss_58 : decode cX11_toss 58 = .ok (.iload_n 2, 1) := by decide +kernel
theorem dX11_toss_59 : decode cX11_toss 59 = .ok (.bipush 6, 2) := by decide +kernel
theorem dX11_toss_61 : decode cX11_toss 61 = .ok (.if_icmp .ne 15, 3) := by decide +kernel
theorem dX11_toss_64 : decode cX11_toss 64 = .ok (.sipush 200, 3) := by decide +kernel
theorem dX11_toss_67 : decode cX11_toss 67 = .ok (.iload_n 2, 1) := by decide +kernel
theorem dX11_toss_68 : decode cX11_toss 68 = .ok (.iload_n 3, 1) := by decide +kernel
theorem dX11_toss_69 : decode cX11_toss 69 = .ok (.invokestatic 262, 3) := by decide +kernel
theorem dX11_toss_72 : decode cX11_toss 72 = .ok (.iadd, 1) := by decide +kernel
theorem dX11_toss_73 : decode cX11_toss 73 = .ok (.goto 4, 3) := by decide +kernel
theorem dX11_toss_76 : decode cX11_toss 76 = .ok (.iload_n 3, 1) := by decide +kernel
theorem dX11_toss_77 : decode cX11_toss 77 = .ok (.ireturn, 1) := by decide +kernel
theorem dJ9_max_7cf53_0 : decode cJ9_max_7cf53 0 = .ok (.iload_n 0, 1) := by decide +kernel
theorem dJ9_max_7cf53_1 : decode cJ9_max_7cf53 1 = .ok (.iload_n 1, 1) := by decide +kernel
theorem dJ9_max_7cf53_2 : decode cJ9_max_7cf53 2 = .ok (.if_icmp .lt 7, 3) := by decide +kernel
theorem dJ9_max_7cf53_5 : decode cJ9_max_7cf53 5 = .ok (.iload_n 0, 1) := by decide +kernel
theorem dJ9_max_7cf53_6 : decode cJ9_max_7cf53 6 = .ok (.goto 4, 3) := by decide +kernel
theorem dJ9_max_7cf53_9 : decode cJ9_max_7cf53 9 = .ok (.iload_n 1, 1) := by decide +kernel
theorem dJ9_max_7cf53_10 : decode cJ9_max_7cf53 10 = .ok (.ireturn, 1) := by decide +kernel
theorem dJ9_min_7cf53_0 : decode cJ9_min_7cf53 0 = .ok (.iload_n 0, 1) := by decide +kernel
theorem dJ9_min_7cf53_1 : decode cJ9_min_7cf53 1 = .ok (.iload_n 1, 1) := by decide +kernel
theorem dJ9_min_7cf53_2 : decode cJ9_min_7cf53 2 = .ok (.if_icmp .gt 7, 3) := by decide +kernel
theorem dJ9_min_7cf53_5 : decode cJ9_min_7cf53 5 = .ok (.iload_n 0, 1) := by decide +kernel
theorem dJ9_min_7cf53_6 : decode cJ9_min_7cf53 6 = .ok (.goto 4, 3) := by decide +kernel
theorem dJ9_min_7cf53_9 : decode cJ9_min_7cf53 9 = .ok (.iload_n 1, 1) := by decide +kernel
theorem dJ9_min_7cf53_10 : decode cJ9_min_7cf53 10 = .ok (.ireturn, 1) := by decide +kernel
theorem dJ7_fill_53178_0 : decode cJ7_fill_53178 0 = .ok (.iconst 0, 1) := by decide +kernel
theorem dJ7_fill_53178_1 : decode cJ7_fill_53178 1 = .ok (.istore_n 2, 1) := by decide +kernel
theorem dJ7_fill_53178_2 : decode cJ7_fill_53178 2 = .ok (.aload_n 0, 1) := by decide +kernel
theorem dJ7_fill_53178_3 : decode cJ7_fill_53178 3 = .ok (.arraylength, 1) := by decide +kernel
theorem dJ7_fill_53178_4 : decode cJ7_fill_53178 4 = .ok (.istore_n 3, 1) := by decide +kernel
theorem dJ7_fill_53178_5 : decode cJ7_fill_53178 5 = .ok (.iload_n 2, 1) := by decide +kernel
theorem dJ7_fill_53178_6 : decode cJ7_fill_53178 6 = .ok (.iload_n 3, 1) := by decide +kernel
theorem dJ7_fill_53178_7 : decode cJ7_fill_53178 7 = .ok (.if_icmp .ge 13, 3) := by decide +kernel
theorem dJ7_fill_53178_10 : decode cJ7_fill_53178 10 = .ok (.aload_n 0, 1) := by decide +kernel
theorem dJ7_fill_53178_11 : decode cJ7_fill_53178 11 = .ok (.iload_n 2, 1) := by decide +kernel
theorem dJ7_fill_53178_12 : decode cJ7_fill_53178 12 = .ok (.iload_n 1, 1) := by decide +kernel
theorem dJ7_fill_53178_13 : decode cJ7_fill_53178 13 = .ok (.iastore, 1) := by decide +kernel
theorem dJ7_fill_53178_14 : decode cJ7_fill_53178 14 = .ok (.iinc 2 1, 3) := by decide +kernel
theorem dJ7_fill_53178_17 : decode cJ7_fill_53178 17 = .ok (.goto (-12), 3) := by decide +kernel
theorem dJ7_fill_53178_20 : decode cJ7_fill_53178 20 = .ok (.return_, 1) := by decide +kernel
theorem dL_element_0 : decode cL_element 0 = .ok (.aload_n 3, 1) := by decide +kernel
theorem dL_element_1 : decode cL_element 1 = .ok (.iconst 0, 1) := by decide +kernel
theorem dL_element_2 : decode cL_element 2 = .ok (.aload_n 0, 1) := by decide +kernel
theorem dL_element_3 : decode cL_element 3 = .ok (.iload_n 1, 1) := by decide +kernel
theorem dL_element_4 : decode cL_element 4 = .ok (.iload_n 2, 1) := by decide +kernel
theorem dL_element_5 : decode cL_element 5 = .ok (.invokevirtual 7, 3) := by decide +kernel
theorem dL_element_8 : decode cL_element 8 = .ok (.lastore, 1) := by decide +kernel
theorem dL_element_9 : decode cL_element 9 = .ok (.goto 11, 3) := by decide +kernel
theorem dL_element_12 : decode cL_element 12 = .ok (.astore 4, 2) := by decide +kernel
theorem dL_element_14 : decode cL_element 14 = .ok (.iconst 1, 1) := by decide +kernel
theorem dL_element_15 : decode cL_element 15 = .ok (.ireturn, 1) := by decide +kernel
theorem dL_element_16 : decode cL_element 16 = .ok (.astore 4, 2) := by decide +kernel
theorem dL_element_18 : decode cL_element 18 = .ok (.iconst 2, 1) := by decide +kernel
theorem dL_element_19 : decode cL_element 19 = .ok (.ireturn, 1) := by decide +kernel
theorem dL_element_20 : decode cL_element 20 = .ok (.iconst 0, 1) := by decide +kernel
theorem dL_element_21 : decode cL_element 21 = .ok (.ireturn, 1) := by decide +kernel
theorem dL_law_0 : decode cL_law 0 = .ok (.new 8, 3) := by decide +kernel
theorem dL_law_3 : decode cL_law 3 = .ok (.dup, 1) := by decide +kernel
theorem dL_law_4 : decode cL_law 4 = .ok (.invokespecial 17, 3) := by decide +kernel
theorem dL_law_7 : decode cL_law 7 = .ok (.astore_n 1, 1) := by decide +kernel
theorem dL_law_8 : decode cL_law 8 = .ok (.new 18, 3) := by decide +kernel
theorem dL_law_11 : decode cL_law 11 = .ok (.dup, 1) := by decide +kernel
theorem dL_law_12 : decode cL_law 12 = .ok (.invokespecial 20, 3) := by decide +kernel
theorem dL_law_15 : decode cL_law 15 = .ok (.astore_n 2, 1) := by decide +kernel
theorem dL_law_16 : decode cL_law 16 = .ok (.iconst 1, 1) := by decide +kernel
theorem dL_law_17 : decode cL_law 17 = .ok (.newarray .long, 2) := by decide +kernel
theorem dL_law_19 : decode cL_law 19 = .ok (.astore_n 3, 1) := by decide +kernel
theorem dL_law_20 : decode cL_law 20 = .ok (.iconst 0, 1) := by decide +kernel
theorem dL_law_21 : decode cL_law 21 = .ok (.istore 4, 2) := by decide +kernel
theorem dL_law_23 : decode cL_law 23 = .ok (.iload 4, 2) := by decide +kernel
theorem dL_law_25 : decode cL_law 25 = .ok (.aload_n 0, 1) := by decide +kernel
theorem dL_law_26 : decode cL_law 26 = .ok (.arraylength, 1) := by decide +kernel
theorem dL_law_27 : decode cL_law 27 = .ok (.bipush 6, 2) := by decide +kernel
theorem dL_law_29 : decode cL_law 29 = .ok (.isub, 1) := by decide +kernel
theorem dL_law_30 : decode cL_law 30 = .ok (.if_icmp .gt 1148, 3) := by decide +kernel
theorem dL_law_33 : decode cL_law 33 = .ok (.aload_n 0, 1) := by decide +kernel
theorem dL_law_34 : decode cL_law 34 = .ok (.iload 4, 2) := by decide +kernel
theorem dL_law_36 : decode cL_law 36 = .ok (.iaload, 1) := by decide +kernel
theorem dL_law_37 : decode cL_law 37 = .ok (.bipush 31, 2) := by decide +kernel
theorem dL_law_39 : decode cL_law 39 = .ok (.iand, 1) := by decide +kernel
theorem dL_law_40 : decode cL_law 40 = .ok (.tableswitch 1132 0 29 #[136, 161, 198, 223, 248, 285, 310, 347, 384, 409, 422, 459, 496, 509, 522, 571, 596, 621, 658, 707, 732, 745, 758, 783, 844, 893, 942, 1009, 1082, 1107], 136) := by decide +kernel
theorem dL_law_176 : decode cL_law 176 = .ok (.aload_n 1, 1) := by decide +kernel
theorem dL_law_177 : decode cL_law 177 = .ok (.aload_n 0, 1) := by decide +kernel
theorem dL_law_178 : decode cL_law 178 = .ok (.iload 4, 2) := by decide +kernel
theorem dL_law_180 : decode cL_law 180 = .ok (.iconst 1, 1) := by decide +kernel
theorem dL_law_181 : decode cL_law 181 = .ok (.iadd, 1) := by decide +kernel
theorem dL_law_182 : decode cL_law 182 = .ok (.iaload, 1) := by decide +kernel
theorem dL_law_183 : decode cL_law 183 = .ok (.invokevirtual 21, 3) := by decide +kernel
theorem dL_law_186 : decode cL_law 186 = .ok (.aload_n 2, 1) := by decide +kernel
theorem dL_law_187 : decode cL_law 187 = .ok (.aload_n 0, 1) := by decide +kernel
theorem dL_law_188 : decode cL_law 188 = .ok (.iload 4, 2) := by decide +kernel
theorem dL_law_190 : decode cL_law 190 = .ok (.iconst 1, 1) := by decide +kernel
theorem dL_law_191 : decode cL_law 191 = .ok (.iadd, 1) := by decide +kernel
theorem dL_law_192 : decode cL_law 192 = .ok (.iaload, 1) := by decide +kernel
theorem dL_law_193 : decode cL_law 193 = .ok (.invokevirtual 25, 3) := by decide +kernel
theorem dL_law_196 : decode cL_law 196 = .ok (.if_icmp .eq 976, 3) := by decide +kernel
theorem dL_law_199 : decode cL_law 199 = .ok (.iconst 0, 1) := by decide +kernel
theorem dL_law_200 : decode cL_law 200 = .ok (.ireturn, 1) := by decide +kernel
theorem dL_law_201 : decode cL_law 201 = .ok (.aload_n 1, 1) := by decide +kernel
theorem dL_law_202 : decode cL_law 202 = .ok (.aload_n 0, 1) := by decide +kernel
theorem dL_law_203 : decode cL_law 203 = .ok (.iload 4, 2) := by decide +kernel
theorem dL_law_205 : decode cL_law 205 = .ok (.iconst 1, 1) := by decide +kernel
theorem dL_law_206 : decode cL_law 206 = .ok (.iadd, 1) := by decide +kernel
theorem dL_law_207 : decode cL_law 207 = .ok (.iaload, 1) := by decide +kernel
theorem dL_law_208 : decode cL_law 208 = .ok (.aload_n 0, 1) := by decide +kernel
theorem dL_law_209 : decode cL_law 209 = .ok (.iload 4, 2) := by decide +kernel
theorem dL_law_211 : decode cL_law 211 = .ok (.iconst 2, 1) := by decide +kernel
theorem dL_law_212 : decode cL_law 212 = .ok (.iadd, 1) := by decide +kernel
theorem dL_law_213 : decode cL_law 213 = .ok (.iaload, 1) := by decide +kernel
theorem dL_law_214 : decode cL_law 214 = .ok (.invokevirtual 26, 3) := by decide +kernel
theorem dL_law_217 : decode cL_law 217 = .ok (.aload_n 2, 1) := by decide +kernel
theorem dL_law_218 : decode cL_law 218 = .ok (.aload_n 0, 1) := by decide +kernel
theorem dL_law_219 : decode cL_law 219 = .ok (.iload 4, 2) := by decide +kernel
theorem dL_law_221 : decode cL_law 221 = .ok (.iconst 1, 1) := by decide +kernel
theorem dL_law_222 : decode cL_law 222 = .ok (.iadd, 1) := by decide +kernel
theorem dL_law_223 : decode cL_law 223 = .ok (.iaload, 1) := by decide +kernel
theorem dL_law_224 : decode cL_law 224 = .ok (.aload_n 0, 1) := by decide +kernel
theorem dL_law_225 : decode cL_law 225 = .ok (.iload 4, 2) := by decide +kernel
theorem dL_law_227 : decode cL_law 227 = .ok (.iconst 2, 1) := by decide +kernel
theorem dL_law_228 : decode cL_law 228 = .ok (.iadd, 1) := by decide +kernel
theorem dL_law_229 : decode cL_law 229 = .ok (.iaload, 1) := by decide +kernel
theorem dL_law_230 : decode cL_law 230 = .ok (.invokevirtual 30, 3) := by decide +kernel
theorem dL_law_233 : decode cL_law 233 = .ok (.if_icmp .eq 939, 3) := by decide +kernel
theorem dL_law_236 : decode cL_law 236 = .ok (.iconst 0, 1) := by decide +kernel
theorem dL_law_237 : decode cL_law 237 = .ok (.ireturn, 1) := by decide +kernel
theorem dL_law_238 : decode cL_law 238 = .ok (.aload_n 1, 1) := by decide +kernel
theorem dL_law_239 : decode cL_law 239 = .ok (.aload_n 0, 1) := by decide +kernel
theorem dL_law_240 : decode cL_law 240 = .ok (.iload 4, 2) := by decide +kernel
theorem dL_law_242 : decode cL_law 242 = .ok (.iconst 1, 1) := by decide +kernel
theorem dL_law_243 : decode cL_law 243 = .ok (.iadd, 1) := by decide +kernel
theorem dL_law_244 : decode cL_law 244 = .ok (.iaload, 1) := by decide +kernel
theorem dL_law_245 : decode cL_law 245 = .ok (.invokevirtual 31, 3) := by decide +kernel
theorem dL_law_248 : decode cL_law 248 = .ok (.aload_n 2, 1) := by decide +kernel
theorem dL_law_249 : decode cL_law 249 = .ok (.aload_n 0, 1) := by decide +kernel
theorem dL_law_250 : decode cL_law 250 = .ok (.iload 4, 2) := by decide +kernel
theorem dL_law_252 : decode cL_law 252 = .ok (.iconst 1, 1) := by decide +kernel
theorem dL_law_253 : decode cL_law 253 = .ok (.iadd, 1) := by decide +kernel
theorem dL_law_254 : decode cL_law 254 = .ok (.iaload, 1) := by decide +kernel
theorem dL_law_255 : decode cL_law 255 = .ok (.invokevirtual 34, 3) := by decide +kernel
theorem dL_law_258 : decode cL_law 258 = .ok (.if_icmp .eq 914, 3) := by decide +kernel
theorem dL_law_261 : decode cL_law 261 = .ok (.iconst 0, 1) := by decide +kernel
theorem dL_law_262 : decode cL_law 262 = .ok (.ireturn, 1) := by decide +kernel
theorem dL_law_263 : decode cL_law 263 = .ok (.aload_n 1, 1) := by decide +kernel
theorem dL_law_264 : decode cL_law 264 = .ok (.aload_n 0, 1) := by decide +kernel
theorem dL_law_265 : decode cL_law 265 = .ok (.iload 4, 2) := by decide +kernel
theorem dL_law_267 : decode cL_law 267 = .ok (.iconst 1, 1) := by decide +kernel
theorem dL_law_268 : decode cL_law 268 = .ok (.iadd, 1) := by decide +kernel
theorem dL_law_269 : decode cL_law 269 = .ok (.iaload, 1) := by decide +kernel
theorem dL_law_270 : decode cL_law 270 = .ok (.invokevirtual 35, 3) := by decide +kernel
theorem dL_law_273 : decode cL_law 273 = .ok (.aload_n 2, 1) := by decide +kernel
theorem dL_law_274 : decode cL_law 274 = .ok (.aload_n 0, 1) := by decide +kernel
theorem dL_law_275 : decode cL_law 275 = .ok (.iload 4, 2) := by decide +kernel
theorem dL_law_277 : decode cL_law 277 = .ok (.iconst 1, 1) := by decide +kernel
theorem dL_law_278 : decode cL_law 278 = .ok (.iadd, 1) := by decide +kernel
theorem dL_law_279 : decode cL_law 279 = .ok (.iaload, 1) := by decide +kernel
theorem dL_law_280 : decode cL_law 280 = .ok (.invokevirtual 38, 3) := by decide +kernel
theorem dL_law_283 : decode cL_law 283 = .ok (.if_icmp .eq 889, 3) := by decide +kernel
theorem dL_law_286 : decode cL_law 286 = .ok (.iconst 0, 1) := by decide +kernel
theorem dL_law_287 : decode cL_law 287 = .ok (.ireturn, 1) := by decide +kernel
theorem dL_law_288 : decode cL_law 288 = .ok (.aload_n 1, 1) := by decide +kernel
theorem dL_law_289 : decode cL_law 289 = .ok (.aload_n 0, 1) := by decide +kernel
theorem dL_law_290 : decode cL_law 290 = .ok (.iload 4, 2) := by decide +kernel
theorem dL_law_292 : decode cL_law 292 = .ok (.iconst 1, 1) := by decide +kernel
theorem dL_law_293 : decode cL_law 293 = .ok (.iadd, 1) := by decide +kernel
theorem dL_law_294 : decode cL_law 294 = .ok (.iaload, 1) := by decide +kernel
theorem dL_law_295 : decode cL_law 295 = .ok (.aload_n 0, 1) := by decide +kernel
theorem dL_law_296 : decode cL_law 296 = .ok (.iload 4, 2) := by decide +kernel
theorem dL_law_298 : decode cL_law 298 = .ok (.iconst 2, 1) := by decide +kernel
theorem dL_law_299 : decode cL_law 299 = .ok (.iadd, 1) := by decide +kernel
theorem dL_law_300 : decode cL_law 300 = .ok (.iaload, 1) := by decide +kernel
theorem dL_law_301 : decode cL_law 301 = .ok (.invokevirtual 39, 3) := by decide +kernel
theorem dL_law_304 : decode cL_law 304 = .ok (.aload_n 2, 1) := by decide +kernel
theorem dL_law_305 : decode cL_law 305 = .ok (.aload_n 0, 1) := by decide +kernel
theorem dL_law_306 : decode cL_law 306 = .ok (.iload 4, 2) := by decide +kernel
theorem dL_law_308 : decode cL_law 308 = .ok (.iconst 1, 1) := by decide +kernel
theorem dL_law_309 : decode cL_law 309 = .ok (.iadd, 1) := by decide +kernel
theorem dL_law_310 : decode cL_law 310 = .ok (.iaload, 1) := by decide +kernel
theorem dL_law_311 : decode cL_law 311 = .ok (.aload_n 0, 1) := by decide +kernel
theorem dL_law_312 : decode cL_law 312 = .ok (.iload 4, 2) := by decide +kernel
theorem dL_law_314 : decode cL_law 314 = .ok (.iconst 2, 1) := by decide +kernel
theorem dL_law_315 : decode cL_law 315 = .ok (.iadd, 1) := by decide +kernel
theorem dL_law_316 : decode cL_law 316 = .ok (.iaload, 1) := by decide +kernel
theorem dL_law_317 : decode cL_law 317 = .ok (.invokevirtual 42, 3) := by decide +kernel
theorem dL_law_320 : decode cL_law 320 = .ok (.if_icmp .eq 852, 3) := by decide +kernel
theorem dL_law_323 : decode cL_law 323 = .ok (.iconst 0, 1) := by decide +kernel
theorem dL_law_324 : decode cL_law 324 = .ok (.ireturn, 1) := by decide +kernel
theorem dL_law_325 : decode cL_law 325 = .ok (.aload_n 1, 1) := by decide +kernel
theorem dL_law_326 : decode cL_law 326 = .ok (.aload_n 0, 1) := by decide +kernel
theorem dL_law_327 : decode cL_law 327 = .ok (.iload 4, 2) := by decide +kernel
theorem dL_law_329 : decode cL_law 329 = .ok (.iconst 1, 1) := by decide +kernel
theorem dL_law_330 : decode cL_law 330 = .ok (.iadd, 1) := by decide +kernel
theorem dL_law_331 : decode cL_law 331 = .ok (.iaload, 1) := by decide +kernel
theorem dL_law_332 : decode cL_law 332 = .ok (.invokevirtual 43, 3) := by decide +kernel
theorem dL_law_335 : decode cL_law 335 = .ok (.aload_n 2, 1) := by decide +kernel
theorem dL_law_336 : decode cL_law 336 = .ok (.aload_n 0, 1) := by decide +kernel
theorem dL_law_337 : decode cL_law 337 = .ok (.iload 4, 2) := by decide +kernel
theorem dL_law_339 : decode cL_law 339 = .ok (.iconst 1, 1) := by decide +kernel
theorem dL_law_340 : decode cL_law 340 = .ok (.iadd, 1) := by decide +kernel
theorem dL_law_341 : decode cL_law 341 = .ok (.iaload, 1) := by decide +kernel
theorem dL_law_342 : decode cL_law 342 = .ok (.invokevirtual 46, 3) := by decide +kernel
theorem dL_law_345 : decode cL_law 345 = .ok (.if_icmp .eq 827, 3) := by decide +kernel
theorem dL_law_348 : decode cL_law 348 = .ok (.iconst 0, 1) := by decide +kernel
theorem dL_law_349 : decode cL_law 349 = .ok (.ireturn, 1) := by decide +kernel
theorem dL_law_350 : decode cL_law 350 = .ok (.aload_n 1, 1) := by decide +kernel
theorem dL_law_351 : decode cL_law 351 = .ok (.aload_n 0, 1) := by decide +kernel
theorem dL_law_352 : decode cL_law 352 = .ok (.iload 4, 2) := by decide +kernel
theorem dL_law_354 : decode cL_law 354 = .ok (.iconst 1, 1) := by decide +kernel
theorem dL_law_355 : decode cL_law 355 = .ok (.iadd, 1) := by decide +kernel
theorem dL_law_356 : decode cL_law 356 = .ok (.iaload, 1) := by decide +kernel
theorem dL_law_357 : decode cL_law 357 = .ok (.aload_n 0, 1) := by decide +kernel
theorem dL_law_358 : decode cL_law 358 = .ok (.iload 4, 2) := by decide +kernel
theorem dL_law_360 : decode cL_law 360 = .ok (.iconst 2, 1) := by decide +kernel
theorem dL_law_361 : decode cL_law 361 = .ok (.iadd, 1) := by decide +kernel
theorem dL_law_362 : decode cL_law 362 = .ok (.iaload, 1) := by decide +kernel
theorem dL_law_363 : decode cL_law 363 = .ok (.invokevirtual 47, 3) := by decide +kernel
theorem dL_law_366 : decode cL_law 366 = .ok (.aload_n 2, 1) := by decide +kernel
theorem dL_law_367 : decode cL_law 367 = .ok (.aload_n 0, 1) := by decide +kernel
theorem dL_law_368 : decode cL_law 368 = .ok (.iload 4, 2) := by decide +kernel
theorem dL_law_370 : decode cL_law 370 = .ok (.iconst 1, 1) := by decide +kernel
theorem dL_law_371 : decode cL_law 371 = .ok (.iadd, 1) := by decide +kernel
theorem dL_law_372 : decode cL_law 372 = .ok (.iaload, 1) := by decide +kernel
theorem dL_law_373 : decode cL_law 373 = .ok (.aload_n 0, 1) := by decide +kernel
theorem dL_law_374 : decode cL_law 374 = .ok (.iload 4, 2) := by decide +kernel
theorem dL_law_376 : decode cL_law 376 = .ok (.iconst 2, 1) := by decide +kernel
theorem dL_law_377 : decode cL_law 377 = .ok (.iadd, 1) := by decide +kernel
theorem dL_law_378 : decode cL_law 378 = .ok (.iaload, 1) := by decide +kernel
theorem dL_law_379 : decode cL_law 379 = .ok (.invokevirtual 50, 3) := by decide +kernel
theorem dL_law_382 : decode cL_law 382 = .ok (.if_icmp .eq 790, 3) := by decide +kernel
theorem dL_law_385 : decode cL_law 385 = .ok (.iconst 0, 1) := by decide +kernel
theorem dL_law_386 : decode cL_law 386 = .ok (.ireturn, 1) := by decide +kernel
theorem dL_law_387 : decode cL_law 387 = .ok (.aload_n 1, 1) := by decide +kernel
theorem dL_law_388 : decode cL_law 388 = .ok (.aload_n 0, 1) := by decide +kernel
theorem dL_law_389 : decode cL_law 389 = .ok (.iload 4, 2) := by decide +kernel
theorem dL_law_391 : decode cL_law 391 = .ok (.iconst 1, 1) := by decide +kernel
theorem dL_law_392 : decode cL_law 392 = .ok (.iadd, 1) := by decide +kernel
theorem dL_law_393 : decode cL_law 393 = .ok (.iaload, 1) := by decide +kernel
theorem dL_law_394 : decode cL_law 394 = .ok (.aload_n 0, 1) := by decide +kernel
theorem dL_law_395 : decode cL_law 395 = .ok (.iload 4, 2) := by decide +kernel
theorem dL_law_397 : decode cL_law 397 = .ok (.iconst 2, 1) := by decide +kernel
theorem dL_law_398 : decode cL_law 398 = .ok (.iadd, 1) := by decide +kernel
theorem dL_law_399 : decode cL_law 399 = .ok (.iaload, 1) := by decide +kernel
theorem dL_law_400 : decode cL_law 400 = .ok (.invokevirtual 51, 3) := by decide +kernel
theorem dL_law_403 : decode cL_law 403 = .ok (.aload_n 2, 1) := by decide +kernel
theorem dL_law_404 : decode cL_law 404 = .ok (.aload_n 0, 1) := by decide +kernel
theorem dL_law_405 : decode cL_law 405 = .ok (.iload 4, 2) := by decide +kernel
theorem dL_law_407 : decode cL_law 407 = .ok (.iconst 1, 1) := by decide +kernel
theorem dL_law_408 : decode cL_law 408 = .ok (.iadd, 1) := by decide +kernel
theorem dL_law_409 : decode cL_law 409 = .ok (.iaload, 1) := by decide +kernel
theorem dL_law_410 : decode cL_law 410 = .ok (.aload_n 0, 1) := by decide +kernel
theorem dL_law_411 : decode cL_law 411 = .ok (.iload 4, 2) := by decide +kernel
theorem dL_law_413 : decode cL_law 413 = .ok (.iconst 2, 1) := by decide +kernel
theorem dL_law_414 : decode cL_law 414 = .ok (.iadd, 1) := by decide +kernel
theorem dL_law_415 : decode cL_law 415 = .ok (.iaload, 1) := by decide +kernel
theorem dL_law_416 : decode cL_law 416 = .ok (.invokevirtual 54, 3) := by decide +kernel
theorem dL_law_419 : decode cL_law 419 = .ok (.if_icmp .eq 753, 3) := by decide +kernel
theorem dL_law_422 : decode cL_law 422 = .ok (.iconst 0, 1) := by decide +kernel
theorem dL_law_423 : decode cL_law 423 = .ok (.ireturn, 1) := by decide +kernel
theorem dL_law_424 : decode cL_law 424 = .ok (.aload_n 1, 1) := by decide +kernel
theorem dL_law_425 : decode cL_law 425 = .ok (.aload_n 0, 1) := by decide +kernel
theorem dL_law_426 : decode cL_law 426 = .ok (.iload 4, 2) := by decide +kernel
theorem dL_law_428 : decode cL_law 428 = .ok (.iconst 1, 1) := by decide +kernel
theorem dL_law_429 : decode cL_law 429 = .ok (.iadd, 1) := by decide +kernel
theorem dL_law_430 : decode cL_law 430 = .ok (.iaload, 1) := by decide +kernel
theorem dL_law_431 : decode cL_law 431 = .ok (.invokevirtual 55, 3) := by decide +kernel
theorem dL_law_434 : decode cL_law 434 = .ok (.aload_n 2, 1) := by decide +kernel
theorem dL_law_435 : decode cL_law 435 = .ok (.aload_n 0, 1) := by decide +kernel
theorem dL_law_436 : decode cL_law 436 = .ok (.iload 4, 2) := by decide +kernel
theorem dL_law_438 : decode cL_law 438 = .ok (.iconst 1, 1) := by decide +kernel
theorem dL_law_439 : decode cL_law 439 = .ok (.iadd, 1) := by decide +kernel
theorem dL_law_440 : decode cL_law 440 = .ok (.iaload, 1) := by decide +kernel
theorem dL_law_441 : decode cL_law 441 = .ok (.invokevirtual 58, 3) := by decide +kernel
theorem dL_law_444 : decode cL_law 444 = .ok (.if_icmp .eq 728, 3) := by decide +kernel
theorem dL_law_447 : decode cL_law 447 = .ok (.iconst 0, 1) := by decide +kernel
theorem dL_law_448 : decode cL_law 448 = .ok (.ireturn, 1) := by decide +kernel
theorem dL_law_449 : decode cL_law 449 = .ok (.aload_n 1, 1) := by decide +kernel
theorem dL_law_450 : decode cL_law 450 = .ok (.invokevirtual 59, 3) := by decide +kernel
theorem dL_law_453 : decode cL_law 453 = .ok (.aload_n 2, 1) := by decide +kernel
theorem dL_law_454 : decode cL_law 454 = .ok (.invokevirtual 63, 3) := by decide +kernel
theorem dL_law_457 : decode cL_law 457 = .ok (.if_icmp .eq 715, 3) := by decide +kernel
theorem dL_law_460 : decode cL_law 460 = .ok (.iconst 0, 1) := by decide +kernel
theorem dL_law_461 : decode cL_law 461 = .ok (.ireturn, 1) := by decide +kernel
theorem dL_law_462 : decode cL_law 462 = .ok (.aload_n 1, 1) := by decide +kernel
theorem dL_law_463 : decode cL_law 463 = .ok (.aload_n 0, 1) := by decide +kernel
theorem dL_law_464 : decode cL_law 464 = .ok (.iload 4, 2) := by decide +kernel
theorem dL_law_466 : decode cL_law 466 = .ok (.iconst 1, 1) := by decide +kernel
theorem dL_law_467 : decode cL_law 467 = .ok (.iadd, 1) := by decide +kernel
theorem dL_law_468 : decode cL_law 468 = .ok (.iaload, 1) := by decide +kernel
theorem dL_law_469 : decode cL_law 469 = .ok (.aload_n 0, 1) := by decide +kernel
theorem dL_law_470 : decode cL_law 470 = .ok (.iload 4, 2) := by decide +kernel
theorem dL_law_472 : decode cL_law 472 = .ok (.iconst 2, 1) := by decide +kernel
theorem dL_law_473 : decode cL_law 473 = .ok (.iadd, 1) := by decide +kernel
theorem dL_law_474 : decode cL_law 474 = .ok (.iaload, 1) := by decide +kernel
theorem dL_law_475 : decode cL_law 475 = .ok (.invokevirtual 64, 3) := by decide +kernel
theorem dL_law_478 : decode cL_law 478 = .ok (.aload_n 2, 1) := by decide +kernel
theorem dL_law_479 : decode cL_law 479 = .ok (.aload_n 0, 1) := by decide +kernel
theorem dL_law_480 : decode cL_law 480 = .ok (.iload 4, 2) := by decide +kernel
theorem dL_law_482 : decode cL_law 482 = .ok (.iconst 1, 1) := by decide +kernel
theorem dL_law_483 : decode cL_law 483 = .ok (.iadd, 1) := by decide +kernel
theorem dL_law_484 : decode cL_law 484 = .ok (.iaload, 1) := by decide +kernel
theorem dL_law_485 : decode cL_law 485 = .ok (.aload_n 0, 1) := by decide +kernel
theorem dL_law_486 : decode cL_law 486 = .ok (.iload 4, 2) := by decide +kernel
theorem dL_law_488 : decode cL_law 488 = .ok (.iconst 2, 1) := by decide +kernel
theorem dL_law_489 : decode cL_law 489 = .ok (.iadd, 1) := by decide +kernel
theorem dL_law_490 : decode cL_law 490 = .ok (.iaload, 1) := by decide +kernel
theorem dL_law_491 : decode cL_law 491 = .ok (.invokevirtual 67, 3) := by decide +kernel
theorem dL_law_494 : decode cL_law 494 = .ok (.if_icmp .eq 678, 3) := by decide +kernel
theorem dL_law_497 : decode cL_law 497 = .ok (.iconst 0, 1) := by decide +kernel
theorem dL_law_498 : decode cL_law 498 = .ok (.ireturn, 1) := by decide +kernel
theorem dL_law_499 : decode cL_law 499 = .ok (.aload_n 1, 1) := by decide +kernel
theorem dL_law_500 : decode cL_law 500 = .ok (.aload_n 0, 1) := by decide +kernel
theorem dL_law_501 : decode cL_law 501 = .ok (.iload 4, 2) := by decide +kernel
theorem dL_law_503 : decode cL_law 503 = .ok (.iconst 1, 1) := by decide +kernel
theorem dL_law_504 : decode cL_law 504 = .ok (.iadd, 1) := by decide +kernel
theorem dL_law_505 : decode cL_law 505 = .ok (.iaload, 1) := by decide +kernel
theorem dL_law_506 : decode cL_law 506 = .ok (.aload_n 0, 1) := by decide +kernel
theorem dL_law_507 : decode cL_law 507 = .ok (.iload 4, 2) := by decide +kernel
theorem dL_law_509 : decode cL_law 509 = .ok (.iconst 2, 1) := by decide +kernel
theorem dL_law_510 : decode cL_law 510 = .ok (.iadd, 1) := by decide +kernel
theorem dL_law_511 : decode cL_law 511 = .ok (.iaload, 1) := by decide +kernel
theorem dL_law_512 : decode cL_law 512 = .ok (.invokevirtual 68, 3) := by decide +kernel
theorem dL_law_515 : decode cL_law 515 = .ok (.aload_n 2, 1) := by decide +kernel
theorem dL_law_516 : decode cL_law 516 = .ok (.aload_n 0, 1) := by decide +kernel
theorem dL_law_517 : decode cL_law 517 = .ok (.iload 4, 2) := by decide +kernel
theorem dL_law_519 : decode cL_law 519 = .ok (.iconst 1, 1) := by decide +kernel
theorem dL_law_520 : decode cL_law 520 = .ok (.iadd, 1) := by decide +kernel
theorem dL_law_521 : decode cL_law 521 = .ok (.iaload, 1) := by decide +kernel
theorem dL_law_522 : decode cL_law 522 = .ok (.aload_n 0, 1) := by decide +kernel
theorem dL_law_523 : decode cL_law 523 = .ok (.iload 4, 2) := by decide +kernel
theorem dL_law_525 : decode cL_law 525 = .ok (.iconst 2, 1) := by decide +kernel
theorem dL_law_526 : decode cL_law 526 = .ok (.iadd, 1) := by decide +kernel
theorem dL_law_527 : decode cL_law 527 = .ok (.iaload, 1) := by decide +kernel
theorem dL_law_528 : decode cL_law 528 = .ok (.invokevirtual 71, 3) := by decide +kernel
theorem dL_law_531 : decode cL_law 531 = .ok (.if_icmp .eq 641, 3) := by decide +kernel
theorem dL_law_534 : decode cL_law 534 = .ok (.iconst 0, 1) := by decide +kernel
theorem dL_law_535 : decode cL_law 535 = .ok (.ireturn, 1) := by decide +kernel
theorem dL_law_536 : decode cL_law 536 = .ok (.aload_n 1, 1) := by decide +kernel
theorem dL_law_537 : decode cL_law 537 = .ok (.invokevirtual 72, 3) := by decide +kernel
theorem dL_law_540 : decode cL_law 540 = .ok (.aload_n 2, 1) := by decide +kernel
theorem dL_law_541 : decode cL_law 541 = .ok (.invokevirtual 75, 3) := by decide +kernel
theorem dL_law_544 : decode cL_law 544 = .ok (.if_icmp .eq 628, 3) := by decide +kernel
theorem dL_law_547 : decode cL_law 547 = .ok (.iconst 0, 1) := by decide +kernel
theorem dL_law_548 : decode cL_law 548 = .ok (.ireturn, 1) := by decide +kernel
theorem dL_law_549 : decode cL_law 549 = .ok (.aload_n 1, 1) := by decide +kernel
theorem dL_law_550 : decode cL_law 550 = .ok (.invokevirtual 76, 3) := by decide +kernel
theorem dL_law_553 : decode cL_law 553 = .ok (.aload_n 2, 1) := by decide +kernel
theorem dL_law_554 : decode cL_law 554 = .ok (.invokevirtual 79, 3) := by decide +kernel
theorem dL_law_557 : decode cL_law 557 = .ok (.if_icmp .eq 615, 3) := by decide +kernel
theorem dL_law_560 : decode cL_law 560 = .ok (.iconst 0, 1) := by decide +kernel
theorem dL_law_561 : decode cL_law 561 = .ok (.ireturn, 1) := by decide +kernel
theorem dL_law_562 : decode cL_law 562 = .ok (.aload_n 1, 1) := by decide +kernel
theorem dL_law_563 : decode cL_law 563 = .ok (.aload_n 0, 1) := by decide +kernel
theorem dL_law_564 : decode cL_law 564 = .ok (.iload 4, 2) := by decide +kernel
theorem dL_law_566 : decode cL_law 566 = .ok (.iconst 1, 1) := by decide +kernel
theorem dL_law_567 : decode cL_law 567 = .ok (.iadd, 1) := by decide +kernel
theorem dL_law_568 : decode cL_law 568 = .ok (.iaload, 1) := by decide +kernel
theorem dL_law_569 : decode cL_law 569 = .ok (.aload_n 0, 1) := by decide +kernel
theorem dL_law_570 : decode cL_law 570 = .ok (.iload 4, 2) := by decide +kernel
theorem dL_law_572 : decode cL_law 572 = .ok (.iconst 2, 1) := by decide +kernel
theorem dL_law_573 : decode cL_law 573 = .ok (.iadd, 1) := by decide +kernel
theorem dL_law_574 : decode cL_law 574 = .ok (.iaload, 1) := by decide +kernel
theorem dL_law_575 : decode cL_law 575 = .ok (.aload_n 0, 1) := by decide +kernel
theorem dL_law_576 : decode cL_law 576 = .ok (.iload 4, 2) := by decide +kernel
theorem dL_law_578 : decode cL_law 578 = .ok (.iconst 3, 1) := by decide +kernel
theorem dL_law_579 : decode cL_law 579 = .ok (.iadd, 1) := by decide +kernel
theorem dL_law_580 : decode cL_law 580 = .ok (.iaload, 1) := by decide +kernel
theorem dL_law_581 : decode cL_law 581 = .ok (.invokevirtual 80, 3) := by decide +kernel
theorem dL_law_584 : decode cL_law 584 = .ok (.aload_n 2, 1) := by decide +kernel
theorem dL_law_585 : decode cL_law 585 = .ok (.aload_n 0, 1) := by decide +kernel
theorem dL_law_586 : decode cL_law 586 = .ok (.iload 4, 2) := by decide +kernel
theorem dL_law_588 : decode cL_law 588 = .ok (.iconst 1, 1) := by decide +kernel
theorem dL_law_589 : decode cL_law 589 = .ok (.iadd, 1) := by decide +kernel
theorem dL_law_590 : decode cL_law 590 = .ok (.iaload, 1) := by decide +kernel
theorem dL_law_591 : decode cL_law 591 = .ok (.aload_n 0, 1) := by decide +kernel
theorem dL_law_592 : decode cL_law 592 = .ok (.iload 4, 2) := by decide +kernel
theorem dL_law_594 : decode cL_law 594 = .ok (.iconst 2, 1) := by decide +kernel
theorem dL_law_595 : decode cL_law 595 = .ok (.iadd, 1) := by decide +kernel
theorem dL_law_596 : decode cL_law 596 = .ok (.iaload, 1) := by decide +kernel
theorem dL_law_597 : decode cL_law 597 = .ok (.aload_n 0, 1) := by decide +kernel
theorem dL_law_598 : decode cL_law 598 = .ok (.iload 4, 2) := by decide +kernel
theorem dL_law_600 : decode cL_law 600 = .ok (.iconst 3, 1) := by decide +kernel
theorem dL_law_601 : decode cL_law 601 = .ok (.iadd, 1) := by decide +kernel
theorem dL_law_602 : decode cL_law 602 = .ok (.iaload, 1) := by decide +kernel
theorem dL_law_603 : decode cL_law 603 = .ok (.invokevirtual 84, 3) := by decide +kernel
theorem dL_law_606 : decode cL_law 606 = .ok (.if_icmp .eq 566, 3) := by decide +kernel
theorem dL_law_609 : decode cL_law 609 = .ok (.iconst 0, 1) := by decide +kernel
theorem dL_law_610 : decode cL_law 610 = .ok (.ireturn, 1) := by decide +kernel
theorem dL_law_611 : decode cL_law 611 = .ok (.aload_n 1, 1) := by decide +kernel
theorem dL_law_612 : decode cL_law 612 = .ok (.aload_n 0, 1) := by decide +kernel
theorem dL_law_613 : decode cL_law 613 = .ok (.iload 4, 2) := by decide +kernel
theorem dL_law_615 : decode cL_law 615 = .ok (.iconst 1, 1) := by decide +kernel
theorem dL_law_616 : decode cL_law 616 = .ok (.iadd, 1) := by decide +kernel
theorem dL_law_617 : decode cL_law 617 = .ok (.iaload, 1) := by decide +kernel
theorem dL_law_618 : decode cL_law 618 = .ok (.invokevirtual 85, 3) := by decide +kernel
theorem dL_law_621 : decode cL_law 621 = .ok (.aload_n 2, 1) := by decide +kernel
theorem dL_law_622 : decode cL_law 622 = .ok (.aload_n 0, 1) := by decide +kernel
theorem dL_law_623 : decode cL_law 623 = .ok (.iload 4, 2) := by decide +kernel
theorem dL_law_625 : decode cL_law 625 = .ok (.iconst 1, 1) := by decide +kernel
theorem dL_law_626 : decode cL_law 626 = .ok (.iadd, 1) := by decide +kernel
theorem dL_law_627 : decode cL_law 627 = .ok (.iaload, 1) := by decide +kernel
theorem dL_law_628 : decode cL_law 628 = .ok (.invokevirtual 88, 3) := by decide +kernel
theorem dL_law_631 : decode cL_law 631 = .ok (.if_icmp .eq 541, 3) := by decide +kernel
theorem dL_law_634 : decode cL_law 634 = .ok (.iconst 0, 1) := by decide +kernel
theorem dL_law_635 : decode cL_law 635 = .ok (.ireturn, 1) := by decide +kernel
theorem dL_law_636 : decode cL_law 636 = .ok (.aload_n 1, 1) := by decide +kernel
theorem dL_law_637 : decode cL_law 637 = .ok (.aload_n 0, 1) := by decide +kernel
theorem dL_law_638 : decode cL_law 638 = .ok (.iload 4, 2) := by decide +kernel
theorem dL_law_640 : decode cL_law 640 = .ok (.iconst 1, 1) := by decide +kernel
theorem dL_law_641 : decode cL_law 641 = .ok (.iadd, 1) := by decide +kernel
theorem dL_law_642 : decode cL_law 642 = .ok (.iaload, 1) := by decide +kernel
theorem dL_law_643 : decode cL_law 643 = .ok (.invokevirtual 89, 3) := by decide +kernel
theorem dL_law_646 : decode cL_law 646 = .ok (.aload_n 2, 1) := by decide +kernel
theorem dL_law_647 : decode cL_law 647 = .ok (.aload_n 0, 1) := by decide +kernel
theorem dL_law_648 : decode cL_law 648 = .ok (.iload 4, 2) := by decide +kernel
theorem dL_law_650 : decode cL_law 650 = .ok (.iconst 1, 1) := by decide +kernel
theorem dL_law_651 : decode cL_law 651 = .ok (.iadd, 1) := by decide +kernel
theorem dL_law_652 : decode cL_law 652 = .ok (.iaload, 1) := by decide +kernel
theorem dL_law_653 : decode cL_law 653 = .ok (.invokevirtual 92, 3) := by decide +kernel
theorem dL_law_656 : decode cL_law 656 = .ok (.if_icmp .eq 516, 3) := by decide +kernel
theorem dL_law_659 : decode cL_law 659 = .ok (.iconst 0, 1) := by decide +kernel
theorem dL_law_660 : decode cL_law 660 = .ok (.ireturn, 1) := by decide +kernel
theorem dL_law_661 : decode cL_law 661 = .ok (.aload_n 1, 1) := by decide +kernel
theorem dL_law_662 : decode cL_law 662 = .ok (.aload_n 0, 1) := by decide +kernel
theorem dL_law_663 : decode cL_law 663 = .ok (.iload 4, 2) := by decide +kernel
theorem dL_law_665 : decode cL_law 665 = .ok (.iconst 1, 1) := by decide +kernel
theorem dL_law_666 : decode cL_law 666 = .ok (.iadd, 1) := by decide +kernel
theorem dL_law_667 : decode cL_law 667 = .ok (.iaload, 1) := by decide +kernel
theorem dL_law_668 : decode cL_law 668 = .ok (.aload_n 0, 1) := by decide +kernel
theorem dL_law_669 : decode cL_law 669 = .ok (.iload 4, 2) := by decide +kernel
theorem dL_law_671 : decode cL_law 671 = .ok (.iconst 2, 1) := by decide +kernel
theorem dL_law_672 : decode cL_law 672 = .ok (.iadd, 1) := by decide +kernel
theorem dL_law_673 : decode cL_law 673 = .ok (.iaload, 1) := by decide +kernel
theorem dL_law_674 : decode cL_law 674 = .ok (.invokevirtual 93, 3) := by decide +kernel
theorem dL_law_677 : decode cL_law 677 = .ok (.aload_n 2, 1) := by decide +kernel
theorem dL_law_678 : decode cL_law 678 = .ok (.aload_n 0, 1) := by decide +kernel
theorem dL_law_679 : decode cL_law 679 = .ok (.iload 4, 2) := by decide +kernel
theorem dL_law_681 : decode cL_law 681 = .ok (.iconst 1, 1) := by decide +kernel
theorem dL_law_682 : decode cL_law 682 = .ok (.iadd, 1) := by decide +kernel
theorem dL_law_683 : decode cL_law 683 = .ok (.iaload, 1) := by decide +kernel
theorem dL_law_684 : decode cL_law 684 = .ok (.aload_n 0, 1) := by decide +kernel
theorem dL_law_685 : decode cL_law 685 = .ok (.iload 4, 2) := by decide +kernel
theorem dL_law_687 : decode cL_law 687 = .ok (.iconst 2, 1) := by decide +kernel
theorem dL_law_688 : decode cL_law 688 = .ok (.iadd, 1) := by decide +kernel
theorem dL_law_689 : decode cL_law 689 = .ok (.iaload, 1) := by decide +kernel
theorem dL_law_690 : decode cL_law 690 = .ok (.invokevirtual 96, 3) := by decide +kernel
theorem dL_law_693 : decode cL_law 693 = .ok (.if_icmp .eq 479, 3) := by decide +kernel
theorem dL_law_696 : decode cL_law 696 = .ok (.iconst 0, 1) := by decide +kernel
theorem dL_law_697 : decode cL_law 697 = .ok (.ireturn, 1) := by decide +kernel
theorem dL_law_698 : decode cL_law 698 = .ok (.aload_n 1, 1) := by decide +kernel
theorem dL_law_699 : decode cL_law 699 = .ok (.aload_n 0, 1) := by decide +kernel
theorem dL_law_700 : decode cL_law 700 = .ok (.iload 4, 2) := by decide +kernel
theorem dL_law_702 : decode cL_law 702 = .ok (.iconst 1, 1) := by decide +kernel
theorem dL_law_703 : decode cL_law 703 = .ok (.iadd, 1) := by decide +kernel
theorem dL_law_704 : decode cL_law 704 = .ok (.iaload, 1) := by decide +kernel
theorem dL_law_705 : decode cL_law 705 = .ok (.aload_n 0, 1) := by decide +kernel
theorem dL_law_706 : decode cL_law 706 = .ok (.iload 4, 2) := by decide +kernel
theorem dL_law_708 : decode cL_law 708 = .ok (.iconst 2, 1) := by decide +kernel
theorem dL_law_709 : decode cL_law 709 = .ok (.iadd, 1) := by decide +kernel
theorem dL_law_710 : decode cL_law 710 = .ok (.iaload, 1) := by decide +kernel
theorem dL_law_711 : decode cL_law 711 = .ok (.aload_n 0, 1) := by decide +kernel
theorem dL_law_712 : decode cL_law 712 = .ok (.iload 4, 2) := by decide +kernel
theorem dL_law_714 : decode cL_law 714 = .ok (.iconst 3, 1) := by decide +kernel
theorem dL_law_715 : decode cL_law 715 = .ok (.iadd, 1) := by decide +kernel
theorem dL_law_716 : decode cL_law 716 = .ok (.iaload, 1) := by decide +kernel
theorem dL_law_717 : decode cL_law 717 = .ok (.invokevirtual 97, 3) := by decide +kernel
theorem dL_law_720 : decode cL_law 720 = .ok (.aload_n 2, 1) := by decide +kernel
theorem dL_law_721 : decode cL_law 721 = .ok (.aload_n 0, 1) := by decide +kernel
theorem dL_law_722 : decode cL_law 722 = .ok (.iload 4, 2) := by decide +kernel
theorem dL_law_724 : decode cL_law 724 = .ok (.iconst 1, 1) := by decide +kernel
theorem dL_law_725 : decode cL_law 725 = .ok (.iadd, 1) := by decide +kernel
theorem dL_law_726 : decode cL_law 726 = .ok (.iaload, 1) := by decide +kernel
theorem dL_law_727 : decode cL_law 727 = .ok (.aload_n 0, 1) := by decide +kernel
theorem dL_law_728 : decode cL_law 728 = .ok (.iload 4, 2) := by decide +kernel
theorem dL_law_730 : decode cL_law 730 = .ok (.iconst 2, 1) := by decide +kernel
theorem dL_law_731 : decode cL_law 731 = .ok (.iadd, 1) := by decide +kernel
theorem dL_law_732 : decode cL_law 732 = .ok (.iaload, 1) := by decide +kernel
theorem dL_law_733 : decode cL_law 733 = .ok (.aload_n 0, 1) := by decide +kernel
theorem dL_law_734 : decode cL_law 734 = .ok (.iload 4, 2) := by decide +kernel
theorem dL_law_736 : decode cL_law 736 = .ok (.iconst 3, 1) := by decide +kernel
theorem dL_law_737 : decode cL_law 737 = .ok (.iadd, 1) := by decide +kernel
theorem dL_law_738 : decode cL_law 738 = .ok (.iaload, 1) := by decide +kernel
theorem dL_law_739 : decode cL_law 739 = .ok (.invokevirtual 100, 3) := by decide +kernel
theorem dL_law_742 : decode cL_law 742 = .ok (.if_icmp .eq 430, 3) := by decide +kernel
theorem dL_law_745 : decode cL_law 745 = .ok (.iconst 0, 1) := by decide +kernel
theorem dL_law_746 : decode cL_law 746 = .ok (.ireturn, 1) := by decide +kernel
theorem dL_law_747 : decode cL_law 747 = .ok (.aload_n 1, 1) := by decide +kernel
theorem dL_law_748 : decode cL_law 748 = .ok (.aload_n 0, 1) := by decide +kernel
theorem dL_law_749 : decode cL_law 749 = .ok (.iload 4, 2) := by decide +kernel
theorem dL_law_751 : decode cL_law 751 = .ok (.iconst 1, 1) := by decide +kernel
theorem dL_law_752 : decode cL_law 752 = .ok (.iadd, 1) := by decide +kernel
theorem dL_law_753 : decode cL_law 753 = .ok (.iaload, 1) := by decide +kernel
theorem dL_law_754 : decode cL_law 754 = .ok (.invokevirtual 101, 3) := by decide +kernel
theorem dL_law_757 : decode cL_law 757 = .ok (.aload_n 2, 1) := by decide +kernel
theorem dL_law_758 : decode cL_law 758 = .ok (.aload_n 0, 1) := by decide +kernel
theorem dL_law_759 : decode cL_law 759 = .ok (.iload 4, 2) := by decide +kernel
theorem dL_law_761 : decode cL_law 761 = .ok (.iconst 1, 1) := by decide +kernel
theorem dL_law_762 : decode cL_law 762 = .ok (.iadd, 1) := by decide +kernel
theorem dL_law_763 : decode cL_law 763 = .ok (.iaload, 1) := by decide +kernel
theorem dL_law_764 : decode cL_law 764 = .ok (.invokevirtual 104, 3) := by decide +kernel
theorem dL_law_767 : decode cL_law 767 = .ok (.if_icmp .eq 405, 3) := by decide +kernel
theorem dL_law_770 : decode cL_law 770 = .ok (.iconst 0, 1) := by decide +kernel
theorem dL_law_771 : decode cL_law 771 = .ok (.ireturn, 1) := by decide +kernel
theorem dL_law_772 : decode cL_law 772 = .ok (.aload_n 1, 1) := by decide +kernel
theorem dL_law_773 : decode cL_law 773 = .ok (.invokevirtual 105, 3) := by decide +kernel
theorem dL_law_776 : decode cL_law 776 = .ok (.aload_n 2, 1) := by decide +kernel
theorem dL_law_777 : decode cL_law 777 = .ok (.invokevirtual 108, 3) := by decide +kernel
theorem dL_law_780 : decode cL_law 780 = .ok (.if_icmp .eq 392, 3) := by decide +kernel
theorem dL_law_783 : decode cL_law 783 = .ok (.iconst 0, 1) := by decide +kernel
theorem dL_law_784 : decode cL_law 784 = .ok (.ireturn, 1) := by decide +kernel
theorem dL_law_785 : decode cL_law 785 = .ok (.aload_n 1, 1) := by decide +kernel
theorem dL_law_786 : decode cL_law 786 = .ok (.invokevirtual 109, 3) := by decide +kernel
theorem dL_law_789 : decode cL_law 789 = .ok (.aload_n 2, 1) := by decide +kernel
theorem dL_law_790 : decode cL_law 790 = .ok (.invokevirtual 112, 3) := by decide +kernel
theorem dL_law_793 : decode cL_law 793 = .ok (.if_icmp .eq 379, 3) := by decide +kernel
theorem dL_law_796 : decode cL_law 796 = .ok (.iconst 0, 1) := by decide +kernel
theorem dL_law_797 : decode cL_law 797 = .ok (.ireturn, 1) := by decide +kernel
theorem dL_law_798 : decode cL_law 798 = .ok (.aload_n 1, 1) := by decide +kernel
theorem dL_law_799 : decode cL_law 799 = .ok (.aload_n 0, 1) := by decide +kernel
theorem dL_law_800 : decode cL_law 800 = .ok (.iload 4, 2) := by decide +kernel
theorem dL_law_802 : decode cL_law 802 = .ok (.iconst 1, 1) := by decide +kernel
theorem dL_law_803 : decode cL_law 803 = .ok (.iadd, 1) := by decide +kernel
theorem dL_law_804 : decode cL_law 804 = .ok (.iaload, 1) := by decide +kernel
theorem dL_law_805 : decode cL_law 805 = .ok (.invokevirtual 113, 3) := by decide +kernel
theorem dL_law_808 : decode cL_law 808 = .ok (.aload_n 2, 1) := by decide +kernel
theorem dL_law_809 : decode cL_law 809 = .ok (.aload_n 0, 1) := by decide +kernel
theorem dL_law_810 : decode cL_law 810 = .ok (.iload 4, 2) := by decide +kernel
theorem dL_law_812 : decode cL_law 812 = .ok (.iconst 1, 1) := by decide +kernel
theorem dL_law_813 : decode cL_law 813 = .ok (.iadd, 1) := by decide +kernel
theorem dL_law_814 : decode cL_law 814 = .ok (.iaload, 1) := by decide +kernel
theorem dL_law_815 : decode cL_law 815 = .ok (.invokevirtual 116, 3) := by decide +kernel
theorem dL_law_818 : decode cL_law 818 = .ok (.if_icmp .eq 354, 3) := by decide +kernel
theorem dL_law_821 : decode cL_law 821 = .ok (.iconst 0, 1) := by decide +kernel
theorem dL_law_822 : decode cL_law 822 = .ok (.ireturn, 1) := by decide +kernel
theorem dL_law_823 : decode cL_law 823 = .ok (.aload_n 1, 1) := by decide +kernel
theorem dL_law_824 : decode cL_law 824 = .ok (.aload_n 0, 1) := by decide +kernel
theorem dL_law_825 : decode cL_law 825 = .ok (.iload 4, 2) := by decide +kernel
theorem dL_law_827 : decode cL_law 827 = .ok (.iconst 1, 1) := by decide +kernel
theorem dL_law_828 : decode cL_law 828 = .ok (.iadd, 1) := by decide +kernel
theorem dL_law_829 : decode cL_law 829 = .ok (.iaload, 1) := by decide +kernel
theorem dL_law_830 : decode cL_law 830 = .ok (.aload_n 0, 1) := by decide +kernel
theorem dL_law_831 : decode cL_law 831 = .ok (.iload 4, 2) := by decide +kernel
theorem dL_law_833 : decode cL_law 833 = .ok (.iconst 2, 1) := by decide +kernel
theorem dL_law_834 : decode cL_law 834 = .ok (.iadd, 1) := by decide +kernel
theorem dL_law_835 : decode cL_law 835 = .ok (.iaload, 1) := by decide +kernel
theorem dL_law_836 : decode cL_law 836 = .ok (.aload_n 0, 1) := by decide +kernel
theorem dL_law_837 : decode cL_law 837 = .ok (.iload 4, 2) := by decide +kernel
theorem dL_law_839 : decode cL_law 839 = .ok (.iconst 3, 1) := by decide +kernel
theorem dL_law_840 : decode cL_law 840 = .ok (.iadd, 1) := by decide +kernel
theorem dL_law_841 : decode cL_law 841 = .ok (.iaload, 1) := by decide +kernel
theorem dL_law_842 : decode cL_law 842 = .ok (.aload_n 0, 1) := by decide +kernel
theorem dL_law_843 : decode cL_law 843 = .ok (.iload 4, 2) := by decide +kernel
theorem dL_law_845 : decode cL_law 845 = .ok (.iconst 4, 1) := by decide +kernel
theorem dL_law_846 : decode cL_law 846 = .ok (.iadd, 1) := by decide +kernel
theorem dL_law_847 : decode cL_law 847 = .ok (.iaload, 1) := by decide +kernel
theorem dL_law_848 : decode cL_law 848 = .ok (.invokevirtual 117, 3) := by decide +kernel
theorem dL_law_851 : decode cL_law 851 = .ok (.aload_n 2, 1) := by decide +kernel
theorem dL_law_852 : decode cL_law 852 = .ok (.aload_n 0, 1) := by decide +kernel
theorem dL_law_853 : decode cL_law 853 = .ok (.iload 4, 2) := by decide +kernel
theorem dL_law_855 : decode cL_law 855 = .ok (.iconst 1, 1) := by decide +kernel
theorem dL_law_856 : decode cL_law 856 = .ok (.iadd, 1) := by decide +kernel
theorem dL_law_857 : decode cL_law 857 = .ok (.iaload, 1) := by decide +kernel
theorem dL_law_858 : decode cL_law 858 = .ok (.aload_n 0, 1) := by decide +kernel
theorem dL_law_859 : decode cL_law 859 = .ok (.iload 4, 2) := by decide +kernel
theorem dL_law_861 : decode cL_law 861 = .ok (.iconst 2, 1) := by decide +kernel
theorem dL_law_862 : decode cL_law 862 = .ok (.iadd, 1) := by decide +kernel
theorem dL_law_863 : decode cL_law 863 = .ok (.iaload, 1) := by decide +kernel
theorem dL_law_864 : decode cL_law 864 = .ok (.aload_n 0, 1) := by decide +kernel
theorem dL_law_865 : decode cL_law 865 = .ok (.iload 4, 2) := by decide +kernel
theorem dL_law_867 : decode cL_law 867 = .ok (.iconst 3, 1) := by decide +kernel
theorem dL_law_868 : decode cL_law 868 = .ok (.iadd, 1) := by decide +kernel
theorem dL_law_869 : decode cL_law 869 = .ok (.iaload, 1) := by decide +kernel
theorem dL_law_870 : decode cL_law 870 = .ok (.aload_n 0, 1) := by decide +kernel
theorem dL_law_871 : decode cL_law 871 = .ok (.iload 4, 2) := by decide +kernel
theorem dL_law_873 : decode cL_law 873 = .ok (.iconst 4, 1) := by decide +kernel
theorem dL_law_874 : decode cL_law 874 = .ok (.iadd, 1) := by decide +kernel
theorem dL_law_875 : decode cL_law 875 = .ok (.iaload, 1) := by decide +kernel
theorem dL_law_876 : decode cL_law 876 = .ok (.invokevirtual 121, 3) := by decide +kernel
theorem dL_law_879 : decode cL_law 879 = .ok (.if_icmp .eq 293, 3) := by decide +kernel
theorem dL_law_882 : decode cL_law 882 = .ok (.iconst 0, 1) := by decide +kernel
theorem dL_law_883 : decode cL_law 883 = .ok (.ireturn, 1) := by decide +kernel
theorem dL_law_884 : decode cL_law 884 = .ok (.aload_n 1, 1) := by decide +kernel
theorem dL_law_885 : decode cL_law 885 = .ok (.aload_n 0, 1) := by decide +kernel
theorem dL_law_886 : decode cL_law 886 = .ok (.iload 4, 2) := by decide +kernel
theorem dL_law_888 : decode cL_law 888 = .ok (.iconst 1, 1) := by decide +kernel
theorem dL_law_889 : decode cL_law 889 = .ok (.iadd, 1) := by decide +kernel
theorem dL_law_890 : decode cL_law 890 = .ok (.iaload, 1) := by decide +kernel
theorem dL_law_891 : decode cL_law 891 = .ok (.aload_n 0, 1) := by decide +kernel
theorem dL_law_892 : decode cL_law 892 = .ok (.iload 4, 2) := by decide +kernel
theorem dL_law_894 : decode cL_law 894 = .ok (.iconst 2, 1) := by decide +kernel
theorem dL_law_895 : decode cL_law 895 = .ok (.iadd, 1) := by decide +kernel
theorem dL_law_896 : decode cL_law 896 = .ok (.iaload, 1) := by decide +kernel
theorem dL_law_897 : decode cL_law 897 = .ok (.aload_n 0, 1) := by decide +kernel
theorem dL_law_898 : decode cL_law 898 = .ok (.iload 4, 2) := by decide +kernel
theorem dL_law_900 : decode cL_law 900 = .ok (.iconst 3, 1) := by decide +kernel
theorem dL_law_901 : decode cL_law 901 = .ok (.iadd, 1) := by decide +kernel
theorem dL_law_902 : decode cL_law 902 = .ok (.iaload, 1) := by decide +kernel
theorem dL_law_903 : decode cL_law 903 = .ok (.invokevirtual 122, 3) := by decide +kernel
theorem dL_law_906 : decode cL_law 906 = .ok (.aload_n 2, 1) := by decide +kernel
theorem dL_law_907 : decode cL_law 907 = .ok (.aload_n 0, 1) := by decide +kernel
theorem dL_law_908 : decode cL_law 908 = .ok (.iload 4, 2) := by decide +kernel
theorem dL_law_910 : decode cL_law 910 = .ok (.iconst 1, 1) := by decide +kernel
theorem dL_law_911 : decode cL_law 911 = .ok (.iadd, 1) := by decide +kernel
theorem dL_law_912 : decode cL_law 912 = .ok (.iaload, 1) := by decide +kernel
theorem dL_law_913 : decode cL_law 913 = .ok (.aload_n 0, 1) := by decide +kernel
theorem dL_law_914 : decode cL_law 914 = .ok (.iload 4, 2) := by decide +kernel
theorem dL_law_916 : decode cL_law 916 = .ok (.iconst 2, 1) := by decide +kernel
theorem dL_law_917 : decode cL_law 917 = .ok (.iadd, 1) := by decide +kernel
theorem dL_law_918 : decode cL_law 918 = .ok (.iaload, 1) := by decide +kernel
theorem dL_law_919 : decode cL_law 919 = .ok (.aload_n 0, 1) := by decide +kernel
theorem dL_law_920 : decode cL_law 920 = .ok (.iload 4, 2) := by decide +kernel
theorem dL_law_922 : decode cL_law 922 = .ok (.iconst 3, 1) := by decide +kernel
theorem dL_law_923 : decode cL_law 923 = .ok (.iadd, 1) := by decide +kernel
theorem dL_law_924 : decode cL_law 924 = .ok (.iaload, 1) := by decide +kernel
theorem dL_law_925 : decode cL_law 925 = .ok (.invokevirtual 125, 3) := by decide +kernel
theorem dL_law_928 : decode cL_law 928 = .ok (.if_icmp .eq 244, 3) := by decide +kernel
theorem dL_law_931 : decode cL_law 931 = .ok (.iconst 0, 1) := by decide +kernel
theorem dL_law_932 : decode cL_law 932 = .ok (.ireturn, 1) := by decide +kernel
theorem dL_law_933 : decode cL_law 933 = .ok (.aload_n 1, 1) := by decide +kernel
theorem dL_law_934 : decode cL_law 934 = .ok (.aload_n 0, 1) := by decide +kernel
theorem dL_law_935 : decode cL_law 935 = .ok (.iload 4, 2) := by decide +kernel
theorem dL_law_937 : decode cL_law 937 = .ok (.iconst 1, 1) := by decide +kernel
theorem dL_law_938 : decode cL_law 938 = .ok (.iadd, 1) := by decide +kernel
theorem dL_law_939 : decode cL_law 939 = .ok (.iaload, 1) := by decide +kernel
theorem dL_law_940 : decode cL_law 940 = .ok (.aload_n 0, 1) := by decide +kernel
theorem dL_law_941 : decode cL_law 941 = .ok (.iload 4, 2) := by decide +kernel
theorem dL_law_943 : decode cL_law 943 = .ok (.iconst 2, 1) := by decide +kernel
theorem dL_law_944 : decode cL_law 944 = .ok (.iadd, 1) := by decide +kernel
theorem dL_law_945 : decode cL_law 945 = .ok (.iaload, 1) := by decide +kernel
theorem dL_law_946 : decode cL_law 946 = .ok (.aload_n 0, 1) := by decide +kernel
theorem dL_law_947 : decode cL_law 947 = .ok (.iload 4, 2) := by decide +kernel
theorem dL_law_949 : decode cL_law 949 = .ok (.iconst 3, 1) := by decide +kernel
theorem dL_law_950 : decode cL_law 950 = .ok (.iadd, 1) := by decide +kernel
theorem dL_law_951 : decode cL_law 951 = .ok (.iaload, 1) := by decide +kernel
theorem dL_law_952 : decode cL_law 952 = .ok (.invokevirtual 126, 3) := by decide +kernel
theorem dL_law_955 : decode cL_law 955 = .ok (.aload_n 2, 1) := by decide +kernel
theorem dL_law_956 : decode cL_law 956 = .ok (.aload_n 0, 1) := by decide +kernel
theorem dL_law_957 : decode cL_law 957 = .ok (.iload 4, 2) := by decide +kernel
theorem dL_law_959 : decode cL_law 959 = .ok (.iconst 1, 1) := by decide +kernel
theorem dL_law_960 : decode cL_law 960 = .ok (.iadd, 1) := by decide +kernel
theorem dL_law_961 : decode cL_law 961 = .ok (.iaload, 1) := by decide +kernel
theorem dL_law_962 : decode cL_law 962 = .ok (.aload_n 0, 1) := by decide +kernel
theorem dL_law_963 : decode cL_law 963 = .ok (.iload 4, 2) := by decide +kernel
theorem dL_law_965 : decode cL_law 965 = .ok (.iconst 2, 1) := by decide +kernel
theorem dL_law_966 : decode cL_law 966 = .ok (.iadd, 1) := by decide +kernel
theorem dL_law_967 : decode cL_law 967 = .ok (.iaload, 1) := by decide +kernel
theorem dL_law_968 : decode cL_law 968 = .ok (.aload_n 0, 1) := by decide +kernel
theorem dL_law_969 : decode cL_law 969 = .ok (.iload 4, 2) := by decide +kernel
theorem dL_law_971 : decode cL_law 971 = .ok (.iconst 3, 1) := by decide +kernel
theorem dL_law_972 : decode cL_law 972 = .ok (.iadd, 1) := by decide +kernel
theorem dL_law_973 : decode cL_law 973 = .ok (.iaload, 1) := by decide +kernel
theorem dL_law_974 : decode cL_law 974 = .ok (.invokevirtual 129, 3) := by decide +kernel
theorem dL_law_977 : decode cL_law 977 = .ok (.if_icmp .eq 195, 3) := by decide +kernel
theorem dL_law_980 : decode cL_law 980 = .ok (.iconst 0, 1) := by decide +kernel
theorem dL_law_981 : decode cL_law 981 = .ok (.ireturn, 1) := by decide +kernel
theorem dL_law_982 : decode cL_law 982 = .ok (.aload_n 1, 1) := by decide +kernel
theorem dL_law_983 : decode cL_law 983 = .ok (.aload_n 0, 1) := by decide +kernel
theorem dL_law_984 : decode cL_law 984 = .ok (.iload 4, 2) := by decide +kernel
theorem dL_law_986 : decode cL_law 986 = .ok (.iconst 1, 1) := by decide +kernel
theorem dL_law_987 : decode cL_law 987 = .ok (.iadd, 1) := by decide +kernel
theorem dL_law_988 : decode cL_law 988 = .ok (.iaload, 1) := by decide +kernel
theorem dL_law_989 : decode cL_law 989 = .ok (.aload_n 0, 1) := by decide +kernel
theorem dL_law_990 : decode cL_law 990 = .ok (.iload 4, 2) := by decide +kernel
theorem dL_law_992 : decode cL_law 992 = .ok (.iconst 2, 1) := by decide +kernel
theorem dL_law_993 : decode cL_law 993 = .ok (.iadd, 1) := by decide +kernel
theorem dL_law_994 : decode cL_law 994 = .ok (.iaload, 1) := by decide +kernel
theorem dL_law_995 : decode cL_law 995 = .ok (.aload_n 3, 1) := by decide +kernel
theorem dL_law_996 : decode cL_law 996 = .ok (.invokestatic 130, 3) := by decide +kernel
theorem dL_law_999 : decode cL_law 999 = .ok (.istore 5, 2) := by decide +kernel
theorem dL_law_1001 : decode cL_law 1001 = .ok (.aload_n 2, 1) := by decide +kernel
theorem dL_law_1002 : decode cL_law 1002 = .ok (.aload_n 0, 1) := by decide +kernel
theorem dL_law_1003 : decode cL_law 1003 = .ok (.iload 4, 2) := by decide +kernel
theorem dL_law_1005 : decode cL_law 1005 = .ok (.iconst 1, 1) := by decide +kernel
theorem dL_law_1006 : decode cL_law 1006 = .ok (.iadd, 1) := by decide +kernel
theorem dL_law_1007 : decode cL_law 1007 = .ok (.iaload, 1) := by decide +kernel
theorem dL_law_1008 : decode cL_law 1008 = .ok (.aload_n 0, 1) := by decide +kernel
theorem dL_law_1009 : decode cL_law 1009 = .ok (.iload 4, 2) := by decide +kernel
theorem dL_law_1011 : decode cL_law 1011 = .ok (.iconst 2, 1) := by decide +kernel
theorem dL_law_1012 : decode cL_law 1012 = .ok (.iadd, 1) := by decide +kernel
theorem dL_law_1013 : decode cL_law 1013 = .ok (.iaload, 1) := by decide +kernel
theorem dL_law_1014 : decode cL_law 1014 = .ok (.invokevirtual 135, 3) := by decide +kernel
theorem dL_law_1017 : decode cL_law 1017 = .ok (.lstore 6, 2) := by decide +kernel
theorem dL_law_1019 : decode cL_law 1019 = .ok (.aload_n 2, 1) := by decide +kernel
theorem dL_law_1020 : decode cL_law 1020 = .ok (.invokevirtual 136, 3) := by decide +kernel
theorem dL_law_1023 : decode cL_law 1023 = .ok (.iload 5, 2) := by decide +kernel
theorem dL_law_1025 : decode cL_law 1025 = .ok (.if_icmp .eq 5, 3) := by decide +kernel
theorem dL_law_1028 : decode cL_law 1028 = .ok (.iconst 0, 1) := by decide +kernel
theorem dL_law_1029 : decode cL_law 1029 = .ok (.ireturn, 1) := by decide +kernel
theorem dL_law_1030 : decode cL_law 1030 = .ok (.iload 5, 2) := by decide +kernel
theorem dL_law_1032 : decode cL_law 1032 = .ok (.ifCond .ne 14, 3) := by decide +kernel
theorem dL_law_1035 : decode cL_law 1035 = .ok (.aload_n 3, 1) := by decide +kernel
theorem dL_law_1036 : decode cL_law 1036 = .ok (.iconst 0, 1) := by decide +kernel
theorem dL_law_1037 : decode cL_law 1037 = .ok (.laload, 1) := by decide +kernel
theorem dL_law_1038 : decode cL_law 1038 = .ok (.lload 6, 2) := by decide +kernel
theorem dL_law_1040 : decode cL_law 1040 = .ok (.lcmp, 1) := by decide +kernel
theorem dL_law_1041 : decode cL_law 1041 = .ok (.ifCond .eq 5, 3) := by decide +kernel
theorem dL_law_1044 : decode cL_law 1044 = .ok (.iconst 0, 1) := by decide +kernel
theorem dL_law_1045 : decode cL_law 1045 = .ok (.ireturn, 1) := by decide +kernel
theorem dL_law_1046 : decode cL_law 1046 = .ok (.goto 126, 3) := by decide +kernel
theorem dL_law_1049 : decode cL_law 1049 = .ok (.aload_n 1, 1) := by decide +kernel
theorem dL_law_1050 : decode cL_law 1050 = .ok (.aload_n 0, 1) := by decide +kernel
theorem dL_law_1051 : decode cL_law 1051 = .ok (.iload 4, 2) := by decide +kernel
theorem dL_law_1053 : decode cL_law 1053 = .ok (.iconst 1, 1) := by decide +kernel
theorem dL_law_1054 : decode cL_law 1054 = .ok (.iadd, 1) := by decide +kernel
theorem dL_law_1055 : decode cL_law 1055 = .ok (.iaload, 1) := by decide +kernel
theorem dL_law_1056 : decode cL_law 1056 = .ok (.aload_n 0, 1) := by decide +kernel
theorem dL_law_1057 : decode cL_law 1057 = .ok (.iload 4, 2) := by decide +kernel
theorem dL_law_1059 : decode cL_law 1059 = .ok (.iconst 2, 1) := by decide +kernel
theorem dL_law_1060 : decode cL_law 1060 = .ok (.iadd, 1) := by decide +kernel
theorem dL_law_1061 : decode cL_law 1061 = .ok (.iaload, 1) := by decide +kernel
theorem dL_law_1062 : decode cL_law 1062 = .ok (.aload_n 0, 1) := by decide +kernel
theorem dL_law_1063 : decode cL_law 1063 = .ok (.iload 4, 2) := by decide +kernel
theorem dL_law_1065 : decode cL_law 1065 = .ok (.iconst 3, 1) := by decide +kernel
theorem dL_law_1066 : decode cL_law 1066 = .ok (.iadd, 1) := by decide +kernel
theorem dL_law_1067 : decode cL_law 1067 = .ok (.iaload, 1) := by decide +kernel
theorem dL_law_1068 : decode cL_law 1068 = .ok (.aload_n 0, 1) := by decide +kernel
theorem dL_law_1069 : decode cL_law 1069 = .ok (.iload 4, 2) := by decide +kernel
theorem dL_law_1071 : decode cL_law 1071 = .ok (.iconst 4, 1) := by decide +kernel
theorem dL_law_1072 : decode cL_law 1072 = .ok (.iadd, 1) := by decide +kernel
theorem dL_law_1073 : decode cL_law 1073 = .ok (.iaload, 1) := by decide +kernel
theorem dL_law_1074 : decode cL_law 1074 = .ok (.aload_n 0, 1) := by decide +kernel
theorem dL_law_1075 : decode cL_law 1075 = .ok (.iload 4, 2) := by decide +kernel
theorem dL_law_1077 : decode cL_law 1077 = .ok (.iconst 5, 1) := by decide +kernel
theorem dL_law_1078 : decode cL_law 1078 = .ok (.iadd, 1) := by decide +kernel
theorem dL_law_1079 : decode cL_law 1079 = .ok (.iaload, 1) := by decide +kernel
theorem dL_law_1080 : decode cL_law 1080 = .ok (.invokevirtual 139, 3) := by decide +kernel
theorem dL_law_1083 : decode cL_law 1083 = .ok (.aload_n 2, 1) := by decide +kernel
theorem dL_law_1084 : decode cL_law 1084 = .ok (.aload_n 0, 1) := by decide +kernel
theorem dL_law_1085 : decode cL_law 1085 = .ok (.iload 4, 2) := by decide +kernel
theorem dL_law_1087 : decode cL_law 1087 = .ok (.iconst 1, 1) := by decide +kernel
theorem dL_law_1088 : decode cL_law 1088 = .ok (.iadd, 1) := by decide +kernel
theorem dL_law_1089 : decode cL_law 1089 = .ok (.iaload, 1) := by decide +kernel
theorem dL_law_1090 : decode cL_law 1090 = .ok (.aload_n 0, 1) := by decide +kernel
theorem dL_law_1091 : decode cL_law 1091 = .ok (.iload 4, 2) := by decide +kernel
theorem dL_law_1093 : decode cL_law 1093 = .ok (.iconst 2, 1) := by decide +kernel
theorem dL_law_1094 : decode cL_law 1094 = .ok (.iadd, 1) := by decide +kernel
theorem dL_law_1095 : decode cL_law 1095 = .ok (.iaload, 1) := by decide +kernel
theorem dL_law_1096 : decode cL_law 1096 = .ok (.aload_n 0, 1) := by decide +kernel
theorem dL_law_1097 : decode cL_law 1097 = .ok (.iload 4, 2) := by decide +kernel
theorem dL_law_1099 : decode cL_law 1099 = .ok (.iconst 3, 1) := by decide +kernel
theorem dL_law_1100 : decode cL_law 1100 = .ok (.iadd, 1) := by decide +kernel
theorem dL_law_1101 : decode cL_law 1101 = .ok (.iaload, 1) := by decide +kernel
theorem dL_law_1102 : decode cL_law 1102 = .ok (.aload_n 0, 1) := by decide +kernel
theorem dL_law_1103 : decode cL_law 1103 = .ok (.iload 4, 2) := by decide +kernel
theorem dL_law_1105 : decode cL_law 1105 = .ok (.iconst 4, 1) := by decide +kernel
theorem dL_law_1106 : decode cL_law 1106 = .ok (.iadd, 1) := by decide +kernel
theorem dL_law_1107 : decode cL_law 1107 = .ok (.iaload, 1) := by decide +kernel
theorem dL_law_1108 : decode cL_law 1108 = .ok (.aload_n 0, 1) := by decide +kernel
theorem dL_law_1109 : decode cL_law 1109 = .ok (.iload 4, 2) := by decide +kernel
theorem dL_law_1111 : decode cL_law 1111 = .ok (.iconst 5, 1) := by decide +kernel
theorem dL_law_1112 : decode cL_law 1112 = .ok (.iadd, 1) := by decide +kernel
theorem dL_law_1113 : decode cL_law 1113 = .ok (.iaload, 1) := by decide +kernel
theorem dL_law_1114 : decode cL_law 1114 = .ok (.invokevirtual 143, 3) := by decide +kernel
theorem dL_law_1117 : decode cL_law 1117 = .ok (.if_icmp .eq 55, 3) := by decide +kernel
theorem dL_law_1120 : decode cL_law 1120 = .ok (.iconst 0, 1) := by decide +kernel
theorem dL_law_1121 : decode cL_law 1121 = .ok (.ireturn, 1) := by decide +kernel
theorem dL_law_1122 : decode cL_law 1122 = .ok (.aload_n 1, 1) := by decide +kernel
theorem dL_law_1123 : decode cL_law 1123 = .ok (.aload_n 0, 1) := by decide +kernel
theorem dL_law_1124 : decode cL_law 1124 = .ok (.iload 4, 2) := by decide +kernel
theorem dL_law_1126 : decode cL_law 1126 = .ok (.iconst 1, 1) := by decide +kernel
theorem dL_law_1127 : decode cL_law 1127 = .ok (.iadd, 1) := by decide +kernel
theorem dL_law_1128 : decode cL_law 1128 = .ok (.iaload, 1) := by decide +kernel
theorem dL_law_1129 : decode cL_law 1129 = .ok (.invokevirtual 144, 3) := by decide +kernel
theorem dL_law_1132 : decode cL_law 1132 = .ok (.aload_n 2, 1) := by decide +kernel
theorem dL_law_1133 : decode cL_law 1133 = .ok (.aload_n 0, 1) := by decide +kernel
theorem dL_law_1134 : decode cL_law 1134 = .ok (.iload 4, 2) := by decide +kernel
theorem dL_law_1136 : decode cL_law 1136 = .ok (.iconst 1, 1) := by decide +kernel
theorem dL_law_1137 : decode cL_law 1137 = .ok (.iadd, 1) := by decide +kernel
theorem dL_law_1138 : decode cL_law 1138 = .ok (.iaload, 1) := by decide +kernel
theorem dL_law_1139 : decode cL_law 1139 = .ok (.invokevirtual 147, 3) := by decide +kernel
theorem dL_law_1142 : decode cL_law 1142 = .ok (.if_icmp .eq 30, 3) := by decide +kernel
theorem dL_law_1145 : decode cL_law 1145 = .ok (.iconst 0, 1) := by decide +kernel
theorem dL_law_1146 : decode cL_law 1146 = .ok (.ireturn, 1) := by decide +kernel
theorem dL_law_1147 : decode cL_law 1147 = .ok (.aload_n 1, 1) := by decide +kernel
theorem dL_law_1148 : decode cL_law 1148 = .ok (.aload_n 0, 1) := by decide +kernel
theorem dL_law_1149 : decode cL_law 1149 = .ok (.iload 4, 2) := by decide +kernel
theorem dL_law_1151 : decode cL_law 1151 = .ok (.iconst 1, 1) := by decide +kernel
theorem dL_law_1152 : decode cL_law 1152 = .ok (.iadd, 1) := by decide +kernel
theorem dL_law_1153 : decode cL_law 1153 = .ok (.iaload, 1) := by decide +kernel
theorem dL_law_1154 : decode cL_law 1154 = .ok (.invokevirtual 148, 3) := by decide +kernel
theorem dL_law_1157 : decode cL_law 1157 = .ok (.aload_n 2, 1) := by decide +kernel
theorem dL_law_1158 : decode cL_law 1158 = .ok (.aload_n 0, 1) := by decide +kernel
theorem dL_law_1159 : decode cL_law 1159 = .ok (.iload 4, 2) := by decide +kernel
theorem dL_law_1161 : decode cL_law 1161 = .ok (.iconst 1, 1) := by decide +kernel
theorem dL_law_1162 : decode cL_law 1162 = .ok (.iadd, 1) := by decide +kernel
theorem dL_law_1163 : decode cL_law 1163 = .ok (.iaload, 1) := by decide +kernel
theorem dL_law_1164 : decode cL_law 1164 = .ok (.invokevirtual 151, 3) := by decide +kernel
theorem dL_law_1167 : decode cL_law 1167 = .ok (.if_icmp .eq 5, 3) := by decide +kernel
theorem dL_law_1170 : decode cL_law 1170 = .ok (.iconst 0, 1) := by decide +kernel
theorem dL_law_1171 : decode cL_law 1171 = .ok (.ireturn, 1) := by decide +kernel
theorem dL_law_1172 : decode cL_law 1172 = .ok (.iinc 4 6, 3) := by decide +kernel
theorem dL_law_1175 : decode cL_law 1175 = .ok (.goto (-1152), 3) := by decide +kernel
theorem dL_law_1178 : decode cL_law 1178 = .ok (.iconst 1, 1) := by decide +kernel
theorem dL_law_1179 : decode cL_law 1179 = .ok (.ireturn, 1) := by decide +kernel
end
section
/-! The tables' good words, by their places. -/
def wsK : List Cond := lw_tbl.filter goodWord
theorem wsK_in : ∀ w ∈ wsK, w ∈ lw_tbl := fun _ h => (List.mem_filter.mp h).1
theorem wsK_gd : ∀ w ∈ wsK, goodWord w = true := fun _ h => (List.mem_filter.mp h).2
theorem tw_0 {w : Cond} (i : Nat) (h : (k2_sels lw_privs)[i]? = some w) (g : goodWord w = true) : w ∈ wsK := List.mem_filter.mpr ⟨List.mem_append_left _ (List.mem_of_getElem? h), g⟩
theorem tw_1 {w : Cond} (i : Nat) (h : tables_1_1[i]? = some w) (g : goodWord w = true) : w ∈ wsK := List.mem_filter.mpr ⟨List.mem_append_right _ (List.mem_append_left _ (List.mem_of_getElem? h)), g⟩
theorem tw_2 {w : Cond} (i : Nat) (h : tables_1_2[i]? = some w) (g : goodWord w = true) : w ∈ wsK := List.mem_filter.mpr ⟨List.mem_append_right _ (List.mem_append_right _ (List.mem_append_left _ (List.mem_of_getElem? h))), g⟩
theorem tw_3 {w : Cond} (i : Nat) (h : tables_1_3[i]? = some w) (g : goodWord w = true) : w ∈ wsK := List.mem_filter.mpr ⟨List.mem_append_right _ (List.mem_append_right _ (List.mem_append_right _ (List.mem_append_left _ (List.mem_of_getElem? h)))), g⟩
theorem tw_4 {w : Cond} (i : Nat) (h : tables_1_4[i]? = some w) (g : goodWord w = true) : w ∈ wsK := List.mem_filter.mpr ⟨List.mem_append_right _ (List.mem_append_right _ (List.mem_append_right _ (List.mem_append_right _ (List.mem_append_left _ (List.mem_of_getElem? h))))), g⟩
theorem tw_5 {w : Cond} (i : Nat) (h : tables_1_5[i]? = some w) (g : goodWord w = true) : w ∈ wsK := List.mem_filter.mpr ⟨List.mem_append_right _ (List.mem_append_right _ (List.mem_append_right _ (List.mem_append_right _ (List.mem_append_right _ (List.mem_of_getElem? h))))), g⟩
theorem kw_0_0 : Cond.selects RX10 yX10_shelfAt yX10_shelfAt ∈ wsK := tw_0 0 rfl rfl
theorem kw_0_1 : Cond.selects RX10 yX10_carryOut yX10_carryOut ∈ wsK := tw_0 1 rfl rfl
theorem kw_0_2 : Cond.selects RX10 yX10_isCarriedOut yX10_isCarriedOut ∈ wsK := tw_0 2 rfl rfl
theorem kw_0_3 : Cond.selects RX8 yX8_addEvent yX8_addEvent ∈ wsK := tw_0 3 rfl rfl
theorem kw_0_4 : Cond.selects RX10 yX10_wayBy yX10_wayBy ∈ wsK := tw_0 4 rfl rfl
theorem kw_0_5 : Cond.selects RX10 yX10_comesByAll yX10_comesByAll ∈ wsK := tw_0 5 rfl rfl
theorem kw_0_6 : Cond.selects RX10 yX10_leastWay yX10_leastWay ∈ wsK := tw_0 6 rfl rfl
theorem kw_0_7 : Cond.selects RX10 yX10_wayOfSearch yX10_wayOfSearch ∈ wsK := tw_0 7 rfl rfl
theorem kw_0_8 : Cond.selects RX8 yX8_longestRiseBelow yX8_longestRiseBelow ∈ wsK := tw_0 8 rfl rfl
theorem kw_0_9 : Cond.selects RX10 yX10_firstInOrder yX10_firstInOrder ∈ wsK := tw_0 9 rfl rfl
theorem kw_0_10 : Cond.selects RX10 yX10_sharedIfRaised yX10_sharedIfRaised ∈ wsK := tw_0 10 rfl rfl
theorem kw_0_11 : Cond.selects RX10 yX10_leastRaise yX10_leastRaise ∈ wsK := tw_0 11 rfl rfl
theorem kw_0_12 : Cond.selects RX5 yX5_kept yX5_kept ∈ wsK := tw_0 12 rfl rfl
theorem kw_0_14 : Cond.selects RX11 yX11_wrongSort yX11_wrongSort ∈ wsK := tw_0 14 rfl rfl
theorem kw_0_15 : Cond.selects RX11 yX11_wrongRow yX11_wrongRow ∈ wsK := tw_0 15 rfl rfl
theorem kw_0_16 : Cond.selects RX11 yX11_readStatement yX11_readStatement ∈ wsK := tw_0 16 rfl rfl
theorem kw_0_17 : Cond.selects RX11 yX11_here yX11_here ∈ wsK := tw_0 17 rfl rfl
theorem kw_0_18 : Cond.selects RX11 yX11_readDigit yX11_readDigit ∈ wsK := tw_0 18 rfl rfl
theorem kw_0_19 : Cond.selects RX11 yX11_carryAll yX11_carryAll ∈ wsK := tw_0 19 rfl rfl
theorem kw_0_20 : Cond.selects RX11 yX11_carry yX11_carry ∈ wsK := tw_0 20 rfl rfl
theorem kw_0_21 : Cond.selects RX11 yX11_comes yX11_comes ∈ wsK := tw_0 21 rfl rfl
theorem kw_0_22 : Cond.selects RX11 yX11_builds yX11_builds ∈ wsK := tw_0 22 rfl rfl
theorem kw_0_23 : Cond.selects RX11 yX11_lookNow yX11_lookNow ∈ wsK := tw_0 23 rfl rfl
theorem kw_0_24 : Cond.selects RX11 yX11_lookEmpty yX11_lookEmpty ∈ wsK := tw_0 24 rfl rfl
theorem kw_0_25 : Cond.selects RX11 yX11_numberBy yX11_numberBy ∈ wsK := tw_0 25 rfl rfl
theorem kw_0_26 : Cond.selects RX11 yX11_firstGap yX11_firstGap ∈ wsK := tw_0 26 rfl rfl
theorem kw_0_27 : Cond.selects RX11 yX11_isHad yX11_isHad ∈ wsK := tw_0 27 rfl rfl
theorem kw_0_28 : Cond.selects RX11 yX11_greatest yX11_greatest ∈ wsK := tw_0 28 rfl rfl
theorem kw_0_29 : Cond.selects RX11 yX11_burns yX11_burns ∈ wsK := tw_0 29 rfl rfl
theorem kw_0_30 : Cond.selects RX11 yX11_wrongLaw yX11_wrongLaw ∈ wsK := tw_0 30 rfl rfl
theorem kw_0_31 : Cond.selects RX11 yX11_builtAt yX11_builtAt ∈ wsK := tw_0 31 rfl rfl
theorem kw_0_32 : Cond.selects RX11 yX11_gapsLooked yX11_gapsLooked ∈ wsK := tw_0 32 rfl rfl
theorem kw_0_33 : Cond.selects RX11 yX11_areMet yX11_areMet ∈ wsK := tw_0 33 rfl rfl
theorem kw_0_34 : Cond.selects RX11 yX11_isIn yX11_isIn ∈ wsK := tw_0 34 rfl rfl
theorem kw_0_35 : Cond.selects RX11 yX11_riseLooked yX11_riseLooked ∈ wsK := tw_0 35 rfl rfl
theorem kw_0_36 : Cond.selects RX11 yX11_replay yX11_replay ∈ wsK := tw_0 36 rfl rfl
theorem kw_0_37 : Cond.selects RX11 yX11_buildLooked yX11_buildLooked ∈ wsK := tw_0 37 rfl rfl
theorem kw_0_38 : Cond.selects RX11 yX11_areAsNow yX11_areAsNow ∈ wsK := tw_0 38 rfl rfl
theorem kw_0_39 : Cond.selects RX11 yX11_houseMany yX11_houseMany ∈ wsK := tw_0 39 rfl rfl
theorem kw_0_40 : Cond.selects RX11 yX11_nextOrder yX11_nextOrder ∈ wsK := tw_0 40 rfl rfl
theorem kw_0_41 : Cond.selects RX11 yX11_hadOf yX11_hadOf ∈ wsK := tw_0 41 rfl rfl
theorem kw_0_42 : Cond.selects RX11 yX11_draw yX11_draw ∈ wsK := tw_0 42 rfl rfl
theorem kw_0_43 : Cond.selects RX11 yX11_skippedIn yX11_skippedIn ∈ wsK := tw_0 43 rfl rfl
theorem kw_1_0 : Cond.initialized RL ∈ wsK := tw_1 0 rfl rfl
theorem kw_1_1 : Cond.initialized RX10 ∈ wsK := tw_1 1 rfl rfl
theorem kw_1_2 : Cond.initialized RX8 ∈ wsK := tw_1 2 rfl rfl
theorem kw_1_3 : Cond.initialized RX3 ∈ wsK := tw_1 3 rfl rfl
theorem kw_1_4 : Cond.initialized RX5 ∈ wsK := tw_1 4 rfl rfl
theorem kw_1_5 : Cond.initialized RX11 ∈ wsK := tw_1 5 rfl rfl
theorem kw_1_6 : Cond.initialized RJ10 ∈ wsK := tw_1 6 rfl rfl
theorem kw_1_7 : Cond.initialized RJ9 ∈ wsK := tw_1 7 rfl rfl
theorem kw_1_8 : Cond.initialized RX0 ∈ wsK := tw_1 8 rfl rfl
theorem kw_1_9 : Cond.initialized RX4 ∈ wsK := tw_1 9 rfl rfl
theorem kw_1_10 : Cond.initialized RX1 ∈ wsK := tw_1 10 rfl rfl
theorem kw_1_11 : Cond.initialized RX9 ∈ wsK := tw_1 11 rfl rfl
theorem kw_1_12 : Cond.initialized RX7 ∈ wsK := tw_1 12 rfl rfl
theorem kw_1_13 : Cond.initialized RX2 ∈ wsK := tw_1 13 rfl rfl
theorem kw_1_14 : Cond.initialized RX6 ∈ wsK := tw_1 14 rfl rfl
theorem kw_1_15 : Cond.initialized RJ7 ∈ wsK := tw_1 15 rfl rfl
theorem kw_1_16 : Cond.initialized "java/lang/Throwable" ∈ wsK := tw_1 16 rfl rfl
theorem kw_1_17 : Cond.initialized "java/lang/Exception" ∈ wsK := tw_1 17 rfl rfl
theorem kw_1_18 : Cond.initialized "java/lang/RuntimeException" ∈ wsK := tw_1 18 rfl rfl
theorem kw_1_19 : Cond.initialized "java/lang/IllegalArgumentException" ∈ wsK := tw_1 19 rfl rfl
theorem kw_1_20 : Cond.initialized "java/lang/IllegalStateException" ∈ wsK := tw_1 20 rfl rfl
theorem kw_1_21 : Cond.initialized "java/lang/UnsupportedOperationException" ∈ wsK := tw_1 21 rfl rfl
theorem kw_1_22 : Cond.classLink RL 8 RX10 ∈ wsK := tw_1 22 rfl rfl
theorem kw_1_23 : Cond.instantiable RX10 5 ∈ wsK := tw_1 23 rfl rfl
theorem kw_1_24 : Cond.methodLink RL 17 yX10_init ∈ wsK := tw_1 24 rfl rfl
theorem kw_1_25 : Cond.instanceMethod yX10_init ∈ wsK := tw_1 25 rfl rfl
theorem kw_1_26 : Cond.code yX10_init cX10_init 2 none ∈ wsK := tw_1 26 rfl rfl
theorem kw_1_27 : Cond.methodLink RX10 3 objectInit ∈ wsK := tw_1 27 rfl rfl
theorem kw_1_28 : Cond.instanceMethod objectInit ∈ wsK := tw_1 28 rfl rfl
theorem kw_1_29 : Cond.code objectInit ⟨#[0xb1]⟩ 1 none ∈ wsK := tw_1 29 rfl rfl
theorem kw_1_30 : Cond.classLink RX10 9 RX8 ∈ wsK := tw_1 30 rfl rfl
theorem kw_1_31 : Cond.instantiable RX8 10 ∈ wsK := tw_1 31 rfl rfl
theorem kw_1_33 : Cond.instanceMethod yX8_init ∈ wsK := tw_1 33 rfl rfl
theorem kw_1_34 : Cond.code yX8_init cX8_init 1 none ∈ wsK := tw_1 34 rfl rfl
theorem kw_1_35 : Cond.methodLink RX8 3 objectInit ∈ wsK := tw_1 35 rfl rfl
theorem kw_1_36 : Cond.classLink RX8 33 RX3 ∈ wsK := tw_1 36 rfl rfl
theorem kw_1_37 : Cond.instantiable RX3 2 ∈ wsK := tw_1 37 rfl rfl
theorem kw_1_38 : Cond.methodLink RX8 35 yX3_init ∈ wsK := tw_1 38 rfl rfl
theorem kw_1_39 : Cond.instanceMethod yX3_init ∈ wsK := tw_1 39 rfl rfl
theorem kw_1_40 : Cond.code yX3_init cX3_init 3 none ∈ wsK := tw_1 40 rfl rfl
theorem kw_1_41 : Cond.methodLink RX3 1 objectInit ∈ wsK := tw_1 41 rfl rfl
theorem kw_1_42 : Cond.fieldLink RX3 7 "NumberedByAge$Law" "kind" "I" ∈ wsK := tw_1 42 rfl rfl
theorem kw_1_43 : Cond.fieldLink RX10 60 "NumberedByAge$Law" "kind" "I" ∈ wsK := tw_1 43 rfl rfl
theorem kw_1_44 : Cond.fieldLink RX3 13 "NumberedByAge$Law" "figure" "I" ∈ wsK := tw_1 44 rfl rfl
theorem kw_1_45 : Cond.fieldLink RX1 11 "NumberedByAge$High" "figure" "I" ∈ wsK := tw_1 45 rfl rfl
theorem kw_1_46 : Cond.sameField "NumberedByAge$High" "NumberedByAge$Law" "figure" "I" ∈ wsK := tw_1 46 rfl rfl
theorem kw_1_47 : Cond.fieldLink RX7 11 "NumberedByAge$Skip" "figure" "I" ∈ wsK := tw_1 47 rfl rfl
theorem kw_1_48 : Cond.sameField "NumberedByAge$Skip" "NumberedByAge$Law" "figure" "I" ∈ wsK := tw_1 48 rfl rfl
theorem kw_1_49 : Cond.fieldLink RX2 11 "NumberedByAge$Last" "figure" "I" ∈ wsK := tw_1 49 rfl rfl
theorem kw_1_50 : Cond.sameField "NumberedByAge$Last" "NumberedByAge$Law" "figure" "I" ∈ wsK := tw_1 50 rfl rfl
theorem kw_1_51 : Cond.fieldLink RX0 16 "NumberedByAge$Gap" "figure" "I" ∈ wsK := tw_1 51 rfl rfl
theorem kw_1_52 : Cond.sameField "NumberedByAge$Gap" "NumberedByAge$Law" "figure" "I" ∈ wsK := tw_1 52 rfl rfl
theorem kw_1_53 : Cond.fieldLink RX6 15 "NumberedByAge$Side" "figure" "I" ∈ wsK := tw_1 53 rfl rfl
theorem kw_1_54 : Cond.sameField "NumberedByAge$Side" "NumberedByAge$Law" "figure" "I" ∈ wsK := tw_1 54 rfl rfl
theorem kw_1_55 : Cond.fieldLink RX10 185 "NumberedByAge$Law" "figure" "I" ∈ wsK := tw_1 55 rfl rfl
theorem kw_1_56 : Cond.laysFinal RX3 "NumberedByAge$Law" "kind" "I" ∈ wsK := tw_1 56 rfl rfl
theorem kw_1_58 : Cond.laysFinal RX3 "NumberedByAge$Law" "figure" "I" ∈ wsK := tw_1 58 rfl rfl
theorem kw_1_60 : Cond.superclass RX3 "java/lang/Object" ∈ wsK := tw_1 60 rfl rfl
theorem kw_1_61 : Cond.arrayClass .int ∈ wsK := tw_1 61 rfl rfl
theorem kw_1_62 : Cond.fieldLink RX8 9 "NumberedByAge$Street" "numbers" "[I" ∈ wsK := tw_1 62 rfl rfl
theorem kw_1_63 : Cond.fieldLink RX8 15 "NumberedByAge$Street" "heights" "[I" ∈ wsK := tw_1 63 rfl rfl
theorem kw_1_64 : Cond.fieldLink RX8 18 "NumberedByAge$Street" "births" "[I" ∈ wsK := tw_1 64 rfl rfl
theorem kw_1_65 : Cond.fieldLink RX8 21 "NumberedByAge$Street" "builtInQuarters" "[I" ∈ wsK := tw_1 65 rfl rfl
theorem kw_1_66 : Cond.fieldLink RX8 24 "NumberedByAge$Street" "plotsOfEvents" "[I" ∈ wsK := tw_1 66 rfl rfl
theorem kw_1_67 : Cond.fieldLink RX8 27 "NumberedByAge$Street" "heightsOfEvents" "[I" ∈ wsK := tw_1 67 rfl rfl
theorem kw_1_68 : Cond.fieldLink RX8 30 "NumberedByAge$Street" "rises" "[I" ∈ wsK := tw_1 68 rfl rfl
theorem kw_1_69 : Cond.fieldLink RX8 48 "NumberedByAge$Street" "events" "I" ∈ wsK := tw_1 69 rfl rfl
theorem kw_1_72 : Cond.fieldLink RX8 52 "NumberedByAge$Street" "built" "I" ∈ wsK := tw_1 72 rfl rfl
theorem kw_1_74 : Cond.fieldLink RX8 38 "NumberedByAge$Street" "law" "LNumberedByAge$Law;" ∈ wsK := tw_1 74 rfl rfl
theorem kw_1_76 : Cond.laysFinal RX8 "NumberedByAge$Street" "numbers" "[I" ∈ wsK := tw_1 76 rfl rfl
theorem kw_1_78 : Cond.laysFinal RX8 "NumberedByAge$Street" "heights" "[I" ∈ wsK := tw_1 78 rfl rfl
theorem kw_1_80 : Cond.laysFinal RX8 "NumberedByAge$Street" "births" "[I" ∈ wsK := tw_1 80 rfl rfl
theorem kw_1_82 : Cond.laysFinal RX8 "NumberedByAge$Street" "builtInQuarters" "[I" ∈ wsK := tw_1 82 rfl rfl
theorem kw_1_84 : Cond.laysFinal RX8 "NumberedByAge$Street" "plotsOfEvents" "[I" ∈ wsK := tw_1 84 rfl rfl
theorem kw_1_86 : Cond.laysFinal RX8 "NumberedByAge$Street" "heightsOfEvents" "[I" ∈ wsK := tw_1 86 rfl rfl
theorem kw_1_88 : Cond.laysFinal RX8 "NumberedByAge$Street" "rises" "[I" ∈ wsK := tw_1 88 rfl rfl
theorem kw_1_90 : Cond.lays RX8 "NumberedByAge$Street" "events" "I" ∈ wsK := tw_1 90 rfl rfl
theorem kw_1_92 : Cond.lays RX8 "NumberedByAge$Street" "built" "I" ∈ wsK := tw_1 92 rfl rfl
theorem kw_1_94 : Cond.lays RX8 "NumberedByAge$Street" "law" "LNumberedByAge$Law;" ∈ wsK := tw_1 94 rfl rfl
theorem kw_1_96 : Cond.superclass RX8 "java/lang/Object" ∈ wsK := tw_1 96 rfl rfl
theorem kw_1_97 : Cond.classLink RX10 22 RX5 ∈ wsK := tw_1 97 rfl rfl
theorem kw_1_99 : Cond.instantiable RX5 4 ∈ wsK := tw_1 99 rfl rfl
theorem kw_1_101 : Cond.instanceMethod yX5_init ∈ wsK := tw_1 101 rfl rfl
theorem kw_1_102 : Cond.code yX5_init cX5_init 1 none ∈ wsK := tw_1 102 rfl rfl
theorem kw_1_103 : Cond.methodLink RX5 3 objectInit ∈ wsK := tw_1 103 rfl rfl
theorem kw_1_104 : Cond.fieldLink RX5 19 "NumberedByAge$Shelf" "law" "LNumberedByAge$Law;" ∈ wsK := tw_1 104 rfl rfl
theorem kw_1_106 : Cond.fieldLink RX5 11 "NumberedByAge$Shelf" "sort" "I" ∈ wsK := tw_1 106 rfl rfl
theorem kw_1_108 : Cond.fieldLink RX5 23 "NumberedByAge$Shelf" "size" "I" ∈ wsK := tw_1 108 rfl rfl
theorem kw_1_110 : Cond.fieldLink RX5 15 "NumberedByAge$Shelf" "elements" "[I" ∈ wsK := tw_1 110 rfl rfl
theorem kw_1_112 : Cond.lays RX5 "NumberedByAge$Shelf" "law" "LNumberedByAge$Law;" ∈ wsK := tw_1 112 rfl rfl
theorem kw_1_114 : Cond.lays RX5 "NumberedByAge$Shelf" "sort" "I" ∈ wsK := tw_1 114 rfl rfl
theorem kw_1_116 : Cond.lays RX5 "NumberedByAge$Shelf" "size" "I" ∈ wsK := tw_1 116 rfl rfl
theorem kw_1_118 : Cond.laysFinal RX5 "NumberedByAge$Shelf" "elements" "[I" ∈ wsK := tw_1 118 rfl rfl
theorem kw_1_120 : Cond.superclass RX5 "java/lang/Object" ∈ wsK := tw_1 120 rfl rfl
theorem kw_1_121 : Cond.fieldLink RX10 12 "NumberedByAge" "town" "LNumberedByAge$Street;" ∈ wsK := tw_1 121 rfl rfl
theorem kw_1_122 : Cond.fieldLink RX10 16 "NumberedByAge" "mind" "LNumberedByAge$Street;" ∈ wsK := tw_1 122 rfl rfl
theorem kw_1_123 : Cond.fieldLink RX10 19 "NumberedByAge" "image" "LNumberedByAge$Street;" ∈ wsK := tw_1 123 rfl rfl
theorem kw_1_124 : Cond.fieldLink RX10 172 "NumberedByAge" "imageTaken" "Z" ∈ wsK := tw_1 124 rfl rfl
theorem kw_1_125 : Cond.fieldLink RX10 24 "NumberedByAge" "shelves" "[LNumberedByAge$Shelf;" ∈ wsK := tw_1 125 rfl rfl
theorem kw_1_126 : Cond.laysFinal RX10 "NumberedByAge" "town" "LNumberedByAge$Street;" ∈ wsK := tw_1 126 rfl rfl
theorem kw_1_128 : Cond.laysFinal RX10 "NumberedByAge" "mind" "LNumberedByAge$Street;" ∈ wsK := tw_1 128 rfl rfl
theorem kw_1_130 : Cond.laysFinal RX10 "NumberedByAge" "image" "LNumberedByAge$Street;" ∈ wsK := tw_1 130 rfl rfl
theorem kw_1_132 : Cond.lays RX10 "NumberedByAge" "imageTaken" "Z" ∈ wsK := tw_1 132 rfl rfl
theorem kw_1_134 : Cond.laysFinal RX10 "NumberedByAge" "shelves" "[LNumberedByAge$Shelf;" ∈ wsK := tw_1 134 rfl rfl
theorem kw_1_136 : Cond.superclass RX10 "java/lang/Object" ∈ wsK := tw_1 136 rfl rfl
theorem kw_1_137 : Cond.methodLink RL 21 yX10_street ∈ wsK := tw_1 137 rfl rfl
theorem kw_1_138 : Cond.instanceMethod yX10_street ∈ wsK := tw_1 138 rfl rfl
theorem kw_1_139 : Cond.selects RX10 yX10_street yX10_street ∈ wsK := tw_1 139 rfl rfl
theorem kw_1_140 : Cond.code yX10_street cX10_street 5 (some .int) ∈ wsK := tw_1 140 rfl rfl
theorem kw_1_141 : Cond.methodLink RX10 29 yX10_shelfAt ∈ wsK := tw_1 141 rfl rfl
theorem kw_1_143 : Cond.instanceMethod yX10_shelfAt ∈ wsK := tw_1 143 rfl rfl
theorem kw_1_144 : Cond.code yX10_shelfAt cX10_shelfAt 2 (some (.object "NumberedByAge$Shelf")) ∈ wsK := tw_1 144 rfl rfl
theorem kw_1_145 : Cond.methodLink RX10 33 yX5_refusalAsRowOf ∈ wsK := tw_1 145 rfl rfl
theorem kw_1_146 : Cond.instanceMethod yX5_refusalAsRowOf ∈ wsK := tw_1 146 rfl rfl
theorem kw_1_147 : Cond.selects RX5 yX5_refusalAsRowOf yX5_refusalAsRowOf ∈ wsK := tw_1 147 rfl rfl
theorem kw_1_148 : Cond.code yX5_refusalAsRowOf cX5_refusalAsRowOf 2 (some .int) ∈ wsK := tw_1 148 rfl rfl
theorem kw_1_149 : Cond.methodLink RX5 32 yX5_holdsNothing ∈ wsK := tw_1 149 rfl rfl
theorem kw_1_150 : Cond.instanceMethod yX5_holdsNothing ∈ wsK := tw_1 150 rfl rfl
theorem kw_1_151 : Cond.selects RX5 yX5_holdsNothing yX5_holdsNothing ∈ wsK := tw_1 151 rfl rfl
theorem kw_1_152 : Cond.code yX5_holdsNothing cX5_holdsNothing 1 (some .boolean) ∈ wsK := tw_1 152 rfl rfl
theorem kw_1_153 : Cond.methodLink RX10 37 yX10_stuckAt ∈ wsK := tw_1 153 rfl rfl
theorem kw_1_154 : Cond.static yX10_stuckAt ∈ wsK := tw_1 154 rfl rfl
theorem kw_1_155 : Cond.code yX10_stuckAt cX10_stuckAt 4 (some .int) ∈ wsK := tw_1 155 rfl rfl
theorem kw_1_156 : Cond.methodLink RX10 267 yX10_stuckInStatement ∈ wsK := tw_1 156 rfl rfl
theorem kw_1_157 : Cond.static yX10_stuckInStatement ∈ wsK := tw_1 157 rfl rfl
theorem kw_1_158 : Cond.code yX10_stuckInStatement cX10_stuckInStatement 5 (some .int) ∈ wsK := tw_1 158 rfl rfl
theorem kw_1_159 : Cond.methodLink RX10 160 yX5_at ∈ wsK := tw_1 159 rfl rfl
theorem kw_1_160 : Cond.instanceMethod yX5_at ∈ wsK := tw_1 160 rfl rfl
theorem kw_1_161 : Cond.selects RX5 yX5_at yX5_at ∈ wsK := tw_1 161 rfl rfl
theorem kw_1_162 : Cond.code yX5_at cX5_at 2 (some .int) ∈ wsK := tw_1 162 rfl rfl
theorem kw_1_163 : Cond.methodLink RX5 39 yX5_hasPlace ∈ wsK := tw_1 163 rfl rfl
theorem kw_1_164 : Cond.instanceMethod yX5_hasPlace ∈ wsK := tw_1 164 rfl rfl
theorem kw_1_165 : Cond.selects RX5 yX5_hasPlace yX5_hasPlace ∈ wsK := tw_1 165 rfl rfl
theorem kw_1_166 : Cond.code yX5_hasPlace cX5_hasPlace 2 (some .boolean) ∈ wsK := tw_1 166 rfl rfl
theorem kw_1_167 : Cond.methodLink RX10 273 yX10_digitsBehind ∈ wsK := tw_1 167 rfl rfl
theorem kw_1_168 : Cond.static yX10_digitsBehind ∈ wsK := tw_1 168 rfl rfl
theorem kw_1_169 : Cond.code yX10_digitsBehind cX10_digitsBehind 1 (some .int) ∈ wsK := tw_1 169 rfl rfl
theorem kw_1_170 : Cond.methodLink RX10 270 yX10_lengthOf ∈ wsK := tw_1 170 rfl rfl
theorem kw_1_171 : Cond.static yX10_lengthOf ∈ wsK := tw_1 171 rfl rfl
theorem kw_1_172 : Cond.code yX10_lengthOf cX10_lengthOf 1 (some .int) ∈ wsK := tw_1 172 rfl rfl
theorem kw_1_173 : Cond.methodLink RX10 41 yX10_carryOut ∈ wsK := tw_1 173 rfl rfl
theorem kw_1_175 : Cond.instanceMethod yX10_carryOut ∈ wsK := tw_1 175 rfl rfl
theorem kw_1_176 : Cond.code yX10_carryOut cX10_carryOut 4 (some .int) ∈ wsK := tw_1 176 rfl rfl
theorem kw_1_177 : Cond.methodLink RX10 168 yX8_become ∈ wsK := tw_1 177 rfl rfl
theorem kw_1_178 : Cond.instanceMethod yX8_become ∈ wsK := tw_1 178 rfl rfl
theorem kw_1_179 : Cond.selects RX8 yX8_become yX8_become ∈ wsK := tw_1 179 rfl rfl
theorem kw_1_180 : Cond.code yX8_become cX8_become 2 none ∈ wsK := tw_1 180 rfl rfl
theorem kw_1_181 : Cond.methodLink RX8 55 arraycopyName ∈ wsK := tw_1 181 rfl rfl
theorem kw_1_182 : Cond.static arraycopyName ∈ wsK := tw_1 182 rfl rfl
theorem kw_1_183 : Cond.native arraycopyName ∈ wsK := tw_1 183 rfl rfl
theorem kw_1_184 : Cond.methodLink RX10 276 yX10_isCarriedOut ∈ wsK := tw_1 184 rfl rfl
theorem kw_1_186 : Cond.instanceMethod yX10_isCarriedOut ∈ wsK := tw_1 186 rfl rfl
theorem kw_1_187 : Cond.code yX10_isCarriedOut cX10_isCarriedOut 6 (some .boolean) ∈ wsK := tw_1 187 rfl rfl
theorem kw_1_188 : Cond.methodLink RX10 44 yX8_raise ∈ wsK := tw_1 188 rfl rfl
theorem kw_1_189 : Cond.instanceMethod yX8_raise ∈ wsK := tw_1 189 rfl rfl
theorem kw_1_190 : Cond.selects RX8 yX8_raise yX8_raise ∈ wsK := tw_1 190 rfl rfl
theorem kw_1_191 : Cond.code yX8_raise cX8_raise 4 (some .int) ∈ wsK := tw_1 191 rfl rfl
theorem kw_1_193 : Cond.static yX10_isPlot ∈ wsK := tw_1 193 rfl rfl
theorem kw_1_194 : Cond.code yX10_isPlot cX10_isPlot 1 (some .boolean) ∈ wsK := tw_1 194 rfl rfl
theorem kw_1_196 : Cond.static yX10_isHeight ∈ wsK := tw_1 196 rfl rfl
theorem kw_1_197 : Cond.code yX10_isHeight cX10_isHeight 1 (some .boolean) ∈ wsK := tw_1 197 rfl rfl
theorem kw_1_198 : Cond.methodLink RX8 80 yX8_hasHouse ∈ wsK := tw_1 198 rfl rfl
theorem kw_1_199 : Cond.instanceMethod yX8_hasHouse ∈ wsK := tw_1 199 rfl rfl
theorem kw_1_200 : Cond.selects RX8 yX8_hasHouse yX8_hasHouse ∈ wsK := tw_1 200 rfl rfl
theorem kw_1_201 : Cond.code yX8_hasHouse cX8_hasHouse 2 (some .boolean) ∈ wsK := tw_1 201 rfl rfl
theorem kw_1_202 : Cond.methodLink RX8 90 yX8_numberAt ∈ wsK := tw_1 202 rfl rfl
theorem kw_1_203 : Cond.instanceMethod yX8_numberAt ∈ wsK := tw_1 203 rfl rfl
theorem kw_1_204 : Cond.selects RX8 yX8_numberAt yX8_numberAt ∈ wsK := tw_1 204 rfl rfl
theorem kw_1_205 : Cond.code yX8_numberAt cX8_numberAt 2 (some .int) ∈ wsK := tw_1 205 rfl rfl
theorem kw_1_206 : Cond.methodLink RX8 83 yX3_numberFor ∈ wsK := tw_1 206 rfl rfl
theorem kw_1_207 : Cond.instanceMethod yX3_numberFor ∈ wsK := tw_1 207 rfl rfl
theorem kw_1_208 : Cond.selects RX3 yX3_numberFor yX3_numberFor ∈ wsK := tw_1 208 rfl rfl
theorem kw_1_209 : Cond.sameMethod RX3 RX3 "numberFor" "(LNumberedByAge$Street;II)I" ∈ wsK := tw_1 209 rfl rfl
theorem kw_1_210 : Cond.selects RX0 yX3_numberFor yX0_numberFor ∈ wsK := tw_1 210 rfl rfl
theorem kw_1_211 : Cond.instanceMethod yX0_numberFor ∈ wsK := tw_1 211 rfl rfl
theorem kw_1_212 : Cond.code yX0_numberFor cX0_numberFor 4 (some .int) ∈ wsK := tw_1 212 rfl rfl
theorem kw_1_213 : Cond.methodLink RX0 7 yX8_leastFree ∈ wsK := tw_1 213 rfl rfl
theorem kw_1_214 : Cond.instanceMethod yX8_leastFree ∈ wsK := tw_1 214 rfl rfl
theorem kw_1_215 : Cond.selects RX8 yX8_leastFree yX8_leastFree ∈ wsK := tw_1 215 rfl rfl
theorem kw_1_216 : Cond.code yX8_leastFree cX8_leastFree 3 (some .int) ∈ wsK := tw_1 216 rfl rfl
theorem kw_1_217 : Cond.selects RX1 yX3_numberFor yX1_numberFor ∈ wsK := tw_1 217 rfl rfl
theorem kw_1_218 : Cond.instanceMethod yX1_numberFor ∈ wsK := tw_1 218 rfl rfl
theorem kw_1_219 : Cond.code yX1_numberFor cX1_numberFor 4 (some .int) ∈ wsK := tw_1 219 rfl rfl
theorem kw_1_220 : Cond.methodLink RX1 7 yX3_numberFor ∈ wsK := tw_1 220 rfl rfl
theorem kw_1_221 : Cond.superclass RX1 RX3 ∈ wsK := tw_1 221 rfl rfl
theorem kw_1_222 : Cond.selects RX2 yX3_numberFor yX2_numberFor ∈ wsK := tw_1 222 rfl rfl
theorem kw_1_223 : Cond.instanceMethod yX2_numberFor ∈ wsK := tw_1 223 rfl rfl
theorem kw_1_224 : Cond.code yX2_numberFor cX2_numberFor 5 (some .int) ∈ wsK := tw_1 224 rfl rfl
theorem kw_1_225 : Cond.methodLink RX2 7 yX0_numberFor ∈ wsK := tw_1 225 rfl rfl
theorem kw_1_226 : Cond.superclass RX2 RX0 ∈ wsK := tw_1 226 rfl rfl
theorem kw_1_227 : Cond.methodLink RX2 17 yX8_greatest ∈ wsK := tw_1 227 rfl rfl
theorem kw_1_228 : Cond.instanceMethod yX8_greatest ∈ wsK := tw_1 228 rfl rfl
theorem kw_1_229 : Cond.selects RX8 yX8_greatest yX8_greatest ∈ wsK := tw_1 229 rfl rfl
theorem kw_1_230 : Cond.code yX8_greatest cX8_greatest 3 (some .int) ∈ wsK := tw_1 230 rfl rfl
theorem kw_1_231 : Cond.methodLink RX8 96 Lib.Math.max.name ∈ wsK := tw_1 231 rfl rfl
theorem kw_1_232 : Cond.static Lib.Math.max.name ∈ wsK := tw_1 232 rfl rfl
theorem kw_1_233 : Cond.code Lib.Math.max.name Lib.Math.max.code 2 (some .int) ∈ wsK := tw_1 233 rfl rfl
theorem kw_1_234 : Cond.selects RX4 yX3_numberFor yX4_numberFor ∈ wsK := tw_1 234 rfl rfl
theorem kw_1_235 : Cond.instanceMethod yX4_numberFor ∈ wsK := tw_1 235 rfl rfl
theorem kw_1_236 : Cond.code yX4_numberFor cX4_numberFor 4 (some .int) ∈ wsK := tw_1 236 rfl rfl
theorem kw_1_237 : Cond.methodLink RX4 7 yX8_builtInQuarterOf ∈ wsK := tw_1 237 rfl rfl
theorem kw_1_238 : Cond.instanceMethod yX8_builtInQuarterOf ∈ wsK := tw_1 238 rfl rfl
theorem kw_1_239 : Cond.selects RX8 yX8_builtInQuarterOf yX8_builtInQuarterOf ∈ wsK := tw_1 239 rfl rfl
theorem kw_2_0 : Cond.code yX8_builtInQuarterOf cX8_builtInQuarterOf 3 (some .int) ∈ wsK := tw_2 0 rfl rfl
theorem kw_2_1 : Cond.selects RX6 yX3_numberFor yX6_numberFor ∈ wsK := tw_2 1 rfl rfl
theorem kw_2_2 : Cond.instanceMethod yX6_numberFor ∈ wsK := tw_2 2 rfl rfl
theorem kw_2_3 : Cond.code yX6_numberFor cX6_numberFor 5 (some .int) ∈ wsK := tw_2 3 rfl rfl
theorem kw_2_4 : Cond.methodLink RX6 7 yX4_numberFor ∈ wsK := tw_2 4 rfl rfl
theorem kw_2_5 : Cond.superclass RX6 RX4 ∈ wsK := tw_2 5 rfl rfl
theorem kw_2_6 : Cond.selects RX7 yX3_numberFor yX7_numberFor ∈ wsK := tw_2 6 rfl rfl
theorem kw_2_7 : Cond.instanceMethod yX7_numberFor ∈ wsK := tw_2 7 rfl rfl
theorem kw_2_8 : Cond.code yX7_numberFor cX7_numberFor 5 (some .int) ∈ wsK := tw_2 8 rfl rfl
theorem kw_2_9 : Cond.methodLink RX7 7 yX3_numberFor ∈ wsK := tw_2 9 rfl rfl
theorem kw_2_10 : Cond.superclass RX7 RX3 ∈ wsK := tw_2 10 rfl rfl
theorem kw_2_11 : Cond.selects RX9 yX3_numberFor yX9_numberFor ∈ wsK := tw_2 11 rfl rfl
theorem kw_2_12 : Cond.instanceMethod yX9_numberFor ∈ wsK := tw_2 12 rfl rfl
theorem kw_2_13 : Cond.code yX9_numberFor cX9_numberFor 4 (some .int) ∈ wsK := tw_2 13 rfl rfl
theorem kw_2_14 : Cond.methodLink RX9 7 yX3_numberFor ∈ wsK := tw_2 14 rfl rfl
theorem kw_2_15 : Cond.superclass RX9 RX3 ∈ wsK := tw_2 15 rfl rfl
theorem kw_2_16 : Cond.code yX3_numberFor cX3_numberFor 4 (some .int) ∈ wsK := tw_2 16 rfl rfl
theorem kw_2_17 : Cond.methodLink RX8 87 yX8_addEvent ∈ wsK := tw_2 17 rfl rfl
theorem kw_2_19 : Cond.instanceMethod yX8_addEvent ∈ wsK := tw_2 19 rfl rfl
theorem kw_2_20 : Cond.code yX8_addEvent cX8_addEvent 3 none ∈ wsK := tw_2 20 rfl rfl
theorem kw_2_21 : Cond.methodLink RX10 48 yX8_raze ∈ wsK := tw_2 21 rfl rfl
theorem kw_2_22 : Cond.instanceMethod yX8_raze ∈ wsK := tw_2 22 rfl rfl
theorem kw_2_23 : Cond.selects RX8 yX8_raze yX8_raze ∈ wsK := tw_2 23 rfl rfl
theorem kw_2_24 : Cond.code yX8_raze cX8_raze 3 (some .int) ∈ wsK := tw_2 24 rfl rfl
theorem kw_2_25 : Cond.methodLink RX10 108 yX10_lawOf ∈ wsK := tw_2 25 rfl rfl
theorem kw_2_26 : Cond.static yX10_lawOf ∈ wsK := tw_2 26 rfl rfl
theorem kw_2_27 : Cond.code yX10_lawOf cX10_lawOf 2 (some (.object "NumberedByAge$Law")) ∈ wsK := tw_2 27 rfl rfl
theorem kw_2_28 : Cond.classLink RX10 61 RX3 ∈ wsK := tw_2 28 rfl rfl
theorem kw_2_29 : Cond.methodLink RX10 244 yX3_init ∈ wsK := tw_2 29 rfl rfl
theorem kw_2_30 : Cond.classLink RX10 246 RX0 ∈ wsK := tw_2 30 rfl rfl
theorem kw_2_31 : Cond.instantiable RX0 2 ∈ wsK := tw_2 31 rfl rfl
theorem kw_2_32 : Cond.methodLink RX10 248 yX0_init ∈ wsK := tw_2 32 rfl rfl
theorem kw_2_33 : Cond.instanceMethod yX0_init ∈ wsK := tw_2 33 rfl rfl
theorem kw_2_34 : Cond.code yX0_init cX0_init 3 none ∈ wsK := tw_2 34 rfl rfl
theorem kw_2_35 : Cond.methodLink RX0 1 yX3_init ∈ wsK := tw_2 35 rfl rfl
theorem kw_2_36 : Cond.laysFinal RX0 "NumberedByAge$Law" "kind" "I" ∈ wsK := tw_2 36 rfl rfl
theorem kw_2_37 : Cond.laysFinal RX0 "NumberedByAge$Law" "figure" "I" ∈ wsK := tw_2 37 rfl rfl
theorem kw_2_38 : Cond.superclass RX0 RX3 ∈ wsK := tw_2 38 rfl rfl
theorem kw_2_39 : Cond.classLink RX10 249 RX4 ∈ wsK := tw_2 39 rfl rfl
theorem kw_2_40 : Cond.instantiable RX4 2 ∈ wsK := tw_2 40 rfl rfl
theorem kw_2_41 : Cond.methodLink RX10 251 yX4_init ∈ wsK := tw_2 41 rfl rfl
theorem kw_2_42 : Cond.instanceMethod yX4_init ∈ wsK := tw_2 42 rfl rfl
theorem kw_2_43 : Cond.code yX4_init cX4_init 3 none ∈ wsK := tw_2 43 rfl rfl
theorem kw_2_44 : Cond.methodLink RX4 1 yX3_init ∈ wsK := tw_2 44 rfl rfl
theorem kw_2_45 : Cond.laysFinal RX4 "NumberedByAge$Law" "kind" "I" ∈ wsK := tw_2 45 rfl rfl
theorem kw_2_46 : Cond.laysFinal RX4 "NumberedByAge$Law" "figure" "I" ∈ wsK := tw_2 46 rfl rfl
theorem kw_2_47 : Cond.superclass RX4 RX3 ∈ wsK := tw_2 47 rfl rfl
theorem kw_2_48 : Cond.classLink RX10 252 RX1 ∈ wsK := tw_2 48 rfl rfl
theorem kw_2_49 : Cond.instantiable RX1 2 ∈ wsK := tw_2 49 rfl rfl
theorem kw_2_50 : Cond.methodLink RX10 254 yX1_init ∈ wsK := tw_2 50 rfl rfl
theorem kw_2_51 : Cond.instanceMethod yX1_init ∈ wsK := tw_2 51 rfl rfl
theorem kw_2_52 : Cond.code yX1_init cX1_init 3 none ∈ wsK := tw_2 52 rfl rfl
theorem kw_2_53 : Cond.methodLink RX1 1 yX3_init ∈ wsK := tw_2 53 rfl rfl
theorem kw_2_54 : Cond.laysFinal RX1 "NumberedByAge$Law" "kind" "I" ∈ wsK := tw_2 54 rfl rfl
theorem kw_2_55 : Cond.laysFinal RX1 "NumberedByAge$Law" "figure" "I" ∈ wsK := tw_2 55 rfl rfl
theorem kw_2_56 : Cond.classLink RX10 255 RX9 ∈ wsK := tw_2 56 rfl rfl
theorem kw_2_57 : Cond.instantiable RX9 2 ∈ wsK := tw_2 57 rfl rfl
theorem kw_2_58 : Cond.methodLink RX10 257 yX9_init ∈ wsK := tw_2 58 rfl rfl
theorem kw_2_59 : Cond.instanceMethod yX9_init ∈ wsK := tw_2 59 rfl rfl
theorem kw_2_60 : Cond.code yX9_init cX9_init 3 none ∈ wsK := tw_2 60 rfl rfl
theorem kw_2_61 : Cond.methodLink RX9 1 yX3_init ∈ wsK := tw_2 61 rfl rfl
theorem kw_2_62 : Cond.laysFinal RX9 "NumberedByAge$Law" "kind" "I" ∈ wsK := tw_2 62 rfl rfl
theorem kw_2_63 : Cond.laysFinal RX9 "NumberedByAge$Law" "figure" "I" ∈ wsK := tw_2 63 rfl rfl
theorem kw_2_64 : Cond.classLink RX10 258 RX7 ∈ wsK := tw_2 64 rfl rfl
theorem kw_2_65 : Cond.instantiable RX7 2 ∈ wsK := tw_2 65 rfl rfl
theorem kw_2_66 : Cond.methodLink RX10 260 yX7_init ∈ wsK := tw_2 66 rfl rfl
theorem kw_2_67 : Cond.instanceMethod yX7_init ∈ wsK := tw_2 67 rfl rfl
theorem kw_2_68 : Cond.code yX7_init cX7_init 3 none ∈ wsK := tw_2 68 rfl rfl
theorem kw_2_69 : Cond.methodLink RX7 1 yX3_init ∈ wsK := tw_2 69 rfl rfl
theorem kw_2_70 : Cond.laysFinal RX7 "NumberedByAge$Law" "kind" "I" ∈ wsK := tw_2 70 rfl rfl
theorem kw_2_71 : Cond.laysFinal RX7 "NumberedByAge$Law" "figure" "I" ∈ wsK := tw_2 71 rfl rfl
theorem kw_2_72 : Cond.classLink RX10 261 RX2 ∈ wsK := tw_2 72 rfl rfl
theorem kw_2_73 : Cond.instantiable RX2 2 ∈ wsK := tw_2 73 rfl rfl
theorem kw_2_74 : Cond.methodLink RX10 263 yX2_init ∈ wsK := tw_2 74 rfl rfl
theorem kw_2_75 : Cond.instanceMethod yX2_init ∈ wsK := tw_2 75 rfl rfl
theorem kw_2_76 : Cond.code yX2_init cX2_init 3 none ∈ wsK := tw_2 76 rfl rfl
theorem kw_2_77 : Cond.methodLink RX2 1 yX0_init ∈ wsK := tw_2 77 rfl rfl
theorem kw_2_78 : Cond.laysFinal RX2 "NumberedByAge$Law" "kind" "I" ∈ wsK := tw_2 78 rfl rfl
theorem kw_2_79 : Cond.laysFinal RX2 "NumberedByAge$Law" "figure" "I" ∈ wsK := tw_2 79 rfl rfl
theorem kw_2_80 : Cond.classLink RX10 264 RX6 ∈ wsK := tw_2 80 rfl rfl
theorem kw_2_81 : Cond.instantiable RX6 2 ∈ wsK := tw_2 81 rfl rfl
theorem kw_2_82 : Cond.methodLink RX10 266 yX6_init ∈ wsK := tw_2 82 rfl rfl
theorem kw_2_83 : Cond.instanceMethod yX6_init ∈ wsK := tw_2 83 rfl rfl
theorem kw_2_84 : Cond.code yX6_init cX6_init 3 none ∈ wsK := tw_2 84 rfl rfl
theorem kw_2_85 : Cond.methodLink RX6 1 yX4_init ∈ wsK := tw_2 85 rfl rfl
theorem kw_2_86 : Cond.laysFinal RX6 "NumberedByAge$Law" "kind" "I" ∈ wsK := tw_2 86 rfl rfl
theorem kw_2_87 : Cond.laysFinal RX6 "NumberedByAge$Law" "figure" "I" ∈ wsK := tw_2 87 rfl rfl
theorem kw_2_88 : Cond.methodLink RL 26 yX10_build ∈ wsK := tw_2 88 rfl rfl
theorem kw_2_89 : Cond.instanceMethod yX10_build ∈ wsK := tw_2 89 rfl rfl
theorem kw_2_90 : Cond.selects RX10 yX10_build yX10_build ∈ wsK := tw_2 90 rfl rfl
theorem kw_2_91 : Cond.code yX10_build cX10_build 3 (some .int) ∈ wsK := tw_2 91 rfl rfl
theorem kw_2_92 : Cond.methodLink RL 31 yX10_burn ∈ wsK := tw_2 92 rfl rfl
theorem kw_2_93 : Cond.instanceMethod yX10_burn ∈ wsK := tw_2 93 rfl rfl
theorem kw_2_94 : Cond.selects RX10 yX10_burn yX10_burn ∈ wsK := tw_2 94 rfl rfl
theorem kw_2_95 : Cond.code yX10_burn cX10_burn 2 (some .int) ∈ wsK := tw_2 95 rfl rfl
theorem kw_2_96 : Cond.methodLink RL 35 yX10_enact ∈ wsK := tw_2 96 rfl rfl
theorem kw_2_97 : Cond.instanceMethod yX10_enact ∈ wsK := tw_2 97 rfl rfl
theorem kw_2_98 : Cond.selects RX10 yX10_enact yX10_enact ∈ wsK := tw_2 98 rfl rfl
theorem kw_2_99 : Cond.code yX10_enact cX10_enact 5 (some .int) ∈ wsK := tw_2 99 rfl rfl
theorem kw_2_100 : Cond.methodLink RX10 55 yX5_refusalAsLaw ∈ wsK := tw_2 100 rfl rfl
theorem kw_2_101 : Cond.instanceMethod yX5_refusalAsLaw ∈ wsK := tw_2 101 rfl rfl
theorem kw_2_102 : Cond.selects RX5 yX5_refusalAsLaw yX5_refusalAsLaw ∈ wsK := tw_2 102 rfl rfl
theorem kw_2_103 : Cond.code yX5_refusalAsLaw cX5_refusalAsLaw 1 (some .int) ∈ wsK := tw_2 103 rfl rfl
theorem kw_2_104 : Cond.methodLink RL 39 yX10_house ∈ wsK := tw_2 104 rfl rfl
theorem kw_2_105 : Cond.instanceMethod yX10_house ∈ wsK := tw_2 105 rfl rfl
theorem kw_2_106 : Cond.selects RX10 yX10_house yX10_house ∈ wsK := tw_2 106 rfl rfl
theorem kw_2_107 : Cond.code yX10_house cX10_house 3 (some .int) ∈ wsK := tw_2 107 rfl rfl
theorem kw_2_108 : Cond.methodLink RX10 66 yX10_isPlot ∈ wsK := tw_2 108 rfl rfl
theorem kw_2_109 : Cond.methodLink RX10 70 yX8_hasHouse ∈ wsK := tw_2 109 rfl rfl
theorem kw_2_110 : Cond.methodLink RX10 73 yX8_numberAt ∈ wsK := tw_2 110 rfl rfl
theorem kw_2_111 : Cond.methodLink RX10 76 yX8_heightAt ∈ wsK := tw_2 111 rfl rfl
theorem kw_2_112 : Cond.instanceMethod yX8_heightAt ∈ wsK := tw_2 112 rfl rfl
theorem kw_2_113 : Cond.selects RX8 yX8_heightAt yX8_heightAt ∈ wsK := tw_2 113 rfl rfl
theorem kw_2_114 : Cond.code yX8_heightAt cX8_heightAt 2 (some .int) ∈ wsK := tw_2 114 rfl rfl
theorem kw_2_115 : Cond.methodLink RX10 79 yX8_ageAt ∈ wsK := tw_2 115 rfl rfl
theorem kw_2_116 : Cond.instanceMethod yX8_ageAt ∈ wsK := tw_2 116 rfl rfl
theorem kw_2_117 : Cond.selects RX8 yX8_ageAt yX8_ageAt ∈ wsK := tw_2 117 rfl rfl
theorem kw_2_118 : Cond.code yX8_ageAt cX8_ageAt 2 (some .int) ∈ wsK := tw_2 118 rfl rfl
theorem kw_2_119 : Cond.methodLink RL 43 yX10_have ∈ wsK := tw_2 119 rfl rfl
theorem kw_2_120 : Cond.instanceMethod yX10_have ∈ wsK := tw_2 120 rfl rfl
theorem kw_2_121 : Cond.selects RX10 yX10_have yX10_have ∈ wsK := tw_2 121 rfl rfl
theorem kw_2_122 : Cond.code yX10_have cX10_have 2 (some .int) ∈ wsK := tw_2 122 rfl rfl
theorem kw_2_123 : Cond.methodLink RX10 82 yX8_plotsWith ∈ wsK := tw_2 123 rfl rfl
theorem kw_2_124 : Cond.instanceMethod yX8_plotsWith ∈ wsK := tw_2 124 rfl rfl
theorem kw_2_125 : Cond.selects RX8 yX8_plotsWith yX8_plotsWith ∈ wsK := tw_2 125 rfl rfl
theorem kw_2_126 : Cond.code yX8_plotsWith cX8_plotsWith 4 (some .int) ∈ wsK := tw_2 126 rfl rfl
theorem kw_2_127 : Cond.methodLink RL 47 yX10_would ∈ wsK := tw_2 127 rfl rfl
theorem kw_2_128 : Cond.instanceMethod yX10_would ∈ wsK := tw_2 128 rfl rfl
theorem kw_2_129 : Cond.selects RX10 yX10_would yX10_would ∈ wsK := tw_2 129 rfl rfl
theorem kw_2_130 : Cond.code yX10_would cX10_would 3 (some .int) ∈ wsK := tw_2 130 rfl rfl
theorem kw_2_131 : Cond.methodLink RX10 85 yX10_isHeight ∈ wsK := tw_2 131 rfl rfl
theorem kw_2_132 : Cond.methodLink RX10 88 yX3_numberFor ∈ wsK := tw_2 132 rfl rfl
theorem kw_2_133 : Cond.methodLink RL 51 yX10_where ∈ wsK := tw_2 133 rfl rfl
theorem kw_2_134 : Cond.instanceMethod yX10_where ∈ wsK := tw_2 134 rfl rfl
theorem kw_2_135 : Cond.selects RX10 yX10_where yX10_where ∈ wsK := tw_2 135 rfl rfl
theorem kw_2_136 : Cond.code yX10_where cX10_where 5 (some .int) ∈ wsK := tw_2 136 rfl rfl
theorem kw_2_137 : Cond.methodLink RL 55 yX10_letter ∈ wsK := tw_2 137 rfl rfl
theorem kw_2_138 : Cond.instanceMethod yX10_letter ∈ wsK := tw_2 138 rfl rfl
theorem kw_2_139 : Cond.selects RX10 yX10_letter yX10_letter ∈ wsK := tw_2 139 rfl rfl
theorem kw_2_140 : Cond.code yX10_letter cX10_letter 3 (some .int) ∈ wsK := tw_2 140 rfl rfl
theorem kw_2_141 : Cond.methodLink RX10 92 yX8_builtAheadOf ∈ wsK := tw_2 141 rfl rfl
theorem kw_2_142 : Cond.instanceMethod yX8_builtAheadOf ∈ wsK := tw_2 142 rfl rfl
theorem kw_2_143 : Cond.selects RX8 yX8_builtAheadOf yX8_builtAheadOf ∈ wsK := tw_2 143 rfl rfl
theorem kw_2_144 : Cond.code yX8_builtAheadOf cX8_builtAheadOf 5 (some .int) ∈ wsK := tw_2 144 rfl rfl
theorem kw_2_145 : Cond.methodLink RX8 93 yX8_ageAt ∈ wsK := tw_2 145 rfl rfl
theorem kw_2_146 : Cond.methodLink RL 59 yX10_gaps ∈ wsK := tw_2 146 rfl rfl
theorem kw_2_147 : Cond.instanceMethod yX10_gaps ∈ wsK := tw_2 147 rfl rfl
theorem kw_2_148 : Cond.selects RX10 yX10_gaps yX10_gaps ∈ wsK := tw_2 148 rfl rfl
theorem kw_2_149 : Cond.code yX10_gaps cX10_gaps 1 (some .int) ∈ wsK := tw_2 149 rfl rfl
theorem kw_2_150 : Cond.methodLink RX10 95 yX8_freeNumbers ∈ wsK := tw_2 150 rfl rfl
theorem kw_2_151 : Cond.instanceMethod yX8_freeNumbers ∈ wsK := tw_2 151 rfl rfl
theorem kw_2_152 : Cond.selects RX8 yX8_freeNumbers yX8_freeNumbers ∈ wsK := tw_2 152 rfl rfl
theorem kw_2_153 : Cond.code yX8_freeNumbers cX8_freeNumbers 4 (some .int) ∈ wsK := tw_2 153 rfl rfl
theorem kw_2_154 : Cond.methodLink RX8 101 yX8_greatest ∈ wsK := tw_2 154 rfl rfl
theorem kw_2_155 : Cond.methodLink RX8 105 yX8_plotsWith ∈ wsK := tw_2 155 rfl rfl
theorem kw_2_156 : Cond.methodLink RL 64 yX10_walk ∈ wsK := tw_2 156 rfl rfl
theorem kw_2_157 : Cond.instanceMethod yX10_walk ∈ wsK := tw_2 157 rfl rfl
theorem kw_2_158 : Cond.selects RX10 yX10_walk yX10_walk ∈ wsK := tw_2 158 rfl rfl
theorem kw_2_159 : Cond.code yX10_walk cX10_walk 3 (some .int) ∈ wsK := tw_2 159 rfl rfl
theorem kw_2_160 : Cond.methodLink RX10 98 yX10_wayBy ∈ wsK := tw_2 160 rfl rfl
theorem kw_2_162 : Cond.instanceMethod yX10_wayBy ∈ wsK := tw_2 162 rfl rfl
theorem kw_2_163 : Cond.code yX10_wayBy cX10_wayBy 6 (some .int) ∈ wsK := tw_2 163 rfl rfl
theorem kw_2_164 : Cond.methodLink RX10 280 yX10_comesByAll ∈ wsK := tw_2 164 rfl rfl
theorem kw_2_166 : Cond.instanceMethod yX10_comesByAll ∈ wsK := tw_2 166 rfl rfl
theorem kw_2_167 : Cond.code yX10_comesByAll cX10_comesByAll 4 (some .boolean) ∈ wsK := tw_2 167 rfl rfl
theorem kw_2_168 : Cond.methodLink RX10 283 yX10_leastWay ∈ wsK := tw_2 168 rfl rfl
theorem kw_2_170 : Cond.instanceMethod yX10_leastWay ∈ wsK := tw_2 170 rfl rfl
theorem kw_2_171 : Cond.code yX10_leastWay cX10_leastWay 7 (some .int) ∈ wsK := tw_2 171 rfl rfl
theorem kw_2_172 : Cond.methodLink RX10 163 Lib.Math.min.name ∈ wsK := tw_2 172 rfl rfl
theorem kw_2_173 : Cond.static Lib.Math.min.name ∈ wsK := tw_2 173 rfl rfl
theorem kw_2_174 : Cond.code Lib.Math.min.name Lib.Math.min.code 2 (some .int) ∈ wsK := tw_2 174 rfl rfl
theorem kw_2_175 : Cond.methodLink RX10 289 yX10_plotsBetween ∈ wsK := tw_2 175 rfl rfl
theorem kw_2_176 : Cond.static yX10_plotsBetween ∈ wsK := tw_2 176 rfl rfl
theorem kw_2_177 : Cond.code yX10_plotsBetween cX10_plotsBetween 2 (some .int) ∈ wsK := tw_2 177 rfl rfl
theorem kw_2_178 : Cond.methodLink RX10 286 yX10_wayOfSearch ∈ wsK := tw_2 178 rfl rfl
theorem kw_2_180 : Cond.instanceMethod yX10_wayOfSearch ∈ wsK := tw_2 180 rfl rfl
theorem kw_2_181 : Cond.code yX10_wayOfSearch cX10_wayOfSearch 7 (some .int) ∈ wsK := tw_2 181 rfl rfl
theorem kw_2_182 : Cond.methodLink RL 68 yX10_search ∈ wsK := tw_2 182 rfl rfl
theorem kw_2_183 : Cond.instanceMethod yX10_search ∈ wsK := tw_2 183 rfl rfl
theorem kw_2_184 : Cond.selects RX10 yX10_search yX10_search ∈ wsK := tw_2 184 rfl rfl
theorem kw_2_185 : Cond.code yX10_search cX10_search 3 (some .int) ∈ wsK := tw_2 185 rfl rfl
theorem kw_2_186 : Cond.methodLink RL 72 yX10_rise ∈ wsK := tw_2 186 rfl rfl
theorem kw_2_187 : Cond.instanceMethod yX10_rise ∈ wsK := tw_2 187 rfl rfl
theorem kw_2_188 : Cond.selects RX10 yX10_rise yX10_rise ∈ wsK := tw_2 188 rfl rfl
theorem kw_2_189 : Cond.code yX10_rise cX10_rise 1 (some .int) ∈ wsK := tw_2 189 rfl rfl
theorem kw_2_190 : Cond.methodLink RX10 102 yX8_longestRise ∈ wsK := tw_2 190 rfl rfl
theorem kw_2_191 : Cond.instanceMethod yX8_longestRise ∈ wsK := tw_2 191 rfl rfl
theorem kw_2_192 : Cond.selects RX8 yX8_longestRise yX8_longestRise ∈ wsK := tw_2 192 rfl rfl
theorem kw_2_193 : Cond.code yX8_longestRise cX8_longestRise 3 (some .int) ∈ wsK := tw_2 193 rfl rfl
theorem kw_2_194 : Cond.methodLink RX8 108 yX8_longestRiseBelow ∈ wsK := tw_2 194 rfl rfl
theorem kw_2_196 : Cond.instanceMethod yX8_longestRiseBelow ∈ wsK := tw_2 196 rfl rfl
theorem kw_2_197 : Cond.code yX8_longestRiseBelow cX8_longestRiseBelow 4 (some .int) ∈ wsK := tw_2 197 rfl rfl
theorem kw_2_198 : Cond.methodLink RL 76 yX10_falls ∈ wsK := tw_2 198 rfl rfl
theorem kw_2_199 : Cond.instanceMethod yX10_falls ∈ wsK := tw_2 199 rfl rfl
theorem kw_2_200 : Cond.selects RX10 yX10_falls yX10_falls ∈ wsK := tw_2 200 rfl rfl
theorem kw_2_201 : Cond.code yX10_falls cX10_falls 1 (some .int) ∈ wsK := tw_2 201 rfl rfl
theorem kw_2_202 : Cond.methodLink RX10 105 yX8_pairsNotRising ∈ wsK := tw_2 202 rfl rfl
theorem kw_2_203 : Cond.instanceMethod yX8_pairsNotRising ∈ wsK := tw_2 203 rfl rfl
theorem kw_2_204 : Cond.selects RX8 yX8_pairsNotRising yX8_pairsNotRising ∈ wsK := tw_2 204 rfl rfl
theorem kw_2_205 : Cond.code yX8_pairsNotRising cX8_pairsNotRising 4 (some .int) ∈ wsK := tw_2 205 rfl rfl
theorem kw_2_206 : Cond.methodLink RL 80 yX10_byLaw ∈ wsK := tw_2 206 rfl rfl
theorem kw_2_207 : Cond.instanceMethod yX10_byLaw ∈ wsK := tw_2 207 rfl rfl
theorem kw_2_208 : Cond.selects RX10 yX10_byLaw yX10_byLaw ∈ wsK := tw_2 208 rfl rfl
theorem kw_2_209 : Cond.code yX10_byLaw cX10_byLaw 5 (some .int) ∈ wsK := tw_2 209 rfl rfl
theorem kw_2_210 : Cond.methodLink RX10 112 yX8_goThrough ∈ wsK := tw_2 210 rfl rfl
theorem kw_2_211 : Cond.instanceMethod yX8_goThrough ∈ wsK := tw_2 211 rfl rfl
theorem kw_2_212 : Cond.selects RX8 yX8_goThrough yX8_goThrough ∈ wsK := tw_2 212 rfl rfl
theorem kw_2_213 : Cond.code yX8_goThrough cX8_goThrough 4 none ∈ wsK := tw_2 213 rfl rfl
theorem kw_2_214 : Cond.methodLink RX8 61 yX8_clear ∈ wsK := tw_2 214 rfl rfl
theorem kw_2_215 : Cond.instanceMethod yX8_clear ∈ wsK := tw_2 215 rfl rfl
theorem kw_2_216 : Cond.selects RX8 yX8_clear yX8_clear ∈ wsK := tw_2 216 rfl rfl
theorem kw_2_217 : Cond.code yX8_clear cX8_clear 2 none ∈ wsK := tw_2 217 rfl rfl
theorem kw_2_218 : Cond.methodLink RX8 42 yJ7_fill_53178 ∈ wsK := tw_2 218 rfl rfl
theorem kw_2_219 : Cond.static yJ7_fill_53178 ∈ wsK := tw_2 219 rfl rfl
theorem kw_2_220 : Cond.code yJ7_fill_53178 cJ7_fill_53178 4 none ∈ wsK := tw_2 220 rfl rfl
theorem kw_2_221 : Cond.methodLink RX8 65 yX8_raze ∈ wsK := tw_2 221 rfl rfl
theorem kw_2_222 : Cond.methodLink RX8 69 yX8_raise ∈ wsK := tw_2 222 rfl rfl
theorem kw_2_223 : Cond.methodLink RL 85 yX10_laws ∈ wsK := tw_2 223 rfl rfl
theorem kw_2_224 : Cond.instanceMethod yX10_laws ∈ wsK := tw_2 224 rfl rfl
theorem kw_2_225 : Cond.selects RX10 yX10_laws yX10_laws ∈ wsK := tw_2 225 rfl rfl
theorem kw_2_226 : Cond.code yX10_laws cX10_laws 5 (some .int) ∈ wsK := tw_2 226 rfl rfl
theorem kw_2_227 : Cond.methodLink RX10 116 yX8_hasNumbersOf ∈ wsK := tw_2 227 rfl rfl
theorem kw_2_228 : Cond.instanceMethod yX8_hasNumbersOf ∈ wsK := tw_2 228 rfl rfl
theorem kw_2_229 : Cond.selects RX8 yX8_hasNumbersOf yX8_hasNumbersOf ∈ wsK := tw_2 229 rfl rfl
theorem kw_2_230 : Cond.code yX8_hasNumbersOf cX8_hasNumbersOf 3 (some .boolean) ∈ wsK := tw_2 230 rfl rfl
theorem kw_2_231 : Cond.methodLink RL 89 yX10_orders ∈ wsK := tw_2 231 rfl rfl
theorem kw_2_232 : Cond.instanceMethod yX10_orders ∈ wsK := tw_2 232 rfl rfl
theorem kw_2_233 : Cond.selects RX10 yX10_orders yX10_orders ∈ wsK := tw_2 233 rfl rfl
theorem kw_2_234 : Cond.code yX10_orders cX10_orders 3 (some .int) ∈ wsK := tw_2 234 rfl rfl
theorem kw_2_235 : Cond.methodLink RX10 120 yX8_houses ∈ wsK := tw_2 235 rfl rfl
theorem kw_2_236 : Cond.instanceMethod yX8_houses ∈ wsK := tw_2 236 rfl rfl
theorem kw_2_237 : Cond.selects RX8 yX8_houses yX8_houses ∈ wsK := tw_2 237 rfl rfl
theorem kw_2_238 : Cond.code yX8_houses cX8_houses 3 (some .int) ∈ wsK := tw_2 238 rfl rfl
theorem kw_2_239 : Cond.methodLink RX10 123 yX8_clear ∈ wsK := tw_2 239 rfl rfl
theorem kw_3_0 : Cond.methodLink RX10 127 yX10_ordersFrom ∈ wsK := tw_3 0 rfl rfl
theorem kw_3_1 : Cond.static yX10_ordersFrom ∈ wsK := tw_3 1 rfl rfl
theorem kw_3_2 : Cond.code yX10_ordersFrom cX10_ordersFrom 5 (some .int) ∈ wsK := tw_3 2 rfl rfl
theorem kw_3_3 : Cond.methodLink RX10 292 yX8_canRaiseAs ∈ wsK := tw_3 3 rfl rfl
theorem kw_3_4 : Cond.instanceMethod yX8_canRaiseAs ∈ wsK := tw_3 4 rfl rfl
theorem kw_3_5 : Cond.selects RX8 yX8_canRaiseAs yX8_canRaiseAs ∈ wsK := tw_3 5 rfl rfl
theorem kw_3_6 : Cond.code yX8_canRaiseAs cX8_canRaiseAs 3 (some .boolean) ∈ wsK := tw_3 6 rfl rfl
theorem kw_3_7 : Cond.methodLink RX8 111 yX8_heightAt ∈ wsK := tw_3 7 rfl rfl
theorem kw_3_8 : Cond.methodLink RX10 296 yX8_takeBack ∈ wsK := tw_3 8 rfl rfl
theorem kw_3_9 : Cond.instanceMethod yX8_takeBack ∈ wsK := tw_3 9 rfl rfl
theorem kw_3_10 : Cond.selects RX8 yX8_takeBack yX8_takeBack ∈ wsK := tw_3 10 rfl rfl
theorem kw_3_11 : Cond.code yX8_takeBack cX8_takeBack 2 none ∈ wsK := tw_3 11 rfl rfl
theorem kw_3_12 : Cond.methodLink RX10 131 yX10_firstInOrder ∈ wsK := tw_3 12 rfl rfl
theorem kw_3_14 : Cond.instanceMethod yX10_firstInOrder ∈ wsK := tw_3 14 rfl rfl
theorem kw_3_15 : Cond.code yX10_firstInOrder cX10_firstInOrder 4 (some .int) ∈ wsK := tw_3 15 rfl rfl
theorem kw_3_16 : Cond.methodLink RL 93 yX10_joined ∈ wsK := tw_3 16 rfl rfl
theorem kw_3_17 : Cond.instanceMethod yX10_joined ∈ wsK := tw_3 17 rfl rfl
theorem kw_3_18 : Cond.selects RX10 yX10_joined yX10_joined ∈ wsK := tw_3 18 rfl rfl
theorem kw_3_19 : Cond.code yX10_joined cX10_joined 5 (some .int) ∈ wsK := tw_3 19 rfl rfl
theorem kw_3_20 : Cond.methodLink RX10 134 yX10_isTown ∈ wsK := tw_3 20 rfl rfl
theorem kw_3_21 : Cond.static yX10_isTown ∈ wsK := tw_3 21 rfl rfl
theorem kw_3_22 : Cond.code yX10_isTown cX10_isTown 2 (some .boolean) ∈ wsK := tw_3 22 rfl rfl
theorem kw_3_23 : Cond.methodLink RX10 138 yX10_sharedIfRaised ∈ wsK := tw_3 23 rfl rfl
theorem kw_3_25 : Cond.instanceMethod yX10_sharedIfRaised ∈ wsK := tw_3 25 rfl rfl
theorem kw_3_26 : Cond.code yX10_sharedIfRaised cX10_sharedIfRaised 5 (some .int) ∈ wsK := tw_3 26 rfl rfl
theorem kw_3_27 : Cond.methodLink RX10 142 yX10_leastRaise ∈ wsK := tw_3 27 rfl rfl
theorem kw_3_29 : Cond.instanceMethod yX10_leastRaise ∈ wsK := tw_3 29 rfl rfl
theorem kw_3_30 : Cond.code yX10_leastRaise cX10_leastRaise 4 (some .int) ∈ wsK := tw_3 30 rfl rfl
theorem kw_3_31 : Cond.methodLink RX10 182 yX8_greatest ∈ wsK := tw_3 31 rfl rfl
theorem kw_3_32 : Cond.methodLink RL 97 yX10_seeded ∈ wsK := tw_3 32 rfl rfl
theorem kw_3_33 : Cond.instanceMethod yX10_seeded ∈ wsK := tw_3 33 rfl rfl
theorem kw_3_34 : Cond.selects RX10 yX10_seeded yX10_seeded ∈ wsK := tw_3 34 rfl rfl
theorem kw_3_35 : Cond.code yX10_seeded cX10_seeded 8 (some .int) ∈ wsK := tw_3 35 rfl rfl
theorem kw_3_36 : Cond.methodLink RX10 145 yX10_nextSeed ∈ wsK := tw_3 36 rfl rfl
theorem kw_3_37 : Cond.static yX10_nextSeed ∈ wsK := tw_3 37 rfl rfl
theorem kw_3_38 : Cond.code yX10_nextSeed cX10_nextSeed 1 (some .int) ∈ wsK := tw_3 38 rfl rfl
theorem kw_3_39 : Cond.constant RX10 300 1103515245 ∈ wsK := tw_3 39 rfl rfl
theorem kw_3_40 : Cond.methodLink RX10 148 yX10_drawnBits ∈ wsK := tw_3 40 rfl rfl
theorem kw_3_41 : Cond.static yX10_drawnBits ∈ wsK := tw_3 41 rfl rfl
theorem kw_3_42 : Cond.code yX10_drawnBits cX10_drawnBits 1 (some .int) ∈ wsK := tw_3 42 rfl rfl
theorem kw_3_43 : Cond.constant RX10 301 2147483647 ∈ wsK := tw_3 43 rfl rfl
theorem kw_3_44 : Cond.methodLink RL 101 yX10_judge ∈ wsK := tw_3 44 rfl rfl
theorem kw_3_45 : Cond.instanceMethod yX10_judge ∈ wsK := tw_3 45 rfl rfl
theorem kw_3_46 : Cond.selects RX10 yX10_judge yX10_judge ∈ wsK := tw_3 46 rfl rfl
theorem kw_3_47 : Cond.code yX10_judge cX10_judge 7 (some .int) ∈ wsK := tw_3 47 rfl rfl
theorem kw_3_48 : Cond.methodLink RX10 151 yX5_refusalAsRow ∈ wsK := tw_3 48 rfl rfl
theorem kw_3_49 : Cond.instanceMethod yX5_refusalAsRow ∈ wsK := tw_3 49 rfl rfl
theorem kw_3_50 : Cond.selects RX5 yX5_refusalAsRow yX5_refusalAsRow ∈ wsK := tw_3 50 rfl rfl
theorem kw_3_51 : Cond.code yX5_refusalAsRow cX5_refusalAsRow 1 (some .int) ∈ wsK := tw_3 51 rfl rfl
theorem kw_3_52 : Cond.methodLink RX5 36 yX5_holdsRow ∈ wsK := tw_3 52 rfl rfl
theorem kw_3_53 : Cond.instanceMethod yX5_holdsRow ∈ wsK := tw_3 53 rfl rfl
theorem kw_3_54 : Cond.selects RX5 yX5_holdsRow yX5_holdsRow ∈ wsK := tw_3 54 rfl rfl
theorem kw_3_55 : Cond.code yX5_holdsRow cX5_holdsRow 1 (some .boolean) ∈ wsK := tw_3 55 rfl rfl
theorem kw_3_56 : Cond.methodLink RX10 154 yX5_leastOfSort ∈ wsK := tw_3 56 rfl rfl
theorem kw_3_57 : Cond.instanceMethod yX5_leastOfSort ∈ wsK := tw_3 57 rfl rfl
theorem kw_3_58 : Cond.selects RX5 yX5_leastOfSort yX5_leastOfSort ∈ wsK := tw_3 58 rfl rfl
theorem kw_3_59 : Cond.code yX5_leastOfSort cX5_leastOfSort 1 (some .int) ∈ wsK := tw_3 59 rfl rfl
theorem kw_3_60 : Cond.constant RX5 47 (-2147483648) ∈ wsK := tw_3 60 rfl rfl
theorem kw_3_61 : Cond.methodLink RL 105 yX10_image ∈ wsK := tw_3 61 rfl rfl
theorem kw_3_62 : Cond.instanceMethod yX10_image ∈ wsK := tw_3 62 rfl rfl
theorem kw_3_63 : Cond.selects RX10 yX10_image yX10_image ∈ wsK := tw_3 63 rfl rfl
theorem kw_3_64 : Cond.code yX10_image cX10_image 1 (some .int) ∈ wsK := tw_3 64 rfl rfl
theorem kw_3_65 : Cond.methodLink RL 109 yX10_restore ∈ wsK := tw_3 65 rfl rfl
theorem kw_3_66 : Cond.instanceMethod yX10_restore ∈ wsK := tw_3 66 rfl rfl
theorem kw_3_67 : Cond.selects RX10 yX10_restore yX10_restore ∈ wsK := tw_3 67 rfl rfl
theorem kw_3_68 : Cond.code yX10_restore cX10_restore 1 (some .int) ∈ wsK := tw_3 68 rfl rfl
theorem kw_3_69 : Cond.methodLink RL 113 yX10_count ∈ wsK := tw_3 69 rfl rfl
theorem kw_3_70 : Cond.instanceMethod yX10_count ∈ wsK := tw_3 70 rfl rfl
theorem kw_3_71 : Cond.selects RX10 yX10_count yX10_count ∈ wsK := tw_3 71 rfl rfl
theorem kw_3_72 : Cond.code yX10_count cX10_count 2 (some .int) ∈ wsK := tw_3 72 rfl rfl
theorem kw_3_73 : Cond.methodLink RL 117 yX10_keep ∈ wsK := tw_3 73 rfl rfl
theorem kw_3_74 : Cond.instanceMethod yX10_keep ∈ wsK := tw_3 74 rfl rfl
theorem kw_3_75 : Cond.selects RX10 yX10_keep yX10_keep ∈ wsK := tw_3 75 rfl rfl
theorem kw_3_76 : Cond.code yX10_keep cX10_keep 7 (some .int) ∈ wsK := tw_3 76 rfl rfl
theorem kw_3_77 : Cond.methodLink RX10 188 yX5_hold ∈ wsK := tw_3 77 rfl rfl
theorem kw_3_78 : Cond.instanceMethod yX5_hold ∈ wsK := tw_3 78 rfl rfl
theorem kw_3_79 : Cond.selects RX5 yX5_hold yX5_hold ∈ wsK := tw_3 79 rfl rfl
theorem kw_3_80 : Cond.code yX5_hold cX5_hold 2 none ∈ wsK := tw_3 80 rfl rfl
theorem kw_3_81 : Cond.methodLink RL 122 yX10_row ∈ wsK := tw_3 81 rfl rfl
theorem kw_3_82 : Cond.instanceMethod yX10_row ∈ wsK := tw_3 82 rfl rfl
theorem kw_3_83 : Cond.selects RX10 yX10_row yX10_row ∈ wsK := tw_3 83 rfl rfl
theorem kw_3_84 : Cond.code yX10_row cX10_row 5 (some .int) ∈ wsK := tw_3 84 rfl rfl
theorem kw_3_85 : Cond.methodLink RX10 191 yX5_holdRow ∈ wsK := tw_3 85 rfl rfl
theorem kw_3_86 : Cond.instanceMethod yX5_holdRow ∈ wsK := tw_3 86 rfl rfl
theorem kw_3_87 : Cond.selects RX5 yX5_holdRow yX5_holdRow ∈ wsK := tw_3 87 rfl rfl
theorem kw_3_88 : Cond.code yX5_holdRow cX5_holdRow 3 none ∈ wsK := tw_3 88 rfl rfl
theorem kw_3_89 : Cond.methodLink RX5 26 yJ7_fill_53178 ∈ wsK := tw_3 89 rfl rfl
theorem kw_3_90 : Cond.methodLink RL 126 yX10_put ∈ wsK := tw_3 90 rfl rfl
theorem kw_3_91 : Cond.instanceMethod yX10_put ∈ wsK := tw_3 91 rfl rfl
theorem kw_3_92 : Cond.selects RX10 yX10_put yX10_put ∈ wsK := tw_3 92 rfl rfl
theorem kw_3_93 : Cond.code yX10_put cX10_put 6 (some .int) ∈ wsK := tw_3 93 rfl rfl
theorem kw_3_94 : Cond.methodLink RX10 195 yX5_hasPlace ∈ wsK := tw_3 94 rfl rfl
theorem kw_3_95 : Cond.methodLink RX10 198 yX5_set ∈ wsK := tw_3 95 rfl rfl
theorem kw_3_96 : Cond.instanceMethod yX5_set ∈ wsK := tw_3 96 rfl rfl
theorem kw_3_97 : Cond.selects RX5 yX5_set yX5_set ∈ wsK := tw_3 97 rfl rfl
theorem kw_3_98 : Cond.code yX5_set cX5_set 3 none ∈ wsK := tw_3 98 rfl rfl
theorem kw_3_99 : Cond.methodLink RX5 43 yX5_kept ∈ wsK := tw_3 99 rfl rfl
theorem kw_3_101 : Cond.instanceMethod yX5_kept ∈ wsK := tw_3 101 rfl rfl
theorem kw_3_102 : Cond.code yX5_kept cX5_kept 2 (some .int) ∈ wsK := tw_3 102 rfl rfl
theorem kw_3_103 : Cond.methodLink RL 139 yX10_copy ∈ wsK := tw_3 103 rfl rfl
theorem kw_3_104 : Cond.instanceMethod yX10_copy ∈ wsK := tw_3 104 rfl rfl
theorem kw_3_105 : Cond.selects RX10 yX10_copy yX10_copy ∈ wsK := tw_3 105 rfl rfl
theorem kw_3_106 : Cond.code yX10_copy cX10_copy 8 (some .int) ∈ wsK := tw_3 106 rfl rfl
theorem kw_3_107 : Cond.methodLink RX10 217 yX5_holdsNothing ∈ wsK := tw_3 107 rfl rfl
theorem kw_3_108 : Cond.methodLink RX10 208 yX5_holdsRow ∈ wsK := tw_3 108 rfl rfl
theorem kw_3_109 : Cond.methodLink RX10 223 yX5_hasPlaces ∈ wsK := tw_3 109 rfl rfl
theorem kw_3_110 : Cond.instanceMethod yX5_hasPlaces ∈ wsK := tw_3 110 rfl rfl
theorem kw_3_111 : Cond.selects RX5 yX5_hasPlaces yX5_hasPlaces ∈ wsK := tw_3 111 rfl rfl
theorem kw_3_112 : Cond.code yX5_hasPlaces cX5_hasPlaces 3 (some .boolean) ∈ wsK := tw_3 112 rfl rfl
theorem kw_3_113 : Cond.methodLink RX10 231 arraycopyName ∈ wsK := tw_3 113 rfl rfl
theorem kw_3_114 : Cond.methodLink RL 144 yX10_tax ∈ wsK := tw_3 114 rfl rfl
theorem kw_3_115 : Cond.instanceMethod yX10_tax ∈ wsK := tw_3 115 rfl rfl
theorem kw_3_116 : Cond.selects RX10 yX10_tax yX10_tax ∈ wsK := tw_3 116 rfl rfl
theorem kw_3_117 : Cond.code yX10_tax cX10_tax 4 (some .int) ∈ wsK := tw_3 117 rfl rfl
theorem kw_3_118 : Cond.methodLink RX10 237 yX3_levy ∈ wsK := tw_3 118 rfl rfl
theorem kw_3_119 : Cond.instanceMethod yX3_levy ∈ wsK := tw_3 119 rfl rfl
theorem kw_3_120 : Cond.selects RX3 yX3_levy yX3_levy ∈ wsK := tw_3 120 rfl rfl
theorem kw_3_121 : Cond.sameMethod RX3 RX3 "levy" "()I" ∈ wsK := tw_3 121 rfl rfl
theorem kw_3_122 : Cond.selects RX0 yX3_levy yX0_levy ∈ wsK := tw_3 122 rfl rfl
theorem kw_3_123 : Cond.instanceMethod yX0_levy ∈ wsK := tw_3 123 rfl rfl
theorem kw_3_124 : Cond.code yX0_levy cX0_levy 1 (some .int) ∈ wsK := tw_3 124 rfl rfl
theorem kw_3_125 : Cond.methodLink RX0 13 yX3_levy ∈ wsK := tw_3 125 rfl rfl
theorem kw_3_126 : Cond.selects RX1 yX3_levy yX1_levy ∈ wsK := tw_3 126 rfl rfl
theorem kw_3_127 : Cond.instanceMethod yX1_levy ∈ wsK := tw_3 127 rfl rfl
theorem kw_3_128 : Cond.code yX1_levy cX1_levy 1 (some .int) ∈ wsK := tw_3 128 rfl rfl
theorem kw_3_129 : Cond.methodLink RX1 17 yX3_levy ∈ wsK := tw_3 129 rfl rfl
theorem kw_3_130 : Cond.selects RX2 yX3_levy yX2_levy ∈ wsK := tw_3 130 rfl rfl
theorem kw_3_131 : Cond.instanceMethod yX2_levy ∈ wsK := tw_3 131 rfl rfl
theorem kw_3_132 : Cond.code yX2_levy cX2_levy 1 (some .int) ∈ wsK := tw_3 132 rfl rfl
theorem kw_3_133 : Cond.methodLink RX2 23 yX0_levy ∈ wsK := tw_3 133 rfl rfl
theorem kw_3_134 : Cond.selects RX4 yX3_levy yX4_levy ∈ wsK := tw_3 134 rfl rfl
theorem kw_3_135 : Cond.instanceMethod yX4_levy ∈ wsK := tw_3 135 rfl rfl
theorem kw_3_136 : Cond.code yX4_levy cX4_levy 1 (some .int) ∈ wsK := tw_3 136 rfl rfl
theorem kw_3_137 : Cond.methodLink RX4 13 yX3_levy ∈ wsK := tw_3 137 rfl rfl
theorem kw_3_138 : Cond.selects RX6 yX3_levy yX6_levy ∈ wsK := tw_3 138 rfl rfl
theorem kw_3_139 : Cond.instanceMethod yX6_levy ∈ wsK := tw_3 139 rfl rfl
theorem kw_3_140 : Cond.code yX6_levy cX6_levy 1 (some .int) ∈ wsK := tw_3 140 rfl rfl
theorem kw_3_141 : Cond.methodLink RX6 11 yX4_levy ∈ wsK := tw_3 141 rfl rfl
theorem kw_3_142 : Cond.selects RX7 yX3_levy yX7_levy ∈ wsK := tw_3 142 rfl rfl
theorem kw_3_143 : Cond.instanceMethod yX7_levy ∈ wsK := tw_3 143 rfl rfl
theorem kw_3_144 : Cond.code yX7_levy cX7_levy 1 (some .int) ∈ wsK := tw_3 144 rfl rfl
theorem kw_3_145 : Cond.methodLink RX7 17 yX3_levy ∈ wsK := tw_3 145 rfl rfl
theorem kw_3_146 : Cond.selects RX9 yX3_levy yX3_levy ∈ wsK := tw_3 146 rfl rfl
theorem kw_3_147 : Cond.code yX3_levy cX3_levy 1 (some .int) ∈ wsK := tw_3 147 rfl rfl
theorem kw_3_148 : Cond.methodLink RL 148 yX10_toss ∈ wsK := tw_3 148 rfl rfl
theorem kw_3_149 : Cond.instanceMethod yX10_toss ∈ wsK := tw_3 149 rfl rfl
theorem kw_3_150 : Cond.selects RX10 yX10_toss yX10_toss ∈ wsK := tw_3 150 rfl rfl
theorem kw_3_151 : Cond.code yX10_toss cX10_toss 4 (some .int) ∈ wsK := tw_3 151 rfl rfl
theorem kw_3_152 : Cond.methodLink RX10 240 yX10_caughtFailure ∈ wsK := tw_3 152 rfl rfl
theorem kw_3_153 : Cond.static yX10_caughtFailure ∈ wsK := tw_3 153 rfl rfl
theorem kw_3_155 : Cond.classLink RX10 201 "java/lang/IllegalArgumentException" ∈ wsK := tw_3 155 rfl rfl
theorem kw_3_156 : Cond.classLink RX10 305 "java/lang/UnsupportedOperationException" ∈ wsK := tw_3 156 rfl rfl
theorem kw_3_157 : Cond.classLink RX10 212 "java/lang/IllegalStateException" ∈ wsK := tw_3 157 rfl rfl
theorem kw_3_158 : Cond.methodLink RX10 302 yX3_fail ∈ wsK := tw_3 158 rfl rfl
theorem kw_3_159 : Cond.instanceMethod yX3_fail ∈ wsK := tw_3 159 rfl rfl
theorem kw_3_160 : Cond.selects RX3 yX3_fail yX3_fail ∈ wsK := tw_3 160 rfl rfl
theorem kw_3_161 : Cond.sameMethod RX3 RX3 "fail" "()V" ∈ wsK := tw_3 161 rfl rfl
theorem kw_3_162 : Cond.selects RX0 yX3_fail yX3_fail ∈ wsK := tw_3 162 rfl rfl
theorem kw_3_163 : Cond.selects RX1 yX3_fail yX3_fail ∈ wsK := tw_3 163 rfl rfl
theorem kw_3_164 : Cond.selects RX2 yX3_fail yX2_fail ∈ wsK := tw_3 164 rfl rfl
theorem kw_3_165 : Cond.instanceMethod yX2_fail ∈ wsK := tw_3 165 rfl rfl
theorem kw_3_166 : Cond.code yX2_fail cX2_fail 1 none ∈ wsK := tw_3 166 rfl rfl
theorem kw_3_167 : Cond.classLink RX2 26 "java/lang/UnsupportedOperationException" ∈ wsK := tw_3 167 rfl rfl
theorem kw_3_234 : Cond.arrayClass .byte ∈ wsK := tw_3 234 rfl rfl
theorem kw_3_235 : Cond.selects RX4 yX3_fail yX3_fail ∈ wsK := tw_3 235 rfl rfl
theorem kw_3_236 : Cond.selects RX6 yX3_fail yX6_fail ∈ wsK := tw_3 236 rfl rfl
theorem kw_3_237 : Cond.instanceMethod yX6_fail ∈ wsK := tw_3 237 rfl rfl
theorem kw_3_238 : Cond.code yX6_fail cX6_fail 1 none ∈ wsK := tw_3 238 rfl rfl
theorem kw_3_239 : Cond.classLink RX6 21 "java/lang/IllegalArgumentException" ∈ wsK := tw_3 239 rfl rfl
theorem kw_4_15 : Cond.selects RX7 yX3_fail yX3_fail ∈ wsK := tw_4 15 rfl rfl
theorem kw_4_16 : Cond.selects RX9 yX3_fail yX9_fail ∈ wsK := tw_4 16 rfl rfl
theorem kw_4_17 : Cond.instanceMethod yX9_fail ∈ wsK := tw_4 17 rfl rfl
theorem kw_4_18 : Cond.code yX9_fail cX9_fail 1 none ∈ wsK := tw_4 18 rfl rfl
theorem kw_4_19 : Cond.code yX3_fail cX3_fail 1 none ∈ wsK := tw_4 19 rfl rfl
theorem kw_4_20 : Cond.classLink RX3 21 "java/lang/IllegalStateException" ∈ wsK := tw_4 20 rfl rfl
theorem kw_4_36 : Cond.methodLink RL 130 yL_element ∈ wsK := tw_4 36 rfl rfl
theorem kw_4_37 : Cond.static yL_element ∈ wsK := tw_4 37 rfl rfl
theorem kw_4_39 : Cond.classLink RL 13 "java/lang/IllegalArgumentException" ∈ wsK := tw_4 39 rfl rfl
theorem kw_4_40 : Cond.classLink RL 15 "java/lang/IllegalStateException" ∈ wsK := tw_4 40 rfl rfl
theorem kw_4_41 : Cond.methodLink RL 7 yX10_element ∈ wsK := tw_4 41 rfl rfl
theorem kw_4_42 : Cond.instanceMethod yX10_element ∈ wsK := tw_4 42 rfl rfl
theorem kw_4_43 : Cond.selects RX10 yX10_element yX10_element ∈ wsK := tw_4 43 rfl rfl
theorem kw_4_44 : Cond.code yX10_element cX10_element 4 (some .long) ∈ wsK := tw_4 44 rfl rfl
theorem kw_4_49 : Cond.classLink RL 18 RX11 ∈ wsK := tw_4 49 rfl rfl
theorem kw_4_50 : Cond.instantiable RX11 35 ∈ wsK := tw_4 50 rfl rfl
theorem kw_4_51 : Cond.methodLink RL 20 yX11_init ∈ wsK := tw_4 51 rfl rfl
theorem kw_4_52 : Cond.instanceMethod yX11_init ∈ wsK := tw_4 52 rfl rfl
theorem kw_4_53 : Cond.code yX11_init cX11_init 1 none ∈ wsK := tw_4 53 rfl rfl
theorem kw_4_54 : Cond.methodLink RX11 1 objectInit ∈ wsK := tw_4 54 rfl rfl
theorem kw_4_55 : Cond.fieldLink RX11 140 "NumberedByAgeModel" "kind" "I" ∈ wsK := tw_4 55 rfl rfl
theorem kw_4_56 : Cond.fieldLink RX11 143 "NumberedByAgeModel" "figure" "I" ∈ wsK := tw_4 56 rfl rfl
theorem kw_4_57 : Cond.fieldLink RX11 81 "NumberedByAgeModel" "eventMany" "I" ∈ wsK := tw_4 57 rfl rfl
theorem kw_4_58 : Cond.fieldLink RX11 7 "NumberedByAgeModel" "eventPlot" "[I" ∈ wsK := tw_4 58 rfl rfl
theorem kw_4_59 : Cond.fieldLink RX11 13 "NumberedByAgeModel" "eventHeight" "[I" ∈ wsK := tw_4 59 rfl rfl
theorem kw_4_60 : Cond.fieldLink RX11 16 "NumberedByAgeModel" "numbers" "[I" ∈ wsK := tw_4 60 rfl rfl
theorem kw_4_61 : Cond.fieldLink RX11 74 "NumberedByAgeModel" "thrown" "I" ∈ wsK := tw_4 61 rfl rfl
theorem kw_4_62 : Cond.fieldLink RX11 19 "NumberedByAgeModel" "looked" "[I" ∈ wsK := tw_4 62 rfl rfl
theorem kw_4_63 : Cond.fieldLink RX11 22 "NumberedByAgeModel" "quarters" "[I" ∈ wsK := tw_4 63 rfl rfl
theorem kw_4_64 : Cond.fieldLink RX11 113 "NumberedByAgeModel" "base" "I" ∈ wsK := tw_4 64 rfl rfl
theorem kw_4_65 : Cond.fieldLink RX11 110 "NumberedByAgeModel" "end" "I" ∈ wsK := tw_4 65 rfl rfl
theorem kw_4_66 : Cond.fieldLink RX11 107 "NumberedByAgeModel" "at" "I" ∈ wsK := tw_4 66 rfl rfl
theorem kw_4_67 : Cond.fieldLink RX11 116 "NumberedByAgeModel" "isBad" "Z" ∈ wsK := tw_4 67 rfl rfl
theorem kw_4_68 : Cond.fieldLink RX11 131 "NumberedByAgeModel" "statements" "I" ∈ wsK := tw_4 68 rfl rfl
theorem kw_4_69 : Cond.fieldLink RX11 25 "NumberedByAgeModel" "placeOf" "[I" ∈ wsK := tw_4 69 rfl rfl
theorem kw_4_70 : Cond.fieldLink RX11 28 "NumberedByAgeModel" "letterOf" "[I" ∈ wsK := tw_4 70 rfl rfl
theorem kw_4_71 : Cond.fieldLink RX11 31 "NumberedByAgeModel" "first" "[I" ∈ wsK := tw_4 71 rfl rfl
theorem kw_4_72 : Cond.fieldLink RX11 34 "NumberedByAgeModel" "second" "[I" ∈ wsK := tw_4 72 rfl rfl
theorem kw_4_73 : Cond.fieldLink RX11 37 "NumberedByAgeModel" "kept" "[I" ∈ wsK := tw_4 73 rfl rfl
theorem kw_4_74 : Cond.fieldLink RX11 40 "NumberedByAgeModel" "imaged" "[I" ∈ wsK := tw_4 74 rfl rfl
theorem kw_4_75 : Cond.fieldLink RX11 180 "NumberedByAgeModel" "hasImage" "Z" ∈ wsK := tw_4 75 rfl rfl
theorem kw_4_76 : Cond.fieldLink RX11 173 "NumberedByAgeModel" "place" "I" ∈ wsK := tw_4 76 rfl rfl
theorem kw_4_77 : Cond.fieldLink RX11 167 "NumberedByAgeModel" "isTaking" "Z" ∈ wsK := tw_4 77 rfl rfl
theorem kw_4_78 : Cond.fieldLink RX11 170 "NumberedByAgeModel" "keptIn" "[I" ∈ wsK := tw_4 78 rfl rfl
theorem kw_4_79 : Cond.fieldLink RX11 43 "NumberedByAgeModel" "risesTo" "[I" ∈ wsK := tw_4 79 rfl rfl
theorem kw_4_80 : Cond.fieldLink RX11 46 "NumberedByAgeModel" "houses" "[I" ∈ wsK := tw_4 80 rfl rfl
theorem kw_4_81 : Cond.fieldLink RX11 49 "NumberedByAgeModel" "order0" "[I" ∈ wsK := tw_4 81 rfl rfl
theorem kw_4_82 : Cond.fieldLink RX11 234 "NumberedByAgeModel" "seed" "I" ∈ wsK := tw_4 82 rfl rfl
theorem kw_4_83 : Cond.fieldLink RX11 52 "NumberedByAgeModel" "holdsWhat" "[I" ∈ wsK := tw_4 83 rfl rfl
theorem kw_4_84 : Cond.fieldLink RX11 55 "NumberedByAgeModel" "lawKind" "[I" ∈ wsK := tw_4 84 rfl rfl
theorem kw_4_85 : Cond.fieldLink RX11 58 "NumberedByAgeModel" "lawFigure" "[I" ∈ wsK := tw_4 85 rfl rfl
theorem kw_4_86 : Cond.fieldLink RX11 61 "NumberedByAgeModel" "rowSort" "[I" ∈ wsK := tw_4 86 rfl rfl
theorem kw_4_87 : Cond.fieldLink RX11 64 "NumberedByAgeModel" "rowMany" "[I" ∈ wsK := tw_4 87 rfl rfl
theorem kw_4_88 : Cond.fieldLink RX11 67 "NumberedByAgeModel" "rows" "[J" ∈ wsK := tw_4 88 rfl rfl
theorem kw_4_89 : Cond.fieldLink RX11 71 "NumberedByAgeModel" "between" "[J" ∈ wsK := tw_4 89 rfl rfl
theorem kw_4_90 : Cond.lays RX11 "NumberedByAgeModel" "kind" "I" ∈ wsK := tw_4 90 rfl rfl
theorem kw_4_92 : Cond.lays RX11 "NumberedByAgeModel" "figure" "I" ∈ wsK := tw_4 92 rfl rfl
theorem kw_4_94 : Cond.lays RX11 "NumberedByAgeModel" "eventMany" "I" ∈ wsK := tw_4 94 rfl rfl
theorem kw_4_96 : Cond.laysFinal RX11 "NumberedByAgeModel" "eventPlot" "[I" ∈ wsK := tw_4 96 rfl rfl
theorem kw_4_98 : Cond.laysFinal RX11 "NumberedByAgeModel" "eventHeight" "[I" ∈ wsK := tw_4 98 rfl rfl
theorem kw_4_100 : Cond.laysFinal RX11 "NumberedByAgeModel" "numbers" "[I" ∈ wsK := tw_4 100 rfl rfl
theorem kw_4_102 : Cond.lays RX11 "NumberedByAgeModel" "thrown" "I" ∈ wsK := tw_4 102 rfl rfl
theorem kw_4_104 : Cond.laysFinal RX11 "NumberedByAgeModel" "looked" "[I" ∈ wsK := tw_4 104 rfl rfl
theorem kw_4_106 : Cond.laysFinal RX11 "NumberedByAgeModel" "quarters" "[I" ∈ wsK := tw_4 106 rfl rfl
theorem kw_4_108 : Cond.lays RX11 "NumberedByAgeModel" "base" "I" ∈ wsK := tw_4 108 rfl rfl
theorem kw_4_110 : Cond.lays RX11 "NumberedByAgeModel" "end" "I" ∈ wsK := tw_4 110 rfl rfl
theorem kw_4_112 : Cond.lays RX11 "NumberedByAgeModel" "at" "I" ∈ wsK := tw_4 112 rfl rfl
theorem kw_4_114 : Cond.lays RX11 "NumberedByAgeModel" "isBad" "Z" ∈ wsK := tw_4 114 rfl rfl
theorem kw_4_116 : Cond.lays RX11 "NumberedByAgeModel" "statements" "I" ∈ wsK := tw_4 116 rfl rfl
theorem kw_4_118 : Cond.laysFinal RX11 "NumberedByAgeModel" "placeOf" "[I" ∈ wsK := tw_4 118 rfl rfl
theorem kw_4_120 : Cond.laysFinal RX11 "NumberedByAgeModel" "letterOf" "[I" ∈ wsK := tw_4 120 rfl rfl
theorem kw_4_122 : Cond.laysFinal RX11 "NumberedByAgeModel" "first" "[I" ∈ wsK := tw_4 122 rfl rfl
theorem kw_4_124 : Cond.laysFinal RX11 "NumberedByAgeModel" "second" "[I" ∈ wsK := tw_4 124 rfl rfl
theorem kw_4_126 : Cond.laysFinal RX11 "NumberedByAgeModel" "kept" "[I" ∈ wsK := tw_4 126 rfl rfl
theorem kw_4_128 : Cond.laysFinal RX11 "NumberedByAgeModel" "imaged" "[I" ∈ wsK := tw_4 128 rfl rfl
theorem kw_4_130 : Cond.lays RX11 "NumberedByAgeModel" "hasImage" "Z" ∈ wsK := tw_4 130 rfl rfl
theorem kw_4_132 : Cond.lays RX11 "NumberedByAgeModel" "place" "I" ∈ wsK := tw_4 132 rfl rfl
theorem kw_4_134 : Cond.lays RX11 "NumberedByAgeModel" "isTaking" "Z" ∈ wsK := tw_4 134 rfl rfl
theorem kw_4_136 : Cond.lays RX11 "NumberedByAgeModel" "keptIn" "[I" ∈ wsK := tw_4 136 rfl rfl
theorem kw_4_138 : Cond.laysFinal RX11 "NumberedByAgeModel" "risesTo" "[I" ∈ wsK := tw_4 138 rfl rfl
theorem kw_4_140 : Cond.laysFinal RX11 "NumberedByAgeModel" "houses" "[I" ∈ wsK := tw_4 140 rfl rfl
theorem kw_4_142 : Cond.laysFinal RX11 "NumberedByAgeModel" "order0" "[I" ∈ wsK := tw_4 142 rfl rfl
theorem kw_4_144 : Cond.lays RX11 "NumberedByAgeModel" "seed" "I" ∈ wsK := tw_4 144 rfl rfl
theorem kw_4_146 : Cond.laysFinal RX11 "NumberedByAgeModel" "holdsWhat" "[I" ∈ wsK := tw_4 146 rfl rfl
theorem kw_4_148 : Cond.laysFinal RX11 "NumberedByAgeModel" "lawKind" "[I" ∈ wsK := tw_4 148 rfl rfl
theorem kw_4_150 : Cond.laysFinal RX11 "NumberedByAgeModel" "lawFigure" "[I" ∈ wsK := tw_4 150 rfl rfl
theorem kw_4_152 : Cond.laysFinal RX11 "NumberedByAgeModel" "rowSort" "[I" ∈ wsK := tw_4 152 rfl rfl
theorem kw_4_154 : Cond.laysFinal RX11 "NumberedByAgeModel" "rowMany" "[I" ∈ wsK := tw_4 154 rfl rfl
theorem kw_4_156 : Cond.laysFinal RX11 "NumberedByAgeModel" "rows" "[J" ∈ wsK := tw_4 156 rfl rfl
theorem kw_4_158 : Cond.laysFinal RX11 "NumberedByAgeModel" "between" "[J" ∈ wsK := tw_4 158 rfl rfl
theorem kw_4_160 : Cond.superclass RX11 "java/lang/Object" ∈ wsK := tw_4 160 rfl rfl
theorem kw_4_161 : Cond.arrayClass .long ∈ wsK := tw_4 161 rfl rfl
theorem kw_4_162 : Cond.methodLink RL 136 yX11_thrown ∈ wsK := tw_4 162 rfl rfl
theorem kw_4_163 : Cond.instanceMethod yX11_thrown ∈ wsK := tw_4 163 rfl rfl
theorem kw_4_164 : Cond.selects RX11 yX11_thrown yX11_thrown ∈ wsK := tw_4 164 rfl rfl
theorem kw_4_165 : Cond.code yX11_thrown cX11_thrown 1 (some .int) ∈ wsK := tw_4 165 rfl rfl
theorem kw_4_166 : Cond.methodLink RL 25 yX11_street ∈ wsK := tw_4 166 rfl rfl
theorem kw_4_167 : Cond.instanceMethod yX11_street ∈ wsK := tw_4 167 rfl rfl
theorem kw_4_168 : Cond.selects RX11 yX11_street yX11_street ∈ wsK := tw_4 168 rfl rfl
theorem kw_4_169 : Cond.code yX11_street cX11_street 4 (some .int) ∈ wsK := tw_4 169 rfl rfl
theorem kw_4_170 : Cond.methodLink RX11 154 yX11_wrongSort ∈ wsK := tw_4 170 rfl rfl
theorem kw_4_172 : Cond.instanceMethod yX11_wrongSort ∈ wsK := tw_4 172 rfl rfl
theorem kw_4_173 : Cond.code yX11_wrongSort cX11_wrongSort 3 (some .int) ∈ wsK := tw_4 173 rfl rfl
theorem kw_4_174 : Cond.methodLink RX11 251 yX11_wrongRow ∈ wsK := tw_4 174 rfl rfl
theorem kw_4_176 : Cond.instanceMethod yX11_wrongRow ∈ wsK := tw_4 176 rfl rfl
theorem kw_4_177 : Cond.code yX11_wrongRow cX11_wrongRow 2 (some .int) ∈ wsK := tw_4 177 rfl rfl
theorem kw_4_178 : Cond.constantLong RX11 190 7 ∈ wsK := tw_4 178 rfl rfl
theorem kw_4_179 : Cond.methodLink RX11 127 yX11_in ∈ wsK := tw_4 179 rfl rfl
theorem kw_4_180 : Cond.static yX11_in ∈ wsK := tw_4 180 rfl rfl
theorem kw_4_181 : Cond.code yX11_in cX11_in 6 (some .boolean) ∈ wsK := tw_4 181 rfl rfl
theorem kw_4_182 : Cond.methodLink RX11 157 yX11_readStatement ∈ wsK := tw_4 182 rfl rfl
theorem kw_4_184 : Cond.instanceMethod yX11_readStatement ∈ wsK := tw_4 184 rfl rfl
theorem kw_4_185 : Cond.code yX11_readStatement cX11_readStatement 3 none ∈ wsK := tw_4 185 rfl rfl
theorem kw_4_186 : Cond.methodLink RX11 120 yX11_here ∈ wsK := tw_4 186 rfl rfl
theorem kw_4_188 : Cond.instanceMethod yX11_here ∈ wsK := tw_4 188 rfl rfl
theorem kw_4_189 : Cond.code yX11_here cX11_here 1 (some .int) ∈ wsK := tw_4 189 rfl rfl
theorem kw_4_190 : Cond.methodLink RX11 134 yX11_readDigit ∈ wsK := tw_4 190 rfl rfl
theorem kw_4_192 : Cond.instanceMethod yX11_readDigit ∈ wsK := tw_4 192 rfl rfl
theorem kw_4_193 : Cond.code yX11_readDigit cX11_readDigit 1 (some .int) ∈ wsK := tw_4 193 rfl rfl
theorem kw_4_194 : Cond.constantLong RX11 123 48 ∈ wsK := tw_4 194 rfl rfl
theorem kw_4_195 : Cond.constantLong RX11 125 57 ∈ wsK := tw_4 195 rfl rfl
theorem kw_4_196 : Cond.methodLink RX11 160 yX11_carryAll ∈ wsK := tw_4 196 rfl rfl
theorem kw_4_198 : Cond.instanceMethod yX11_carryAll ∈ wsK := tw_4 198 rfl rfl
theorem kw_4_199 : Cond.code yX11_carryAll cX11_carryAll 4 none ∈ wsK := tw_4 199 rfl rfl
theorem kw_4_200 : Cond.methodLink RX11 176 yX11_carry ∈ wsK := tw_4 200 rfl rfl
theorem kw_4_202 : Cond.instanceMethod yX11_carry ∈ wsK := tw_4 202 rfl rfl
theorem kw_4_203 : Cond.code yX11_carry cX11_carry 2 (some .int) ∈ wsK := tw_4 203 rfl rfl
theorem kw_4_204 : Cond.methodLink RX11 164 yX11_comes ∈ wsK := tw_4 204 rfl rfl
theorem kw_4_206 : Cond.instanceMethod yX11_comes ∈ wsK := tw_4 206 rfl rfl
theorem kw_4_207 : Cond.code yX11_comes cX11_comes 5 (some .boolean) ∈ wsK := tw_4 207 rfl rfl
theorem kw_4_208 : Cond.methodLink RX11 146 yX11_builds ∈ wsK := tw_4 208 rfl rfl
theorem kw_4_210 : Cond.instanceMethod yX11_builds ∈ wsK := tw_4 210 rfl rfl
theorem kw_4_211 : Cond.code yX11_builds cX11_builds 3 none ∈ wsK := tw_4 211 rfl rfl
theorem kw_4_212 : Cond.methodLink RX11 137 yX11_lookNow ∈ wsK := tw_4 212 rfl rfl
theorem kw_4_214 : Cond.instanceMethod yX11_lookNow ∈ wsK := tw_4 214 rfl rfl
theorem kw_4_215 : Cond.code yX11_lookNow cX11_lookNow 2 none ∈ wsK := tw_4 215 rfl rfl
theorem kw_4_216 : Cond.methodLink RX11 78 yX11_lookEmpty ∈ wsK := tw_4 216 rfl rfl
theorem kw_4_218 : Cond.instanceMethod yX11_lookEmpty ∈ wsK := tw_4 218 rfl rfl
theorem kw_4_219 : Cond.code yX11_lookEmpty cX11_lookEmpty 2 none ∈ wsK := tw_4 219 rfl rfl
theorem kw_4_220 : Cond.methodLink RX11 99 yX11_numberBy ∈ wsK := tw_4 220 rfl rfl
theorem kw_4_222 : Cond.instanceMethod yX11_numberBy ∈ wsK := tw_4 222 rfl rfl
theorem kw_4_223 : Cond.code yX11_numberBy cX11_numberBy 7 (some .int) ∈ wsK := tw_4 223 rfl rfl
theorem kw_4_224 : Cond.methodLink RX11 88 yX11_firstGap ∈ wsK := tw_4 224 rfl rfl
theorem kw_4_226 : Cond.instanceMethod yX11_firstGap ∈ wsK := tw_4 226 rfl rfl
theorem kw_4_227 : Cond.code yX11_firstGap cX11_firstGap 2 (some .int) ∈ wsK := tw_4 227 rfl rfl
theorem kw_4_228 : Cond.methodLink RX11 84 yX11_isHad ∈ wsK := tw_4 228 rfl rfl
theorem kw_4_230 : Cond.instanceMethod yX11_isHad ∈ wsK := tw_4 230 rfl rfl
theorem kw_4_231 : Cond.code yX11_isHad cX11_isHad 4 (some .boolean) ∈ wsK := tw_4 231 rfl rfl
theorem kw_4_232 : Cond.methodLink RX11 92 yX11_skipped ∈ wsK := tw_4 232 rfl rfl
theorem kw_4_233 : Cond.static yX11_skipped ∈ wsK := tw_4 233 rfl rfl
theorem kw_4_234 : Cond.code yX11_skipped cX11_skipped 4 (some .int) ∈ wsK := tw_4 234 rfl rfl
theorem kw_4_235 : Cond.methodLink RX11 96 yX11_greatest ∈ wsK := tw_4 235 rfl rfl
theorem kw_4_237 : Cond.instanceMethod yX11_greatest ∈ wsK := tw_4 237 rfl rfl
theorem kw_4_238 : Cond.code yX11_greatest cX11_greatest 3 (some .int) ∈ wsK := tw_4 238 rfl rfl
theorem kw_4_239 : Cond.methodLink RX11 150 yX11_burns ∈ wsK := tw_4 239 rfl rfl
theorem kw_5_1 : Cond.instanceMethod yX11_burns ∈ wsK := tw_5 1 rfl rfl
theorem kw_5_2 : Cond.code yX11_burns cX11_burns 2 none ∈ wsK := tw_5 2 rfl rfl
theorem kw_5_3 : Cond.methodLink RL 108 yX11_image ∈ wsK := tw_5 3 rfl rfl
theorem kw_5_4 : Cond.instanceMethod yX11_image ∈ wsK := tw_5 4 rfl rfl
theorem kw_5_5 : Cond.selects RX11 yX11_image yX11_image ∈ wsK := tw_5 5 rfl rfl
theorem kw_5_6 : Cond.code yX11_image cX11_image 1 (some .int) ∈ wsK := tw_5 6 rfl rfl
theorem kw_5_7 : Cond.methodLink RL 112 yX11_restore ∈ wsK := tw_5 7 rfl rfl
theorem kw_5_8 : Cond.instanceMethod yX11_restore ∈ wsK := tw_5 8 rfl rfl
theorem kw_5_9 : Cond.selects RX11 yX11_restore yX11_restore ∈ wsK := tw_5 9 rfl rfl
theorem kw_5_10 : Cond.code yX11_restore cX11_restore 1 (some .int) ∈ wsK := tw_5 10 rfl rfl
theorem kw_5_11 : Cond.methodLink RL 30 yX11_build ∈ wsK := tw_5 11 rfl rfl
theorem kw_5_12 : Cond.instanceMethod yX11_build ∈ wsK := tw_5 12 rfl rfl
theorem kw_5_13 : Cond.selects RX11 yX11_build yX11_build ∈ wsK := tw_5 13 rfl rfl
theorem kw_5_14 : Cond.code yX11_build cX11_build 3 (some .int) ∈ wsK := tw_5 14 rfl rfl
theorem kw_5_15 : Cond.methodLink RX11 185 yX11_isPlot ∈ wsK := tw_5 15 rfl rfl
theorem kw_5_16 : Cond.static yX11_isPlot ∈ wsK := tw_5 16 rfl rfl
theorem kw_5_17 : Cond.code yX11_isPlot cX11_isPlot 1 (some .boolean) ∈ wsK := tw_5 17 rfl rfl
theorem kw_5_18 : Cond.constantLong RX11 183 11 ∈ wsK := tw_5 18 rfl rfl
theorem kw_5_19 : Cond.constantLong RX11 188 9 ∈ wsK := tw_5 19 rfl rfl
theorem kw_5_20 : Cond.methodLink RL 34 yX11_burn ∈ wsK := tw_5 20 rfl rfl
theorem kw_5_21 : Cond.instanceMethod yX11_burn ∈ wsK := tw_5 21 rfl rfl
theorem kw_5_22 : Cond.selects RX11 yX11_burn yX11_burn ∈ wsK := tw_5 22 rfl rfl
theorem kw_5_23 : Cond.code yX11_burn cX11_burn 3 (some .int) ∈ wsK := tw_5 23 rfl rfl
theorem kw_5_24 : Cond.methodLink RL 38 yX11_enact ∈ wsK := tw_5 24 rfl rfl
theorem kw_5_25 : Cond.instanceMethod yX11_enact ∈ wsK := tw_5 25 rfl rfl
theorem kw_5_26 : Cond.selects RX11 yX11_enact yX11_enact ∈ wsK := tw_5 26 rfl rfl
theorem kw_5_27 : Cond.code yX11_enact cX11_enact 4 (some .int) ∈ wsK := tw_5 27 rfl rfl
theorem kw_5_28 : Cond.methodLink RX11 192 yX11_wrongLaw ∈ wsK := tw_5 28 rfl rfl
theorem kw_5_30 : Cond.instanceMethod yX11_wrongLaw ∈ wsK := tw_5 30 rfl rfl
theorem kw_5_31 : Cond.code yX11_wrongLaw cX11_wrongLaw 2 (some .int) ∈ wsK := tw_5 31 rfl rfl
theorem kw_5_32 : Cond.methodLink RL 42 yX11_house ∈ wsK := tw_5 32 rfl rfl
theorem kw_5_33 : Cond.instanceMethod yX11_house ∈ wsK := tw_5 33 rfl rfl
theorem kw_5_34 : Cond.selects RX11 yX11_house yX11_house ∈ wsK := tw_5 34 rfl rfl
theorem kw_5_35 : Cond.code yX11_house cX11_house 4 (some .int) ∈ wsK := tw_5 35 rfl rfl
theorem kw_5_36 : Cond.constantLong RX11 195 2 ∈ wsK := tw_5 36 rfl rfl
theorem kw_5_37 : Cond.methodLink RX11 197 yX11_builtAt ∈ wsK := tw_5 37 rfl rfl
theorem kw_5_39 : Cond.instanceMethod yX11_builtAt ∈ wsK := tw_5 39 rfl rfl
theorem kw_5_40 : Cond.code yX11_builtAt cX11_builtAt 4 (some .int) ∈ wsK := tw_5 40 rfl rfl
theorem kw_5_41 : Cond.methodLink RL 46 yX11_have ∈ wsK := tw_5 41 rfl rfl
theorem kw_5_42 : Cond.instanceMethod yX11_have ∈ wsK := tw_5 42 rfl rfl
theorem kw_5_43 : Cond.selects RX11 yX11_have yX11_have ∈ wsK := tw_5 43 rfl rfl
theorem kw_5_44 : Cond.code yX11_have cX11_have 4 (some .int) ∈ wsK := tw_5 44 rfl rfl
theorem kw_5_45 : Cond.methodLink RL 50 yX11_would ∈ wsK := tw_5 45 rfl rfl
theorem kw_5_46 : Cond.instanceMethod yX11_would ∈ wsK := tw_5 46 rfl rfl
theorem kw_5_47 : Cond.selects RX11 yX11_would yX11_would ∈ wsK := tw_5 47 rfl rfl
theorem kw_5_48 : Cond.code yX11_would cX11_would 3 (some .int) ∈ wsK := tw_5 48 rfl rfl
theorem kw_5_49 : Cond.methodLink RL 54 yX11_where ∈ wsK := tw_5 49 rfl rfl
theorem kw_5_50 : Cond.instanceMethod yX11_where ∈ wsK := tw_5 50 rfl rfl
theorem kw_5_51 : Cond.selects RX11 yX11_where yX11_where ∈ wsK := tw_5 51 rfl rfl
theorem kw_5_52 : Cond.code yX11_where cX11_where 5 (some .int) ∈ wsK := tw_5 52 rfl rfl
theorem kw_5_53 : Cond.methodLink RL 58 yX11_letter ∈ wsK := tw_5 53 rfl rfl
theorem kw_5_54 : Cond.instanceMethod yX11_letter ∈ wsK := tw_5 54 rfl rfl
theorem kw_5_55 : Cond.selects RX11 yX11_letter yX11_letter ∈ wsK := tw_5 55 rfl rfl
theorem kw_5_56 : Cond.code yX11_letter cX11_letter 5 (some .int) ∈ wsK := tw_5 56 rfl rfl
theorem kw_5_57 : Cond.constantLong RX11 200 12 ∈ wsK := tw_5 57 rfl rfl
theorem kw_5_58 : Cond.methodLink RL 63 yX11_gaps ∈ wsK := tw_5 58 rfl rfl
theorem kw_5_59 : Cond.instanceMethod yX11_gaps ∈ wsK := tw_5 59 rfl rfl
theorem kw_5_60 : Cond.selects RX11 yX11_gaps yX11_gaps ∈ wsK := tw_5 60 rfl rfl
theorem kw_5_61 : Cond.code yX11_gaps cX11_gaps 1 (some .int) ∈ wsK := tw_5 61 rfl rfl
theorem kw_5_62 : Cond.methodLink RX11 202 yX11_gapsLooked ∈ wsK := tw_5 62 rfl rfl
theorem kw_5_64 : Cond.instanceMethod yX11_gapsLooked ∈ wsK := tw_5 64 rfl rfl
theorem kw_5_65 : Cond.code yX11_gapsLooked cX11_gapsLooked 3 (some .int) ∈ wsK := tw_5 65 rfl rfl
theorem kw_5_66 : Cond.methodLink RL 67 yX11_walk ∈ wsK := tw_5 66 rfl rfl
theorem kw_5_67 : Cond.instanceMethod yX11_walk ∈ wsK := tw_5 67 rfl rfl
theorem kw_5_68 : Cond.selects RX11 yX11_walk yX11_walk ∈ wsK := tw_5 68 rfl rfl
theorem kw_5_69 : Cond.code yX11_walk cX11_walk 9 (some .int) ∈ wsK := tw_5 69 rfl rfl
theorem kw_5_70 : Cond.methodLink RX11 209 yX11_areMet ∈ wsK := tw_5 70 rfl rfl
theorem kw_5_72 : Cond.instanceMethod yX11_areMet ∈ wsK := tw_5 72 rfl rfl
theorem kw_5_73 : Cond.code yX11_areMet cX11_areMet 6 (some .boolean) ∈ wsK := tw_5 73 rfl rfl
theorem kw_5_74 : Cond.methodLink RX11 205 yX11_isIn ∈ wsK := tw_5 74 rfl rfl
theorem kw_5_76 : Cond.instanceMethod yX11_isIn ∈ wsK := tw_5 76 rfl rfl
theorem kw_5_77 : Cond.code yX11_isIn cX11_isIn 7 (some .boolean) ∈ wsK := tw_5 77 rfl rfl
theorem kw_5_78 : Cond.methodLink RL 71 yX11_search ∈ wsK := tw_5 78 rfl rfl
theorem kw_5_79 : Cond.instanceMethod yX11_search ∈ wsK := tw_5 79 rfl rfl
theorem kw_5_80 : Cond.selects RX11 yX11_search yX11_search ∈ wsK := tw_5 80 rfl rfl
theorem kw_5_81 : Cond.code yX11_search cX11_search 10 (some .int) ∈ wsK := tw_5 81 rfl rfl
theorem kw_5_82 : Cond.methodLink RL 75 yX11_rise ∈ wsK := tw_5 82 rfl rfl
theorem kw_5_83 : Cond.instanceMethod yX11_rise ∈ wsK := tw_5 83 rfl rfl
theorem kw_5_84 : Cond.selects RX11 yX11_rise yX11_rise ∈ wsK := tw_5 84 rfl rfl
theorem kw_5_85 : Cond.code yX11_rise cX11_rise 1 (some .int) ∈ wsK := tw_5 85 rfl rfl
theorem kw_5_86 : Cond.methodLink RX11 213 yX11_riseLooked ∈ wsK := tw_5 86 rfl rfl
theorem kw_5_88 : Cond.instanceMethod yX11_riseLooked ∈ wsK := tw_5 88 rfl rfl
theorem kw_5_89 : Cond.code yX11_riseLooked cX11_riseLooked 5 (some .int) ∈ wsK := tw_5 89 rfl rfl
theorem kw_5_90 : Cond.methodLink RL 79 yX11_falls ∈ wsK := tw_5 90 rfl rfl
theorem kw_5_91 : Cond.instanceMethod yX11_falls ∈ wsK := tw_5 91 rfl rfl
theorem kw_5_92 : Cond.selects RX11 yX11_falls yX11_falls ∈ wsK := tw_5 92 rfl rfl
theorem kw_5_93 : Cond.code yX11_falls cX11_falls 4 (some .int) ∈ wsK := tw_5 93 rfl rfl
theorem kw_5_94 : Cond.methodLink RL 84 yX11_byLaw ∈ wsK := tw_5 94 rfl rfl
theorem kw_5_95 : Cond.instanceMethod yX11_byLaw ∈ wsK := tw_5 95 rfl rfl
theorem kw_5_96 : Cond.selects RX11 yX11_byLaw yX11_byLaw ∈ wsK := tw_5 96 rfl rfl
theorem kw_5_97 : Cond.code yX11_byLaw cX11_byLaw 4 (some .int) ∈ wsK := tw_5 97 rfl rfl
theorem kw_5_98 : Cond.methodLink RX11 216 yX11_replay ∈ wsK := tw_5 98 rfl rfl
theorem kw_5_100 : Cond.instanceMethod yX11_replay ∈ wsK := tw_5 100 rfl rfl
theorem kw_5_101 : Cond.code yX11_replay cX11_replay 4 none ∈ wsK := tw_5 101 rfl rfl
theorem kw_5_102 : Cond.methodLink RX11 103 yX11_buildLooked ∈ wsK := tw_5 102 rfl rfl
theorem kw_5_104 : Cond.instanceMethod yX11_buildLooked ∈ wsK := tw_5 104 rfl rfl
theorem kw_5_105 : Cond.code yX11_buildLooked cX11_buildLooked 5 none ∈ wsK := tw_5 105 rfl rfl
theorem kw_5_106 : Cond.methodLink RL 88 yX11_laws ∈ wsK := tw_5 106 rfl rfl
theorem kw_5_107 : Cond.instanceMethod yX11_laws ∈ wsK := tw_5 107 rfl rfl
theorem kw_5_108 : Cond.selects RX11 yX11_laws yX11_laws ∈ wsK := tw_5 108 rfl rfl
theorem kw_5_109 : Cond.code yX11_laws cX11_laws 4 (some .int) ∈ wsK := tw_5 109 rfl rfl
theorem kw_5_110 : Cond.methodLink RX11 219 yX11_areAsNow ∈ wsK := tw_5 110 rfl rfl
theorem kw_5_112 : Cond.instanceMethod yX11_areAsNow ∈ wsK := tw_5 112 rfl rfl
theorem kw_5_113 : Cond.code yX11_areAsNow cX11_areAsNow 3 (some .boolean) ∈ wsK := tw_5 113 rfl rfl
theorem kw_5_114 : Cond.methodLink RL 92 yX11_orders ∈ wsK := tw_5 114 rfl rfl
theorem kw_5_115 : Cond.instanceMethod yX11_orders ∈ wsK := tw_5 115 rfl rfl
theorem kw_5_116 : Cond.selects RX11 yX11_orders yX11_orders ∈ wsK := tw_5 116 rfl rfl
theorem kw_5_117 : Cond.code yX11_orders cX11_orders 9 (some .int) ∈ wsK := tw_5 117 rfl rfl
theorem kw_5_118 : Cond.methodLink RX11 223 yX11_houseMany ∈ wsK := tw_5 118 rfl rfl
theorem kw_5_120 : Cond.instanceMethod yX11_houseMany ∈ wsK := tw_5 120 rfl rfl
theorem kw_5_121 : Cond.code yX11_houseMany cX11_houseMany 3 (some .int) ∈ wsK := tw_5 121 rfl rfl
theorem kw_5_122 : Cond.methodLink RX11 226 yX11_nextOrder ∈ wsK := tw_5 122 rfl rfl
theorem kw_5_124 : Cond.instanceMethod yX11_nextOrder ∈ wsK := tw_5 124 rfl rfl
theorem kw_5_125 : Cond.code yX11_nextOrder cX11_nextOrder 7 (some .boolean) ∈ wsK := tw_5 125 rfl rfl
theorem kw_5_126 : Cond.methodLink RL 96 yX11_joined ∈ wsK := tw_5 126 rfl rfl
theorem kw_5_127 : Cond.instanceMethod yX11_joined ∈ wsK := tw_5 127 rfl rfl
theorem kw_5_128 : Cond.selects RX11 yX11_joined yX11_joined ∈ wsK := tw_5 128 rfl rfl
theorem kw_5_129 : Cond.code yX11_joined cX11_joined 7 (some .int) ∈ wsK := tw_5 129 rfl rfl
theorem kw_5_130 : Cond.constantLong RX11 229 20 ∈ wsK := tw_5 130 rfl rfl
theorem kw_5_131 : Cond.methodLink RX11 231 yX11_hadOf ∈ wsK := tw_5 131 rfl rfl
theorem kw_5_133 : Cond.instanceMethod yX11_hadOf ∈ wsK := tw_5 133 rfl rfl
theorem kw_5_134 : Cond.code yX11_hadOf cX11_hadOf 5 (some .int) ∈ wsK := tw_5 134 rfl rfl
theorem kw_5_135 : Cond.methodLink RL 100 yX11_seeded ∈ wsK := tw_5 135 rfl rfl
theorem kw_5_136 : Cond.instanceMethod yX11_seeded ∈ wsK := tw_5 136 rfl rfl
theorem kw_5_137 : Cond.selects RX11 yX11_seeded yX11_seeded ∈ wsK := tw_5 137 rfl rfl
theorem kw_5_138 : Cond.code yX11_seeded cX11_seeded 7 (some .int) ∈ wsK := tw_5 138 rfl rfl
theorem kw_5_139 : Cond.constantLong RX11 240 30 ∈ wsK := tw_5 139 rfl rfl
theorem kw_5_140 : Cond.methodLink RX11 242 yX11_draw ∈ wsK := tw_5 140 rfl rfl
theorem kw_5_142 : Cond.instanceMethod yX11_draw ∈ wsK := tw_5 142 rfl rfl
theorem kw_5_143 : Cond.code yX11_draw cX11_draw 2 (some .int) ∈ wsK := tw_5 143 rfl rfl
theorem kw_5_144 : Cond.constant RX11 237 1103515245 ∈ wsK := tw_5 144 rfl rfl
theorem kw_5_145 : Cond.constant RX11 238 2147483647 ∈ wsK := tw_5 145 rfl rfl
theorem kw_5_146 : Cond.constant RX11 239 65536 ∈ wsK := tw_5 146 rfl rfl
theorem kw_5_147 : Cond.methodLink RL 104 yX11_judge ∈ wsK := tw_5 147 rfl rfl
theorem kw_5_148 : Cond.instanceMethod yX11_judge ∈ wsK := tw_5 148 rfl rfl
theorem kw_5_149 : Cond.selects RX11 yX11_judge yX11_judge ∈ wsK := tw_5 149 rfl rfl
theorem kw_5_150 : Cond.code yX11_judge cX11_judge 6 (some .int) ∈ wsK := tw_5 150 rfl rfl
theorem kw_5_151 : Cond.methodLink RX11 254 yX11_skippedIn ∈ wsK := tw_5 151 rfl rfl
theorem kw_5_153 : Cond.instanceMethod yX11_skippedIn ∈ wsK := tw_5 153 rfl rfl
theorem kw_5_154 : Cond.code yX11_skippedIn cX11_skippedIn 2 (some .long) ∈ wsK := tw_5 154 rfl rfl
theorem kw_5_155 : Cond.constantLong RX11 245 (-128) ∈ wsK := tw_5 155 rfl rfl
theorem kw_5_156 : Cond.constantLong RX11 247 (-32768) ∈ wsK := tw_5 156 rfl rfl
theorem kw_5_157 : Cond.constantLong RX11 249 (-2147483648) ∈ wsK := tw_5 157 rfl rfl
theorem kw_5_158 : Cond.methodLink RL 116 yX11_count ∈ wsK := tw_5 158 rfl rfl
theorem kw_5_159 : Cond.instanceMethod yX11_count ∈ wsK := tw_5 159 rfl rfl
theorem kw_5_160 : Cond.selects RX11 yX11_count yX11_count ∈ wsK := tw_5 160 rfl rfl
theorem kw_5_161 : Cond.code yX11_count cX11_count 2 (some .int) ∈ wsK := tw_5 161 rfl rfl
theorem kw_5_162 : Cond.methodLink RL 121 yX11_keep ∈ wsK := tw_5 162 rfl rfl
theorem kw_5_163 : Cond.instanceMethod yX11_keep ∈ wsK := tw_5 163 rfl rfl
theorem kw_5_164 : Cond.selects RX11 yX11_keep yX11_keep ∈ wsK := tw_5 164 rfl rfl
theorem kw_5_165 : Cond.code yX11_keep cX11_keep 5 (some .int) ∈ wsK := tw_5 165 rfl rfl
theorem kw_5_166 : Cond.methodLink RL 125 yX11_row ∈ wsK := tw_5 166 rfl rfl
theorem kw_5_167 : Cond.instanceMethod yX11_row ∈ wsK := tw_5 167 rfl rfl
theorem kw_5_168 : Cond.selects RX11 yX11_row yX11_row ∈ wsK := tw_5 168 rfl rfl
theorem kw_5_169 : Cond.code yX11_row cX11_row 5 (some .int) ∈ wsK := tw_5 169 rfl rfl
theorem kw_5_170 : Cond.methodLink RL 129 yX11_put ∈ wsK := tw_5 170 rfl rfl
theorem kw_5_171 : Cond.instanceMethod yX11_put ∈ wsK := tw_5 171 rfl rfl
theorem kw_5_172 : Cond.selects RX11 yX11_put yX11_put ∈ wsK := tw_5 172 rfl rfl
theorem kw_5_173 : Cond.code yX11_put cX11_put 5 (some .int) ∈ wsK := tw_5 173 rfl rfl
theorem kw_5_174 : Cond.methodLink RX11 258 yX11_narrowed ∈ wsK := tw_5 174 rfl rfl
theorem kw_5_175 : Cond.static yX11_narrowed ∈ wsK := tw_5 175 rfl rfl
theorem kw_5_176 : Cond.code yX11_narrowed cX11_narrowed 2 (some .long) ∈ wsK := tw_5 176 rfl rfl
theorem kw_5_177 : Cond.methodLink RL 135 yX11_element ∈ wsK := tw_5 177 rfl rfl
theorem kw_5_178 : Cond.instanceMethod yX11_element ∈ wsK := tw_5 178 rfl rfl
theorem kw_5_179 : Cond.selects RX11 yX11_element yX11_element ∈ wsK := tw_5 179 rfl rfl
theorem kw_5_180 : Cond.code yX11_element cX11_element 4 (some .long) ∈ wsK := tw_5 180 rfl rfl
theorem kw_5_181 : Cond.methodLink RL 143 yX11_copy ∈ wsK := tw_5 181 rfl rfl
theorem kw_5_182 : Cond.instanceMethod yX11_copy ∈ wsK := tw_5 182 rfl rfl
theorem kw_5_183 : Cond.selects RX11 yX11_copy yX11_copy ∈ wsK := tw_5 183 rfl rfl
theorem kw_5_184 : Cond.code yX11_copy cX11_copy 7 (some .int) ∈ wsK := tw_5 184 rfl rfl
theorem kw_5_185 : Cond.methodLink RL 147 yX11_tax ∈ wsK := tw_5 185 rfl rfl
theorem kw_5_186 : Cond.instanceMethod yX11_tax ∈ wsK := tw_5 186 rfl rfl
theorem kw_5_187 : Cond.selects RX11 yX11_tax yX11_tax ∈ wsK := tw_5 187 rfl rfl
theorem kw_5_188 : Cond.code yX11_tax cX11_tax 2 (some .int) ∈ wsK := tw_5 188 rfl rfl
theorem kw_5_189 : Cond.methodLink RX11 262 yX11_taxOf ∈ wsK := tw_5 189 rfl rfl
theorem kw_5_190 : Cond.static yX11_taxOf ∈ wsK := tw_5 190 rfl rfl
theorem kw_5_191 : Cond.code yX11_taxOf cX11_taxOf 2 (some .int) ∈ wsK := tw_5 191 rfl rfl
theorem kw_5_192 : Cond.methodLink RL 151 yX11_toss ∈ wsK := tw_5 192 rfl rfl
theorem kw_5_193 : Cond.instanceMethod yX11_toss ∈ wsK := tw_5 193 rfl rfl
theorem kw_5_194 : Cond.selects RX11 yX11_toss yX11_toss ∈ wsK := tw_5 194 rfl rfl
theorem kw_5_195 : Cond.code yX11_toss cX11_toss 4 (some .int) ∈ wsK := tw_5 195 rfl rfl
theorem kw_5_196 : Cond.sameMethod RX0 RX0 "numberFor" "(LNumberedByAge$Street;II)I" ∈ wsK := tw_5 196 rfl rfl
theorem kw_5_197 : Cond.sameMethod RX4 RX4 "numberFor" "(LNumberedByAge$Street;II)I" ∈ wsK := tw_5 197 rfl rfl
theorem kw_5_198 : Cond.sameMethod RX0 RX0 "levy" "()I" ∈ wsK := tw_5 198 rfl rfl
theorem kw_5_199 : Cond.sameMethod RX4 RX4 "levy" "()I" ∈ wsK := tw_5 199 rfl rfl
theorem ic_0 : ∀ w ∈ u_ws RX0 TX0 2, w ∈ wsK := by
  intro w hw
  obtain ⟨k, hk, rfl⟩ := List.mem_map.mp hw
  have hk := List.mem_range.mp hk
  match k, hk with
  | 0, _ => exact kw_2_36
  | 1, _ => exact kw_2_37
  | k + 2, hk => omega
theorem ic_1 : ∀ w ∈ u_ws RX1 TX1 2, w ∈ wsK := by
  intro w hw
  obtain ⟨k, hk, rfl⟩ := List.mem_map.mp hw
  have hk := List.mem_range.mp hk
  match k, hk with
  | 0, _ => exact kw_2_54
  | 1, _ => exact kw_2_55
  | k + 2, hk => omega
theorem ic_2 : ∀ w ∈ u_ws RX2 TX2 2, w ∈ wsK := by
  intro w hw
  obtain ⟨k, hk, rfl⟩ := List.mem_map.mp hw
  have hk := List.mem_range.mp hk
  match k, hk with
  | 0, _ => exact kw_2_78
  | 1, _ => exact kw_2_79
  | k + 2, hk => omega
theorem ic_3 : ∀ w ∈ u_ws RX3 TX3 2, w ∈ wsK := by
  intro w hw
  obtain ⟨k, hk, rfl⟩ := List.mem_map.mp hw
  have hk := List.mem_range.mp hk
  match k, hk with
  | 0, _ => exact kw_1_56
  | 1, _ => exact kw_1_58
  | k + 2, hk => omega
theorem ic_4 : ∀ w ∈ u_ws RX4 TX4 2, w ∈ wsK := by
  intro w hw
  obtain ⟨k, hk, rfl⟩ := List.mem_map.mp hw
  have hk := List.mem_range.mp hk
  match k, hk with
  | 0, _ => exact kw_2_45
  | 1, _ => exact kw_2_46
  | k + 2, hk => omega
theorem ic_5 : ∀ w ∈ u_ws RX5 TX5 4, w ∈ wsK := by
  intro w hw
  obtain ⟨k, hk, rfl⟩ := List.mem_map.mp hw
  have hk := List.mem_range.mp hk
  match k, hk with
  | 0, _ => exact kw_1_112
  | 1, _ => exact kw_1_114
  | 2, _ => exact kw_1_116
  | 3, _ => exact kw_1_118
  | k + 4, hk => omega
theorem ic_6 : ∀ w ∈ u_ws RX6 TX6 2, w ∈ wsK := by
  intro w hw
  obtain ⟨k, hk, rfl⟩ := List.mem_map.mp hw
  have hk := List.mem_range.mp hk
  match k, hk with
  | 0, _ => exact kw_2_86
  | 1, _ => exact kw_2_87
  | k + 2, hk => omega
theorem ic_7 : ∀ w ∈ u_ws RX7 TX7 2, w ∈ wsK := by
  intro w hw
  obtain ⟨k, hk, rfl⟩ := List.mem_map.mp hw
  have hk := List.mem_range.mp hk
  match k, hk with
  | 0, _ => exact kw_2_70
  | 1, _ => exact kw_2_71
  | k + 2, hk => omega
theorem ic_8 : ∀ w ∈ u_ws RX8 TX8 10, w ∈ wsK := by
  intro w hw
  obtain ⟨k, hk, rfl⟩ := List.mem_map.mp hw
  have hk := List.mem_range.mp hk
  match k, hk with
  | 0, _ => exact kw_1_76
  | 1, _ => exact kw_1_78
  | 2, _ => exact kw_1_80
  | 3, _ => exact kw_1_82
  | 4, _ => exact kw_1_84
  | 5, _ => exact kw_1_86
  | 6, _ => exact kw_1_88
  | 7, _ => exact kw_1_90
  | 8, _ => exact kw_1_92
  | 9, _ => exact kw_1_94
  | k + 10, hk => omega
theorem ic_9 : ∀ w ∈ u_ws RX9 TX9 2, w ∈ wsK := by
  intro w hw
  obtain ⟨k, hk, rfl⟩ := List.mem_map.mp hw
  have hk := List.mem_range.mp hk
  match k, hk with
  | 0, _ => exact kw_2_62
  | 1, _ => exact kw_2_63
  | k + 2, hk => omega
theorem ic_10 : ∀ w ∈ u_ws RX10 TX10 5, w ∈ wsK := by
  intro w hw
  obtain ⟨k, hk, rfl⟩ := List.mem_map.mp hw
  have hk := List.mem_range.mp hk
  match k, hk with
  | 0, _ => exact kw_1_126
  | 1, _ => exact kw_1_128
  | 2, _ => exact kw_1_130
  | 3, _ => exact kw_1_132
  | 4, _ => exact kw_1_134
  | k + 5, hk => omega
theorem ic_11 : ∀ w ∈ u_ws RX11 TX11 35, w ∈ wsK := by
  intro w hw
  obtain ⟨k, hk, rfl⟩ := List.mem_map.mp hw
  have hk := List.mem_range.mp hk
  match k, hk with
  | 0, _ => exact kw_4_90
  | 1, _ => exact kw_4_92
  | 2, _ => exact kw_4_94
  | 3, _ => exact kw_4_96
  | 4, _ => exact kw_4_98
  | 5, _ => exact kw_4_100
  | 6, _ => exact kw_4_102
  | 7, _ => exact kw_4_104
  | 8, _ => exact kw_4_106
  | 9, _ => exact kw_4_108
  | 10, _ => exact kw_4_110
  | 11, _ => exact kw_4_112
  | 12, _ => exact kw_4_114
  | 13, _ => exact kw_4_116
  | 14, _ => exact kw_4_118
  | 15, _ => exact kw_4_120
  | 16, _ => exact kw_4_122
  | 17, _ => exact kw_4_124
  | 18, _ => exact kw_4_126
  | 19, _ => exact kw_4_128
  | 20, _ => exact kw_4_130
  | 21, _ => exact kw_4_132
  | 22, _ => exact kw_4_134
  | 23, _ => exact kw_4_136
  | 24, _ => exact kw_4_138
  | 25, _ => exact kw_4_140
  | 26, _ => exact kw_4_142
  | 27, _ => exact kw_4_144
  | 28, _ => exact kw_4_146
  | 29, _ => exact kw_4_148
  | 30, _ => exact kw_4_150
  | 31, _ => exact kw_4_152
  | 32, _ => exact kw_4_154
  | 33, _ => exact kw_4_156
  | 34, _ => exact kw_4_158
  | k + 35, hk => omega
end
section
section ROX
variable {p : Program} {l : Launch} {e : Env} {R : Room} {s : State} {m : MethodId} {args : Array Value} {below : List Frame} {meth : Method} {c : Code} {H : Heap} {locs : List Loc} {cells slots : Nat} {Q : State → Prop}
variable {cc : ByteArray} {pc : Nat} {ls : Array Slot} {rest : List Value}
theorem ro_aload_nN (hexec : p.tables.exec = Jvm.exec) (hb : c.code = cc) {k : Fin 4} {i : Nat} (hdg : decode cc pc = .ok (.aload_n k, 1)) (hi : (k : Nat) = i) (hl : ls[i]? = some (.val .null))
    (k : W p l e R s m args below meth c H locs cells slots Q (F0 m (pc + 1) ls (.null :: rest))) : W p l e R s m args below meth c H locs cells slots Q (F0 m pc ls (rest)) := by
  subst hi
  intro T hT X
  obtain ⟨t, a, b⟩ := k T hT X
  refine ⟨t, ?_, b⟩
  jvm_step X.here [X.here.top, hexec, hb, hdg, hl, Value.isRef]
  exact a
theorem ro_aloadN (hexec : p.tables.exec = Jvm.exec) (hb : c.code = cc) {i : Nat} (hdg : decode cc pc = .ok (.aload i, 2)) (hl : ls[i]? = some (.val .null))
    (k : W p l e R s m args below meth c H locs cells slots Q (F0 m (pc + 2) ls (.null :: rest))) : W p l e R s m args below meth c H locs cells slots Q (F0 m pc ls (rest)) := by
  intro T hT X
  obtain ⟨t, a, b⟩ := k T hT X
  refine ⟨t, ?_, b⟩
  jvm_step X.here [X.here.top, hexec, hb, hdg, hl, Value.isRef]
  exact a
end ROX
/-! THE ABSTRACT HEAP: cells by their place behind a base; values; what a heap holds; a judgement RJ over them, a row an instruction. -/
abbrev Vv : Type := Int32 ⊕ (Int64 ⊕ (Option Nat ⊕ Nat))
abbrev vI (x : Int32) : Vv := .inl x
abbrev vL (x : Int64) : Vv := .inr (.inl x)
abbrev vR (x : Option Nat) : Vv := .inr (.inr (.inl x))
/-- the script, which is no cell of the heap told here -/
abbrev vX (x : Nat) : Vv := .inr (.inr (.inr x))
def cv (b : Nat) : Vv → Value := fun v => match v with
  | .inl x => .int x
  | .inr (.inl x) => .long x
  | .inr (.inr (.inl none)) => .null
  | .inr (.inr (.inl (some a))) => .ref (b + a)
  | .inr (.inr (.inr a)) => .ref a
def vW : Vv → Bool := fun v => match v with
  | .inr (.inl _) => true
  | _ => false
/-- cells: int rows, long rows, rows of references, objects (class, fields), others (so many slots) -/
abbrev En : Type := (Nat × (Nat → Int32)) ⊕ ((Nat × (Nat → Int64)) ⊕ ((Nat × (Nat → Option Nat)) ⊕ ((Nat × List Vv) ⊕ Nat)))
abbrev eI (n : Nat) (f : Nat → Int32) : En := .inl (n, f)
abbrev eL (n : Nat) (f : Nat → Int64) : En := .inr (.inl (n, f))
abbrev eR (n : Nat) (f : Nat → Option Nat) : En := .inr (.inr (.inl (n, f)))
abbrev eO (c : Nat) (fs : List Vv) : En := .inr (.inr (.inr (.inl (c, fs))))
abbrev eJ (n : Nat) : En := .inr (.inr (.inr (.inr n)))
abbrev Hp : Type := List En
def en_sz : En → Nat := fun e => match e with
  | .inl a => a.1
  | .inr (.inl a) => a.1
  | .inr (.inr (.inl a)) => a.1
  | .inr (.inr (.inr (.inl a))) => a.2.length
  | .inr (.inr (.inr (.inr n))) => n
def sl (h : Hp) : Nat := (h.map en_sz).sum
def Le (h h' : Hp) : Prop := h.length ≤ h'.length ∧ sl h ≤ sl h'
theorem Le.rf {h : Hp} : Le h h := ⟨Nat.le_refl _, Nat.le_refl _⟩
theorem Le.tr {a b c : Hp} (x : Le a b) (y : Le b c) : Le a c := ⟨Nat.le_trans x.1 y.1, Nat.le_trans x.2 y.2⟩
theorem sl_push (h : Hp) (e : En) : sl (h ++ [e]) = sl h + en_sz e := by simp [sl]
theorem Le.push {h : Hp} {e : En} : Le h (h ++ [e]) := ⟨by simp, by rw [sl_push]; omega⟩
theorem sl_set : ∀ (h : Hp) (a : Nat) (e e' : En), h[a]? = some e → en_sz e' = en_sz e → sl (h.set a e') = sl h
  | [], a, e, e', h1, _ => by simp at h1
  | x :: h, 0, e, e', h1, h2 => by
    simp at h1
    subst h1
    simp [sl, h2]
  | x :: h, a + 1, e, e', h1, h2 => by
    have ih := sl_set h a e e' (by simpa using h1) h2
    simp only [sl, List.set_cons_succ, List.map_cons, List.sum_cons] at ih ⊢
    omega
theorem Le.set {h : Hp} {a : Nat} {e e' : En} (h1 : h[a]? = some e) (h2 : en_sz e' = en_sz e) : Le h (h.set a e') := ⟨by simp, by rw [sl_set h a e e' h1 h2]; exact Nat.le_refl _⟩
-- the operations
def hO (h : Hp) (r : Option Nat) : Option (Nat × Nat × List Vv) := match r with
  | none => none
  | some a => match h[a]? with
    | some (.inr (.inr (.inr (.inl (c, fs))))) => some (a, c, fs)
    | _ => none
/-- the class of an object, its place -/
def rcv (h : Hp) (r : Option Nat) (c : Nat) : Option Nat := match hO h r with
  | some (a, c', _) => if c' = c then some a else none
  | none => none
def rcl (h : Hp) (r : Option Nat) : Option (Nat × Nat) := match hO h r with
  | some (a, c', _) => some (a, c')
  | none => none
def gF (h : Hp) (r : Option Nat) (cs : List Nat) (k : Nat) : Option Vv := match hO h r with
  | some (_, c, fs) => if c ∈ cs then fs[k]? else none
  | none => none
def gI (h : Hp) (r : Option Nat) (cs : List Nat) (k : Nat) : Option Int32 := match gF h r cs k with
  | some (.inl x) => some x
  | _ => none
def gR (h : Hp) (r : Option Nat) (cs : List Nat) (k : Nat) : Option (Option Nat) := match gF h r cs k with
  | some (.inr (.inr (.inl x))) => some x
  | _ => none
def pF (h : Hp) (r : Option Nat) (cs : List Nat) (k : Nat) (v : Vv) : Option Hp := match hO h r with
  | some (a, c, fs) => if c ∈ cs ∧ k < fs.length then some (h.set a (eO c (fs.set k v))) else none
  | none => none
/-- a boolean -/
def okZ (x : Int32) : Option Int32 := if x = 0 ∨ x = 1 then some x else none
def inB (i : Int32) (n : Nat) : Bool := decide (0 ≤ i) && decide (i.toNatClampNeg < n)
def hA (h : Hp) (r : Option Nat) : Option (Nat × Nat × (Nat → Int32)) := match r with
  | none => none
  | some a => match h[a]? with
    | some (.inl (n, f)) => some (a, n, f)
    | _ => none
def hB (h : Hp) (r : Option Nat) : Option (Nat × Nat × (Nat → Int64)) := match r with
  | none => none
  | some a => match h[a]? with
    | some (.inr (.inl (n, f))) => some (a, n, f)
    | _ => none
def hC (h : Hp) (r : Option Nat) : Option (Nat × Nat × (Nat → Option Nat)) := match r with
  | none => none
  | some a => match h[a]? with
    | some (.inr (.inr (.inl (n, f)))) => some (a, n, f)
    | _ => none
def aI (h : Hp) (r : Option Nat) (i : Int32) : Option Int32 := match hA h r with
  | some (_, n, f) => if inB i n = true then some (f i.toNatClampNeg) else none
  | none => none
def aL (h : Hp) (r : Option Nat) (i : Int32) : Option Int64 := match hB h r with
  | some (_, n, f) => if inB i n = true then some (f i.toNatClampNeg) else none
  | none => none
def aR (h : Hp) (r : Option Nat) (i : Int32) : Option (Option Nat) := match hC h r with
  | some (_, n, f) => if inB i n = true then some (f i.toNatClampNeg) else none
  | none => none
def wI (h : Hp) (r : Option Nat) (i x : Int32) : Option Hp := match hA h r with
  | some (a, n, f) => if inB i n = true then some (h.set a (eI n (upd f i.toNatClampNeg x))) else none
  | none => none
def wL (h : Hp) (r : Option Nat) (i : Int32) (x : Int64) : Option Hp := match hB h r with
  | some (a, n, f) => if inB i n = true then some (h.set a (eL n (vp_updL f i.toNatClampNeg x))) else none
  | none => none
/-- a row of references gets an object of class c -/
def wR (h : Hp) (r : Option Nat) (i : Int32) (x : Option Nat) (c : Nat) : Option Hp := match hC h r with
  | some (a, n, f) => match hO h x with
    | some (y, c', _) => if inB i n = true ∧ c' = c then some (h.set a (eR n (va_up f i.toNatClampNeg (some y)))) else none
    | none => none
  | none => none
def lenI (h : Hp) (r : Option Nat) : Option Int32 := match hA h r with
  | some (_, n, _) => some (Int32.ofNat n)
  | none => none
def lenR (h : Hp) (r : Option Nat) : Option Int32 := match hC h r with
  | some (_, n, _) => some (Int32.ofNat n)
  | none => none
/-- n ints of a row, from sp on, come to another from dp on -/
def cpI (h : Hp) (r : Option Nat) (sp : Int32) (r2 : Option Nat) (dp n : Int32) : Option Hp := match hA h r with
  | some (_, n0, f) => match hA h r2 with
    | some (a1, n1, g) => if ¬ sp < 0 ∧ ¬ dp < 0 ∧ ¬ n < 0 ∧ sp.toNatClampNeg + n.toNatClampNeg ≤ n0 ∧ dp.toNatClampNeg + n.toNatClampNeg ≤ n1 then some (h.set a1 (eI n1 (va_cpy f g sp.toNatClampNeg dp.toNatClampNeg n.toNatClampNeg))) else none
    | none => none
  | none => none
def dvI (x y : Int32) : Option Int32 := if y = 0 then none else some (x / y)
def rmI (x y : Int32) : Option Int32 := if y = 0 then none else some (x - x / y * y)
theorem ob {α β : Type} {o : Option α} {f : α → Option β} {r : β} (h : o.bind f = some r) : ∃ v, o = some v ∧ f v = some r := Option.bind_eq_some_iff.mp h
theorem hO_sp {h : Hp} {r : Option Nat} {a c : Nat} {fs : List Vv} (e : hO h r = some (a, c, fs)) : r = some a ∧ h[a]? = some (eO c fs) := by
  unfold hO at e
  split at e
  · cases e
  · split at e
    · rename_i h1
      cases e
      exact ⟨rfl, h1⟩
    · cases e
theorem hA_sp {h : Hp} {r : Option Nat} {a n : Nat} {f : Nat → Int32} (e : hA h r = some (a, n, f)) : r = some a ∧ h[a]? = some (eI n f) := by
  unfold hA at e
  split at e
  · cases e
  · split at e
    · rename_i h1
      cases e
      exact ⟨rfl, h1⟩
    · cases e
theorem hB_sp {h : Hp} {r : Option Nat} {a n : Nat} {f : Nat → Int64} (e : hB h r = some (a, n, f)) : r = some a ∧ h[a]? = some (eL n f) := by
  unfold hB at e
  split at e
  · cases e
  · split at e
    · rename_i h1
      cases e
      exact ⟨rfl, h1⟩
    · cases e
theorem hC_sp {h : Hp} {r : Option Nat} {a n : Nat} {f : Nat → Option Nat} (e : hC h r = some (a, n, f)) : r = some a ∧ h[a]? = some (eR n f) := by
  unfold hC at e
  split at e
  · cases e
  · split at e
    · rename_i h1
      cases e
      exact ⟨rfl, h1⟩
    · cases e
theorem rcv_sp {h : Hp} {r : Option Nat} {c a : Nat} (e : rcv h r c = some a) : r = some a ∧ ∃ fs, h[a]? = some (eO c fs) := by
  unfold rcv at e
  split at e
  · rename_i h1
    split at e
    · rename_i h2
      cases e
      obtain ⟨e1, e2⟩ := hO_sp h1
      exact ⟨e1, _, h2 ▸ e2⟩
    · cases e
  · cases e
theorem rcl_sp {h : Hp} {r : Option Nat} {q : Nat × Nat} (e : rcl h r = some q) : r = some q.1 ∧ ∃ fs, h[q.1]? = some (eO q.2 fs) := by
  unfold rcl at e
  split at e
  · rename_i h1
    cases e
    obtain ⟨e1, e2⟩ := hO_sp h1
    exact ⟨e1, _, e2⟩
  · cases e
theorem gF_sp {h : Hp} {r : Option Nat} {cs : List Nat} {k : Nat} {v : Vv} (e : gF h r cs k = some v) : ∃ a c fs, r = some a ∧ h[a]? = some (eO c fs) ∧ c ∈ cs ∧ fs[k]? = some v := by
  unfold gF at e
  split at e
  · rename_i h1
    split at e
    · rename_i h2
      obtain ⟨e1, e2⟩ := hO_sp h1
      exact ⟨_, _, _, e1, e2, h2, e⟩
    · cases e
  · cases e
theorem gI_sp {h : Hp} {r : Option Nat} {cs : List Nat} {k : Nat} {x : Int32} (e : gI h r cs k = some x) : gF h r cs k = some (vI x) := by
  unfold gI at e
  split at e
  · rename_i h1
    cases e
    exact h1
  · cases e
theorem gR_sp {h : Hp} {r : Option Nat} {cs : List Nat} {k : Nat} {x : Option Nat} (e : gR h r cs k = some x) : gF h r cs k = some (vR x) := by
  unfold gR at e
  split at e
  · rename_i h1
    cases e
    exact h1
  · cases e
theorem pF_sp {h h1 : Hp} {r : Option Nat} {cs : List Nat} {k : Nat} {v : Vv} (e : pF h r cs k v = some h1) : ∃ a c fs, r = some a ∧ h[a]? = some (eO c fs) ∧ c ∈ cs ∧ k < fs.length ∧ h1 = h.set a (eO c (fs.set k v)) := by
  unfold pF at e
  split at e
  · rename_i h1
    split at e
    · rename_i h2
      obtain ⟨e1, e2⟩ := hO_sp h1
      cases e
      exact ⟨_, _, _, e1, e2, h2.1, h2.2, rfl⟩
    · cases e
  · cases e
theorem okZ_sp {x y : Int32} (e : okZ x = some y) : y = x ∧ (x = 0 ∨ x = 1) := by
  unfold okZ at e
  split at e
  · rename_i h1
    cases e
    exact ⟨rfl, h1⟩
  · cases e
theorem inB_sp {i : Int32} {n : Nat} (h : inB i n = true) : vp_in i n := by
  unfold inB at h
  simp only [Bool.and_eq_true, decide_eq_true_eq] at h
  rintro (q | q)
  · exact absurd h.1 (Int32.not_le.mpr q)
  · omega
theorem aI_sp {h : Hp} {r : Option Nat} {i x : Int32} (e : aI h r i = some x) : ∃ a n f, r = some a ∧ h[a]? = some (eI n f) ∧ vp_in i n ∧ x = f i.toNatClampNeg := by
  unfold aI at e
  split at e
  · rename_i h1
    split at e
    · rename_i h2
      cases e
      obtain ⟨e1, e2⟩ := hA_sp h1
      exact ⟨_, _, _, e1, e2, inB_sp h2, rfl⟩
    · cases e
  · cases e
theorem aL_sp {h : Hp} {r : Option Nat} {i : Int32} {x : Int64} (e : aL h r i = some x) : ∃ a n f, r = some a ∧ h[a]? = some (eL n f) ∧ vp_in i n ∧ x = f i.toNatClampNeg := by
  unfold aL at e
  split at e
  · rename_i h1
    split at e
    · rename_i h2
      cases e
      obtain ⟨e1, e2⟩ := hB_sp h1
      exact ⟨_, _, _, e1, e2, inB_sp h2, rfl⟩
    · cases e
  · cases e
theorem aR_sp {h : Hp} {r : Option Nat} {i : Int32} {x : Option Nat} (e : aR h r i = some x) : ∃ a n f, r = some a ∧ h[a]? = some (eR n f) ∧ vp_in i n ∧ x = f i.toNatClampNeg := by
  unfold aR at e
  split at e
  · rename_i h1
    split at e
    · rename_i h2
      cases e
      obtain ⟨e1, e2⟩ := hC_sp h1
      exact ⟨_, _, _, e1, e2, inB_sp h2, rfl⟩
    · cases e
  · cases e
theorem wI_sp {h h1 : Hp} {r : Option Nat} {i x : Int32} (e : wI h r i x = some h1) : ∃ a n f, r = some a ∧ h[a]? = some (eI n f) ∧ vp_in i n ∧ h1 = h.set a (eI n (upd f i.toNatClampNeg x)) := by
  unfold wI at e
  split at e
  · rename_i h1
    split at e
    · rename_i h2
      cases e
      obtain ⟨e1, e2⟩ := hA_sp h1
      exact ⟨_, _, _, e1, e2, inB_sp h2, rfl⟩
    · cases e
  · cases e
theorem wL_sp {h h1 : Hp} {r : Option Nat} {i : Int32} {x : Int64} (e : wL h r i x = some h1) : ∃ a n f, r = some a ∧ h[a]? = some (eL n f) ∧ vp_in i n ∧ h1 = h.set a (eL n (vp_updL f i.toNatClampNeg x)) := by
  unfold wL at e
  split at e
  · rename_i h1
    split at e
    · rename_i h2
      cases e
      obtain ⟨e1, e2⟩ := hB_sp h1
      exact ⟨_, _, _, e1, e2, inB_sp h2, rfl⟩
    · cases e
  · cases e
theorem wR_sp {h h1 : Hp} {r x : Option Nat} {i : Int32} {c : Nat} (e : wR h r i x c = some h1) : ∃ a n f y fs, r = some a ∧ h[a]? = some (eR n f) ∧ x = some y ∧ h[y]? = some (eO c fs) ∧ vp_in i n ∧ h1 = h.set a (eR n (va_up f i.toNatClampNeg (some y))) := by
  unfold wR at e
  split at e
  · rename_i h1
    split at e
    · rename_i h3
      split at e
      · rename_i h2
        cases e
        obtain ⟨e1, e2⟩ := hC_sp h1
        obtain ⟨e3, e4⟩ := hO_sp h3
        obtain ⟨h2, h4⟩ := h2
        subst h4
        exact ⟨_, _, _, _, _, e1, e2, e3, e4, inB_sp h2, rfl⟩
      · cases e
    · cases e
  · cases e
theorem lenI_sp {h : Hp} {r : Option Nat} {x : Int32} (e : lenI h r = some x) : ∃ a n f, r = some a ∧ h[a]? = some (eI n f) ∧ x = Int32.ofNat n := by
  unfold lenI at e
  split at e
  · rename_i h1
    cases e
    obtain ⟨e1, e2⟩ := hA_sp h1
    exact ⟨_, _, _, e1, e2, rfl⟩
  · cases e
theorem lenR_sp {h : Hp} {r : Option Nat} {x : Int32} (e : lenR h r = some x) : ∃ a n f, r = some a ∧ h[a]? = some (eR n f) ∧ x = Int32.ofNat n := by
  unfold lenR at e
  split at e
  · rename_i h1
    cases e
    obtain ⟨e1, e2⟩ := hC_sp h1
    exact ⟨_, _, _, e1, e2, rfl⟩
  · cases e
theorem cpI_sp {h h1 : Hp} {r r2 : Option Nat} {sp dp n : Int32} (e : cpI h r sp r2 dp n = some h1) : ∃ a0 n0 f a1 n1 g, r = some a0 ∧ h[a0]? = some (eI n0 f) ∧ r2 = some a1 ∧ h[a1]? = some (eI n1 g) ∧ (¬ sp < 0 ∧ ¬ dp < 0 ∧ ¬ n < 0 ∧ sp.toNatClampNeg + n.toNatClampNeg ≤ n0 ∧ dp.toNatClampNeg + n.toNatClampNeg ≤ n1) ∧ h1 = h.set a1 (eI n1 (va_cpy f g sp.toNatClampNeg dp.toNatClampNeg n.toNatClampNeg)) := by
  unfold cpI at e
  split at e
  · rename_i h1
    split at e
    · rename_i h3
      split at e
      · rename_i h2
        cases e
        obtain ⟨e1, e2⟩ := hA_sp h1
        obtain ⟨e3, e4⟩ := hA_sp h3
        exact ⟨_, _, _, _, _, _, e1, e2, e3, e4, h2, rfl⟩
      · cases e
    · cases e
  · cases e
theorem dvI_sp {x y z : Int32} (e : dvI x y = some z) : ¬ y = 0 ∧ z = x / y := by
  unfold dvI at e
  split at e
  · cases e
  · rename_i h
    cases e
    exact ⟨h, rfl⟩
theorem rmI_sp {x y z : Int32} (e : rmI x y = some z) : ¬ y = 0 ∧ z = x - x / y * y := by
  unfold rmI at e
  split at e
  · cases e
  · rename_i h
    cases e
    exact ⟨h, rfl⟩
/-! what a heap holds of it -/
abbrev Gx : Type := va_G × (Nat × (ClassId × (ClassId × (ClassId × (Nat × (Nat × (Nat → Int32)))))))
def cE (b : Nat) (f : Nat → Option Nat) : Nat → Option Nat := fun j => (f j).map (fun x => b + x)
def atE (G : Gx) (e : En) (a : Nat) (H : Heap) : Prop := match e with
  | .inl x => H[G.2.1 + a]? = some (vp_cell G.2.2.1 (x.1, .inl x.2))
  | .inr (.inl x) => H[G.2.1 + a]? = some (vp_cell G.2.2.2.1 (x.1, .inr (.inl x.2)))
  | .inr (.inr (.inl x)) => H[G.2.1 + a]? = some (vp_cell G.2.2.2.2.1 (x.1, .inr (.inr (.inr (.inr (cE G.2.1 x.2))))))
  | .inr (.inr (.inr (.inl x))) => va_at G.1 vwCl (G.2.1 + a, .inr (x.1, x.2.map (cv G.2.1))) H
  | .inr (.inr (.inr (.inr _))) => True
def Rep (G : Gx) (h : Hp) (H : Heap) : Prop := H.size = G.2.1 + h.length ∧ ∀ (a : Nat) (e : En), h[a]? = some e → atE G e a H
theorem atE.kept {G : Gx} {e : En} {a : Nat} {H H1 : Heap} (h : atE G e a H) (hq : H1[G.2.1 + a]? = H[G.2.1 + a]?) : atE G e a H1 := by
  match e, h with
  | .inl x, h => exact hq.trans h
  | .inr (.inl x), h => exact hq.trans h
  | .inr (.inr (.inl x)), h => exact hq.trans h
  | .inr (.inr (.inr (.inl x))), h => exact va_at.kept (q := (G.2.1 + a, .inr (x.1, x.2.map (cv G.2.1)))) h hq
  | .inr (.inr (.inr (.inr _))), _ => exact trivial
theorem lt_of_get {h : Hp} {a : Nat} {e : En} (q : h[a]? = some e) : a < h.length := (List.getElem?_eq_some_iff.mp q).1
theorem Rep.set {G : Gx} {h : Hp} {H H1 : Heap} {a : Nat} {e : En} (r : Rep G h H) (z : H1.size = H.size) (oq : ∀ q : Nat, q ≠ G.2.1 + a → H1[q]? = H[q]?) (he : atE G e a H1) : Rep G (h.set a e) H1 := by
  refine ⟨by rw [z, r.1, List.length_set], fun k e' hk => ?_⟩
  rw [List.getElem?_set] at hk
  by_cases q : a = k
  · subst q
    rw [if_pos rfl] at hk
    split at hk
    · cases hk
      exact he
    · cases hk
  · rw [if_neg q] at hk
    exact (r.2 k e' hk).kept (oq _ (by omega))
theorem Rep.push {G : Gx} {h : Hp} {H H1 : Heap} {e : En} (r : Rep G h H) (z : H1.size = H.size + 1) (oq : ∀ q : Nat, q < H.size → H1[q]? = H[q]?) (he : atE G e h.length H1) : Rep G (h ++ [e]) H1 := by
  refine ⟨by rw [z, r.1]; simp; omega, fun k e' hk => ?_⟩
  rw [List.getElem?_append] at hk
  split at hk
  · rename_i q
    exact (r.2 k e' hk).kept (oq _ (by rw [r.1]; omega))
  · rename_i q
    have hk2 : k - h.length < 1 := (List.getElem?_eq_some_iff.mp hk).1
    have hk3 : k = h.length := by omega
    subst hk3
    rw [Nat.sub_self] at hk
    cases hk
    exact he
def Kn (G : Gx) (U : State) : Prop := va_K G.1 vwCl [(G.2.2.1, .int), (G.2.2.2.1, .long), (G.2.2.2.2.1, .object "NumberedByAge$Shelf")] U
theorem Kn.moved {G : Gx} {u U : State} (hvm : u.vm.Alike U.vm) (h : Kn G u) : Kn G U := va_K.moved hvm h
def n_host : String := "NumberedByAge"
def nstM : List (String × Nat × MethodName) := [(RX8, 77, yX10_isHeight), (RX8, 73, yX10_isPlot), (RX10, 28, yX5_init), (RX10, 11, yX8_init)]
def nstF : List (String × Nat × String × String × String) := [(RX3, 16, "NumberedByAge$Street", "built", "I"), (RX10, 59, "NumberedByAge$Street", "law", "LNumberedByAge$Law;"), (RX10, 51, "NumberedByAge$Shelf", "law", "LNumberedByAge$Law;"), (RX10, 227, "NumberedByAge$Shelf", "elements", "[I"), (RX10, 220, "NumberedByAge$Shelf", "sort", "I"), (RX10, 179, "NumberedByAge$Street", "built", "I"), (RX10, 176, "NumberedByAge$Street", "events", "I"), (RX10, 157, "NumberedByAge$Shelf", "size", "I")]
/-- the links between nest mates -/
def Nst (U : State) : Prop := (∀ q ∈ nstM, va_Nw (.methodLinkNest q.1 q.2.1 q.2.2 n_host) U) ∧ ∀ q ∈ nstF, va_Nw (.fieldLinkNest q.1 q.2.1 q.2.2.1 q.2.2.2.1 q.2.2.2.2 n_host) U
theorem Nst.warm {s U : State} (hW : s.WarmedH U.vm) (h : Nst s) : Nst U := ⟨fun q hq => va_Nw.warmM hW (h.1 q hq), fun q hq => va_Nw.warmF hW (h.2 q hq)⟩
theorem Nst.same {u U : State} (hv : u.vm = U.vm) (h : Nst u) : Nst U := ⟨fun q hq => va_Nw.same rfl hv (h.1 q hq), fun q hq => va_Nw.same rfl hv (h.2 q hq)⟩
/-- what a throw needs of the machine -/
def xIAE : String := "java/lang/IllegalArgumentException"
def xISE : String := "java/lang/IllegalStateException"
def xUOE : String := "java/lang/UnsupportedOperationException"
def xstr : List (String × Nat × String) := [(RX10, 203, "there is no such SHELF"), (RX10, 214, "there is no ROW with such a place"), (RX2, 28, "a LAST one failed"), (RX3, 23, "a LAW failed"), (RX6, 23, "a SIDE one failed")]
def xneg : List (String × String) := [(xIAE, xISE), (xIAE, xUOE), (xISE, xIAE), (xISE, xUOE), (xUOE, xIAE), (xUOE, xISE)]
def Xs (G : Gx) (U : State) (H : Heap) : Prop :=
  (vx_Zq Bundle.tN "UNASSIGNED_STACK" Bundle.steD (fun q => G.2.1 ≤ q) U H ∧ vx_Zq Bundle.tN "SUPPRESSED_SENTINEL" Bundle.listD (fun q => G.2.1 ≤ q) U H) ∧ ((∀ q ∈ xstr, ∃ sa, vk_R q.1 q.2.1 q.2.2 sa U) ∧ ((∀ q ∈ [xIAE, xISE, xUOE], va_Nw (.castable q q) U) ∧ ((∀ q ∈ xneg, va_Nc q.1 q.2 U) ∧ (va_AO "NumberedByAge$Shelf" U ∧ (va_X G.2.2.2.2.2.1 G.2.2.2.2.2.2.1 G.2.2.2.2.2.2.2 U H ∧ G.2.2.2.2.2.1 < G.2.1)))))
theorem Xs.go {G : Gx} {s U : State} {H : Heap} (hW : s.WarmedH U.vm) (h : Xs G s H) : Xs G U H :=
  ⟨⟨vx_Zq.moved hW.alike h.1.1, vx_Zq.moved hW.alike h.1.2⟩, fun q hq => (h.2.1 q hq).imp fun _ x => vk_R.warm hW x, fun q hq => va_Nw.warmC hW (h.2.2.1 q hq), fun q hq => va_Nc.moved hW.alike (h.2.2.2.1 q hq), va_AO.moved hW.alike h.2.2.2.2.1, va_X.moved hW.alike h.2.2.2.2.2.1, h.2.2.2.2.2.2⟩
theorem Xs.same {G : Gx} {s U : State} {H : Heap} (hv : s.vm = U.vm) (h : Xs G s H) : Xs G U H := by
  have hA : s.vm.Alike U.vm := by rw [hv]; exact Vm.Alike.refl _
  exact ⟨⟨vx_Zq.moved hA h.1.1, vx_Zq.moved hA h.1.2⟩, fun q hq => (h.2.1 q hq).imp fun _ x => vk_R.same hv.symm x, fun q hq => va_Nw.same rfl hv (h.2.2.1 q hq), fun q hq => va_Nc.moved hA (h.2.2.2.1 q hq), va_AO.moved hA h.2.2.2.2.1, va_X.moved hA h.2.2.2.2.2.1, h.2.2.2.2.2.2⟩
theorem Xs.kept {G : Gx} {s : State} {H H1 : Heap} (h : Xs G s H) (hq : ∀ a : Nat, a < H.size → ¬ G.2.1 ≤ a → H1[a]? = H[a]?) : Xs G s H1 := ⟨⟨vx_Zq.kept h.1.1 hq, vx_Zq.kept h.1.2 hq⟩, h.2.1, h.2.2.1, h.2.2.2.1, h.2.2.2.2.1, h.2.2.2.2.2.1.kept (hq _ (by obtain ⟨scr, e1, -⟩ := h.2.2.2.2.2.1; exact (Array.getElem?_eq_some_iff.mp e1).1) (Nat.not_le.mpr h.2.2.2.2.2.2)), h.2.2.2.2.2.2⟩
def Wl (G : Gx) (h : Hp) (U : State) : Prop := Rep G h U.heap ∧ (Kn G U ∧ (Nst U ∧ Xs G U U.heap))
def PQ (G : Gx) (v : Option Vv) (h' : Hp) : Array Value → State → Outcome → State → Prop := fun _ st o t => o = .returned (v.map (cv G.2.1)) ∧ Rep G h' t.heap ∧ va_F (fun q => G.2.1 ≤ q) st t
/-- a method's contract -/
def KM (l : Launch) (y : MethodName) (ws : List Cond) (fr lo : Nat) (G : Gx) (av : List Vv) (h : Hp) (v : Option Vv) (h' : Hp) : Prop :=
  Le h h' ∧ Met l y ws ({ frames := fr, cells := h'.length - h.length, slots := sl h' - sl h, locals := lo }) (va_Pc (av.map (cv G.2.1)) (Wl G h)) (PQ G v h') (h'.length - h.length) (sl h' - sl h) (fun q => G.2.1 ≤ q)
/-- what a method's text is: its bytes, its locals, its class, whether it is a constructor, its type, its frames, its room -/
abbrev Mx : Type := ByteArray × (Nat × (String × (Bool × (Option FieldType × (Nat × Nat)))))
def CX (G : Gx) (p : Program) (R : Room) (s : State) (m : MethodId) (args : Array Value) (meth : Method) (c : Code) (M : Mx) (h0 h' : Hp) : Prop :=
  CallFix p m c M.1 M.2.1 s args wsK M.2.2.1 ∧ (meth.locks = false ∧ meth.sig.returnType = M.2.2.2.2.1 ∧ (M.2.2.2.1 = true → meth.name = "<init>")) ∧ (Kn G s ∧ (Nst s ∧ Xs G s s.heap)) ∧ (M.2.2.2.2.2.1 ≤ R.frames ∧ M.2.2.2.2.2.2 ≤ R.locals ∧ h'.length - h0.length ≤ R.cells ∧ sl h' - sl h0 ≤ R.slots) ∧ s.heap.size = G.2.1 + h0.length
abbrev cvl (b : Nat) (lv : List (Nat × Vv)) : List (Nat × Value) := lv.map fun q => (q.1, cv b q.2)
def RJ (G : Gx) (l : Launch) (M : Mx) (v : Option Vv) (h' : Hp) (pc : Nat) (lv : List (Nat × Vv)) (st : List Vv) (h : Hp) : Prop :=
  Le h h' ∧ ∀ (p : Program) (e : Env) (R : Room) (s : State) (m : MethodId) (args : Array Value) (below : List Frame) (meth : Method) (c : Code) (h0 : Hp), CX G p R s m args meth c M h0 h' → Le h0 h →
    ∀ (H : Heap) (locs : List Loc) (ls : Array Slot), Rep G h H → va_S (fun q => G.2.1 ≤ q) s.heap H locs → lv_has ls M.2.1 (cvl G.2.1 lv) →
      W p l e R s m args below meth c H locs (h.length - h0.length) (sl h - sl h0) (MQ below (PQ G v h') args s (h'.length - h0.length) (sl h' - sl h0) (fun q => G.2.1 ≤ q)) (F0 m pc ls (st.map (cv G.2.1)))
section RJR
variable {G : Gx} {l : Launch} {M : Mx} {v : Option Vv} {h' : Hp} {pc : Nat} {lv : List (Nat × Vv)} {st : List Vv} {h : Hp}
theorem cvl_at {b : Nat} {lv : List (Nat × Vv)} {k i : Nat} {x : Vv} (q : lv[k]? = some (i, x)) : (cvl b lv)[k]? = some (i, cv b x) := by
  simp [cvl, q]
/-- fewer locals, in another order -/
def lpick (lv : List (Nat × Vv)) (ks : List Nat) : List (Nat × Vv) := ks.filterMap (fun k => lv[k]?)
theorem r_sub {lv' : List (Nat × Vv)} (ks : List Nat) (hl : lpick lv ks = lv') (K : RJ G l M v h' pc lv' st h) : RJ G l M v h' pc lv st h := by
  refine ⟨K.1, fun p e R s m args below meth c h0 C hl0 H locs ls hR hS hv => K.2 p e R s m args below meth c h0 C hl0 H locs ls hR hS (lv_sub hv ks ?_)⟩
  subst hl
  simp only [lv_pick, lpick, cvl, List.map_filterMap, List.getElem?_map]
/-- storing into a local -/
def lset (i : Nat) (x : Vv) (lv : List (Nat × Vv)) : List (Nat × Vv) := (i, x) :: lv.filter (fun q => !(q.1 == i) && !(q.1 + 1 == i && vW q.2))
def lset2 (i : Nat) (x : Vv) (lv : List (Nat × Vv)) : List (Nat × Vv) := (i, x) :: lv.filter (fun q => !(q.1 == i) && (!(q.1 == i + 1) && !(q.1 + 1 == i && vW q.2)))
theorem vW_cat (b : Nat) (x : Vv) : ((cv b x).category == 2) = vW x := by
  match x with
  | .inl x => rfl
  | .inr (.inl x) => rfl
  | .inr (.inr (.inl none)) => rfl
  | .inr (.inr (.inl (some a))) => rfl
  | .inr (.inr (.inr a)) => rfl
theorem lset_cv (b i : Nat) (x : Vv) (lv : List (Nat × Vv)) : (i, cv b x) :: (cvl b lv).filter (fun q => !(q.1 == i) && !(q.1 + 1 == i && q.2.category == 2)) = cvl b (lset i x lv) := by
  simp only [lset, cvl, List.map_cons, List.filter_map]
  congr 2
  refine List.filter_congr fun q _ => ?_
  simp only [Function.comp, vW_cat]
theorem lset2_cv (b i : Nat) (x : Vv) (lv : List (Nat × Vv)) : (i, cv b x) :: (cvl b lv).filter (fun q => !(q.1 == i) && (!(q.1 == i + 1) && !(q.1 + 1 == i && q.2.category == 2))) = cvl b (lset2 i x lv) := by
  simp only [lset2, cvl, List.map_cons, List.filter_map]
  congr 2
  refine List.filter_congr fun q _ => ?_
  simp only [Function.comp, vW_cat]

theorem r_iconst {n : Int} {x : Int32} (hd : decode M.1 pc = .ok (.iconst n, 1)) (hv9 : Int32.ofInt n = x) (K : RJ G l M v h' (pc + 1) lv (vI x :: st) h) : RJ G l M v h' pc lv st h :=
  ⟨K.1, fun p e R s m args below meth c h0 C hl0 H locs ls hR hS hv => lv_iconst C.1.1 C.1.2.1 hd hv9 (K.2 p e R s m args below meth c h0 C hl0 H locs ls hR hS hv)⟩
theorem r_bipush {n : Int} {x : Int32} (hd : decode M.1 pc = .ok (.bipush n, 2)) (hv9 : (Int8.ofInt n).toInt32 = x) (K : RJ G l M v h' (pc + 2) lv (vI x :: st) h) : RJ G l M v h' pc lv st h :=
  ⟨K.1, fun p e R s m args below meth c h0 C hl0 H locs ls hR hS hv => lv_bipush C.1.1 C.1.2.1 hd hv9 (K.2 p e R s m args below meth c h0 C hl0 H locs ls hR hS hv)⟩
theorem r_sipush {n : Int} {x : Int32} (hd : decode M.1 pc = .ok (.sipush n, 3)) (hv9 : (Int16.ofInt n).toInt32 = x) (K : RJ G l M v h' (pc + 3) lv (vI x :: st) h) : RJ G l M v h' pc lv st h :=
  ⟨K.1, fun p e R s m args below meth c h0 C hl0 H locs ls hR hS hv => lv_sipush C.1.1 C.1.2.1 hd hv9 (K.2 p e R s m args below meth c h0 C hl0 H locs ls hR hS hv)⟩
theorem r_lconst {n : Fin 2} {x : Int64} (hd : decode M.1 pc = .ok (.lconst n, 1)) (hv9 : Int64.ofNat (n : Nat) = x) (K : RJ G l M v h' (pc + 1) lv (vL x :: st) h) : RJ G l M v h' pc lv st h :=
  ⟨K.1, fun p e R s m args below meth c h0 C hl0 H locs ls hR hS hv => lv_lconst C.1.1 C.1.2.1 hd hv9 (K.2 p e R s m args below meth c h0 C hl0 H locs ls hR hS hv)⟩
theorem r_null  (hd : decode M.1 pc = .ok (.aconst_null, 1))  (K : RJ G l M v h' (pc + 1) lv (vR none :: st) h) : RJ G l M v h' pc lv st h :=
  ⟨K.1, fun p e R s m args below meth c h0 C hl0 H locs ls hR hS hv => lv_null C.1.1 C.1.2.1 hd (K.2 p e R s m args below meth c h0 C hl0 H locs ls hR hS hv)⟩
theorem r_ldc {i : Nat} {x : Int32} (hd : decode M.1 pc = .ok (.ldc i, 2)) (hw : Cond.constant M.2.2.1 i x ∈ wsK) (K : RJ G l M v h' (pc + 2) lv (vI x :: st) h) : RJ G l M v h' pc lv st h :=
  ⟨K.1, fun p e R s m args below meth c h0 C hl0 H locs ls hR hS hv => lv_ldc C.1.1 C.1.2.1 C.1.2.2.2.1 (C.1.2.2.2.2 _ hw) hd (K.2 p e R s m args below meth c h0 C hl0 H locs ls hR hS hv)⟩
theorem r_ldcw {i : Nat} {x : Int32} (hd : decode M.1 pc = .ok (.ldc_w i, 3)) (hw : Cond.constant M.2.2.1 i x ∈ wsK) (K : RJ G l M v h' (pc + 3) lv (vI x :: st) h) : RJ G l M v h' pc lv st h :=
  ⟨K.1, fun p e R s m args below meth c h0 C hl0 H locs ls hR hS hv => lv_ldcw C.1.1 C.1.2.1 C.1.2.2.2.1 (C.1.2.2.2.2 _ hw) hd (K.2 p e R s m args below meth c h0 C hl0 H locs ls hR hS hv)⟩
theorem r_ldc2 {i : Nat} {x : Int64} (hd : decode M.1 pc = .ok (.ldc2_w i, 3)) (hw : Cond.constantLong M.2.2.1 i x ∈ wsK) (K : RJ G l M v h' (pc + 3) lv (vL x :: st) h) : RJ G l M v h' pc lv st h :=
  ⟨K.1, fun p e R s m args below meth c h0 C hl0 H locs ls hR hS hv => lv_ldc2 C.1.1 C.1.2.1 C.1.2.2.2.1 (C.1.2.2.2.2 _ hw) hd (K.2 p e R s m args below meth c h0 C hl0 H locs ls hR hS hv)⟩
theorem r_iload_n {k : Fin 4} {x : Int32} (j : Nat) (hd : decode M.1 pc = .ok (.iload_n k, 1)) (hj : lv[j]? = some ((k : Nat), vI x)) (K : RJ G l M v h' (pc + 1) lv (vI x :: st) h) : RJ G l M v h' pc lv st h :=
  ⟨K.1, fun p e R s m args below meth c h0 C hl0 H locs ls hR hS hv => lv_iload_n C.1.1 C.1.2.1 hd rfl (lv_at hv j (cvl_at hj)) (K.2 p e R s m args below meth c h0 C hl0 H locs ls hR hS hv)⟩
theorem r_iload {i : Nat} {x : Int32} (j : Nat) (hd : decode M.1 pc = .ok (.iload i, 2)) (hj : lv[j]? = some (i, vI x)) (K : RJ G l M v h' (pc + 2) lv (vI x :: st) h) : RJ G l M v h' pc lv st h :=
  ⟨K.1, fun p e R s m args below meth c h0 C hl0 H locs ls hR hS hv => lv_iload C.1.1 C.1.2.1 hd (lv_at hv j (cvl_at hj)) (K.2 p e R s m args below meth c h0 C hl0 H locs ls hR hS hv)⟩
theorem r_lload_n {k : Fin 4} {x : Int64} (j : Nat) (hd : decode M.1 pc = .ok (.lload_n k, 1)) (hj : lv[j]? = some ((k : Nat), vL x)) (K : RJ G l M v h' (pc + 1) lv (vL x :: st) h) : RJ G l M v h' pc lv st h :=
  ⟨K.1, fun p e R s m args below meth c h0 C hl0 H locs ls hR hS hv => lv_lload_n C.1.1 C.1.2.1 hd rfl (lv_at hv j (cvl_at hj)) (K.2 p e R s m args below meth c h0 C hl0 H locs ls hR hS hv)⟩
theorem r_lload {i : Nat} {x : Int64} (j : Nat) (hd : decode M.1 pc = .ok (.lload i, 2)) (hj : lv[j]? = some (i, vL x)) (K : RJ G l M v h' (pc + 2) lv (vL x :: st) h) : RJ G l M v h' pc lv st h :=
  ⟨K.1, fun p e R s m args below meth c h0 C hl0 H locs ls hR hS hv => lv_lload C.1.1 C.1.2.1 hd (lv_at hv j (cvl_at hj)) (K.2 p e R s m args below meth c h0 C hl0 H locs ls hR hS hv)⟩
theorem r_aload_n {k : Fin 4} {x : Option Nat} (j : Nat) (hd : decode M.1 pc = .ok (.aload_n k, 1)) (hj : lv[j]? = some ((k : Nat), vR x)) (K : RJ G l M v h' (pc + 1) lv (vR x :: st) h) : RJ G l M v h' pc lv st h :=
  ⟨K.1, fun p e R s m args below meth c h0 C hl0 H locs ls hR hS hv => by
    have K2 := K.2 p e R s m args below meth c h0 C hl0 H locs ls hR hS hv
    cases x with
    | none => exact ro_aload_nN C.1.1 C.1.2.1 hd rfl (lv_at hv j (cvl_at hj)) K2
    | some a => exact lv_aload_n C.1.1 C.1.2.1 hd rfl (lv_at hv j (cvl_at hj)) K2⟩
theorem r_aload {i : Nat} {x : Option Nat} (j : Nat) (hd : decode M.1 pc = .ok (.aload i, 2)) (hj : lv[j]? = some (i, vR x)) (K : RJ G l M v h' (pc + 2) lv (vR x :: st) h) : RJ G l M v h' pc lv st h :=
  ⟨K.1, fun p e R s m args below meth c h0 C hl0 H locs ls hR hS hv => by
    have K2 := K.2 p e R s m args below meth c h0 C hl0 H locs ls hR hS hv
    cases x with
    | none => exact ro_aloadN C.1.1 C.1.2.1 hd (lv_at hv j (cvl_at hj)) K2
    | some a => exact lv_aload C.1.1 C.1.2.1 hd (lv_at hv j (cvl_at hj)) K2⟩
theorem r_istore_n {k : Fin 4} {x : Int32} {lv' : List (Nat × Vv)} (hd : decode M.1 pc = .ok (.istore_n k, 1)) (hn : (k : Nat) < M.2.1) (hl : lset (k : Nat) (vI x) lv = lv') (K : RJ G l M v h' (pc + 1) lv' st h) : RJ G l M v h' pc lv (vI x :: st) h := by
  subst hl
  exact ⟨K.1, fun p e R s m args below meth c h0 C hl0 H locs ls hR hS hv => lv_istore_n C.1.1 C.1.2.1 hd rfl hv hn (lset_cv _ _ (vI x) lv) (fun ls' hv' => K.2 p e R s m args below meth c h0 C hl0 H locs ls' hR hS hv')⟩
theorem r_istore {i : Nat} {x : Int32} {lv' : List (Nat × Vv)} (hd : decode M.1 pc = .ok (.istore i, 2)) (hn : i < M.2.1) (hl : lset i (vI x) lv = lv') (K : RJ G l M v h' (pc + 2) lv' st h) : RJ G l M v h' pc lv (vI x :: st) h := by
  subst hl
  exact ⟨K.1, fun p e R s m args below meth c h0 C hl0 H locs ls hR hS hv => lv_istore C.1.1 C.1.2.1 hd hv hn (lset_cv _ _ (vI x) lv) (fun ls' hv' => K.2 p e R s m args below meth c h0 C hl0 H locs ls' hR hS hv')⟩
theorem r_lstore_n {k : Fin 4} {x : Int64} {lv' : List (Nat × Vv)} (hd : decode M.1 pc = .ok (.lstore_n k, 1)) (hn : (k : Nat) + 1 < M.2.1) (hl : lset2 (k : Nat) (vL x) lv = lv') (K : RJ G l M v h' (pc + 1) lv' st h) : RJ G l M v h' pc lv (vL x :: st) h := by
  subst hl
  exact ⟨K.1, fun p e R s m args below meth c h0 C hl0 H locs ls hR hS hv => lv_lstore_n C.1.1 C.1.2.1 hd rfl hv hn (lset2_cv _ _ (vL x) lv) (fun ls' hv' => K.2 p e R s m args below meth c h0 C hl0 H locs ls' hR hS hv')⟩
theorem r_lstore {i : Nat} {x : Int64} {lv' : List (Nat × Vv)} (hd : decode M.1 pc = .ok (.lstore i, 2)) (hn : i + 1 < M.2.1) (hl : lset2 i (vL x) lv = lv') (K : RJ G l M v h' (pc + 2) lv' st h) : RJ G l M v h' pc lv (vL x :: st) h := by
  subst hl
  exact ⟨K.1, fun p e R s m args below meth c h0 C hl0 H locs ls hR hS hv => lv_lstore C.1.1 C.1.2.1 hd hv hn (lset2_cv _ _ (vL x) lv) (fun ls' hv' => K.2 p e R s m args below meth c h0 C hl0 H locs ls' hR hS hv')⟩
theorem r_aload_x {k : Fin 4} {a : Nat} (j : Nat) (hd : decode M.1 pc = .ok (.aload_n k, 1)) (hj : lv[j]? = some ((k : Nat), vX a)) (K : RJ G l M v h' (pc + 1) lv (vX a :: st) h) : RJ G l M v h' pc lv st h :=
  ⟨K.1, fun p e R s m args below meth c h0 C hl0 H locs ls hR hS hv => lv_aload_n C.1.1 C.1.2.1 hd rfl (lv_at hv j (cvl_at hj)) (K.2 p e R s m args below meth c h0 C hl0 H locs ls hR hS hv)⟩
theorem r_pc {pc' : Nat} (e : pc = pc') (K : RJ G l M v h' pc' lv st h) : RJ G l M v h' pc lv st h := by
  subst e
  exact K
theorem r_astore_n {k : Fin 4} {x : Option Nat} {lv' : List (Nat × Vv)} (hd : decode M.1 pc = .ok (.astore_n k, 1)) (hn : (k : Nat) < M.2.1) (hl : lset (k : Nat) (vR x) lv = lv') (K : RJ G l M v h' (pc + 1) lv' st h) : RJ G l M v h' pc lv (vR x :: st) h := by
  subst hl
  refine ⟨K.1, fun p e R s m args below meth c h0 C hl0 H locs ls hR hS hv => ?_⟩
  cases x with
  | none => exact lv_astore_nN C.1.1 C.1.2.1 hd rfl hv hn (lset_cv _ _ (vR none) lv) (fun ls' hv' => K.2 p e R s m args below meth c h0 C hl0 H locs ls' hR hS hv')
  | some a => exact lv_astore_n C.1.1 C.1.2.1 hd rfl hv hn (lset_cv _ _ (vR (some a)) lv) (fun ls' hv' => K.2 p e R s m args below meth c h0 C hl0 H locs ls' hR hS hv')
theorem r_astore {i : Nat} {x : Option Nat} {lv' : List (Nat × Vv)} (hd : decode M.1 pc = .ok (.astore i, 2)) (hn : i < M.2.1) (hl : lset i (vR x) lv = lv') (K : RJ G l M v h' (pc + 2) lv' st h) : RJ G l M v h' pc lv (vR x :: st) h := by
  subst hl
  refine ⟨K.1, fun p e R s m args below meth c h0 C hl0 H locs ls hR hS hv => ?_⟩
  cases x with
  | none => exact lv_astoreN C.1.1 C.1.2.1 hd hv hn (lset_cv _ _ (vR none) lv) (fun ls' hv' => K.2 p e R s m args below meth c h0 C hl0 H locs ls' hR hS hv')
  | some a => exact lv_astore C.1.1 C.1.2.1 hd hv hn (lset_cv _ _ (vR (some a)) lv) (fun ls' hv' => K.2 p e R s m args below meth c h0 C hl0 H locs ls' hR hS hv')
theorem r_iinc {i : Nat} {n : Int} {x y : Int32} {lv' : List (Nat × Vv)} (j : Nat) (hd : decode M.1 pc = .ok (.iinc i n, 3)) (hj : lv[j]? = some (i, vI x)) (hy : x + Int32.ofInt n = y) (hn : i < M.2.1) (hl : lset i (vI y) lv = lv') (K : RJ G l M v h' (pc + 3) lv' st h) : RJ G l M v h' pc lv st h := by
  subst hl
  exact ⟨K.1, fun p e R s m args below meth c h0 C hl0 H locs ls hR hS hv => lv_iinc C.1.1 C.1.2.1 hd hv (cvl_at hj) hy hn (lset_cv _ _ (vI y) lv) (fun ls' hv' => K.2 p e R s m args below meth c h0 C hl0 H locs ls' hR hS hv')⟩
theorem r_iadd {x y : Int32} (hd : decode M.1 pc = .ok (.iadd, 1))  (K : RJ G l M v h' (pc + 1) lv (vI (x + y) :: st) h) : RJ G l M v h' pc lv (vI y :: vI x :: st) h :=
  ⟨K.1, fun p e R s m args below meth c h0 C hl0 H locs ls hR hS hv => lv_iadd C.1.1 C.1.2.1 hd (K.2 p e R s m args below meth c h0 C hl0 H locs ls hR hS hv)⟩
theorem r_isub {x y : Int32} (hd : decode M.1 pc = .ok (.isub, 1))  (K : RJ G l M v h' (pc + 1) lv (vI (x - y) :: st) h) : RJ G l M v h' pc lv (vI y :: vI x :: st) h :=
  ⟨K.1, fun p e R s m args below meth c h0 C hl0 H locs ls hR hS hv => lv_isub C.1.1 C.1.2.1 hd (K.2 p e R s m args below meth c h0 C hl0 H locs ls hR hS hv)⟩
theorem r_imul {x y : Int32} (hd : decode M.1 pc = .ok (.imul, 1))  (K : RJ G l M v h' (pc + 1) lv (vI (x * y) :: st) h) : RJ G l M v h' pc lv (vI y :: vI x :: st) h :=
  ⟨K.1, fun p e R s m args below meth c h0 C hl0 H locs ls hR hS hv => lv_imul C.1.1 C.1.2.1 hd (K.2 p e R s m args below meth c h0 C hl0 H locs ls hR hS hv)⟩
theorem r_iand {x y : Int32} (hd : decode M.1 pc = .ok (.iand, 1))  (K : RJ G l M v h' (pc + 1) lv (vI (x &&& y) :: st) h) : RJ G l M v h' pc lv (vI y :: vI x :: st) h :=
  ⟨K.1, fun p e R s m args below meth c h0 C hl0 H locs ls hR hS hv => lv_iand C.1.1 C.1.2.1 hd (K.2 p e R s m args below meth c h0 C hl0 H locs ls hR hS hv)⟩
theorem r_ior {x y : Int32} (hd : decode M.1 pc = .ok (.ior, 1))  (K : RJ G l M v h' (pc + 1) lv (vI (x ||| y) :: st) h) : RJ G l M v h' pc lv (vI y :: vI x :: st) h :=
  ⟨K.1, fun p e R s m args below meth c h0 C hl0 H locs ls hR hS hv => lv_ior C.1.1 C.1.2.1 hd (K.2 p e R s m args below meth c h0 C hl0 H locs ls hR hS hv)⟩
theorem r_ishl {x y : Int32} (hd : decode M.1 pc = .ok (.ishl, 1))  (K : RJ G l M v h' (pc + 1) lv (vI (x <<< (y &&& 31)) :: st) h) : RJ G l M v h' pc lv (vI y :: vI x :: st) h :=
  ⟨K.1, fun p e R s m args below meth c h0 C hl0 H locs ls hR hS hv => lv_ishl C.1.1 C.1.2.1 hd (K.2 p e R s m args below meth c h0 C hl0 H locs ls hR hS hv)⟩
theorem r_ishr {x y : Int32} (hd : decode M.1 pc = .ok (.ishr, 1))  (K : RJ G l M v h' (pc + 1) lv (vI (x >>> (y &&& 31)) :: st) h) : RJ G l M v h' pc lv (vI y :: vI x :: st) h :=
  ⟨K.1, fun p e R s m args below meth c h0 C hl0 H locs ls hR hS hv => lv_ishr C.1.1 C.1.2.1 hd (K.2 p e R s m args below meth c h0 C hl0 H locs ls hR hS hv)⟩
theorem r_ladd {x y : Int64} (hd : decode M.1 pc = .ok (.ladd, 1))  (K : RJ G l M v h' (pc + 1) lv (vL (x + y) :: st) h) : RJ G l M v h' pc lv (vL y :: vL x :: st) h :=
  ⟨K.1, fun p e R s m args below meth c h0 C hl0 H locs ls hR hS hv => lv_ladd C.1.1 C.1.2.1 hd (K.2 p e R s m args below meth c h0 C hl0 H locs ls hR hS hv)⟩
theorem r_ineg {x : Int32} (hd : decode M.1 pc = .ok (.ineg, 1))  (K : RJ G l M v h' (pc + 1) lv (vI (-x) :: st) h) : RJ G l M v h' pc lv (vI x :: st) h :=
  ⟨K.1, fun p e R s m args below meth c h0 C hl0 H locs ls hR hS hv => lv_ineg C.1.1 C.1.2.1 hd (K.2 p e R s m args below meth c h0 C hl0 H locs ls hR hS hv)⟩
theorem r_lcmp {x y : Int64} (hd : decode M.1 pc = .ok (.lcmp, 1))  (K : RJ G l M v h' (pc + 1) lv (vI (lg_cmp x y) :: st) h) : RJ G l M v h' pc lv (vL y :: vL x :: st) h :=
  ⟨K.1, fun p e R s m args below meth c h0 C hl0 H locs ls hR hS hv => W.lcmp C.1.1 C.1.2.1 hd (K.2 p e R s m args below meth c h0 C hl0 H locs ls hR hS hv)⟩
theorem r_i2l {x : Int32} (hd : decode M.1 pc = .ok (.i2l, 1))  (K : RJ G l M v h' (pc + 1) lv (vL x.toInt64 :: st) h) : RJ G l M v h' pc lv (vI x :: st) h :=
  ⟨K.1, fun p e R s m args below meth c h0 C hl0 H locs ls hR hS hv => lv_i2l C.1.1 C.1.2.1 hd rfl (K.2 p e R s m args below meth c h0 C hl0 H locs ls hR hS hv)⟩
theorem r_l2i {x : Int64} (hd : decode M.1 pc = .ok (.l2i, 1))  (K : RJ G l M v h' (pc + 1) lv (vI x.toInt32 :: st) h) : RJ G l M v h' pc lv (vL x :: st) h :=
  ⟨K.1, fun p e R s m args below meth c h0 C hl0 H locs ls hR hS hv => lv_l2i C.1.1 C.1.2.1 hd rfl (K.2 p e R s m args below meth c h0 C hl0 H locs ls hR hS hv)⟩
theorem r_i2b {x : Int32} (hd : decode M.1 pc = .ok (.i2b, 1))  (K : RJ G l M v h' (pc + 1) lv (vI x.toInt8.toInt32 :: st) h) : RJ G l M v h' pc lv (vI x :: st) h :=
  ⟨K.1, fun p e R s m args below meth c h0 C hl0 H locs ls hR hS hv => lv_i2b C.1.1 C.1.2.1 hd rfl (K.2 p e R s m args below meth c h0 C hl0 H locs ls hR hS hv)⟩
theorem r_i2s {x : Int32} (hd : decode M.1 pc = .ok (.i2s, 1))  (K : RJ G l M v h' (pc + 1) lv (vI x.toInt16.toInt32 :: st) h) : RJ G l M v h' pc lv (vI x :: st) h :=
  ⟨K.1, fun p e R s m args below meth c h0 C hl0 H locs ls hR hS hv => lv_i2s C.1.1 C.1.2.1 hd rfl (K.2 p e R s m args below meth c h0 C hl0 H locs ls hR hS hv)⟩
theorem r_idiv {x y z : Int32} (hd : decode M.1 pc = .ok (.idiv, 1)) (ez : dvI x y = some z) (K : RJ G l M v h' (pc + 1) lv (vI z :: st) h) : RJ G l M v h' pc lv (vI y :: vI x :: st) h := by
  obtain ⟨h1, rfl⟩ := dvI_sp ez
  exact ⟨K.1, fun p e R s m args below meth c h0 C hl0 H locs ls hR hS hv => lv_idiv C.1.1 C.1.2.1 hd h1 (K.2 p e R s m args below meth c h0 C hl0 H locs ls hR hS hv)⟩
theorem r_irem {x y z : Int32} (hd : decode M.1 pc = .ok (.irem, 1)) (ez : rmI x y = some z) (K : RJ G l M v h' (pc + 1) lv (vI z :: st) h) : RJ G l M v h' pc lv (vI y :: vI x :: st) h := by
  obtain ⟨h1, rfl⟩ := rmI_sp ez
  exact ⟨K.1, fun p e R s m args below meth c h0 C hl0 H locs ls hR hS hv => lv_irem C.1.1 C.1.2.1 hd h1 (K.2 p e R s m args below meth c h0 C hl0 H locs ls hR hS hv)⟩
theorem cat_cv {b : Nat} {x : Vv} (h : vW x = false) : (cv b x).category = 1 := by
  match x, h with
  | .inl x, _ => rfl
  | .inr (.inr (.inl none)), _ => rfl
  | .inr (.inr (.inl (some a))), _ => rfl
  | .inr (.inr (.inr a)), _ => rfl
theorem r_dup {x : Vv} (hd : decode M.1 pc = .ok (.dup, 1)) (hx : vW x = false) (K : RJ G l M v h' (pc + 1) lv (x :: x :: st) h) : RJ G l M v h' pc lv (x :: st) h :=
  ⟨K.1, fun p e R s m args below meth c h0 C hl0 H locs ls hR hS hv => lv_dup C.1.1 C.1.2.1 hd (cat_cv hx) (K.2 p e R s m args below meth c h0 C hl0 H locs ls hR hS hv)⟩
theorem r_pop {x : Vv} (hd : decode M.1 pc = .ok (.pop, 1)) (hx : vW x = false) (K : RJ G l M v h' (pc + 1) lv st h) : RJ G l M v h' pc lv (x :: st) h :=
  ⟨K.1, fun p e R s m args below meth c h0 C hl0 H locs ls hR hS hv => lv_pop C.1.1 C.1.2.1 hd (cat_cv hx) (K.2 p e R s m args below meth c h0 C hl0 H locs ls hR hS hv)⟩
theorem r_dup2 {x y : Vv} (hd : decode M.1 pc = .ok (.dup2, 1)) (hx : vW x = false) (hy : vW y = false) (K : RJ G l M v h' (pc + 1) lv (x :: y :: x :: y :: st) h) : RJ G l M v h' pc lv (x :: y :: st) h :=
  ⟨K.1, fun p e R s m args below meth c h0 C hl0 H locs ls hR hS hv => lv_dup2_11 C.1.1 C.1.2.1 hd (cat_cv hx) (cat_cv hy) (K.2 p e R s m args below meth c h0 C hl0 H locs ls hR hS hv)⟩
theorem r_goto {off : Int} {tgt : Nat} (hd : decode M.1 pc = .ok (.goto off, 3)) (ht : (pc : Int) + off = (tgt : Int)) (K : RJ G l M v h' tgt lv st h) : RJ G l M v h' pc lv st h :=
  ⟨K.1, fun p e R s m args below meth c h0 C hl0 H locs ls hR hS hv => lv_goto C.1.1 C.1.2.1 hd ht (K.2 p e R s m args below meth c h0 C hl0 H locs ls hR hS hv)⟩
theorem r_if_eq {x : Int32} {off : Int} {tgt : Nat} (hd : decode M.1 pc = .ok (.ifCond .eq off, 3)) (ht : (pc : Int) + off = (tgt : Int)) (K1 : x = 0 → RJ G l M v h' tgt lv st h) (K2 : ¬ (x = 0) → RJ G l M v h' (pc + 3) lv st h) : RJ G l M v h' pc lv (vI x :: st) h := by
  by_cases q : x = 0
  · exact ⟨(K1 q).1, fun p e R s m args below meth c h0 C hl0 H locs ls hR hS hv => lv_if_eq C.1.1 C.1.2.1 hd ht (fun _ => (K1 q).2 p e R s m args below meth c h0 C hl0 H locs ls hR hS hv) (fun nq => absurd q nq)⟩
  · exact ⟨(K2 q).1, fun p e R s m args below meth c h0 C hl0 H locs ls hR hS hv => lv_if_eq C.1.1 C.1.2.1 hd ht (fun q2 => absurd q2 q) (fun _ => (K2 q).2 p e R s m args below meth c h0 C hl0 H locs ls hR hS hv)⟩
theorem r_icmp_eq {x y : Int32} {off : Int} {tgt : Nat} (hd : decode M.1 pc = .ok (.if_icmp .eq off, 3)) (ht : (pc : Int) + off = (tgt : Int)) (K1 : x = y → RJ G l M v h' tgt lv st h) (K2 : ¬ (x = y) → RJ G l M v h' (pc + 3) lv st h) : RJ G l M v h' pc lv (vI y :: vI x :: st) h := by
  by_cases q : x = y
  · exact ⟨(K1 q).1, fun p e R s m args below meth c h0 C hl0 H locs ls hR hS hv => lv_icmp_eq C.1.1 C.1.2.1 hd ht (fun _ => (K1 q).2 p e R s m args below meth c h0 C hl0 H locs ls hR hS hv) (fun nq => absurd q nq)⟩
  · exact ⟨(K2 q).1, fun p e R s m args below meth c h0 C hl0 H locs ls hR hS hv => lv_icmp_eq C.1.1 C.1.2.1 hd ht (fun q2 => absurd q2 q) (fun _ => (K2 q).2 p e R s m args below meth c h0 C hl0 H locs ls hR hS hv)⟩
theorem r_if_lt {x : Int32} {off : Int} {tgt : Nat} (hd : decode M.1 pc = .ok (.ifCond .lt off, 3)) (ht : (pc : Int) + off = (tgt : Int)) (K1 : x < 0 → RJ G l M v h' tgt lv st h) (K2 : ¬ (x < 0) → RJ G l M v h' (pc + 3) lv st h) : RJ G l M v h' pc lv (vI x :: st) h := by
  by_cases q : x < 0
  · exact ⟨(K1 q).1, fun p e R s m args below meth c h0 C hl0 H locs ls hR hS hv => lv_if_lt C.1.1 C.1.2.1 hd ht (fun _ => (K1 q).2 p e R s m args below meth c h0 C hl0 H locs ls hR hS hv) (fun nq => absurd q nq)⟩
  · exact ⟨(K2 q).1, fun p e R s m args below meth c h0 C hl0 H locs ls hR hS hv => lv_if_lt C.1.1 C.1.2.1 hd ht (fun q2 => absurd q2 q) (fun _ => (K2 q).2 p e R s m args below meth c h0 C hl0 H locs ls hR hS hv)⟩
theorem r_icmp_lt {x y : Int32} {off : Int} {tgt : Nat} (hd : decode M.1 pc = .ok (.if_icmp .lt off, 3)) (ht : (pc : Int) + off = (tgt : Int)) (K1 : x < y → RJ G l M v h' tgt lv st h) (K2 : ¬ (x < y) → RJ G l M v h' (pc + 3) lv st h) : RJ G l M v h' pc lv (vI y :: vI x :: st) h := by
  by_cases q : x < y
  · exact ⟨(K1 q).1, fun p e R s m args below meth c h0 C hl0 H locs ls hR hS hv => lv_icmp_lt C.1.1 C.1.2.1 hd ht (fun _ => (K1 q).2 p e R s m args below meth c h0 C hl0 H locs ls hR hS hv) (fun nq => absurd q nq)⟩
  · exact ⟨(K2 q).1, fun p e R s m args below meth c h0 C hl0 H locs ls hR hS hv => lv_icmp_lt C.1.1 C.1.2.1 hd ht (fun q2 => absurd q2 q) (fun _ => (K2 q).2 p e R s m args below meth c h0 C hl0 H locs ls hR hS hv)⟩
theorem r_if_ge {x : Int32} {off : Int} {tgt : Nat} (hd : decode M.1 pc = .ok (.ifCond .ge off, 3)) (ht : (pc : Int) + off = (tgt : Int)) (K1 : 0 ≤ x → RJ G l M v h' tgt lv st h) (K2 : ¬ (0 ≤ x) → RJ G l M v h' (pc + 3) lv st h) : RJ G l M v h' pc lv (vI x :: st) h := by
  by_cases q : 0 ≤ x
  · exact ⟨(K1 q).1, fun p e R s m args below meth c h0 C hl0 H locs ls hR hS hv => lv_if_ge C.1.1 C.1.2.1 hd ht (fun _ => (K1 q).2 p e R s m args below meth c h0 C hl0 H locs ls hR hS hv) (fun nq => absurd q nq)⟩
  · exact ⟨(K2 q).1, fun p e R s m args below meth c h0 C hl0 H locs ls hR hS hv => lv_if_ge C.1.1 C.1.2.1 hd ht (fun q2 => absurd q2 q) (fun _ => (K2 q).2 p e R s m args below meth c h0 C hl0 H locs ls hR hS hv)⟩
theorem r_icmp_ge {x y : Int32} {off : Int} {tgt : Nat} (hd : decode M.1 pc = .ok (.if_icmp .ge off, 3)) (ht : (pc : Int) + off = (tgt : Int)) (K1 : y ≤ x → RJ G l M v h' tgt lv st h) (K2 : ¬ (y ≤ x) → RJ G l M v h' (pc + 3) lv st h) : RJ G l M v h' pc lv (vI y :: vI x :: st) h := by
  by_cases q : y ≤ x
  · exact ⟨(K1 q).1, fun p e R s m args below meth c h0 C hl0 H locs ls hR hS hv => lv_icmp_ge C.1.1 C.1.2.1 hd ht (fun _ => (K1 q).2 p e R s m args below meth c h0 C hl0 H locs ls hR hS hv) (fun nq => absurd q nq)⟩
  · exact ⟨(K2 q).1, fun p e R s m args below meth c h0 C hl0 H locs ls hR hS hv => lv_icmp_ge C.1.1 C.1.2.1 hd ht (fun q2 => absurd q2 q) (fun _ => (K2 q).2 p e R s m args below meth c h0 C hl0 H locs ls hR hS hv)⟩
theorem r_if_gt {x : Int32} {off : Int} {tgt : Nat} (hd : decode M.1 pc = .ok (.ifCond .gt off, 3)) (ht : (pc : Int) + off = (tgt : Int)) (K1 : 0 < x → RJ G l M v h' tgt lv st h) (K2 : ¬ (0 < x) → RJ G l M v h' (pc + 3) lv st h) : RJ G l M v h' pc lv (vI x :: st) h := by
  by_cases q : 0 < x
  · exact ⟨(K1 q).1, fun p e R s m args below meth c h0 C hl0 H locs ls hR hS hv => lv_if_gt C.1.1 C.1.2.1 hd ht (fun _ => (K1 q).2 p e R s m args below meth c h0 C hl0 H locs ls hR hS hv) (fun nq => absurd q nq)⟩
  · exact ⟨(K2 q).1, fun p e R s m args below meth c h0 C hl0 H locs ls hR hS hv => lv_if_gt C.1.1 C.1.2.1 hd ht (fun q2 => absurd q2 q) (fun _ => (K2 q).2 p e R s m args below meth c h0 C hl0 H locs ls hR hS hv)⟩
theorem r_icmp_gt {x y : Int32} {off : Int} {tgt : Nat} (hd : decode M.1 pc = .ok (.if_icmp .gt off, 3)) (ht : (pc : Int) + off = (tgt : Int)) (K1 : y < x → RJ G l M v h' tgt lv st h) (K2 : ¬ (y < x) → RJ G l M v h' (pc + 3) lv st h) : RJ G l M v h' pc lv (vI y :: vI x :: st) h := by
  by_cases q : y < x
  · exact ⟨(K1 q).1, fun p e R s m args below meth c h0 C hl0 H locs ls hR hS hv => lv_icmp_gt C.1.1 C.1.2.1 hd ht (fun _ => (K1 q).2 p e R s m args below meth c h0 C hl0 H locs ls hR hS hv) (fun nq => absurd q nq)⟩
  · exact ⟨(K2 q).1, fun p e R s m args below meth c h0 C hl0 H locs ls hR hS hv => lv_icmp_gt C.1.1 C.1.2.1 hd ht (fun q2 => absurd q2 q) (fun _ => (K2 q).2 p e R s m args below meth c h0 C hl0 H locs ls hR hS hv)⟩
theorem r_if_le {x : Int32} {off : Int} {tgt : Nat} (hd : decode M.1 pc = .ok (.ifCond .le off, 3)) (ht : (pc : Int) + off = (tgt : Int)) (K1 : x ≤ 0 → RJ G l M v h' tgt lv st h) (K2 : ¬ (x ≤ 0) → RJ G l M v h' (pc + 3) lv st h) : RJ G l M v h' pc lv (vI x :: st) h := by
  by_cases q : x ≤ 0
  · exact ⟨(K1 q).1, fun p e R s m args below meth c h0 C hl0 H locs ls hR hS hv => lv_if_le C.1.1 C.1.2.1 hd ht (fun _ => (K1 q).2 p e R s m args below meth c h0 C hl0 H locs ls hR hS hv) (fun nq => absurd q nq)⟩
  · exact ⟨(K2 q).1, fun p e R s m args below meth c h0 C hl0 H locs ls hR hS hv => lv_if_le C.1.1 C.1.2.1 hd ht (fun q2 => absurd q2 q) (fun _ => (K2 q).2 p e R s m args below meth c h0 C hl0 H locs ls hR hS hv)⟩
theorem r_icmp_le {x y : Int32} {off : Int} {tgt : Nat} (hd : decode M.1 pc = .ok (.if_icmp .le off, 3)) (ht : (pc : Int) + off = (tgt : Int)) (K1 : x ≤ y → RJ G l M v h' tgt lv st h) (K2 : ¬ (x ≤ y) → RJ G l M v h' (pc + 3) lv st h) : RJ G l M v h' pc lv (vI y :: vI x :: st) h := by
  by_cases q : x ≤ y
  · exact ⟨(K1 q).1, fun p e R s m args below meth c h0 C hl0 H locs ls hR hS hv => lv_icmp_le C.1.1 C.1.2.1 hd ht (fun _ => (K1 q).2 p e R s m args below meth c h0 C hl0 H locs ls hR hS hv) (fun nq => absurd q nq)⟩
  · exact ⟨(K2 q).1, fun p e R s m args below meth c h0 C hl0 H locs ls hR hS hv => lv_icmp_le C.1.1 C.1.2.1 hd ht (fun q2 => absurd q2 q) (fun _ => (K2 q).2 p e R s m args below meth c h0 C hl0 H locs ls hR hS hv)⟩
theorem r_if_ne {x : Int32} {off : Int} {tgt : Nat} (hd : decode M.1 pc = .ok (.ifCond .ne off, 3)) (ht : (pc : Int) + off = (tgt : Int)) (K1 : x = 0 → RJ G l M v h' (pc + 3) lv st h) (K2 : ¬ (x = 0) → RJ G l M v h' tgt lv st h) : RJ G l M v h' pc lv (vI x :: st) h := by
  by_cases q : x = 0
  · exact ⟨(K1 q).1, fun p e R s m args below meth c h0 C hl0 H locs ls hR hS hv => lv_if_ne C.1.1 C.1.2.1 hd ht (fun q2 => absurd q q2) (fun _ => (K1 q).2 p e R s m args below meth c h0 C hl0 H locs ls hR hS hv)⟩
  · exact ⟨(K2 q).1, fun p e R s m args below meth c h0 C hl0 H locs ls hR hS hv => lv_if_ne C.1.1 C.1.2.1 hd ht (fun _ => (K2 q).2 p e R s m args below meth c h0 C hl0 H locs ls hR hS hv) (fun q2 => absurd q2 q)⟩
theorem r_icmp_ne {x y : Int32} {off : Int} {tgt : Nat} (hd : decode M.1 pc = .ok (.if_icmp .ne off, 3)) (ht : (pc : Int) + off = (tgt : Int)) (K1 : x = y → RJ G l M v h' (pc + 3) lv st h) (K2 : ¬ (x = y) → RJ G l M v h' tgt lv st h) : RJ G l M v h' pc lv (vI y :: vI x :: st) h := by
  by_cases q : x = y
  · exact ⟨(K1 q).1, fun p e R s m args below meth c h0 C hl0 H locs ls hR hS hv => lv_icmp_ne C.1.1 C.1.2.1 hd ht (fun q2 => absurd q q2) (fun _ => (K1 q).2 p e R s m args below meth c h0 C hl0 H locs ls hR hS hv)⟩
  · exact ⟨(K2 q).1, fun p e R s m args below meth c h0 C hl0 H locs ls hR hS hv => lv_icmp_ne C.1.1 C.1.2.1 hd ht (fun _ => (K2 q).2 p e R s m args below meth c h0 C hl0 H locs ls hR hS hv) (fun q2 => absurd q2 q)⟩
theorem r_ifnull {x : Option Nat} {off : Int} {tgt : Nat} (hd : decode M.1 pc = .ok (.ifnull off, 3)) (ht : (pc : Int) + off = (tgt : Int)) (K1 : x = none → RJ G l M v h' tgt lv st h) (K2 : ¬ x = none → RJ G l M v h' (pc + 3) lv st h) : RJ G l M v h' pc lv (vR x :: st) h := by
  cases x with
  | none =>
    have K := K1 rfl
    exact ⟨K.1, fun p e R s m args below meth c h0 C hl0 H locs ls hR hS hv => lv_ifnullN C.1.1 C.1.2.1 hd ht (K.2 p e R s m args below meth c h0 C hl0 H locs ls hR hS hv)⟩
  | some a =>
    have K := K2 (fun q => by cases q)
    exact ⟨K.1, fun p e R s m args below meth c h0 C hl0 H locs ls hR hS hv => lv_ifnull C.1.1 C.1.2.1 hd (K.2 p e R s m args below meth c h0 C hl0 H locs ls hR hS hv)⟩
theorem r_ifnonnull {x : Option Nat} {off : Int} {tgt : Nat} (hd : decode M.1 pc = .ok (.ifnonnull off, 3)) (ht : (pc : Int) + off = (tgt : Int)) (K1 : x = none → RJ G l M v h' (pc + 3) lv st h) (K2 : ¬ x = none → RJ G l M v h' tgt lv st h) : RJ G l M v h' pc lv (vR x :: st) h := by
  cases x with
  | none =>
    have K := K1 rfl
    exact ⟨K.1, fun p e R s m args below meth c h0 C hl0 H locs ls hR hS hv => lv_ifnonnullN C.1.1 C.1.2.1 hd (K.2 p e R s m args below meth c h0 C hl0 H locs ls hR hS hv)⟩
  | some a =>
    have K := K2 (fun q => by cases q)
    exact ⟨K.1, fun p e R s m args below meth c h0 C hl0 H locs ls hR hS hv => lv_ifnonnull C.1.1 C.1.2.1 hd ht (K.2 p e R s m args below meth c h0 C hl0 H locs ls hR hS hv)⟩
theorem r_lookup {dflt : Int} {ps : Array (Int × Int)} {len : Nat} {x : Int32} {off : Int} {tgt : Nat} (hd : decode M.1 pc = .ok (.lookupswitch dflt ps, len)) (hp : (ps.toList.zip (ps.toList.drop 1)).all (fun (a, next) => a.1 < next.1) = true) (ho : Op.lookupswitch.offset ps.toList dflt x.toInt = off) (ht : (pc : Int) + off = (tgt : Int)) (K : RJ G l M v h' tgt lv st h) : RJ G l M v h' pc lv (vI x :: st) h :=
  ⟨K.1, fun p e R s m args below meth c h0 C hl0 H locs ls hR hS hv => lv_lookup C.1.1 C.1.2.1 hd hp ho ht (K.2 p e R s m args below meth c h0 C hl0 H locs ls hR hS hv)⟩
theorem r_tabOut {dflt lo hi : Int} {offs : Array Int} {len : Nat} {x : Int32} {tgt : Nat} (hd : decode M.1 pc = .ok (.tableswitch dflt lo hi offs, len)) (hx : x.toInt < lo ∨ hi < x.toInt) (ht : (pc : Int) + dflt = (tgt : Int)) (K : RJ G l M v h' tgt lv st h) : RJ G l M v h' pc lv (vI x :: st) h :=
  ⟨K.1, fun p e R s m args below meth c h0 C hl0 H locs ls hR hS hv => lv_tableOut C.1.1 C.1.2.1 hd hx ht (K.2 p e R s m args below meth c h0 C hl0 H locs ls hR hS hv)⟩
theorem r_tabIn {dflt lo hi : Int} {offs : Array Int} {len : Nat} {x : Int32} {off : Int} {tgt : Nat} (hd : decode M.1 pc = .ok (.tableswitch dflt lo hi offs, len)) (h1 : ¬ x.toInt < lo) (h2 : ¬ hi < x.toInt) (ho : offs[(x.toInt - lo).toNat]? = some off) (ht : (pc : Int) + off = (tgt : Int)) (K : RJ G l M v h' tgt lv st h) : RJ G l M v h' pc lv (vI x :: st) h :=
  ⟨K.1, fun p e R s m args below meth c h0 C hl0 H locs ls hR hS hv => lv_tableIn C.1.1 C.1.2.1 hd h1 h2 ho ht (K.2 p e R s m args below meth c h0 C hl0 H locs ls hR hS hv)⟩
end RJR
end
section
/-! Rows of the heap: fields, rows of numbers, what is made; calls; ends. -/
theorem gd_w {w : Cond} (h : w ∈ wsK) : (w.onTables && w.keeps) = true ∨ ∃ ty, w = .arrayClass ty := good_of_word (wsK_gd w h)
theorem gIn {ws : List Cond} (h : ∀ w ∈ ws, w ∈ wsK) : GoodIn wsK ws := fun w hw => ⟨h w hw, gd_w (h w hw)⟩
theorem P1 {D : va_G} {cl : List vw_C} {q : Nat × va_E} {H : Heap} (h : va_at D cl q H) : va_P D cl [q] H := by
  intro k x hk
  match k, hk with
  | 0, hk => cases hk; exact h
  | k + 1, hk => simp at hk
/-- the class table's row of a field, for some classes -/
def FL (cs : List Nat) (k : Nat) (O nm ds : String) (fin : Bool) : Prop :=
  ∀ ci ∈ cs, ∃ (C : String) (T : u_T) (N : Nat) (ty : Nat → FieldType), vwCl[ci]? = some (C, T, N) ∧ ((∀ w ∈ u_ws C T N, w ∈ wsK) ∧ (T k = (O, nm, ds, fin) ∧ (k < N ∧ ((∀ k, k < N → parseFieldDescriptor (T k).2.2.1 = some (ty k)) ∧ (∀ a, a < N → ∀ b, b < N → a ≠ b → (T a).2.1 ≠ (T b).2.1)))))
theorem FL.one {ci k : Nat} {O nm ds : String} {fin : Bool} {C : String} {T : u_T} {N : Nat} (ty : Nat → FieldType) (h1 : vwCl[ci]? = some (C, T, N)) (h2 : ∀ w ∈ u_ws C T N, w ∈ wsK) (h3 : T k = (O, nm, ds, fin)) (h4 : k < N) (h5 : ∀ k, k < N → parseFieldDescriptor (T k).2.2.1 = some (ty k)) (h6 : ∀ a, a < N → ∀ b, b < N → a ≠ b → (T a).2.1 ≠ (T b).2.1) : FL [ci] k O nm ds fin := by
  intro c hc
  rw [List.mem_singleton.mp hc]
  exact ⟨C, T, N, ty, h1, h2, h3, h4, h5, h6⟩
theorem FL.cons {ci k : Nat} {cs : List Nat} {O nm ds : String} {fin : Bool} (h1 : FL [ci] k O nm ds fin) (h2 : FL cs k O nm ds fin) : FL (ci :: cs) k O nm ds fin := by
  intro c hc
  rcases List.mem_cons.mp hc with q | q
  · exact h1 c (by rw [q]; exact List.mem_singleton.mpr rfl)
  · exact h2 c q
section RJH
variable {G : Gx} {l : Launch} {M : Mx} {v : Option Vv} {h' : Hp} {pc : Nat} {lv : List (Nat × Vv)} {st : List Vv} {h : Hp}
theorem RJ.same {h1 : Hp} (K : RJ G l M v h' pc lv st h1) (e1 : h1.length = h.length) (e2 : sl h1 = sl h) : Le h h' ∧ ∀ (p : Program) (e : Env) (R : Room) (s : State) (m : MethodId) (args : Array Value) (below : List Frame) (meth : Method) (c : Code) (h0 : Hp), CX G p R s m args meth c M h0 h' → Le h0 h →
    ∀ (H : Heap) (locs : List Loc) (ls : Array Slot), Rep G h1 H → va_S (fun q => G.2.1 ≤ q) s.heap H locs → lv_has ls M.2.1 (cvl G.2.1 lv) →
      W p l e R s m args below meth c H locs (h.length - h0.length) (sl h - sl h0) (MQ below (PQ G v h') args s (h'.length - h0.length) (sl h' - sl h0) (fun q => G.2.1 ≤ q)) (F0 m pc ls (st.map (cv G.2.1))) := by
  refine ⟨⟨by rw [← e1]; exact K.1.1, by rw [← e2]; exact K.1.2⟩, fun p e R s m args below meth c h0 C hl0 H locs ls hR hS hv => ?_⟩
  have K2 := K.2 p e R s m args below meth c h0 C ⟨by rw [e1]; exact hl0.1, by rw [e2]; exact hl0.2⟩ H locs ls hR hS hv
  rw [← e1, ← e2]
  exact K2
theorem obj_at {H : Heap} {a ci : Nat} {fs : List Vv} (hR : Rep G h H) (he : h[a]? = some (eO ci fs)) : va_at G.1 vwCl (G.2.1 + a, .inr (ci, fs.map (cv G.2.1))) H := hR.2 a _ he
theorem int_at {H : Heap} {a n : Nat} {f : Nat → Int32} (hR : Rep G h H) (he : h[a]? = some (eI n f)) : va_at G.1 vwCl (G.2.1 + a, .inl (G.2.2.1, n, .inl f)) H := hR.2 a _ he
theorem lng_at {H : Heap} {a n : Nat} {f : Nat → Int64} (hR : Rep G h H) (he : h[a]? = some (eL n f)) : va_at G.1 vwCl (G.2.1 + a, .inl (G.2.2.2.1, n, .inr (.inl f))) H := hR.2 a _ he
theorem rfs_at {H : Heap} {a n : Nat} {f : Nat → Option Nat} (hR : Rep G h H) (he : h[a]? = some (eR n f)) : va_at G.1 vwCl (G.2.1 + a, .inl (G.2.2.2.2.1, n, .inr (.inr (.inr (.inr (cE G.2.1 f)))))) H := hR.2 a _ he
theorem rf_cv (b : Nat) (f : Nat → Option Nat) (j : Nat) : va_rf (cE b f j) = cv b (vR (f j)) := by
  unfold cE
  cases f j <;> rfl
theorem r_get {r : Option Nat} {cs : List Nat} {k idx : Nat} {ref O nm ds : String} {fin : Bool} {x : Vv} (hd : decode M.1 pc = .ok (.getfield idx, 3)) (hF : FL cs k O nm ds fin) (hl : Cond.fieldLink M.2.2.1 idx ref nm ds ∈ wsK) (hs : ref = O ∨ Cond.sameField ref O nm ds ∈ wsK) (e : gF h r cs k = some x) (K : RJ G l M v h' (pc + 3) lv (x :: st) h) : RJ G l M v h' pc lv (vR r :: st) h := by
  obtain ⟨a, ci, fs, rfl, he, hc, hk⟩ := gF_sp e
  obtain ⟨C1, T, N, ty, f1, f2, f3, f4, f5, f6⟩ := hF ci hc
  refine ⟨K.1, fun p e R s m args below meth c h0 C hl0 H locs ls hR hS hv => ?_⟩
  have K2 := K.2 p e R s m args below meth c h0 C hl0 H locs ls hR hS hv
  have e1 : (T k).1 = O := by rw [f3]
  have e2 : (T k).2.1 = nm := by rw [f3]
  have e3 : (T k).2.2.1 = ds := by rw [f3]
  subst e1; subst e2; subst e3
  refine va_get (ref := ref) C.1.1 C.1.2.1 C.1.2.2.2.2 f2 C.1.2.2.2.1 C.2.2.1.1 (P1 (obj_at hR he)) 0 rfl f1 k f4 (C.1.2.2.2.2 _ hl) ?_ (v := cv G.2.1 x) (by rw [List.getElem?_map, hk]; rfl) hd K2
  rcases hs with hs | hs
  · intro y hy
    rw [hs]
    exact hy
  · exact fun y hy => u_same (C.1.2.2.2.2 _ hs) y hy
theorem r_getN {r : Option Nat} {cs : List Nat} {k idx : Nat} {O nm ds : String} {fin : Bool} {x : Vv} (hd : decode M.1 pc = .ok (.getfield idx, 3)) (hF : FL cs k O nm ds fin) (hl : (M.2.2.1, idx, O, nm, ds) ∈ nstF) (e : gF h r cs k = some x) (K : RJ G l M v h' (pc + 3) lv (x :: st) h) : RJ G l M v h' pc lv (vR r :: st) h := by
  obtain ⟨a, ci, fs, rfl, he, hc, hk⟩ := gF_sp e
  obtain ⟨C1, T, N, ty, f1, f2, f3, f4, f5, f6⟩ := hF ci hc
  refine ⟨K.1, fun p e R s m args below meth c h0 C hl0 H locs ls hR hS hv => ?_⟩
  have K2 := K.2 p e R s m args below meth c h0 C hl0 H locs ls hR hS hv
  have e1 : (T k).1 = O := by rw [f3]
  have e2 : (T k).2.1 = nm := by rw [f3]
  have e3 : (T k).2.2.1 = ds := by rw [f3]
  subst e1; subst e2; subst e3
  exact va_getN (ref := (T k).1) (host := n_host) C.1.1 C.1.2.1 C.1.2.2.2.2 f2 C.1.2.2.2.1 C.2.2.1.1 (P1 (obj_at hR he)) 0 rfl f1 k f4 (va_Nw.use rfl (C.2.2.1.2.1.2 _ hl)) (fun _ q => q) (v := cv G.2.1 x) (by rw [List.getElem?_map, hk]; rfl) hd K2
/-- what a field of a type may hold -/
def FitV (ty : FieldType) (x : Vv) : Prop := ∀ b, narrow ty (cv b x) = cv b x ∧ fits ty (cv b x) = true
theorem fit_int (x : Int32) : FitV .int (vI x) := fun _ => ⟨rfl, rfl⟩
theorem fit_bool {x : Int32} (hx : x = 0 ∨ x = 1) : FitV .boolean (vI x) := fun _ => by
  rcases hx with rfl | rfl
  · exact ⟨(by decide +kernel : narrow .boolean (.int 0) = .int 0), (by decide +kernel : fits .boolean (.int 0) = true)⟩
  · exact ⟨(by decide +kernel : narrow .boolean (.int 1) = .int 1), (by decide +kernel : fits .boolean (.int 1) = true)⟩
theorem fit_ref (C : String) (r : Option Nat) : FitV (.object C) (vR r) := fun b => by
  cases r with
  | none => exact ⟨rfl, rfl⟩
  | some a => exact ⟨rfl, rfl⟩
theorem fit_arr (t : FieldType) (r : Option Nat) : FitV (.array t) (vR r) := fun b => by
  cases r with
  | none => exact ⟨rfl, rfl⟩
  | some a => exact ⟨rfl, rfl⟩

theorem r_put {r : Option Nat} {cs : List Nat} {k idx : Nat} {ref O nm ds : String} {x : Vv} {h1 : Hp} {ty : FieldType} (hd : decode M.1 pc = .ok (.putfield idx, 3)) (hF : FL cs k O nm ds false) (hl : Cond.fieldLink M.2.2.1 idx ref nm ds ∈ wsK) (hs : ref = O ∨ Cond.sameField ref O nm ds ∈ wsK) (hp : parseFieldDescriptor ds = some ty) (hfit : FitV ty x) (e : pF h r cs k x = some h1) (K : RJ G l M v h' (pc + 3) lv st h1) : RJ G l M v h' pc lv (x :: vR r :: st) h := by
  obtain ⟨a, ci, fs, rfl, he, hc, hk, rfl⟩ := pF_sp e
  obtain ⟨C1, T, N, ty0, f1, f2, f3, f4, f5, f6⟩ := hF ci hc
  obtain ⟨kle, K2⟩ := K.same (h := h) (by simp) (sl_set h a _ _ he (by simp [en_sz]))
  refine ⟨kle, fun p e R s m args below meth c h0 C hl0 H locs ls hR hS hv => ?_⟩
  have hts := C.1.2.2.2.2
  have hK := C.2.2.1.1
  have hap := va_apart (own := M.2.2.1) hts f2 ty0 f5 f6 hK f1
  obtain ⟨r, g1, cell, q1, q2, q3, q4⟩ := obj_at hR he
  have hr : r = (C1, T, N) := Option.some.inj (g1.symm.trans f1)
  subst hr
  obtain ⟨hSl, hfc, kC, hkC, hkind⟩ := hK.1 ci _ f1
  obtain ⟨cf, kf, fi, fd, hi, hsl⟩ := hSl k f4
  have hlay := hts _ (f2 _ (u_in_lay f4))
  unfold u_lay at hlay
  rw [if_neg (by rw [f3]; exact Bool.false_ne_true)] at hlay
  have hst := (u_facts hfc hkC (u_lays hts f2 f4) hi).1
  have e1 : (T k).1 = O := by rw [f3]
  have e2 : (T k).2.1 = nm := by rw [f3]
  have e3 : (T k).2.2.1 = ds := by rw [f3]
  subst e1; subst e2; subst e3
  have hsm : ∀ y, s.fieldFound? (T k).1 (T k).2.1 (T k).2.2.1 = some y → s.fieldFound? ref (T k).2.1 (T k).2.2.1 = some y := by
    rcases hs with hs | hs
    · intro y hy
      rw [hs]
      exact hy
    · exact fun y hy => u_same (C.1.2.2.2.2 _ hs) y hy
  have h6 := u_store hfc hkC hkind hlay hi hp (hfit G.2.1).1 (hfit G.2.1).2
  refine W.putK C.1.1 C.1.2.1 (f := fd) ⟨C.1.2.2.2.1, hts _ hl, ⟨_, _, _, hsm _ hi⟩, hst⟩ (by rw [q2]; exact h6) q1 q3 (by rw [hsl]; exact k2_hasslot (q4 k f4)) rfl rfl hd fun H' z1 z2 z3 => ?_
  rw [hsl] at z1 ⊢
  refine K2 p e R s m args below meth c h0 C hl0 H' _ ls (hR.set z2 z3 ?_) (hS.put z2 z3 (Nat.le_add_right _ _)) hv
  refine ⟨_, f1, ?_⟩
  have hV := t_OB.to (V := updV (vp_V (fs.map (cv G.2.1))) k (cv G.2.1 x)) (V' := vp_V ((fs.map (cv G.2.1)).set k (cv G.2.1 x))) ⟨_, z1, q2, q3, t_set q4 hap f4 (cv G.2.1 x)⟩ (fun j _ => vp_updV_set (by rw [List.length_map]; exact hk) (cv G.2.1 x) j)
  rw [← List.map_set] at hV
  exact hV

theorem r_putF {r : Option Nat} {cs : List Nat} {k idx : Nat} {ref O nm ds : String} {x : Vv} {h1 : Hp} {ty : FieldType} (hd : decode M.1 pc = .ok (.putfield idx, 3)) (hF : FL cs k O nm ds true) (hl : Cond.fieldLink M.2.2.1 idx ref nm ds ∈ wsK) (hs : ref = O ∨ Cond.sameField ref O nm ds ∈ wsK) (hct : M.2.2.2.1 = true) (hO : O = M.2.2.1) (hp : parseFieldDescriptor ds = some ty) (hfit : FitV ty x) (e : pF h r cs k x = some h1) (K : RJ G l M v h' (pc + 3) lv st h1) : RJ G l M v h' pc lv (x :: vR r :: st) h := by
  obtain ⟨a, ci, fs, rfl, he, hc, hk, rfl⟩ := pF_sp e
  obtain ⟨C1, T, N, ty0, f1, f2, f3, f4, f5, f6⟩ := hF ci hc
  obtain ⟨kle, K2⟩ := K.same (h := h) (by simp) (sl_set h a _ _ he (by simp [en_sz]))
  refine ⟨kle, fun p e R s m args below meth c h0 C hl0 H locs ls hR hS hv => ?_⟩
  have hts := C.1.2.2.2.2
  have hK := C.2.2.1.1
  have hap := va_apart (own := M.2.2.1) hts f2 ty0 f5 f6 hK f1
  obtain ⟨r, g1, cell, q1, q2, q3, q4⟩ := obj_at hR he
  have hr : r = (C1, T, N) := Option.some.inj (g1.symm.trans f1)
  subst hr
  obtain ⟨hSl, hfc, kC, hkC, hkind⟩ := hK.1 ci _ f1
  obtain ⟨cf, kf, fi, fd, hi, hsl⟩ := hSl k f4
  have hlay := hts _ (f2 _ (u_in_lay f4))
  unfold u_lay at hlay
  rw [if_pos (by rw [f3])] at hlay
  have hst := (u_facts hfc hkC (u_lays hts f2 f4) hi).1
  have e1 : (T k).1 = O := by rw [f3]
  have e2 : (T k).2.1 = nm := by rw [f3]
  have e3 : (T k).2.2.1 = ds := by rw [f3]
  subst e1; subst e2; subst e3
  have hsm : ∀ y, s.fieldFound? (T k).1 (T k).2.1 (T k).2.2.1 = some y → s.fieldFound? ref (T k).2.1 (T k).2.2.1 = some y := by
    rcases hs with hs | hs
    · intro y hy
      rw [hs]
      exact hy
    · exact fun y hy => u_same (C.1.2.2.2.2 _ hs) y hy
  have hcf : m.cls = cf := by
    obtain ⟨_, _, c', _, _, _, -, -, hf', -, -, -, hown2, -⟩ := Cond.laysFinal_spec hlay
    have e1 : c' = cf := by have := hi.symm.trans hf'; simp at this; exact this.1.symm
    rw [hO] at hown2
    rw [← e1]; exact Option.some.inj (C.1.2.2.2.1.symm.trans hown2)
  have h6 := u_fits hfc hkC hkind (Or.inr hlay) hi hp (hfit G.2.1).1 (hfit G.2.1).2
  refine W.putFinK C.1.1 C.1.2.1 C.1.2.2.2.1 (hts _ hl) (hsm _ hi) hst hcf (C.2.1.2.2 hct) (by rw [q2]; exact h6) q1 q3 (by rw [hsl]; exact k2_hasslot (q4 k f4)) rfl rfl hd fun H' z1 z2 z3 => ?_
  rw [hsl] at z1 ⊢
  refine K2 p e R s m args below meth c h0 C hl0 H' _ ls (hR.set z2 z3 ?_) (hS.put z2 z3 (Nat.le_add_right _ _)) hv
  refine ⟨_, f1, ?_⟩
  have hV := t_OB.to (V := updV (vp_V (fs.map (cv G.2.1))) k (cv G.2.1 x)) (V' := vp_V ((fs.map (cv G.2.1)).set k (cv G.2.1 x))) ⟨_, z1, q2, q3, t_set q4 hap f4 (cv G.2.1 x)⟩ (fun j _ => vp_updV_set (by rw [List.length_map]; exact hk) (cv G.2.1 x) j)
  rw [← List.map_set] at hV
  exact hV

theorem r_putN {r : Option Nat} {cs : List Nat} {k idx : Nat} {ref O nm ds : String} {x : Vv} {h1 : Hp} {ty : FieldType} (hd : decode M.1 pc = .ok (.putfield idx, 3)) (hF : FL cs k O nm ds false) (hl : (M.2.2.1, idx, O, nm, ds) ∈ nstF) (hp : parseFieldDescriptor ds = some ty) (hfit : FitV ty x) (e : pF h r cs k x = some h1) (K : RJ G l M v h' (pc + 3) lv st h1) : RJ G l M v h' pc lv (x :: vR r :: st) h := by
  obtain ⟨a, ci, fs, rfl, he, hc, hk, rfl⟩ := pF_sp e
  obtain ⟨C1, T, N, ty0, f1, f2, f3, f4, f5, f6⟩ := hF ci hc
  obtain ⟨kle, K2⟩ := K.same (h := h) (by simp) (sl_set h a _ _ he (by simp [en_sz]))
  refine ⟨kle, fun p e R s m args below meth c h0 C hl0 H locs ls hR hS hv => ?_⟩
  have hts := C.1.2.2.2.2
  have hK := C.2.2.1.1
  have hap := va_apart (own := M.2.2.1) hts f2 ty0 f5 f6 hK f1
  obtain ⟨r, g1, cell, q1, q2, q3, q4⟩ := obj_at hR he
  have hr : r = (C1, T, N) := Option.some.inj (g1.symm.trans f1)
  subst hr
  obtain ⟨hSl, hfc, kC, hkC, hkind⟩ := hK.1 ci _ f1
  obtain ⟨cf, kf, fi, fd, hi, hsl⟩ := hSl k f4
  have hlay := hts _ (f2 _ (u_in_lay f4))
  unfold u_lay at hlay
  rw [if_neg (by rw [f3]; exact Bool.false_ne_true)] at hlay
  have hst := (u_facts hfc hkC (u_lays hts f2 f4) hi).1
  have e1 : (T k).1 = O := by rw [f3]
  have e2 : (T k).2.1 = nm := by rw [f3]
  have e3 : (T k).2.2.1 = ds := by rw [f3]
  subst e1; subst e2; subst e3
  have h6 := u_store hfc hkC hkind hlay hi hp (hfit G.2.1).1 (hfit G.2.1).2
  refine va_WputK (host := n_host) C.1.1 C.1.2.1 (f := fd) C.1.2.2.2.1 (va_Nw.use rfl (C.2.2.1.2.1.2 _ hl)) hi hst (by rw [q2]; exact h6) q1 q3 (by rw [hsl]; exact k2_hasslot (q4 k f4)) rfl rfl hd fun H' z1 z2 z3 => ?_
  rw [hsl] at z1 ⊢
  refine K2 p e R s m args below meth c h0 C hl0 H' _ ls (hR.set z2 z3 ?_) (hS.put z2 z3 (Nat.le_add_right _ _)) hv
  refine ⟨_, f1, ?_⟩
  have hV := t_OB.to (V := updV (vp_V (fs.map (cv G.2.1))) k (cv G.2.1 x)) (V' := vp_V ((fs.map (cv G.2.1)).set k (cv G.2.1 x))) ⟨_, z1, q2, q3, t_set q4 hap f4 (cv G.2.1 x)⟩ (fun j _ => vp_updV_set (by rw [List.length_map]; exact hk) (cv G.2.1 x) j)
  rw [← List.map_set] at hV
  exact hV

theorem r_iaload {r : Option Nat} {i x : Int32} (hd : decode M.1 pc = .ok (.iaload, 1)) (e : aI h r i = some x) (K : RJ G l M v h' (pc + 1) lv (vI x :: st) h) : RJ G l M v h' pc lv (vI i :: vR r :: st) h := by
  obtain ⟨a, n, f, rfl, he, hin, rfl⟩ := aI_sp e
  exact ⟨K.1, fun p e R s m args below meth c h0 C hl0 H locs ls hR hS hv => va_iald C.1.1 C.1.2.1 C.2.2.1.1 (P1 (int_at hR he)) 0 0 rfl rfl hin hd (K.2 p e R s m args below meth c h0 C hl0 H locs ls hR hS hv)⟩
theorem r_laload {r : Option Nat} {i : Int32} {x : Int64} (hd : decode M.1 pc = .ok (.laload, 1)) (e : aL h r i = some x) (K : RJ G l M v h' (pc + 1) lv (vL x :: st) h) : RJ G l M v h' pc lv (vI i :: vR r :: st) h := by
  obtain ⟨a, n, f, rfl, he, hin, rfl⟩ := aL_sp e
  exact ⟨K.1, fun p e R s m args below meth c h0 C hl0 H locs ls hR hS hv => va_lald C.1.1 C.1.2.1 C.2.2.1.1 (P1 (lng_at hR he)) 0 1 rfl rfl hin hd (K.2 p e R s m args below meth c h0 C hl0 H locs ls hR hS hv)⟩
theorem r_aaload {r : Option Nat} {i : Int32} {x : Option Nat} (hd : decode M.1 pc = .ok (.aaload, 1)) (e : aR h r i = some x) (K : RJ G l M v h' (pc + 1) lv (vR x :: st) h) : RJ G l M v h' pc lv (vI i :: vR r :: st) h := by
  obtain ⟨a, n, f, rfl, he, hin, rfl⟩ := aR_sp e
  refine ⟨K.1, fun p e R s m args below meth c h0 C hl0 H locs ls hR hS hv => va_aldq C.1.1 C.1.2.1 C.2.2.1.1 (P1 (rfs_at hR he)) 0 2 rfl rfl hin hd ?_⟩
  have K2 := K.2 p e R s m args below meth c h0 C hl0 H locs ls hR hS hv
  rw [rf_cv]
  exact K2
theorem r_iastore {r : Option Nat} {i x : Int32} {h1 : Hp} (hd : decode M.1 pc = .ok (.iastore, 1)) (e : wI h r i x = some h1) (K : RJ G l M v h' (pc + 1) lv st h1) : RJ G l M v h' pc lv (vI x :: vI i :: vR r :: st) h := by
  obtain ⟨a, n, f, rfl, he, hin, rfl⟩ := wI_sp e
  obtain ⟨kle, K2⟩ := K.same (h := h) (by simp) (sl_set h a _ _ he (by simp [en_sz]))
  refine ⟨kle, fun p e R s m args below meth c h0 C hl0 H locs ls hR hS hv => ?_⟩
  refine W.iast C.1.1 C.1.2.1 (int_at hR he) ((C.2.2.1.1.2 0 _ rfl).1 n (fun j => .int (f j))) (fun q => by cases q) (by show ¬ (i < 0 ∨ (arrV _ _ _).slots.size ≤ _); rw [arrV_size]; exact hin) rfl rfl hd fun H1 e1 z oq => ?_
  refine K2 p e R s m args below meth c h0 C hl0 H1 _ ls (hR.set z oq ?_) (hS.put z oq (Nat.le_add_right _ _)) hv
  show H1[_]? = some (vp_cell _ _)
  rw [e1]
  rw [vp_cell_i, vp_cell_i, arrV_store]
  congr 2
  funext q
  by_cases hq : q = i.toNatClampNeg
  · subst hq
    simp [updV, upd]
  · simp [updV, upd, hq]
theorem r_lastore {r : Option Nat} {i : Int32} {x : Int64} {h1 : Hp} (hd : decode M.1 pc = .ok (.lastore, 1)) (e : wL h r i x = some h1) (K : RJ G l M v h' (pc + 1) lv st h1) : RJ G l M v h' pc lv (vL x :: vI i :: vR r :: st) h := by
  obtain ⟨a, n, f, rfl, he, hin, rfl⟩ := wL_sp e
  obtain ⟨kle, K2⟩ := K.same (h := h) (by simp) (sl_set h a _ _ he (by simp [en_sz]))
  refine ⟨kle, fun p e R s m args below meth c h0 C hl0 H locs ls hR hS hv => ?_⟩
  refine W.last C.1.1 C.1.2.1 (lng_at hR he) ((C.2.2.1.1.2 1 _ rfl).1 n (fun j => .long (f j))) (fun q => by cases q) (by show ¬ (i < 0 ∨ (arrV _ _ _).slots.size ≤ _); rw [arrV_size]; exact hin) rfl rfl hd fun H1 e1 z oq => ?_
  refine K2 p e R s m args below meth c h0 C hl0 H1 _ ls (hR.set z oq ?_) (hS.put z oq (Nat.le_add_right _ _)) hv
  show H1[_]? = some (vp_cell _ _)
  rw [e1]
  rw [vp_cell_l, vp_cell_l, arrV_store]
  congr 2
  funext q
  by_cases hq : q = i.toNatClampNeg
  · subst hq
    simp [updV, vp_updL]
  · simp [updV, vp_updL, hq]
theorem r_aastore {r x : Option Nat} {i : Int32} {h1 : Hp} (hd : decode M.1 pc = .ok (.aastore, 1)) (e : wR h r i x 5 = some h1) (K : RJ G l M v h' (pc + 1) lv st h1) : RJ G l M v h' pc lv (vR x :: vI i :: vR r :: st) h := by
  obtain ⟨a, n, f, y, fs, rfl, he, rfl, hy, hin, rfl⟩ := wR_sp e
  obtain ⟨kle, K2⟩ := K.same (h := h) (by simp) (sl_set h a _ _ he (by simp [en_sz]))
  refine ⟨kle, fun p e R s m args below meth c h0 C hl0 H locs ls hR hS hv => ?_⟩
  have hlt : i.toNatClampNeg < n := Nat.not_le.mp fun q => hin (Or.inr q)
  have h00 : ¬ i < 0 := fun q => hin (Or.inl q)
  obtain ⟨r', hr', cellV, g1, g2, g3, -⟩ := obj_at hR hy
  have hcls := (C.2.2.1.1.1 5 _ rfl).2
  obtain ⟨kA, comp, k1, k2, k3, -⟩ := (C.2.2.1.1.2 2 _ rfl).2
  have hcomp : comp = G.1.1 5 := Option.some.inj (k3.symm.trans hcls.1)
  subst hcomp
  obtain ⟨kC, hkC, -⟩ := hcls.2
  refine W.aast C.1.1 C.1.2.1 (rfs_at hR he) (fun q h => by cases h) (fun h => by cases h) k1 k2 rfl hkC ⟨h00, by show _ < (arrV _ _ _).slots.size; rw [arrV_size]; exact hlt⟩ g1 (fun q h => by rw [g3] at h; cases h) (by rw [g2]; exact hkC) (by rw [g2]; exact va_assign hcls) rfl rfl hd fun H1 e1 z oq => ?_
  refine K2 p e R s m args below meth c h0 C hl0 H1 _ ls (hR.set z oq ?_) (hS.put z oq (Nat.le_add_right _ _)) hv
  show H1[_]? = some (vp_cell _ _)
  rw [e1]
  rw [vp_cell_q, vp_cell_q, arrV_store]
  congr 2
  funext q
  by_cases hq : q = i.toNatClampNeg
  · subst hq
    simp [updV, va_up, va_rf, cE]
  · simp [updV, va_up, hq, cE]
/-- the script's ints -/
def sI (L : Nat) (xs : Nat → Int32) (i : Int32) : Option Int32 := if inB i L = true then some (xs i.toNatClampNeg) else none
theorem sI_sp {L : Nat} {xs : Nat → Int32} {i x : Int32} (e : sI L xs i = some x) : vp_in i L ∧ x = xs i.toNatClampNeg := by
  unfold sI at e
  split at e
  · rename_i h1
    cases e
    exact ⟨inB_sp h1, rfl⟩
  · cases e
theorem r_sload {i x : Int32} (hd : decode M.1 pc = .ok (.iaload, 1)) (e : sI G.2.2.2.2.2.2.1 G.2.2.2.2.2.2.2 i = some x) (K : RJ G l M v h' (pc + 1) lv (vI x :: st) h) : RJ G l M v h' pc lv (vI i :: vX G.2.2.2.2.2.1 :: st) h := by
  obtain ⟨hin, rfl⟩ := sI_sp e
  refine ⟨K.1, fun p e R s m args below meth c h0 C hl0 H locs ls hR hS hv => ?_⟩
  have hX := C.2.2.1.2.2.2.2.2.2.2
  exact va_sld C.1.1 C.1.2.1 hX.1 (by obtain ⟨scr, e1, -⟩ := hX.1; exact (Array.getElem?_eq_some_iff.mp e1).1) (Nat.not_le.mpr hX.2) hS hin hd (K.2 p e R s m args below meth c h0 C hl0 H locs ls hR hS hv)
theorem r_slen (hd : decode M.1 pc = .ok (.arraylength, 1)) (K : RJ G l M v h' (pc + 1) lv (vI (Int32.ofNat G.2.2.2.2.2.2.1) :: st) h) : RJ G l M v h' pc lv (vX G.2.2.2.2.2.1 :: st) h := by
  refine ⟨K.1, fun p e R s m args below meth c h0 C hl0 H locs ls hR hS hv => ?_⟩
  have hX := C.2.2.1.2.2.2.2.2.2.2
  exact va_slen C.1.1 C.1.2.1 hX.1 (by obtain ⟨scr, e1, -⟩ := hX.1; exact (Array.getElem?_eq_some_iff.mp e1).1) (Nat.not_le.mpr hX.2) hS hd (K.2 p e R s m args below meth c h0 C hl0 H locs ls hR hS hv)
theorem r_lenI {r : Option Nat} {x : Int32} (hd : decode M.1 pc = .ok (.arraylength, 1)) (e : lenI h r = some x) (K : RJ G l M v h' (pc + 1) lv (vI x :: st) h) : RJ G l M v h' pc lv (vR r :: st) h := by
  obtain ⟨a, n, f, rfl, he, rfl⟩ := lenI_sp e
  exact ⟨K.1, fun p e R s m args below meth c h0 C hl0 H locs ls hR hS hv => va_alen C.1.1 C.1.2.1 C.2.2.1.1 (P1 (int_at hR he)) 0 0 rfl rfl rfl hd (K.2 p e R s m args below meth c h0 C hl0 H locs ls hR hS hv)⟩
theorem r_lenR {r : Option Nat} {x : Int32} (hd : decode M.1 pc = .ok (.arraylength, 1)) (e : lenR h r = some x) (K : RJ G l M v h' (pc + 1) lv (vI x :: st) h) : RJ G l M v h' pc lv (vR r :: st) h := by
  obtain ⟨a, n, f, rfl, he, rfl⟩ := lenR_sp e
  exact ⟨K.1, fun p e R s m args below meth c h0 C hl0 H locs ls hR hS hv => va_alen C.1.1 C.1.2.1 C.2.2.1.1 (P1 (rfs_at hR he)) 0 2 rfl rfl rfl hd (K.2 p e R s m args below meth c h0 C hl0 H locs ls hR hS hv)⟩
/-- the room for one more cell -/
theorem room_new {h0 h' : Hp} {e : En} {R : Room} (h1 : Le h0 h) (h2 : Le (h ++ [e]) h') (r1 : h'.length - h0.length ≤ R.cells) (r2 : sl h' - sl h0 ≤ R.slots) : h.length - h0.length + 1 ≤ R.cells ∧ sl h - sl h0 + en_sz e ≤ R.slots := by
  have a1 := h1.1
  have a2 := h1.2
  have b1 := h2.1
  have b2 := h2.2
  rw [sl_push] at b2
  simp at b1
  constructor <;> omega
theorem vaS_new {A : Nat → Prop} {H0 H H1 : Heap} {locs : List Loc} (hS : va_S A H0 H locs) (z1 : H1.size = H.size + 1) (o1 : ∀ q : Nat, q < H.size → H1[q]? = H[q]?) : va_S A H0 H1 locs :=
  ⟨Nat.le_trans hS.1 (by omega), fun x h1 h2 => (o1 x (Nat.lt_of_lt_of_le h1 hS.1)).trans (hS.2.1 x h1 h2), hS.2.2⟩
theorem RJ.more {e : En} {st' : List Vv} (K : RJ G l M v h' pc lv st' (h ++ [e])) : Le h h' ∧ ∀ (p : Program) (e' : Env) (R : Room) (s : State) (m : MethodId) (args : Array Value) (below : List Frame) (meth : Method) (c : Code) (h0 : Hp), CX G p R s m args meth c M h0 h' → Le h0 h →
    ∀ (H : Heap) (locs : List Loc) (ls : Array Slot), Rep G (h ++ [e]) H → va_S (fun q => G.2.1 ≤ q) s.heap H locs → lv_has ls M.2.1 (cvl G.2.1 lv) →
      W p l e' R s m args below meth c H locs (h.length - h0.length + 1) (sl h - sl h0 + en_sz e) (MQ below (PQ G v h') args s (h'.length - h0.length) (sl h' - sl h0) (fun q => G.2.1 ≤ q)) (F0 m pc ls (st'.map (cv G.2.1))) := by
  refine ⟨Le.tr Le.push K.1, fun p e' R s m args below meth c h0 C hl0 H locs ls hR hS hv => ?_⟩
  have K2 := K.2 p e' R s m args below meth c h0 C (Le.tr hl0 Le.push) H locs ls hR hS hv
  have a1 := hl0.1
  have a2 := hl0.2
  refine W.widen ?_ ?_ K2 <;> first | (rw [sl_push]; omega) | (simp; omega)
theorem r_newI {x : Int32} {n : Nat} (hd : decode M.1 pc = .ok (.newarray .int, 2)) (hw : Cond.arrayClass .int ∈ wsK) (hn : ¬ x < 0) (hN : x.toNatClampNeg = n) (hb : n * 4 ≤ 536870912) (K : RJ G l M v h' (pc + 2) lv (vR (some h.length) :: st) (h ++ [eI n (fun _ => 0)])) : RJ G l M v h' pc lv (vI x :: st) h := by
  obtain ⟨kle, K2⟩ := K.more
  refine ⟨kle, fun p e R s m args below meth c h0 C hl0 H locs ls hR hS hv => ?_⟩
  obtain ⟨r1, r2⟩ := room_new hl0 K.1 C.2.2.2.1.2.2.1 C.2.2.2.1.2.2.2
  refine va_newaK C.1.1 C.1.2.1 (atype := .int) (C.1.2.2.2.2 _ hw) rfl hd rfl hn hN hb r1 r2 hR.1 fun H1 cA e1 z1 o1 hAr hNm => ?_
  have hcA : cA = G.2.2.1 := Option.some.inj (hNm.symm.trans (C.2.2.1.1.2 0 _ rfl).2)
  subst hcA
  have o2 : ∀ q : Nat, q < H.size → H1[q]? = H[q]? := fun q hq => o1 q (by rw [← hR.1]; exact hq)
  exact K2 p e R s m args below meth c h0 C hl0 H1 locs ls (hR.push (by rw [z1, hR.1]) o2 e1) (vaS_new hS (by rw [z1, hR.1]) o2) hv
theorem r_newL {x : Int32} {n : Nat} (hd : decode M.1 pc = .ok (.newarray .long, 2)) (hw : Cond.arrayClass .long ∈ wsK) (hn : ¬ x < 0) (hN : x.toNatClampNeg = n) (hb : n * 8 ≤ 536870912) (K : RJ G l M v h' (pc + 2) lv (vR (some h.length) :: st) (h ++ [eL n (fun _ => 0)])) : RJ G l M v h' pc lv (vI x :: st) h := by
  obtain ⟨kle, K2⟩ := K.more
  refine ⟨kle, fun p e R s m args below meth c h0 C hl0 H locs ls hR hS hv => ?_⟩
  obtain ⟨r1, r2⟩ := room_new hl0 K.1 C.2.2.2.1.2.2.1 C.2.2.2.1.2.2.2
  refine va_newaK C.1.1 C.1.2.1 (atype := .long) (C.1.2.2.2.2 _ hw) rfl hd rfl hn hN hb r1 r2 hR.1 fun H1 cA e1 z1 o1 hAr hNm => ?_
  have hcA : cA = G.2.2.2.1 := Option.some.inj (hNm.symm.trans (C.2.2.1.1.2 1 _ rfl).2)
  subst hcA
  have o2 : ∀ q : Nat, q < H.size → H1[q]? = H[q]? := fun q hq => o1 q (by rw [← hR.1]; exact hq)
  exact K2 p e R s m args below meth c h0 C hl0 H1 locs ls (hR.push (by rw [z1, hR.1]) o2 e1) (vaS_new hS (by rw [z1, hR.1]) o2) hv
theorem r_newR {x : Int32} {n idx : Nat} (hd : decode M.1 pc = .ok (.anewarray idx, 3)) (hw : Cond.classLink M.2.2.1 idx "NumberedByAge$Shelf" ∈ wsK) (hn : ¬ x < 0) (hN : x.toNatClampNeg = n) (hb : n * 4 ≤ 536870912) (K : RJ G l M v h' (pc + 3) lv (vR (some h.length) :: st) (h ++ [eR n (fun _ => none)])) : RJ G l M v h' pc lv (vI x :: st) h := by
  obtain ⟨kle, K2⟩ := K.more
  refine ⟨kle, fun p e R s m args below meth c h0 C hl0 H locs ls hR hS hv => ?_⟩
  obtain ⟨r1, r2⟩ := room_new hl0 K.1 C.2.2.2.1.2.2.1 C.2.2.2.1.2.2.2
  subst hN
  refine W.anew C.1.1 C.1.2.1 C.1.2.2.2.1 (C.1.2.2.2.2 _ hw) (va_AO.use C.2.2.1.2.2.2.2.2.2.1) rfl hd rfl hn hb r1 r2 fun cA kA comp f1 f2 f3 f4 => ?_
  obtain ⟨kA', comp', -, -, -, k4⟩ := (C.2.2.1.1.2 2 _ rfl).2
  have hcA : cA = G.2.2.2.2.1 := Option.some.inj (f1.symm.trans k4)
  subst hcA
  generalize hH1 : H.push ({ cls := G.2.2.2.2.1, slots := Array.replicate x.toNatClampNeg .null, vm := .none } : Cell) = H1
  have z1 : H1.size = H.size + 1 := by rw [← hH1, Array.size_push]
  have e1 : H1[H.size]? = some (arrV G.2.2.2.2.1 x.toNatClampNeg (fun _ => .null)) := by rw [← hH1, Array.getElem?_push_size, ← arrV_new]
  have o1 : ∀ q : Nat, q < H.size → H1[q]? = H[q]? := fun q hq => by rw [← hH1, Array.getElem?_push, if_neg (Nat.ne_of_lt hq)]
  have K3 := K2 p e R s m args below meth c h0 C hl0 H1 locs ls (hR.push z1 o1 (by rw [hR.1] at e1; exact e1)) (vaS_new hS z1 o1) hv
  rw [hR.1]
  exact K3
/-- an object is made -/
theorem r_new {ci idx : Nat} {Cn : String} {T : u_T} {N : Nat} {fs : List Vv} (ty : Nat → FieldType) (hd : decode M.1 pc = .ok (.new idx, 3)) (hc : vwCl[ci]? = some (Cn, T, N)) (hin : ∀ w ∈ u_ws Cn T N, w ∈ wsK) (hty : ∀ k, k < N → parseFieldDescriptor (T k).2.2.1 = some (ty k)) (hl : Cond.classLink M.2.2.1 idx Cn ∈ wsK) (hi : Cond.instantiable Cn N ∈ wsK) (hni : Cond.initialized Cn ∈ wsK) (hn : fs.length = N) (hfs : ∀ j, j < N → defaultValue (ty j) = vp_V (fs.map (cv G.2.1)) j) (K : RJ G l M v h' (pc + 3) lv (vR (some h.length) :: st) (h ++ [eO ci fs])) : RJ G l M v h' pc lv st h := by
  obtain ⟨kle, K2⟩ := K.more
  refine ⟨kle, fun p e R s m args below meth c h0 C hl0 H locs ls hR hS hv => ?_⟩
  obtain ⟨r1, r2⟩ := room_new hl0 K.1 C.2.2.2.1.2.2.1 C.2.2.2.1.2.2.2
  have hts := C.1.2.2.2.2
  have hKn := C.2.2.1.1.1 ci _ hc
  have hN2 : en_sz (eO ci fs) = N := hn
  rw [hN2] at r2 K2
  refine W.newcK C.1.1 C.1.2.1 C.1.2.2.2.1 (hts _ hl) (hts _ hi) (hts _ hni) rfl hd r1 r2 hKn.2.1 hR.1 fun H1 kC hkC e1 z1 o1 => ?_
  have o2 : ∀ q : Nat, q < H.size → H1[q]? = H[q]? := fun q hq => o1 q (by rw [← hR.1]; exact hq)
  exact K2 p e R s m args below meth c h0 C hl0 H1 locs ls (hR.push (by rw [z1, hR.1]) o2 ⟨_, hc, (u_born ty hts hin hKn hkC e1 hty).to hfs⟩) (vaS_new hS (by rw [z1, hR.1]) o2) hv
theorem r_copy {r r2 : Option Nat} {sp dp n : Int32} {idx : Nat} {h1 : Hp} (hd : decode M.1 pc = .ok (.invokestatic idx, 3)) (w1 : Cond.methodLink M.2.2.1 idx arraycopyName ∈ wsK) (w2 : Cond.native arraycopyName ∈ wsK) (w3 : Cond.static arraycopyName ∈ wsK) (w4 : Cond.initialized "java/lang/System" ∈ wsK) (hfr : 1 ≤ M.2.2.2.2.2.1) (hlo : 40 ≤ M.2.2.2.2.2.2) (hst : (st.map (fun x => if vW x = true then 2 else 1)).sum ≤ 8) (e : cpI h r sp r2 dp n = some h1) (K : RJ G l M v h' (pc + 3) lv st h1) : RJ G l M v h' pc lv (vI n :: vI dp :: vR r2 :: vI sp :: vR r :: st) h := by
  obtain ⟨a0, n0, f, a, n1, g, rfl, ha0, rfl, ha1, ⟨q1, q2, q3, q4, q5⟩, rfl⟩ := cpI_sp e
  obtain ⟨kle, K2⟩ := K.same (h := h) (by simp) (sl_set h a _ _ ha1 (by simp [en_sz]))
  refine ⟨kle, fun p e R s m args below meth c h0 C hl0 H locs ls hR hS hv => ?_⟩
  have nn : ∀ z : Int32, ¬ z < 0 → z.toInt = (z.toNatClampNeg : Int) := by
    intro z hz
    have hz0 : (0 : Int) ≤ z.toInt := by
      have := Int32.not_lt.mp hz
      simpa using Int32.le_iff_toInt_le.mp this
    show z.toInt = ((z.toInt.toNat : Nat) : Int)
    omega
  have hml : c.maxLocals = ls.size := C.1.2.2.1.trans hv.1.symm
  have hb := C.1.2.1
  have hlo' := C.2.2.2.1.2.1
  have hsum : ((st.map (cv G.2.1)).map fun v => v.category).sum ≤ 8 := by
    have e : (st.map (cv G.2.1)).map (fun v => v.category) = st.map (fun x => if vW x = true then 2 else 1) := by
      rw [List.map_map]
      refine List.map_congr_left fun x _ => ?_
      match x with
      | .inl x => rfl
      | .inr (.inl x) => rfl
      | .inr (.inr (.inl none)) => rfl
      | .inr (.inr (.inl (some a))) => rfl
      | .inr (.inr (.inr a)) => rfl
    rw [e]
    exact hst
  intro T hT X
  have hc0 := int_at hR ha0
  have hc1 := int_at hR ha1
  obtain ⟨-, k0, hk0, cm0, hkk0⟩ := (C.2.2.1.1.2 0 _ rfl).1 n0 (fun j => .int (f j))
  obtain ⟨-, k1, hk1, cm1, hkk1⟩ := (C.2.2.1.1.2 0 _ rfl).1 n1 (fun j => .int (g j))
  obtain ⟨vm', X', step⟩ := X.arraycopy C.1.1 C.1.2.2.2.1 (C.1.2.2.2.2 _ w1) (C.1.2.2.2.2 _ w2) (C.1.2.2.2.2 _ w3) (C.1.2.2.2.2 _ w4) (src := G.2.1 + a0) (dst := G.2.1 + a) (cs := vp_cell G.2.2.1 (n0, .inl f)) (cd := vp_cell G.2.2.1 (n1, .inl g)) (srcPos := sp) (destPos := dp) (n := n) (by rw [hT]; exact hc0) (by rw [hT]; exact hc1)
    (fun _ h => by cases h) (fun _ h => by cases h) (fun h => by cases h) (fun h => by cases h) hk0 hk1 hkk0 hkk1 (by simp [refKind]) q1 q2 q3
    (by rw [nn sp q1, nn n q3]; show ¬ _ > ((arrV G.2.2.1 n0 (fun j => .int (f j))).slots.size : Int); rw [arrV_size]; omega)
    (by rw [nn dp q2, nn n q3]; show ¬ _ > ((arrV G.2.2.1 n1 (fun j => .int (g j))).slots.size : Int); rw [arrV_size]; omega)
    (fun vm₁ _ i hi => by
      have e : (vp_cell G.2.2.1 (n0, .inl f)).slots.getD (sp.toNatClampNeg + i) .null = .int (f (sp.toNatClampNeg + i)) := by
        show (arrV G.2.2.1 n0 (fun j => .int (f j))).slots.getD _ _ = _
        rw [Array.getD_eq_getD_getElem?, arrV_read _ _ (by omega)]
        rfl
      refine ⟨?_, ?_⟩
      · rw [e]
        rfl
      · rw [e]
        exact trivial)
    (g := F0 m pc ls ((vI n :: vI dp :: vR (some a) :: vI sp :: vR (some a0) :: st).map (cv G.2.1))) rfl (by rw [hml]) (rest := st.map (cv G.2.1)) rfl (by rw [hb]; exact hd) (Nat.le_trans hfr C.2.2.2.1.1) (by
      have e9 : nativeFrameWords "java/lang/System" "arraycopy" 5 + 11 ≤ 30 := by decide +kernel
      show 2 * 0 + _ + _ ≤ _
      omega)
  have e1 : copied (vp_cell G.2.2.1 (n0, .inl f)) (vp_cell G.2.2.1 (n1, .inl g)) sp dp n = vp_cell G.2.2.1 (n1, .inl (va_cpy f g sp.toNatClampNeg dp.toNatClampNeg n.toNatClampNeg)) := va_copied (fun z => .int z) G.2.2.1 G.2.2.1 f g q4
  rw [e1] at X' step
  have hl : G.2.1 + a < H.size := (Array.getElem?_eq_some_iff.mp hc1).1
  have hheap : ((T.setVm vm').setCell (G.2.1 + a) (vp_cell G.2.2.1 (n1, .inl (va_cpy f g sp.toNatClampNeg dp.toNatClampNeg n.toNatClampNeg)))).heap = H.setIfInBounds (G.2.1 + a) (vp_cell G.2.2.1 (n1, .inl (va_cpy f g sp.toNatClampNeg dp.toNatClampNeg n.toNatClampNeg))) := by rw [← hT]; rfl
  have oq : ∀ q : Nat, q ≠ G.2.1 + a → (H.setIfInBounds (G.2.1 + a) (vp_cell G.2.2.1 (n1, .inl (va_cpy f g sp.toNatClampNeg dp.toNatClampNeg n.toNatClampNeg))))[q]? = H[q]? := fun q hq => by simp [Array.getElem?_setIfInBounds, Ne.symm hq]
  have at1 : atE G (eI n1 (va_cpy f g sp.toNatClampNeg dp.toNatClampNeg n.toNatClampNeg)) a (H.setIfInBounds (G.2.1 + a) (vp_cell G.2.2.1 (n1, .inl (va_cpy f g sp.toNatClampNeg dp.toNatClampNeg n.toNatClampNeg)))) := by
    show (H.setIfInBounds (G.2.1 + a) _)[G.2.1 + a]? = some _
    simp [Array.getElem?_setIfInBounds, hl]
  obtain ⟨t, a1, b1⟩ := K2 p e R s m args below meth c h0 C hl0 _ _ ls (hR.set (by simp) oq at1) ⟨by simp; exact hS.1, fun q g1 g2 => by
      rw [oq q (fun e => g2 (by rw [e]; exact Nat.le_add_right _ _))]
      exact hS.2.1 q g1 g2, fun q hq => by
      rcases List.mem_append.mp hq with h | h
      · exact hS.2.2 q h
      · obtain ⟨z, -, hz⟩ := List.mem_map.mp h
        rw [← hz]
        exact Nat.le_add_right _ _⟩ hv _ hheap X'
  exact ⟨t, step t a1, b1⟩
end RJH
end
section
/-! Calls, entry, ends. -/
def vcat (x : Vv) : Nat := if vW x = true then 2 else 1
theorem vcat_cv (b : Nat) (x : Vv) : (cv b x).category = vcat x := by
  match x with
  | .inl x => rfl
  | .inr (.inl x) => rfl
  | .inr (.inr (.inl none)) => rfl
  | .inr (.inr (.inl (some a))) => rfl
  | .inr (.inr (.inr a)) => rfl
theorem vsum_cv (b : Nat) (st : List Vv) : ((st.map (cv b)).map fun v => v.category).sum = (st.map vcat).sum := by
  rw [List.map_map]
  congr 1
  exact List.map_congr_left fun x _ => vcat_cv b x
theorem fb_Wl {G : Gx} {av : List Value} {h : Hp} : FrameBlind (va_Pc av (Wl G h)) := fun a U g mk q => ⟨q.1, q.2.1, Kn.moved (u := U) (U := U.calling g mk a) (Vm.Alike.refl U.vm) q.2.2.1, Nst.same (u := U) (U := U.calling g mk a) rfl q.2.2.2.1, Xs.same (s := U) (U := U.calling g mk a) rfl q.2.2.2.2⟩
section RJC
variable {G : Gx} {l : Launch} {M : Mx} {v : Option Vv} {h' : Hp} {pc : Nat} {lv : List (Nat × Vv)} {st : List Vv} {h : Hp}
theorem pre_at {p : Program} {R : Room} {s : State} {m : MethodId} {args : Array Value} {meth : Method} {c : Code} {h0 : Hp} {H : Heap} {locs : List Loc} (C : CX G p R s m args meth c M h0 h') (hR : Rep G h H) (hS : va_S (fun q => G.2.1 ≤ q) s.heap H locs) : ∀ U : State, U.heap = H → s.WarmedH U.vm → Wl G h U := by
  intro U hU hW
  subst hU
  exact ⟨hR, Kn.moved hW.alike C.2.2.1.1, Nst.warm hW C.2.2.1.2.1, Xs.go hW (C.2.2.1.2.2.kept hS.2.1)⟩
theorem ro_after {h1 : Hp} {vr : Option Vv} (K : RJ G l M v h' (pc + 3) lv (vr.toList ++ st) h1) (hle : Le h h1) {p : Program} {e : Env} {R : Room} {s : State} {m : MethodId} {args : Array Value} {below : List Frame} {meth : Method} {c : Code} {h0 : Hp} (C : CX G p R s m args meth c M h0 h') (hl0 : Le h0 h)
    {H : Heap} {locs : List Loc} {ls : Array Slot} (hS : va_S (fun q => G.2.1 ≤ q) s.heap H locs) (hv : lv_has ls M.2.1 (cvl G.2.1 lv)) {st0 : List Value} {aa : Array Value}
    (hr : va_Run p l e R s m args below meth c H locs (h.length - h0.length) (sl h - sl h0) (h1.length - h.length) (sl h1 - sl h) (F0 m pc ls st0) (st.map (cv G.2.1)) (PQ G vr h1 aa) (fun q => G.2.1 ≤ q)) :
    W p l e R s m args below meth c H locs (h.length - h0.length) (sl h - sl h0) (MQ below (PQ G v h') args s (h'.length - h0.length) (sl h' - sl h0) (fun q => G.2.1 ≤ q)) (F0 m pc ls st0) := by
  intro T hT X
  obtain ⟨v', st₀, t, T', L, h00, X', hL, e1, e2, ⟨hvv, hrep, hF⟩, stp⟩ := hr T hT X
  have hv' : v' = vr.map (cv G.2.1) := by
    injection hvv
  subst hv'
  have l1 := hl0.1
  have l2 := hl0.2
  have l3 := hle.1
  have l4 := hle.2
  have c1 : h.length - h0.length + (h1.length - h.length) = h1.length - h0.length := by omega
  have c2 : sl h - sl h0 + (sl h1 - sl h) = sl h1 - sl h0 := by omega
  rw [c1, c2] at X'
  subst h00
  have K2 := K.2 p e R s m args below meth c h0 C (Le.tr hl0 hle) T'.heap (locs ++ L) ls (by rw [e1]; exact hrep) ⟨Nat.le_trans hS.1 (by rw [e1]; exact hF.1), fun q g1 g2 => by
    rw [e1, hF.2 q (Nat.lt_of_lt_of_le g1 hS.1) g2]
    exact hS.2.1 q g1 g2, fun q hq => by
    rcases List.mem_append.mp hq with z | z
    · exact hS.2.2 q z
    · exact hL q z⟩ hv
  obtain ⟨t2, a1, b1⟩ := K2 T' rfl X'
  have e3 : (vr.toList ++ st).map (cv G.2.1) = (vr.map (cv G.2.1)).toList ++ st.map (cv G.2.1) := by cases vr <;> simp
  rw [e3] at a1
  exact ⟨t2, stp t2 a1, b1⟩
theorem room_call {h1 h0 : Hp} {R : Room} (hl0 : Le h0 h) (hle : Le h h1) (k1 : Le h1 h') (r1 : h'.length - h0.length ≤ R.cells) (r2 : sl h' - sl h0 ≤ R.slots) : h.length - h0.length + (h1.length - h.length) ≤ R.cells ∧ sl h - sl h0 + (sl h1 - sl h) ≤ R.slots := by
  have l1 := hl0.1
  have l2 := hl0.2
  have l3 := hle.1
  have l4 := hle.2
  have l5 := k1.1
  have l6 := k1.2
  constructor <;> omega
theorem lv_cvsz {b : Nat} {ls : Array Slot} {n : Nat} (hv : lv_has ls n (cvl b lv)) : ls.size = n := hv.1
/-- what is asked of a callee's name -/
def okY (y : MethodName) (n : Nat) : Prop := y.cls ≠ "java/lang/invoke/MethodHandle" ∧ y.cls ≠ "java/lang/invoke/VarHandle" ∧ (parseMethodDescriptor y.desc).map (fun d => d.parameters.length) = some n
variable {y : MethodName} {bytes : ByteArray} {maxL idx ci fr lo a : Nat} {ret : Option FieldType} {r : Option Nat} {avs : List Vv} {vr : Option Vv} {h1 : Hp} {stk : List Vv} {T : u_T} {N : Nat}
theorem r_callV (hd : decode M.1 pc = .ok (.invokevirtual idx, 3)) (hc : vwCl[ci]? = some (y.cls, T, N)) (w1 : Cond.methodLink M.2.2.1 idx y ∈ wsK) (w2 : Cond.instanceMethod y ∈ wsK) (w3 : Cond.selects y.cls y y ∈ wsK) (w4 : Cond.initialized y.cls ∈ wsK) (w5 : Cond.code y bytes maxL ret ∈ wsK) (hy : okY y avs.length) (hroom : fr + 1 ≤ M.2.2.2.2.2.1 ∧ 8 + (maxL + 11) + lo ≤ M.2.2.2.2.2.2)
    (hs : avs.reverse ++ vR r :: st = stk) (hst : (st.map vcat).sum ≤ 8) (er : rcv h r ci = some a) (hK : KM l y (.code y bytes maxL ret :: wsK) fr lo G (vR (some a) :: avs) h vr h1) (K : RJ G l M v h' (pc + 3) lv (vr.toList ++ st) h1) : RJ G l M v h' pc lv stk h := by
  obtain ⟨rfl, fs, ho⟩ := rcv_sp er
  subst hs
  refine ⟨Le.tr hK.1 K.1, fun p e R s m args below meth c h0 C hl0 H locs ls hR hS hv => ?_⟩
  refine ro_after K hK.1 C hl0 hS hv (va_runV (As := avs.map (cv G.2.1)) (rest := st.map (cv G.2.1)) C.1 hK.2 (cwV avs.length C.1.2.2.2.2 (gIn ?_) rfl rfl rfl ⟨rfl, hy⟩ ⟨Nat.le_trans hroom.1 C.2.2.2.1.1, Nat.le_trans hroom.2 C.2.2.2.1.2.1⟩) ⟨fb_Wl, va_recv C.2.2.1.1 (P1 (obj_at hR ho)) (ci := ci) (q0 := 0) hc rfl, fun U hU hW => ⟨rfl, pre_at C hR hS U hU hW⟩⟩ rfl (by simp) hv.1 (by simp [F0, cv]) (lv_room (by rw [vsum_cv]; exact hst)) hd (room_call hl0 hK.1 K.1 C.2.2.2.1.2.2.1 C.2.2.2.1.2.2.2))
  intro w hw
  simp only [wsV, List.mem_append, List.mem_cons, List.not_mem_nil, or_false] at hw
  rcases hw with (rfl | rfl | rfl | rfl) | rfl | hw
  · exact w1
  · exact w2
  · exact w3
  · exact w4
  · exact w5
  · exact hw
theorem r_callS (hd : decode M.1 pc = .ok (.invokestatic idx, 3)) (w1 : Cond.methodLink M.2.2.1 idx y ∈ wsK) (w2 : Cond.static y ∈ wsK) (w4 : Cond.initialized y.cls ∈ wsK) (w5 : Cond.code y bytes maxL ret ∈ wsK) (hy : okY y avs.length) (hroom : fr + 1 ≤ M.2.2.2.2.2.1 ∧ 8 + (maxL + 11) + lo ≤ M.2.2.2.2.2.2)
    (hs : avs.reverse ++ st = stk) (hst : (st.map vcat).sum ≤ 8) (hK : KM l y (.code y bytes maxL ret :: wsK) fr lo G avs h vr h1) (K : RJ G l M v h' (pc + 3) lv (vr.toList ++ st) h1) : RJ G l M v h' pc lv stk h := by
  subst hs
  refine ⟨Le.tr hK.1 K.1, fun p e R s m args below meth c h0 C hl0 H locs ls hR hS hv => ?_⟩
  refine ro_after K hK.1 C hl0 hS hv (va_runS (As := avs.map (cv G.2.1)) (rest := st.map (cv G.2.1)) C.1 hK.2 (va_cwS avs.length C.1.2.2.2.2 (gIn ?_) rfl rfl rfl hy ⟨Nat.le_trans hroom.1 C.2.2.2.1.1, Nat.le_trans hroom.2 C.2.2.2.1.2.1⟩) ⟨fb_Wl, fun U hU hW => ⟨rfl, pre_at C hR hS U hU hW⟩⟩ rfl (by simp) hv.1 (by simp [F0]) (lv_room (by rw [vsum_cv]; exact hst)) hd (room_call hl0 hK.1 K.1 C.2.2.2.1.2.2.1 C.2.2.2.1.2.2.2))
  intro w hw
  simp only [va_wsS, List.mem_append, List.mem_cons, List.not_mem_nil, or_false] at hw
  rcases hw with (rfl | rfl | rfl) | rfl | hw
  · exact w1
  · exact w2
  · exact w4
  · exact w5
  · exact hw
theorem r_callSN (hd : decode M.1 pc = .ok (.invokestatic idx, 3)) (w1 : (M.2.2.1, idx, y) ∈ nstM) (w2 : Cond.static y ∈ wsK) (w4 : Cond.initialized y.cls ∈ wsK) (w5 : Cond.code y bytes maxL ret ∈ wsK) (hy : okY y avs.length) (hroom : fr + 1 ≤ M.2.2.2.2.2.1 ∧ 8 + (maxL + 11) + lo ≤ M.2.2.2.2.2.2)
    (hs : avs.reverse ++ st = stk) (hst : (st.map vcat).sum ≤ 8) (hK : KM l y (.code y bytes maxL ret :: wsK) fr lo G avs h vr h1) (K : RJ G l M v h' (pc + 3) lv (vr.toList ++ st) h1) : RJ G l M v h' pc lv stk h := by
  subst hs
  refine ⟨Le.tr hK.1 K.1, fun p e R s m args below meth c h0 C hl0 H locs ls hR hS hv => ?_⟩
  refine ro_after K hK.1 C hl0 hS hv (va_runSN (host := n_host) (As := avs.map (cv G.2.1)) (rest := st.map (cv G.2.1)) C.1 hK.2 ⟨va_cnB avs.length C.1.2.2.2.2 (gIn ?_) rfl rfl rfl (C.2.2.1.2.1.1 _ w1) (C.1.2.2.2.2 _ w4) hy ⟨Nat.le_trans hroom.1 C.2.2.2.1.1, Nat.le_trans hroom.2 C.2.2.2.1.2.1⟩, C.1.2.2.2.2 _ w2, trivial⟩ ⟨fb_Wl, fun U hU hW => ⟨rfl, pre_at C hR hS U hU hW⟩⟩ rfl (by simp) hv.1 (by simp [F0]) (lv_room (by rw [vsum_cv]; exact hst)) hd (room_call hl0 hK.1 K.1 C.2.2.2.1.2.2.1 C.2.2.2.1.2.2.2))
  intro w hw
  rcases List.mem_cons.mp hw with rfl | hw
  · exact w5
  · exact hw
theorem r_callI (hd : decode M.1 pc = .ok (.invokespecial idx, 3)) (w1 : Cond.methodLink M.2.2.1 idx y ∈ wsK) (w2 : Cond.instanceMethod y ∈ wsK) (w4 : Cond.initialized y.cls ∈ wsK) (w5 : Cond.code y bytes maxL none ∈ wsK) (hn : y.name = "<init>") (hy : okY y avs.length) (hroom : fr + 1 ≤ M.2.2.2.2.2.1 ∧ 8 + (maxL + 11) + lo ≤ M.2.2.2.2.2.2)
    (hs : avs.reverse ++ vR (some a) :: st = stk) (hst : (st.map vcat).sum ≤ 8) (hK : KM l y (.code y bytes maxL none :: wsK) fr lo G (vR (some a) :: avs) h none h1) (K : RJ G l M v h' (pc + 3) lv st h1) : RJ G l M v h' pc lv stk h := by
  subst hs
  refine ⟨Le.tr hK.1 K.1, fun p e R s m args below meth c h0 C hl0 H locs ls hR hS hv => ?_⟩
  refine ro_after (vr := none) K hK.1 C hl0 hS hv (va_runI (As := avs.map (cv G.2.1)) (rest := st.map (cv G.2.1)) (b := G.2.1 + a) C.1 hK.2 (cwI avs.length C.1.2.2.2.2 (gIn ?_) rfl rfl rfl (C.1.2.2.2.2 _ w4) (C.1.2.2.2.2 _ w1) (C.1.2.2.2.2 _ w2) hn hy ⟨Nat.le_trans hroom.1 C.2.2.2.1.1, Nat.le_trans hroom.2 C.2.2.2.1.2.1⟩) ⟨fb_Wl, fun U hU hW => ⟨rfl, pre_at C hR hS U hU hW⟩⟩ rfl (by simp) hv.1 (by simp [F0, cv]) (lv_room (by rw [vsum_cv]; exact hst)) hd (room_call hl0 hK.1 K.1 C.2.2.2.1.2.2.1 C.2.2.2.1.2.2.2))
  intro w hw
  rcases List.mem_cons.mp hw with rfl | hw
  · exact w5
  · exact hw
theorem r_callIN (hd : decode M.1 pc = .ok (.invokespecial idx, 3)) (w1 : (M.2.2.1, idx, y) ∈ nstM) (w2 : Cond.instanceMethod y ∈ wsK) (w4 : Cond.initialized y.cls ∈ wsK) (w5 : Cond.code y bytes maxL none ∈ wsK) (hn : y.name = "<init>") (hy : okY y avs.length) (hroom : fr + 1 ≤ M.2.2.2.2.2.1 ∧ 8 + (maxL + 11) + lo ≤ M.2.2.2.2.2.2)
    (hs : avs.reverse ++ vR (some a) :: st = stk) (hst : (st.map vcat).sum ≤ 8) (hK : KM l y (.code y bytes maxL none :: wsK) fr lo G (vR (some a) :: avs) h none h1) (K : RJ G l M v h' (pc + 3) lv st h1) : RJ G l M v h' pc lv stk h := by
  subst hs
  refine ⟨Le.tr hK.1 K.1, fun p e R s m args below meth c h0 C hl0 H locs ls hR hS hv => ?_⟩
  refine ro_after (vr := none) K hK.1 C hl0 hS hv (va_runIN (host := n_host) (As := avs.map (cv G.2.1)) (rest := st.map (cv G.2.1)) (b := G.2.1 + a) C.1 hK.2 ⟨va_cnB avs.length C.1.2.2.2.2 (gIn ?_) rfl rfl rfl (C.2.2.1.2.1.1 _ w1) (C.1.2.2.2.2 _ w4) hy ⟨Nat.le_trans hroom.1 C.2.2.2.1.1, Nat.le_trans hroom.2 C.2.2.2.1.2.1⟩, hn, C.1.2.2.2.2 _ w2⟩ ⟨fb_Wl, fun U hU hW => ⟨rfl, pre_at C hR hS U hU hW⟩⟩ rfl (by simp) hv.1 (by simp [F0, cv]) (lv_room (by rw [vsum_cv]; exact hst)) hd (room_call hl0 hK.1 K.1 C.2.2.2.1.2.2.1 C.2.2.2.1.2.2.2))
  intro w hw
  rcases List.mem_cons.mp hw with rfl | hw
  · exact w5
  · exact hw
/-- a superclass's method -/
theorem r_callSU (hd : decode M.1 pc = .ok (.invokespecial idx, 3)) (w1 : Cond.methodLink M.2.2.1 idx y ∈ wsK) (w6 : Cond.sameMethod y.cls y.cls y.name y.desc ∈ wsK) (w7 : Cond.superclass M.2.2.1 y.cls ∈ wsK) (w2 : Cond.instanceMethod y ∈ wsK) (w4 : Cond.initialized y.cls ∈ wsK) (w5 : Cond.code y bytes maxL ret ∈ wsK) (hy : y.name ≠ "<init>" ∧ (parseMethodDescriptor y.desc).map (fun d => d.parameters.length) = some avs.length) (hroom : fr + 1 ≤ M.2.2.2.2.2.1 ∧ 8 + (maxL + 11) + lo ≤ M.2.2.2.2.2.2)
    (hs : avs.reverse ++ vR r :: st = stk) (hst : (st.map vcat).sum ≤ 8) {q9 : Nat × Nat} (er : rcl h r = some q9) (hK : KM l y (.code y bytes maxL ret :: wsK) fr lo G (vR (some q9.1) :: avs) h vr h1) (K : RJ G l M v h' (pc + 3) lv (vr.toList ++ st) h1) : RJ G l M v h' pc lv stk h := by
  obtain ⟨rfl, fs, ho⟩ := rcl_sp er
  subst hs
  refine ⟨Le.tr hK.1 K.1, fun p e R s m args below meth c h0 C hl0 H locs ls hR hS hv => ?_⟩
  obtain ⟨rc, hrc, -⟩ := obj_at hR ho
  refine ro_after K hK.1 C hl0 hS hv (va_runSU (As := avs.map (cv G.2.1)) (rest := st.map (cv G.2.1)) (C.2.2.1.1.1 _ rc hrc).2 C.1 hK.2 (va_cwSU avs.length C.1.2.2.2.2 (gIn ?_) rfl rfl rfl hy ⟨Nat.le_trans hroom.1 C.2.2.2.1.1, Nat.le_trans hroom.2 C.2.2.2.1.2.1⟩) ⟨fb_Wl, va_recv C.2.2.1.1 (P1 (obj_at hR ho)) (q0 := 0) hrc rfl, fun U hU hW => ⟨rfl, pre_at C hR hS U hU hW⟩⟩ rfl (by simp) hv.1 (by simp [F0, cv]) (lv_room (by rw [vsum_cv]; exact hst)) hd (room_call hl0 hK.1 K.1 C.2.2.2.1.2.2.1 C.2.2.2.1.2.2.2))
  intro w hw
  simp only [va_wsSU, List.mem_append, List.mem_cons, List.not_mem_nil, or_false] at hw
  rcases hw with (rfl | rfl | rfl | rfl | rfl) | rfl | hw
  · exact w1
  · exact w6
  · exact w7
  · exact w2
  · exact w4
  · exact w5
  · exact hw
/-- a method that the receiver's class chooses -/
theorem r_callO {x : MethodName} {Cn : String} {b0 : ByteArray} {m0 : Nat} {r0 : Option FieldType} (hd : decode M.1 pc = .ok (.invokevirtual idx, 3)) (hc : vwCl[ci]? = some (Cn, T, N)) (w1 : Cond.methodLink M.2.2.1 idx x ∈ wsK) (w6 : Cond.sameMethod x.cls x.cls x.name x.desc ∈ wsK) (w7 : Cond.instanceMethod ⟨x.cls, x.name, x.desc⟩ ∈ wsK) (w3 : Cond.selects Cn x y ∈ wsK) (w2 : Cond.instanceMethod y ∈ wsK) (w4 : Cond.initialized y.cls ∈ wsK) (w5 : Cond.code y bytes maxL ret ∈ wsK) (w8 : Cond.code ⟨x.cls, x.name, x.desc⟩ b0 m0 r0 ∈ wsK) (hy : okY x avs.length) (hroom : fr + 1 ≤ M.2.2.2.2.2.1 ∧ 8 + (maxL + 11) + lo ≤ M.2.2.2.2.2.2)
    (hs : avs.reverse ++ vR r :: st = stk) (hst : (st.map vcat).sum ≤ 8) (er : rcl h r = some (a, ci)) (hK : KM l y (.code y bytes maxL ret :: wsK) fr lo G (vR (some a) :: avs) h vr h1) (K : RJ G l M v h' (pc + 3) lv (vr.toList ++ st) h1) : RJ G l M v h' pc lv stk h := by
  obtain ⟨e1, fs, ho⟩ := rcl_sp er
  simp only at e1 ho
  subst e1
  subst hs
  refine ⟨Le.tr hK.1 K.1, fun p e R s m args below meth c h0 C hl0 H locs ls hR hS hv => ?_⟩
  refine ro_after K hK.1 C hl0 hS hv (va_runU (As := avs.map (cv G.2.1)) (rest := st.map (cv G.2.1)) C.1 hK.2 (va_cwO (owner := x.cls) avs.length C.1.2.2.2.2 (gIn ?_) rfl rfl rfl w8 hy ⟨Nat.le_trans hroom.1 C.2.2.2.1.1, Nat.le_trans hroom.2 C.2.2.2.1.2.1⟩) ⟨fb_Wl, va_recv C.2.2.1.1 (P1 (obj_at hR ho)) (ci := ci) (q0 := 0) hc rfl, fun U hU hW => ⟨rfl, pre_at C hR hS U hU hW⟩⟩ rfl (by simp) hv.1 (by simp [F0, cv]) (lv_room (by rw [vsum_cv]; exact hst)) hd (room_call hl0 hK.1 K.1 C.2.2.2.1.2.2.1 C.2.2.2.1.2.2.2))
  intro w hw
  simp only [va_wsO, List.mem_append, List.mem_cons, List.not_mem_nil, or_false] at hw
  rcases hw with (rfl | rfl | rfl | rfl | rfl | rfl) | rfl | hw
  · exact w1
  · exact w6
  · exact w7
  · exact w3
  · exact w2
  · exact w4
  · exact w5
  · exact hw
theorem r_objInit (hd : decode M.1 pc = .ok (.invokespecial idx, 3)) (w1 : Cond.methodLink M.2.2.1 idx objectInit ∈ wsK) (w2 : Cond.instanceMethod objectInit ∈ wsK) (w5 : Cond.code objectInit ⟨#[0xb1]⟩ 1 none ∈ wsK) (hroom : 1 ≤ M.2.2.2.2.2.1 ∧ 20 ≤ M.2.2.2.2.2.2) (hst : (st.map vcat).sum ≤ 8) (K : RJ G l M v h' (pc + 3) lv st h) : RJ G l M v h' pc lv (vR (some a) :: st) h := by
  refine ⟨K.1, fun p e R s m args below meth c h0 C hl0 H locs ls hR hS hv => ?_⟩
  refine W.objInit (a := G.2.1 + a) C.1.1 C.1.2.1 C.1.2.2.2.1 (C.1.2.2.2.2 _ w1) (C.1.2.2.2.2 _ w2) (C.1.2.2.2.2 _ w5) rfl (by rw [C.1.2.2.1]; exact hv.1) rfl hd (Nat.le_trans hroom.1 C.2.2.2.1.1) ?_ ?_
  · have e1 := vsum_cv G.2.1 st
    have e2 := C.2.2.2.1.2.1
    show 2 * 0 + ((st.map (cv G.2.1)).map fun v => v.category).sum + 12 ≤ R.locals
    omega
  · exact W.eq (g2 := F0 m (pc + 3) ls (st.map (cv G.2.1))) rfl (K.2 p e R s m args below meth c h0 C hl0 H locs ls hR hS hv)
def mxI (x y : Int32) : Int32 := if x < y then y else x
def mnI (x y : Int32) : Int32 := if y < x then y else x
theorem r_max {x y : Int32} (hd : decode M.1 pc = .ok (.invokestatic idx, 3)) (w1 : Cond.methodLink M.2.2.1 idx Lib.Math.max.name ∈ wsK) (w2 : Cond.static Lib.Math.max.name ∈ wsK) (w4 : Cond.initialized "java/lang/Math" ∈ wsK) (w5 : Cond.code Lib.Math.max.name Lib.Math.max.code 2 (some .int) ∈ wsK) (hroom : 1 ≤ M.2.2.2.2.2.1 ∧ 21 ≤ M.2.2.2.2.2.2) (hst : (st.map vcat).sum ≤ 8) (K : RJ G l M v h' (pc + 3) lv (vI (mxI x y) :: st) h) : RJ G l M v h' pc lv (vI y :: vI x :: st) h := by
  refine ⟨K.1, fun p e R s m args below meth c h0 C hl0 H locs ls hR hS hv => ?_⟩
  have l1 := K.1.1
  have l2 := K.1.2
  have r1 := C.2.2.2.1.2.2.1
  have r2 := C.2.2.2.1.2.2.2
  refine va_mmax C.1.1 C.1.2.1 (by rw [C.1.2.2.1]; exact hv.1.symm) C.1.2.2.2.1 (C.1.2.2.2.2 _ w1) (C.1.2.2.2.2 _ w2) (C.1.2.2.2.2 _ w4) (C.1.2.2.2.2 _ w5) (Nat.le_trans hroom.1 C.2.2.2.1.1) ?_ (by omega) (by omega) hd (K.2 p e R s m args below meth c h0 C hl0 H locs ls hR hS hv)
  have e1 := vsum_cv G.2.1 st
  have e2 := C.2.2.2.1.2.1
  omega
theorem r_min {x y : Int32} (hd : decode M.1 pc = .ok (.invokestatic idx, 3)) (w1 : Cond.methodLink M.2.2.1 idx Lib.Math.min.name ∈ wsK) (w2 : Cond.static Lib.Math.min.name ∈ wsK) (w4 : Cond.initialized "java/lang/Math" ∈ wsK) (w5 : Cond.code Lib.Math.min.name Lib.Math.min.code 2 (some .int) ∈ wsK) (hroom : 1 ≤ M.2.2.2.2.2.1 ∧ 21 ≤ M.2.2.2.2.2.2) (hst : (st.map vcat).sum ≤ 8) (K : RJ G l M v h' (pc + 3) lv (vI (mnI x y) :: st) h) : RJ G l M v h' pc lv (vI y :: vI x :: st) h := by
  refine ⟨K.1, fun p e R s m args below meth c h0 C hl0 H locs ls hR hS hv => ?_⟩
  have l1 := K.1.1
  have l2 := K.1.2
  have r1 := C.2.2.2.1.2.2.1
  have r2 := C.2.2.2.1.2.2.2
  refine va_mmin C.1.1 C.1.2.1 (by rw [C.1.2.2.1]; exact hv.1.symm) C.1.2.2.2.1 (C.1.2.2.2.2 _ w1) (C.1.2.2.2.2 _ w2) (C.1.2.2.2.2 _ w4) (C.1.2.2.2.2 _ w5) (Nat.le_trans hroom.1 C.2.2.2.1.1) ?_ (by omega) (by omega) hd (K.2 p e R s m args below meth c h0 C hl0 H locs ls hR hS hv)
  have e1 := vsum_cv G.2.1 st
  have e2 := C.2.2.2.1.2.1
  omega
-- ends
theorem r_iret {x : Int32} (hr : M.2.2.2.2.1 = some .int) (hd : decode M.1 pc = .ok (.ireturn, 1)) : RJ G l M (some (vI x)) h pc lv [vI x] h :=
  ⟨Le.rf, fun p e R s m args below meth c h0 C hl0 H locs ls hR hS hv => W.iret C.1.1 C.1.2.1 (C.2.1.2.1.trans hr) (fun t ht hW => ⟨rfl, by rw [ht]; exact hR, hS.F ht⟩) hS.2.2 hd C.2.1.1⟩
theorem nar_bool {x : Int32} (hx : x = 0 ∨ x = 1) : narrow .boolean (.int x) = .int x := by
  rcases hx with rfl | rfl <;> decide +kernel
theorem r_zret {x y : Int32} (hr : M.2.2.2.2.1 = some .boolean) (hd : decode M.1 pc = .ok (.ireturn, 1)) (hx : okZ x = some y) : RJ G l M (some (vI y)) h pc lv [vI x] h := by
  obtain ⟨rfl, hx⟩ := okZ_sp hx
  exact ⟨Le.rf, fun p e R s m args below meth c h0 C hl0 H locs ls hR hS hv => W.zret C.1.1 C.1.2.1 (C.2.1.2.1.trans hr) (nar_bool hx) (fun t ht hW => ⟨rfl, by rw [ht]; exact hR, hS.F ht⟩) hS.2.2 hd C.2.1.1⟩
theorem r_lret {x : Int64} (hr : M.2.2.2.2.1 = some .long) (hd : decode M.1 pc = .ok (.lreturn, 1)) : RJ G l M (some (vL x)) h pc lv [vL x] h :=
  ⟨Le.rf, fun p e R s m args below meth c h0 C hl0 H locs ls hR hS hv => W.lret C.1.1 C.1.2.1 (C.2.1.2.1.trans hr) (fun t ht hW => ⟨rfl, by rw [ht]; exact hR, hS.F ht⟩) hS.2.2 hd C.2.1.1⟩
theorem r_vret (hr : M.2.2.2.2.1 = none) (hd : decode M.1 pc = .ok (.return_, 1)) : RJ G l M none h pc lv [] h :=
  ⟨Le.rf, fun p e R s m args below meth c h0 C hl0 H locs ls hR hS hv => W.vret C.1.1 C.1.2.1 (C.2.1.2.1.trans hr) (fun t ht hW => ⟨rfl, by rw [ht]; exact hR, hS.F ht⟩) hS.2.2 hd C.2.1.1⟩
theorem r_aret {x : Option Nat} {Cn : String} (hr : M.2.2.2.2.1 = some (.object Cn)) (hd : decode M.1 pc = .ok (.areturn, 1)) : RJ G l M (some (vR x)) h pc lv [vR x] h :=
  ⟨Le.rf, fun p e R s m args below meth c h0 C hl0 H locs ls hR hS hv => W.aret C.1.1 C.1.2.1 (C.2.1.2.1.trans hr) (Or.inl ⟨_, rfl⟩) (by cases x with | none => exact Or.inl rfl | some a => exact Or.inr ⟨_, rfl⟩) (fun t ht hW => ⟨rfl, by rw [ht]; exact hR, hS.F ht⟩) hS.2.2 hd C.2.1.1⟩
-- entry
def largs : Nat → List Vv → List (Nat × Vv)
  | _, [] => []
  | i, x :: xs => (i, x) :: largs (if vW x = true then i + 2 else i + 1) xs
theorem largs_cv (b : Nat) : ∀ (xs : List Vv) (i : Nat), lv_args i (xs.map (cv b)) = cvl b (largs i xs)
  | [], _ => rfl
  | x :: xs, i => by
    have ih := largs_cv b xs
    have hc : ((cv b x).category = 2) = (vW x = true) := by rw [← vW_cat b x]; simp
    simp only [List.map_cons, lv_args, largs, cvl, hc]
    rw [ih]
theorem lg_len (b : Nat) (xs : List Vv) : (lg_sl (xs.map (cv b))).length = (xs.map vcat).sum := by
  induction xs with
  | nil => rfl
  | cons x xs ih =>
    have e : lg_sl ((x :: xs).map (cv b)) = (if (cv b x).category = 2 then [Slot.val (cv b x), Slot.second] else [Slot.val (cv b x)]) ++ lg_sl (xs.map (cv b)) := by simp [lg_sl]
    rw [e, List.length_append, ih, List.map_cons, List.sum_cons, vcat_cv]
    unfold vcat
    cases vW x <;> simp
theorem r_entry {cc : ByteArray} {maxL fr lo : Nat} {ctor : Bool} {ret : Option FieldType} {own : String} {av : List Vv} (hy : plainName y.cls = true) (ho : y.cls = own) (hct : ctor = true → y.name = "<init>") (hsz : (av.map vcat).sum ≤ maxL) (K : RJ G l (cc, maxL, own, ctor, ret, fr, lo) v h' 0 (largs 0 av) [] h) : KM l y (.code y cc maxL ret :: wsK) fr lo G av h v h' := by
  refine ⟨K.1, Met.ofW (cc := cc) (maxL := maxL) (ret := ret) hy rfl ?_⟩
  intro p e s m args below meth c s₁ B hml hv
  obtain ⟨rfl, hR, hKn, hN, hX⟩ := hv
  have hts := atoms_spec (ws := .code y cc maxL ret :: wsK) B.pre
  have hown : s.vm.findClass own = some m.cls := ho ▸ findClass_of_methodNamed B.named
  have hl := lv_entry (av.map (cv G.2.1)) (n := maxL) (by rw [lg_len]; exact hsz)
  rw [largs_cv] at hl
  rw [lg_entry_eq]
  generalize (lg_sl (av.map (cv G.2.1)) ++ List.replicate (maxL - (lg_sl (av.map (cv G.2.1))).length) Slot.unset).toArray = ls at hl ⊢
  have K2 := K.2 p e ({ frames := fr, cells := h'.length - h.length, slots := sl h' - sl h, locals := lo } : Room) s m _ below meth c h ⟨⟨B.exec, B.bytes, hml, hown, fun w hw => hts w (List.mem_cons_of_mem _ hw)⟩, ⟨B.notSynchronized, B.returns, fun q => ((name_of_methodNamed B.named B.method).1).trans (hct q)⟩, ⟨hKn, hN, hX⟩, ⟨Nat.le_refl _, Nat.le_refl _, Nat.le_refl _, Nat.le_refl _⟩, hR.1⟩ Le.rf s.heap [] ls hR va_S.rf hl
  exact W.widen (Nat.zero_le _) (Nat.zero_le _) K2
end RJC
end
section
abbrev lws : List Nat := [0, 1, 2, 3, 4, 6, 7, 9]
theorem fl_0_0 : FL [0] 0 "NumberedByAge$Law" "kind" "I" true := FL.one tyX0 rfl ic_0 rfl (by decide) tyX0_ok nmX0
theorem fl_1_0 : FL [1] 0 "NumberedByAge$Law" "kind" "I" true := FL.one tyX1 rfl ic_1 rfl (by decide) tyX1_ok nmX1
theorem fl_2_0 : FL [2] 0 "NumberedByAge$Law" "kind" "I" true := FL.one tyX2 rfl ic_2 rfl (by decide) tyX2_ok nmX2
theorem fl_3_0 : FL [3] 0 "NumberedByAge$Law" "kind" "I" true := FL.one tyX3 rfl ic_3 rfl (by decide) tyX3_ok nmX3
theorem fl_4_0 : FL [4] 0 "NumberedByAge$Law" "kind" "I" true := FL.one tyX4 rfl ic_4 rfl (by decide) tyX4_ok nmX4
theorem fl_6_0 : FL [6] 0 "NumberedByAge$Law" "kind" "I" true := FL.one tyX6 rfl ic_6 rfl (by decide) tyX6_ok nmX6
theorem fl_7_0 : FL [7] 0 "NumberedByAge$Law" "kind" "I" true := FL.one tyX7 rfl ic_7 rfl (by decide) tyX7_ok nmX7
theorem fl_9_0 : FL [9] 0 "NumberedByAge$Law" "kind" "I" true := FL.one tyX9 rfl ic_9 rfl (by decide) tyX9_ok nmX9
theorem fl_L_0 : FL lws 0 "NumberedByAge$Law" "kind" "I" true := (FL.cons fl_0_0 (FL.cons fl_1_0 (FL.cons fl_2_0 (FL.cons fl_3_0 (FL.cons fl_4_0 (FL.cons fl_6_0 (FL.cons fl_7_0 fl_9_0)))))))
theorem fl_0_1 : FL [0] 1 "NumberedByAge$Law" "figure" "I" true := FL.one tyX0 rfl ic_0 rfl (by decide) tyX0_ok nmX0
theorem fl_1_1 : FL [1] 1 "NumberedByAge$Law" "figure" "I" true := FL.one tyX1 rfl ic_1 rfl (by decide) tyX1_ok nmX1
theorem fl_2_1 : FL [2] 1 "NumberedByAge$Law" "figure" "I" true := FL.one tyX2 rfl ic_2 rfl (by decide) tyX2_ok nmX2
theorem fl_3_1 : FL [3] 1 "NumberedByAge$Law" "figure" "I" true := FL.one tyX3 rfl ic_3 rfl (by decide) tyX3_ok nmX3
theorem fl_4_1 : FL [4] 1 "NumberedByAge$Law" "figure" "I" true := FL.one tyX4 rfl ic_4 rfl (by decide) tyX4_ok nmX4
theorem fl_6_1 : FL [6] 1 "NumberedByAge$Law" "figure" "I" true := FL.one tyX6 rfl ic_6 rfl (by decide) tyX6_ok nmX6
theorem fl_7_1 : FL [7] 1 "NumberedByAge$Law" "figure" "I" true := FL.one tyX7 rfl ic_7 rfl (by decide) tyX7_ok nmX7
theorem fl_9_1 : FL [9] 1 "NumberedByAge$Law" "figure" "I" true := FL.one tyX9 rfl ic_9 rfl (by decide) tyX9_ok nmX9
theorem fl_L_1 : FL lws 1 "NumberedByAge$Law" "figure" "I" true := (FL.cons fl_0_1 (FL.cons fl_1_1 (FL.cons fl_2_1 (FL.cons fl_3_1 (FL.cons fl_4_1 (FL.cons fl_6_1 (FL.cons fl_7_1 fl_9_1)))))))
theorem fl_5_0 : FL [5] 0 "NumberedByAge$Shelf" "law" "LNumberedByAge$Law;" false := FL.one tyX5 rfl ic_5 rfl (by decide) tyX5_ok nmX5
theorem fl_5_1 : FL [5] 1 "NumberedByAge$Shelf" "sort" "I" false := FL.one tyX5 rfl ic_5 rfl (by decide) tyX5_ok nmX5
theorem fl_5_2 : FL [5] 2 "NumberedByAge$Shelf" "size" "I" false := FL.one tyX5 rfl ic_5 rfl (by decide) tyX5_ok nmX5
theorem fl_5_3 : FL [5] 3 "NumberedByAge$Shelf" "elements" "[I" true := FL.one tyX5 rfl ic_5 rfl (by decide) tyX5_ok nmX5
theorem fl_8_0 : FL [8] 0 "NumberedByAge$Street" "numbers" "[I" true := FL.one tyX8 rfl ic_8 rfl (by decide) tyX8_ok nmX8
theorem fl_8_1 : FL [8] 1 "NumberedByAge$Street" "heights" "[I" true := FL.one tyX8 rfl ic_8 rfl (by decide) tyX8_ok nmX8
theorem fl_8_2 : FL [8] 2 "NumberedByAge$Street" "births" "[I" true := FL.one tyX8 rfl ic_8 rfl (by decide) tyX8_ok nmX8
theorem fl_8_3 : FL [8] 3 "NumberedByAge$Street" "builtInQuarters" "[I" true := FL.one tyX8 rfl ic_8 rfl (by decide) tyX8_ok nmX8
theorem fl_8_4 : FL [8] 4 "NumberedByAge$Street" "plotsOfEvents" "[I" true := FL.one tyX8 rfl ic_8 rfl (by decide) tyX8_ok nmX8
theorem fl_8_5 : FL [8] 5 "NumberedByAge$Street" "heightsOfEvents" "[I" true := FL.one tyX8 rfl ic_8 rfl (by decide) tyX8_ok nmX8
theorem fl_8_6 : FL [8] 6 "NumberedByAge$Street" "rises" "[I" true := FL.one tyX8 rfl ic_8 rfl (by decide) tyX8_ok nmX8
theorem fl_8_7 : FL [8] 7 "NumberedByAge$Street" "events" "I" false := FL.one tyX8 rfl ic_8 rfl (by decide) tyX8_ok nmX8
theorem fl_8_8 : FL [8] 8 "NumberedByAge$Street" "built" "I" false := FL.one tyX8 rfl ic_8 rfl (by decide) tyX8_ok nmX8
theorem fl_8_9 : FL [8] 9 "NumberedByAge$Street" "law" "LNumberedByAge$Law;" false := FL.one tyX8 rfl ic_8 rfl (by decide) tyX8_ok nmX8
theorem fl_10_0 : FL [10] 0 "NumberedByAge" "town" "LNumberedByAge$Street;" true := FL.one tyX10 rfl ic_10 rfl (by decide) tyX10_ok nmX10
theorem fl_10_1 : FL [10] 1 "NumberedByAge" "mind" "LNumberedByAge$Street;" true := FL.one tyX10 rfl ic_10 rfl (by decide) tyX10_ok nmX10
theorem fl_10_2 : FL [10] 2 "NumberedByAge" "image" "LNumberedByAge$Street;" true := FL.one tyX10 rfl ic_10 rfl (by decide) tyX10_ok nmX10
theorem fl_10_3 : FL [10] 3 "NumberedByAge" "imageTaken" "Z" false := FL.one tyX10 rfl ic_10 rfl (by decide) tyX10_ok nmX10
theorem fl_10_4 : FL [10] 4 "NumberedByAge" "shelves" "[LNumberedByAge$Shelf;" true := FL.one tyX10 rfl ic_10 rfl (by decide) tyX10_ok nmX10
theorem fl_11_0 : FL [11] 0 "NumberedByAgeModel" "kind" "I" false := FL.one tyX11 rfl ic_11 rfl (by decide) tyX11_ok nmX11
theorem fl_11_1 : FL [11] 1 "NumberedByAgeModel" "figure" "I" false := FL.one tyX11 rfl ic_11 rfl (by decide) tyX11_ok nmX11
theorem fl_11_2 : FL [11] 2 "NumberedByAgeModel" "eventMany" "I" false := FL.one tyX11 rfl ic_11 rfl (by decide) tyX11_ok nmX11
theorem fl_11_3 : FL [11] 3 "NumberedByAgeModel" "eventPlot" "[I" true := FL.one tyX11 rfl ic_11 rfl (by decide) tyX11_ok nmX11
theorem fl_11_4 : FL [11] 4 "NumberedByAgeModel" "eventHeight" "[I" true := FL.one tyX11 rfl ic_11 rfl (by decide) tyX11_ok nmX11
theorem fl_11_5 : FL [11] 5 "NumberedByAgeModel" "numbers" "[I" true := FL.one tyX11 rfl ic_11 rfl (by decide) tyX11_ok nmX11
theorem fl_11_6 : FL [11] 6 "NumberedByAgeModel" "thrown" "I" false := FL.one tyX11 rfl ic_11 rfl (by decide) tyX11_ok nmX11
theorem fl_11_7 : FL [11] 7 "NumberedByAgeModel" "looked" "[I" true := FL.one tyX11 rfl ic_11 rfl (by decide) tyX11_ok nmX11
theorem fl_11_8 : FL [11] 8 "NumberedByAgeModel" "quarters" "[I" true := FL.one tyX11 rfl ic_11 rfl (by decide) tyX11_ok nmX11
theorem fl_11_9 : FL [11] 9 "NumberedByAgeModel" "base" "I" false := FL.one tyX11 rfl ic_11 rfl (by decide) tyX11_ok nmX11
theorem fl_11_10 : FL [11] 10 "NumberedByAgeModel" "end" "I" false := FL.one tyX11 rfl ic_11 rfl (by decide) tyX11_ok nmX11
theorem fl_11_11 : FL [11] 11 "NumberedByAgeModel" "at" "I" false := FL.one tyX11 rfl ic_11 rfl (by decide) tyX11_ok nmX11
theorem fl_11_12 : FL [11] 12 "NumberedByAgeModel" "isBad" "Z" false := FL.one tyX11 rfl ic_11 rfl (by decide) tyX11_ok nmX11
theorem fl_11_13 : FL [11] 13 "NumberedByAgeModel" "statements" "I" false := FL.one tyX11 rfl ic_11 rfl (by decide) tyX11_ok nmX11
theorem fl_11_14 : FL [11] 14 "NumberedByAgeModel" "placeOf" "[I" true := FL.one tyX11 rfl ic_11 rfl (by decide) tyX11_ok nmX11
theorem fl_11_15 : FL [11] 15 "NumberedByAgeModel" "letterOf" "[I" true := FL.one tyX11 rfl ic_11 rfl (by decide) tyX11_ok nmX11
theorem fl_11_16 : FL [11] 16 "NumberedByAgeModel" "first" "[I" true := FL.one tyX11 rfl ic_11 rfl (by decide) tyX11_ok nmX11
theorem fl_11_17 : FL [11] 17 "NumberedByAgeModel" "second" "[I" true := FL.one tyX11 rfl ic_11 rfl (by decide) tyX11_ok nmX11
theorem fl_11_18 : FL [11] 18 "NumberedByAgeModel" "kept" "[I" true := FL.one tyX11 rfl ic_11 rfl (by decide) tyX11_ok nmX11
theorem fl_11_19 : FL [11] 19 "NumberedByAgeModel" "imaged" "[I" true := FL.one tyX11 rfl ic_11 rfl (by decide) tyX11_ok nmX11
theorem fl_11_20 : FL [11] 20 "NumberedByAgeModel" "hasImage" "Z" false := FL.one tyX11 rfl ic_11 rfl (by decide) tyX11_ok nmX11
theorem fl_11_21 : FL [11] 21 "NumberedByAgeModel" "place" "I" false := FL.one tyX11 rfl ic_11 rfl (by decide) tyX11_ok nmX11
theorem fl_11_22 : FL [11] 22 "NumberedByAgeModel" "isTaking" "Z" false := FL.one tyX11 rfl ic_11 rfl (by decide) tyX11_ok nmX11
theorem fl_11_23 : FL [11] 23 "NumberedByAgeModel" "keptIn" "[I" false := FL.one tyX11 rfl ic_11 rfl (by decide) tyX11_ok nmX11
theorem fl_11_24 : FL [11] 24 "NumberedByAgeModel" "risesTo" "[I" true := FL.one tyX11 rfl ic_11 rfl (by decide) tyX11_ok nmX11
theorem fl_11_25 : FL [11] 25 "NumberedByAgeModel" "houses" "[I" true := FL.one tyX11 rfl ic_11 rfl (by decide) tyX11_ok nmX11
theorem fl_11_26 : FL [11] 26 "NumberedByAgeModel" "order0" "[I" true := FL.one tyX11 rfl ic_11 rfl (by decide) tyX11_ok nmX11
theorem fl_11_27 : FL [11] 27 "NumberedByAgeModel" "seed" "I" false := FL.one tyX11 rfl ic_11 rfl (by decide) tyX11_ok nmX11
theorem fl_11_28 : FL [11] 28 "NumberedByAgeModel" "holdsWhat" "[I" true := FL.one tyX11 rfl ic_11 rfl (by decide) tyX11_ok nmX11
theorem fl_11_29 : FL [11] 29 "NumberedByAgeModel" "lawKind" "[I" true := FL.one tyX11 rfl ic_11 rfl (by decide) tyX11_ok nmX11
theorem fl_11_30 : FL [11] 30 "NumberedByAgeModel" "lawFigure" "[I" true := FL.one tyX11 rfl ic_11 rfl (by decide) tyX11_ok nmX11
theorem fl_11_31 : FL [11] 31 "NumberedByAgeModel" "rowSort" "[I" true := FL.one tyX11 rfl ic_11 rfl (by decide) tyX11_ok nmX11
theorem fl_11_32 : FL [11] 32 "NumberedByAgeModel" "rowMany" "[I" true := FL.one tyX11 rfl ic_11 rfl (by decide) tyX11_ok nmX11
theorem fl_11_33 : FL [11] 33 "NumberedByAgeModel" "rows" "[J" true := FL.one tyX11 rfl ic_11 rfl (by decide) tyX11_ok nmX11
theorem fl_11_34 : FL [11] 34 "NumberedByAgeModel" "between" "[J" true := FL.one tyX11 rfl ic_11 rfl (by decide) tyX11_ok nmX11
theorem dv_0 (b : Nat) : ∀ j, j < 2 → defaultValue (tyX0 j) = vp_V (([vI 0, vI 0] : List Vv).map (cv b)) j := by
  intro j hj
  match j, hj with
  | 0, _ => rfl
  | 1, _ => rfl
  | j + 2, hj => omega
theorem dv_1 (b : Nat) : ∀ j, j < 2 → defaultValue (tyX1 j) = vp_V (([vI 0, vI 0] : List Vv).map (cv b)) j := by
  intro j hj
  match j, hj with
  | 0, _ => rfl
  | 1, _ => rfl
  | j + 2, hj => omega
theorem dv_2 (b : Nat) : ∀ j, j < 2 → defaultValue (tyX2 j) = vp_V (([vI 0, vI 0] : List Vv).map (cv b)) j := by
  intro j hj
  match j, hj with
  | 0, _ => rfl
  | 1, _ => rfl
  | j + 2, hj => omega
theorem dv_3 (b : Nat) : ∀ j, j < 2 → defaultValue (tyX3 j) = vp_V (([vI 0, vI 0] : List Vv).map (cv b)) j := by
  intro j hj
  match j, hj with
  | 0, _ => rfl
  | 1, _ => rfl
  | j + 2, hj => omega
theorem dv_4 (b : Nat) : ∀ j, j < 2 → defaultValue (tyX4 j) = vp_V (([vI 0, vI 0] : List Vv).map (cv b)) j := by
  intro j hj
  match j, hj with
  | 0, _ => rfl
  | 1, _ => rfl
  | j + 2, hj => omega
theorem dv_5 (b : Nat) : ∀ j, j < 4 → defaultValue (tyX5 j) = vp_V (([vR none, vI 0, vI 0, vR none] : List Vv).map (cv b)) j := by
  intro j hj
  match j, hj with
  | 0, _ => rfl
  | 1, _ => rfl
  | 2, _ => rfl
  | 3, _ => rfl
  | j + 4, hj => omega
theorem dv_6 (b : Nat) : ∀ j, j < 2 → defaultValue (tyX6 j) = vp_V (([vI 0, vI 0] : List Vv).map (cv b)) j := by
  intro j hj
  match j, hj with
  | 0, _ => rfl
  | 1, _ => rfl
  | j + 2, hj => omega
theorem dv_7 (b : Nat) : ∀ j, j < 2 → defaultValue (tyX7 j) = vp_V (([vI 0, vI 0] : List Vv).map (cv b)) j := by
  intro j hj
  match j, hj with
  | 0, _ => rfl
  | 1, _ => rfl
  | j + 2, hj => omega
theorem dv_8 (b : Nat) : ∀ j, j < 10 → defaultValue (tyX8 j) = vp_V (([vR none, vR none, vR none, vR none, vR none, vR none, vR none, vI 0, vI 0, vR none] : List Vv).map (cv b)) j := by
  intro j hj
  match j, hj with
  | 0, _ => rfl
  | 1, _ => rfl
  | 2, _ => rfl
  | 3, _ => rfl
  | 4, _ => rfl
  | 5, _ => rfl
  | 6, _ => rfl
  | 7, _ => rfl
  | 8, _ => rfl
  | 9, _ => rfl
  | j + 10, hj => omega
theorem dv_9 (b : Nat) : ∀ j, j < 2 → defaultValue (tyX9 j) = vp_V (([vI 0, vI 0] : List Vv).map (cv b)) j := by
  intro j hj
  match j, hj with
  | 0, _ => rfl
  | 1, _ => rfl
  | j + 2, hj => omega
theorem dv_10 (b : Nat) : ∀ j, j < 5 → defaultValue (tyX10 j) = vp_V (([vR none, vR none, vR none, vI 0, vR none] : List Vv).map (cv b)) j := by
  intro j hj
  match j, hj with
  | 0, _ => rfl
  | 1, _ => rfl
  | 2, _ => rfl
  | 3, _ => rfl
  | 4, _ => rfl
  | j + 5, hj => omega
theorem dv_11 (b : Nat) : ∀ j, j < 35 → defaultValue (tyX11 j) = vp_V (([vI 0, vI 0, vI 0, vR none, vR none, vR none, vI 0, vR none, vR none, vI 0, vI 0, vI 0, vI 0, vI 0, vR none, vR none, vR none, vR none, vR none, vR none, vI 0, vI 0, vI 0, vR none, vR none, vR none, vR none, vI 0, vR none, vR none, vR none, vR none, vR none, vR none, vR none] : List Vv).map (cv b)) j := by
  intro j hj
  match j, hj with
  | 0, _ => rfl
  | 1, _ => rfl
  | 2, _ => rfl
  | 3, _ => rfl
  | 4, _ => rfl
  | 5, _ => rfl
  | 6, _ => rfl
  | 7, _ => rfl
  | 8, _ => rfl
  | 9, _ => rfl
  | 10, _ => rfl
  | 11, _ => rfl
  | 12, _ => rfl
  | 13, _ => rfl
  | 14, _ => rfl
  | 15, _ => rfl
  | 16, _ => rfl
  | 17, _ => rfl
  | 18, _ => rfl
  | 19, _ => rfl
  | 20, _ => rfl
  | 21, _ => rfl
  | 22, _ => rfl
  | 23, _ => rfl
  | 24, _ => rfl
  | 25, _ => rfl
  | 26, _ => rfl
  | 27, _ => rfl
  | 28, _ => rfl
  | 29, _ => rfl
  | 30, _ => rfl
  | 31, _ => rfl
  | 32, _ => rfl
  | 33, _ => rfl
  | 34, _ => rfl
  | j + 35, hj => omega
theorem oky_X10_init : okY yX10_init 0 := ⟨by decide +kernel, by decide +kernel, by decide +kernel⟩
theorem oky_X10_build : okY yX10_build 2 := ⟨by decide +kernel, by decide +kernel, by decide +kernel⟩
theorem oky_X10_burn : okY yX10_burn 1 := ⟨by decide +kernel, by decide +kernel, by decide +kernel⟩
theorem oky_X10_byLaw : okY yX10_byLaw 3 := ⟨by decide +kernel, by decide +kernel, by decide +kernel⟩
theorem oky_X10_carryOut : okY yX10_carryOut 1 := ⟨by decide +kernel, by decide +kernel, by decide +kernel⟩
theorem oky_X10_comesByAll : okY yX10_comesByAll 2 := ⟨by decide +kernel, by decide +kernel, by decide +kernel⟩
theorem oky_X10_copy : okY yX10_copy 5 := ⟨by decide +kernel, by decide +kernel, by decide +kernel⟩
theorem oky_X10_count : okY yX10_count 1 := ⟨by decide +kernel, by decide +kernel, by decide +kernel⟩
theorem oky_X10_digitsBehind : okY yX10_digitsBehind 1 := ⟨by decide +kernel, by decide +kernel, by decide +kernel⟩
theorem oky_X10_drawnBits : okY yX10_drawnBits 1 := ⟨by decide +kernel, by decide +kernel, by decide +kernel⟩
theorem oky_X10_element : okY yX10_element 2 := ⟨by decide +kernel, by decide +kernel, by decide +kernel⟩
theorem oky_X10_enact : okY yX10_enact 1 := ⟨by decide +kernel, by decide +kernel, by decide +kernel⟩
theorem oky_X10_falls : okY yX10_falls 0 := ⟨by decide +kernel, by decide +kernel, by decide +kernel⟩
theorem oky_X10_firstInOrder : okY yX10_firstInOrder 1 := ⟨by decide +kernel, by decide +kernel, by decide +kernel⟩
theorem oky_X10_gaps : okY yX10_gaps 0 := ⟨by decide +kernel, by decide +kernel, by decide +kernel⟩
theorem oky_X10_have : okY yX10_have 1 := ⟨by decide +kernel, by decide +kernel, by decide +kernel⟩
theorem oky_X10_house : okY yX10_house 2 := ⟨by decide +kernel, by decide +kernel, by decide +kernel⟩
theorem oky_X10_image : okY yX10_image 0 := ⟨by decide +kernel, by decide +kernel, by decide +kernel⟩
theorem oky_X10_isCarriedOut : okY yX10_isCarriedOut 2 := ⟨by decide +kernel, by decide +kernel, by decide +kernel⟩
theorem oky_X10_isHeight : okY yX10_isHeight 1 := ⟨by decide +kernel, by decide +kernel, by decide +kernel⟩
theorem oky_X10_isPlot : okY yX10_isPlot 1 := ⟨by decide +kernel, by decide +kernel, by decide +kernel⟩
theorem oky_X10_isTown : okY yX10_isTown 1 := ⟨by decide +kernel, by decide +kernel, by decide +kernel⟩
theorem oky_X10_joined : okY yX10_joined 2 := ⟨by decide +kernel, by decide +kernel, by decide +kernel⟩
theorem oky_X10_judge : okY yX10_judge 1 := ⟨by decide +kernel, by decide +kernel, by decide +kernel⟩
theorem oky_X10_keep : okY yX10_keep 4 := ⟨by decide +kernel, by decide +kernel, by decide +kernel⟩
theorem oky_X10_lawOf : okY yX10_lawOf 2 := ⟨by decide +kernel, by decide +kernel, by decide +kernel⟩
theorem oky_X10_laws : okY yX10_laws 1 := ⟨by decide +kernel, by decide +kernel, by decide +kernel⟩
theorem oky_X10_leastRaise : okY yX10_leastRaise 1 := ⟨by decide +kernel, by decide +kernel, by decide +kernel⟩
theorem oky_X10_leastWay : okY yX10_leastWay 2 := ⟨by decide +kernel, by decide +kernel, by decide +kernel⟩
theorem oky_X10_lengthOf : okY yX10_lengthOf 1 := ⟨by decide +kernel, by decide +kernel, by decide +kernel⟩
theorem oky_X10_letter : okY yX10_letter 1 := ⟨by decide +kernel, by decide +kernel, by decide +kernel⟩
theorem oky_X10_nextSeed : okY yX10_nextSeed 1 := ⟨by decide +kernel, by decide +kernel, by decide +kernel⟩
theorem oky_X10_orders : okY yX10_orders 1 := ⟨by decide +kernel, by decide +kernel, by decide +kernel⟩
theorem oky_X10_ordersFrom : okY yX10_ordersFrom 3 := ⟨by decide +kernel, by decide +kernel, by decide +kernel⟩
theorem oky_X10_plotsBetween : okY yX10_plotsBetween 2 := ⟨by decide +kernel, by decide +kernel, by decide +kernel⟩
theorem oky_X10_put : okY yX10_put 3 := ⟨by decide +kernel, by decide +kernel, by decide +kernel⟩
theorem oky_X10_restore : okY yX10_restore 0 := ⟨by decide +kernel, by decide +kernel, by decide +kernel⟩
theorem oky_X10_rise : okY yX10_rise 0 := ⟨by decide +kernel, by decide +kernel, by decide +kernel⟩
theorem oky_X10_row : okY yX10_row 3 := ⟨by decide +kernel, by decide +kernel, by decide +kernel⟩
theorem oky_X10_search : okY yX10_search 2 := ⟨by decide +kernel, by decide +kernel, by decide +kernel⟩
theorem oky_X10_seeded : okY yX10_seeded 3 := ⟨by decide +kernel, by decide +kernel, by decide +kernel⟩
theorem oky_X10_sharedIfRaised : okY yX10_sharedIfRaised 2 := ⟨by decide +kernel, by decide +kernel, by decide +kernel⟩
theorem oky_X10_shelfAt : okY yX10_shelfAt 1 := ⟨by decide +kernel, by decide +kernel, by decide +kernel⟩
theorem oky_X10_street : okY yX10_street 1 := ⟨by decide +kernel, by decide +kernel, by decide +kernel⟩
theorem oky_X10_stuckAt : okY yX10_stuckAt 1 := ⟨by decide +kernel, by decide +kernel, by decide +kernel⟩
theorem oky_X10_stuckInStatement : okY yX10_stuckInStatement 2 := ⟨by decide +kernel, by decide +kernel, by decide +kernel⟩
theorem oky_X10_tax : okY yX10_tax 1 := ⟨by decide +kernel, by decide +kernel, by decide +kernel⟩
theorem oky_X10_toss : okY yX10_toss 1 := ⟨by decide +kernel, by decide +kernel, by decide +kernel⟩
theorem oky_X10_walk : okY yX10_walk 2 := ⟨by decide +kernel, by decide +kernel, by decide +kernel⟩
theorem oky_X10_wayBy : okY yX10_wayBy 3 := ⟨by decide +kernel, by decide +kernel, by decide +kernel⟩
theorem oky_X10_wayOfSearch : okY yX10_wayOfSearch 2 := ⟨by decide +kernel, by decide +kernel, by decide +kernel⟩
theorem oky_X10_where : okY yX10_where 2 := ⟨by decide +kernel, by decide +kernel, by decide +kernel⟩
theorem oky_X10_would : okY yX10_would 2 := ⟨by decide +kernel, by decide +kernel, by decide +kernel⟩
theorem oky_X0_init : okY yX0_init 2 := ⟨by decide +kernel, by decide +kernel, by decide +kernel⟩
theorem oky_X0_levy : okY yX0_levy 0 := ⟨by decide +kernel, by decide +kernel, by decide +kernel⟩
theorem oky_X0_numberFor : okY yX0_numberFor 3 := ⟨by decide +kernel, by decide +kernel, by decide +kernel⟩
theorem oky_X1_init : okY yX1_init 2 := ⟨by decide +kernel, by decide +kernel, by decide +kernel⟩
theorem oky_X1_levy : okY yX1_levy 0 := ⟨by decide +kernel, by decide +kernel, by decide +kernel⟩
theorem oky_X1_numberFor : okY yX1_numberFor 3 := ⟨by decide +kernel, by decide +kernel, by decide +kernel⟩
theorem oky_X2_init : okY yX2_init 2 := ⟨by decide +kernel, by decide +kernel, by decide +kernel⟩
theorem oky_X2_fail : okY yX2_fail 0 := ⟨by decide +kernel, by decide +kernel, by decide +kernel⟩
theorem oky_X2_levy : okY yX2_levy 0 := ⟨by decide +kernel, by decide +kernel, by decide +kernel⟩
theorem oky_X2_numberFor : okY yX2_numberFor 3 := ⟨by decide +kernel, by decide +kernel, by decide +kernel⟩
theorem oky_X3_init : okY yX3_init 2 := ⟨by decide +kernel, by decide +kernel, by decide +kernel⟩
theorem oky_X3_fail : okY yX3_fail 0 := ⟨by decide +kernel, by decide +kernel, by decide +kernel⟩
theorem oky_X3_levy : okY yX3_levy 0 := ⟨by decide +kernel, by decide +kernel, by decide +kernel⟩
theorem oky_X3_numberFor : okY yX3_numberFor 3 := ⟨by decide +kernel, by decide +kernel, by decide +kernel⟩
theorem oky_X4_init : okY yX4_init 2 := ⟨by decide +kernel, by decide +kernel, by decide +kernel⟩
theorem oky_X4_levy : okY yX4_levy 0 := ⟨by decide +kernel, by decide +kernel, by decide +kernel⟩
theorem oky_X4_numberFor : okY yX4_numberFor 3 := ⟨by decide +kernel, by decide +kernel, by decide +kernel⟩
theorem oky_X5_init : okY yX5_init 0 := ⟨by decide +kernel, by decide +kernel, by decide +kernel⟩
theorem oky_X5_at : okY yX5_at 1 := ⟨by decide +kernel, by decide +kernel, by decide +kernel⟩
theorem oky_X5_hasPlace : okY yX5_hasPlace 1 := ⟨by decide +kernel, by decide +kernel, by decide +kernel⟩
theorem oky_X5_hasPlaces : okY yX5_hasPlaces 2 := ⟨by decide +kernel, by decide +kernel, by decide +kernel⟩
theorem oky_X5_hold : okY yX5_hold 1 := ⟨by decide +kernel, by decide +kernel, by decide +kernel⟩
theorem oky_X5_holdRow : okY yX5_holdRow 2 := ⟨by decide +kernel, by decide +kernel, by decide +kernel⟩
theorem oky_X5_holdsNothing : okY yX5_holdsNothing 0 := ⟨by decide +kernel, by decide +kernel, by decide +kernel⟩
theorem oky_X5_holdsRow : okY yX5_holdsRow 0 := ⟨by decide +kernel, by decide +kernel, by decide +kernel⟩
theorem oky_X5_kept : okY yX5_kept 1 := ⟨by decide +kernel, by decide +kernel, by decide +kernel⟩
theorem oky_X5_leastOfSort : okY yX5_leastOfSort 0 := ⟨by decide +kernel, by decide +kernel, by decide +kernel⟩
theorem oky_X5_refusalAsLaw : okY yX5_refusalAsLaw 0 := ⟨by decide +kernel, by decide +kernel, by decide +kernel⟩
theorem oky_X5_refusalAsRow : okY yX5_refusalAsRow 0 := ⟨by decide +kernel, by decide +kernel, by decide +kernel⟩
theorem oky_X5_refusalAsRowOf : okY yX5_refusalAsRowOf 1 := ⟨by decide +kernel, by decide +kernel, by decide +kernel⟩
theorem oky_X5_set : okY yX5_set 2 := ⟨by decide +kernel, by decide +kernel, by decide +kernel⟩
theorem oky_X6_init : okY yX6_init 2 := ⟨by decide +kernel, by decide +kernel, by decide +kernel⟩
theorem oky_X6_fail : okY yX6_fail 0 := ⟨by decide +kernel, by decide +kernel, by decide +kernel⟩
theorem oky_X6_levy : okY yX6_levy 0 := ⟨by decide +kernel, by decide +kernel, by decide +kernel⟩
theorem oky_X6_numberFor : okY yX6_numberFor 3 := ⟨by decide +kernel, by decide +kernel, by decide +kernel⟩
theorem oky_X7_init : okY yX7_init 2 := ⟨by decide +kernel, by decide +kernel, by decide +kernel⟩
theorem oky_X7_levy : okY yX7_levy 0 := ⟨by decide +kernel, by decide +kernel, by decide +kernel⟩
theorem oky_X7_numberFor : okY yX7_numberFor 3 := ⟨by decide +kernel, by decide +kernel, by decide +kernel⟩
theorem oky_X8_init : okY yX8_init 0 := ⟨by decide +kernel, by decide +kernel, by decide +kernel⟩
theorem oky_X8_addEvent : okY yX8_addEvent 2 := ⟨by decide +kernel, by decide +kernel, by decide +kernel⟩
theorem oky_X8_ageAt : okY yX8_ageAt 1 := ⟨by decide +kernel, by decide +kernel, by decide +kernel⟩
theorem oky_X8_become : okY yX8_become 1 := ⟨by decide +kernel, by decide +kernel, by decide +kernel⟩
theorem oky_X8_builtAheadOf : okY yX8_builtAheadOf 1 := ⟨by decide +kernel, by decide +kernel, by decide +kernel⟩
theorem oky_X8_builtInQuarterOf : okY yX8_builtInQuarterOf 1 := ⟨by decide +kernel, by decide +kernel, by decide +kernel⟩
theorem oky_X8_canRaiseAs : okY yX8_canRaiseAs 2 := ⟨by decide +kernel, by decide +kernel, by decide +kernel⟩
theorem oky_X8_clear : okY yX8_clear 1 := ⟨by decide +kernel, by decide +kernel, by decide +kernel⟩
theorem oky_X8_freeNumbers : okY yX8_freeNumbers 0 := ⟨by decide +kernel, by decide +kernel, by decide +kernel⟩
theorem oky_X8_goThrough : okY yX8_goThrough 2 := ⟨by decide +kernel, by decide +kernel, by decide +kernel⟩
theorem oky_X8_greatest : okY yX8_greatest 0 := ⟨by decide +kernel, by decide +kernel, by decide +kernel⟩
theorem oky_X8_hasHouse : okY yX8_hasHouse 1 := ⟨by decide +kernel, by decide +kernel, by decide +kernel⟩
theorem oky_X8_hasNumbersOf : okY yX8_hasNumbersOf 1 := ⟨by decide +kernel, by decide +kernel, by decide +kernel⟩
theorem oky_X8_heightAt : okY yX8_heightAt 1 := ⟨by decide +kernel, by decide +kernel, by decide +kernel⟩
theorem oky_X8_houses : okY yX8_houses 0 := ⟨by decide +kernel, by decide +kernel, by decide +kernel⟩
theorem oky_X8_leastFree : okY yX8_leastFree 0 := ⟨by decide +kernel, by decide +kernel, by decide +kernel⟩
theorem oky_X8_longestRise : okY yX8_longestRise 0 := ⟨by decide +kernel, by decide +kernel, by decide +kernel⟩
theorem oky_X8_longestRiseBelow : okY yX8_longestRiseBelow 1 := ⟨by decide +kernel, by decide +kernel, by decide +kernel⟩
theorem oky_X8_numberAt : okY yX8_numberAt 1 := ⟨by decide +kernel, by decide +kernel, by decide +kernel⟩
theorem oky_X8_pairsNotRising : okY yX8_pairsNotRising 0 := ⟨by decide +kernel, by decide +kernel, by decide +kernel⟩
theorem oky_X8_plotsWith : okY yX8_plotsWith 1 := ⟨by decide +kernel, by decide +kernel, by decide +kernel⟩
theorem oky_X8_raise : okY yX8_raise 2 := ⟨by decide +kernel, by decide +kernel, by decide +kernel⟩
theorem oky_X8_raze : okY yX8_raze 1 := ⟨by decide +kernel, by decide +kernel, by decide +kernel⟩
theorem oky_X8_takeBack : okY yX8_takeBack 1 := ⟨by decide +kernel, by decide +kernel, by decide +kernel⟩
theorem oky_X9_init : okY yX9_init 2 := ⟨by decide +kernel, by decide +kernel, by decide +kernel⟩
theorem oky_X9_fail : okY yX9_fail 0 := ⟨by decide +kernel, by decide +kernel, by decide +kernel⟩
theorem oky_X9_numberFor : okY yX9_numberFor 3 := ⟨by decide +kernel, by decide +kernel, by decide +kernel⟩
theorem oky_X11_init : okY yX11_init 0 := ⟨by decide +kernel, by decide +kernel, by decide +kernel⟩
theorem oky_X11_areAsNow : okY yX11_areAsNow 0 := ⟨by decide +kernel, by decide +kernel, by decide +kernel⟩
theorem oky_X11_areMet : okY yX11_areMet 3 := ⟨by decide +kernel, by decide +kernel, by decide +kernel⟩
theorem oky_X11_build : okY yX11_build 2 := ⟨by decide +kernel, by decide +kernel, by decide +kernel⟩
theorem oky_X11_buildLooked : okY yX11_buildLooked 4 := ⟨by decide +kernel, by decide +kernel, by decide +kernel⟩
theorem oky_X11_builds : okY yX11_builds 2 := ⟨by decide +kernel, by decide +kernel, by decide +kernel⟩
theorem oky_X11_builtAt : okY yX11_builtAt 1 := ⟨by decide +kernel, by decide +kernel, by decide +kernel⟩
theorem oky_X11_burn : okY yX11_burn 1 := ⟨by decide +kernel, by decide +kernel, by decide +kernel⟩
theorem oky_X11_burns : okY yX11_burns 1 := ⟨by decide +kernel, by decide +kernel, by decide +kernel⟩
theorem oky_X11_byLaw : okY yX11_byLaw 3 := ⟨by decide +kernel, by decide +kernel, by decide +kernel⟩
theorem oky_X11_carry : okY yX11_carry 1 := ⟨by decide +kernel, by decide +kernel, by decide +kernel⟩
theorem oky_X11_carryAll : okY yX11_carryAll 2 := ⟨by decide +kernel, by decide +kernel, by decide +kernel⟩
theorem oky_X11_comes : okY yX11_comes 1 := ⟨by decide +kernel, by decide +kernel, by decide +kernel⟩
theorem oky_X11_copy : okY yX11_copy 5 := ⟨by decide +kernel, by decide +kernel, by decide +kernel⟩
theorem oky_X11_count : okY yX11_count 1 := ⟨by decide +kernel, by decide +kernel, by decide +kernel⟩
theorem oky_X11_draw : okY yX11_draw 1 := ⟨by decide +kernel, by decide +kernel, by decide +kernel⟩
theorem oky_X11_element : okY yX11_element 2 := ⟨by decide +kernel, by decide +kernel, by decide +kernel⟩
theorem oky_X11_enact : okY yX11_enact 1 := ⟨by decide +kernel, by decide +kernel, by decide +kernel⟩
theorem oky_X11_falls : okY yX11_falls 0 := ⟨by decide +kernel, by decide +kernel, by decide +kernel⟩
theorem oky_X11_firstGap : okY yX11_firstGap 0 := ⟨by decide +kernel, by decide +kernel, by decide +kernel⟩
theorem oky_X11_gaps : okY yX11_gaps 0 := ⟨by decide +kernel, by decide +kernel, by decide +kernel⟩
theorem oky_X11_gapsLooked : okY yX11_gapsLooked 0 := ⟨by decide +kernel, by decide +kernel, by decide +kernel⟩
theorem oky_X11_greatest : okY yX11_greatest 0 := ⟨by decide +kernel, by decide +kernel, by decide +kernel⟩
theorem oky_X11_hadOf : okY yX11_hadOf 2 := ⟨by decide +kernel, by decide +kernel, by decide +kernel⟩
theorem oky_X11_have : okY yX11_have 1 := ⟨by decide +kernel, by decide +kernel, by decide +kernel⟩
theorem oky_X11_here : okY yX11_here 0 := ⟨by decide +kernel, by decide +kernel, by decide +kernel⟩
theorem oky_X11_house : okY yX11_house 2 := ⟨by decide +kernel, by decide +kernel, by decide +kernel⟩
theorem oky_X11_houseMany : okY yX11_houseMany 0 := ⟨by decide +kernel, by decide +kernel, by decide +kernel⟩
theorem oky_X11_image : okY yX11_image 0 := ⟨by decide +kernel, by decide +kernel, by decide +kernel⟩
theorem oky_X11_in : okY yX11_in 3 := ⟨by decide +kernel, by decide +kernel, by decide +kernel⟩
theorem oky_X11_isHad : okY yX11_isHad 1 := ⟨by decide +kernel, by decide +kernel, by decide +kernel⟩
theorem oky_X11_isIn : okY yX11_isIn 3 := ⟨by decide +kernel, by decide +kernel, by decide +kernel⟩
theorem oky_X11_isPlot : okY yX11_isPlot 1 := ⟨by decide +kernel, by decide +kernel, by decide +kernel⟩
theorem oky_X11_joined : okY yX11_joined 2 := ⟨by decide +kernel, by decide +kernel, by decide +kernel⟩
theorem oky_X11_judge : okY yX11_judge 1 := ⟨by decide +kernel, by decide +kernel, by decide +kernel⟩
theorem oky_X11_keep : okY yX11_keep 4 := ⟨by decide +kernel, by decide +kernel, by decide +kernel⟩
theorem oky_X11_laws : okY yX11_laws 1 := ⟨by decide +kernel, by decide +kernel, by decide +kernel⟩
theorem oky_X11_letter : okY yX11_letter 1 := ⟨by decide +kernel, by decide +kernel, by decide +kernel⟩
theorem oky_X11_lookEmpty : okY yX11_lookEmpty 0 := ⟨by decide +kernel, by decide +kernel, by decide +kernel⟩
theorem oky_X11_lookNow : okY yX11_lookNow 0 := ⟨by decide +kernel, by decide +kernel, by decide +kernel⟩
theorem oky_X11_narrowed : okY yX11_narrowed 2 := ⟨by decide +kernel, by decide +kernel, by decide +kernel⟩
theorem oky_X11_nextOrder : okY yX11_nextOrder 1 := ⟨by decide +kernel, by decide +kernel, by decide +kernel⟩
theorem oky_X11_numberBy : okY yX11_numberBy 4 := ⟨by decide +kernel, by decide +kernel, by decide +kernel⟩
theorem oky_X11_orders : okY yX11_orders 1 := ⟨by decide +kernel, by decide +kernel, by decide +kernel⟩
theorem oky_X11_put : okY yX11_put 3 := ⟨by decide +kernel, by decide +kernel, by decide +kernel⟩
theorem oky_X11_readDigit : okY yX11_readDigit 0 := ⟨by decide +kernel, by decide +kernel, by decide +kernel⟩
theorem oky_X11_readStatement : okY yX11_readStatement 0 := ⟨by decide +kernel, by decide +kernel, by decide +kernel⟩
theorem oky_X11_replay : okY yX11_replay 2 := ⟨by decide +kernel, by decide +kernel, by decide +kernel⟩
theorem oky_X11_restore : okY yX11_restore 0 := ⟨by decide +kernel, by decide +kernel, by decide +kernel⟩
theorem oky_X11_rise : okY yX11_rise 0 := ⟨by decide +kernel, by decide +kernel, by decide +kernel⟩
theorem oky_X11_riseLooked : okY yX11_riseLooked 0 := ⟨by decide +kernel, by decide +kernel, by decide +kernel⟩
theorem oky_X11_row : okY yX11_row 3 := ⟨by decide +kernel, by decide +kernel, by decide +kernel⟩
theorem oky_X11_search : okY yX11_search 2 := ⟨by decide +kernel, by decide +kernel, by decide +kernel⟩
theorem oky_X11_seeded : okY yX11_seeded 3 := ⟨by decide +kernel, by decide +kernel, by decide +kernel⟩
theorem oky_X11_skipped : okY yX11_skipped 2 := ⟨by decide +kernel, by decide +kernel, by decide +kernel⟩
theorem oky_X11_skippedIn : okY yX11_skippedIn 1 := ⟨by decide +kernel, by decide +kernel, by decide +kernel⟩
theorem oky_X11_street : okY yX11_street 1 := ⟨by decide +kernel, by decide +kernel, by decide +kernel⟩
theorem oky_X11_tax : okY yX11_tax 1 := ⟨by decide +kernel, by decide +kernel, by decide +kernel⟩
theorem oky_X11_taxOf : okY yX11_taxOf 2 := ⟨by decide +kernel, by decide +kernel, by decide +kernel⟩
theorem oky_X11_thrown : okY yX11_thrown 0 := ⟨by decide +kernel, by decide +kernel, by decide +kernel⟩
theorem oky_X11_toss : okY yX11_toss 1 := ⟨by decide +kernel, by decide +kernel, by decide +kernel⟩
theorem oky_X11_walk : okY yX11_walk 2 := ⟨by decide +kernel, by decide +kernel, by decide +kernel⟩
theorem oky_X11_where : okY yX11_where 2 := ⟨by decide +kernel, by decide +kernel, by decide +kernel⟩
theorem oky_X11_would : okY yX11_would 2 := ⟨by decide +kernel, by decide +kernel, by decide +kernel⟩
theorem oky_X11_wrongLaw : okY yX11_wrongLaw 1 := ⟨by decide +kernel, by decide +kernel, by decide +kernel⟩
theorem oky_X11_wrongRow : okY yX11_wrongRow 1 := ⟨by decide +kernel, by decide +kernel, by decide +kernel⟩
theorem oky_X11_wrongSort : okY yX11_wrongSort 2 := ⟨by decide +kernel, by decide +kernel, by decide +kernel⟩
theorem oky_J9_max_7cf53 : okY yJ9_max_7cf53 2 := ⟨by decide +kernel, by decide +kernel, by decide +kernel⟩
theorem oky_J9_min_7cf53 : okY yJ9_min_7cf53 2 := ⟨by decide +kernel, by decide +kernel, by decide +kernel⟩
theorem oky_J7_fill_53178 : okY yJ7_fill_53178 2 := ⟨by decide +kernel, by decide +kernel, by decide +kernel⟩
end
section
/-! ===== java/util/Arrays.fill([II)V ===== -/
abbrev M_J7_fill_53178 : Mx := (cJ7_fill_53178, 4, RJ7, false, none, 0, 0)
def f_J7_fill_53178_5  : Nat → Hp → (Option Nat) → Int32 → Int32 → Int32 → Option Hp
  | 0, _, _, _, _, _ => none
  | n + 1, h, x0, x1, x2, x3 =>
    if x3 ≤ x2 then
      some h
    else
      (wI h x0 x2 x1).bind fun h13 =>
      (f_J7_fill_53178_5 n) h13 x0 x1 (x2 + 1) x3
set_option maxRecDepth 100000 in
set_option maxHeartbeats 4000000 in
theorem t_J7_fill_53178_5 (G : Gx) (l : Launch)   : ∀ (n : Nat) (h : Hp) (x0 : Option Nat) (x1 : Int32) (x2 : Int32) (x3 : Int32) (r : Hp), f_J7_fill_53178_5 n h x0 x1 x2 x3 = some r → RJ G l M_J7_fill_53178 none r 5 [(0, vR x0), (1, vI x1), (2, vI x2), (3, vI x3)] [] h := by
  intro n
  induction n with
  | zero =>
    intro h x0 x1 x2 x3 r hf
    rw [f_J7_fill_53178_5] at hf
    cases hf
  | succ n ih =>
    intro h x0 x1 x2 x3 r hf
    rw [f_J7_fill_53178_5] at hf
    refine r_iload_n 2 dJ7_fill_53178_5 rfl ?_
    refine r_iload_n 3 dJ7_fill_53178_6 rfl ?_
    refine r_icmp_ge (tgt := 20) dJ7_fill_53178_7 (by decide) (fun c7 => ?_) (fun c7 => ?_)
    · replace hf := (if_pos c7).symm.trans hf
      cases hf
      exact r_vret rfl dJ7_fill_53178_20
    · replace hf := (if_neg c7).symm.trans hf
      refine r_aload_n 0 dJ7_fill_53178_10 rfl ?_
      refine r_iload_n 2 dJ7_fill_53178_11 rfl ?_
      refine r_iload_n 1 dJ7_fill_53178_12 rfl ?_
      obtain ⟨h13, e13, hf⟩ := ob hf
      refine r_iastore dJ7_fill_53178_13 e13 ?_
      refine r_iinc (y := (x2 + 1)) (lv' := [(2, vI (x2 + 1)), (0, vR x0), (1, vI x1), (3, vI x3)]) 2 dJ7_fill_53178_14 rfl rfl (Nat.le_of_ble_eq_true rfl) rfl ?_
      refine r_goto (tgt := 5) dJ7_fill_53178_17 (by decide) ?_
      exact r_sub [1, 2, 0, 3] rfl (ih _ _ _ _ _ _ hf)
def f_J7_fill_53178 (h : Hp) (x0 : Option Nat) (x1 : Int32) : Option Hp :=
    (lenI h x0).bind fun v3 =>
    f_J7_fill_53178_5 10000 h x0 x1 (0 : Int32) v3
set_option maxRecDepth 100000 in
set_option maxHeartbeats 4000000 in
theorem k_J7_fill_53178 (G : Gx) (l : Launch) {h : Hp} {x0 : Option Nat} {x1 : Int32} {r : Hp} (hf : f_J7_fill_53178 h x0 x1 = some r) : KM l yJ7_fill_53178 (.code yJ7_fill_53178 cJ7_fill_53178 4 none :: wsK) 0 0 G [vR x0, vI x1] h none r := by
  refine r_entry (ctor := false) (own := RJ7) (by decide +kernel) rfl (fun q => by cases q) (Nat.le_of_ble_eq_true rfl) ?_
  show RJ G l M_J7_fill_53178 none r 0 [(0, vR x0), (1, vI x1)] [] h
  unfold f_J7_fill_53178 at hf
  refine r_iconst (x := (0 : Int32)) dJ7_fill_53178_0 (by decide) ?_
  refine r_istore_n (lv' := [(2, vI (0 : Int32)), (0, vR x0), (1, vI x1)]) dJ7_fill_53178_1 (Nat.le_of_ble_eq_true rfl) rfl ?_
  refine r_aload_n 1 dJ7_fill_53178_2 rfl ?_
  obtain ⟨v3, e3, hf⟩ := ob hf
  refine r_lenI dJ7_fill_53178_3 e3 ?_
  refine r_istore_n (lv' := [(3, vI v3), (2, vI (0 : Int32)), (0, vR x0), (1, vI x1)]) dJ7_fill_53178_4 (Nat.le_of_ble_eq_true rfl) rfl ?_
  exact r_sub [2, 3, 1, 0] rfl (t_J7_fill_53178_5 G l _ _ _ _ _ _ _ hf)
/-! ===== NumberedByAge$Law.<init>(II)V ===== -/
abbrev M_X3_init : Mx := (cX3_init, 3, RX3, true, none, 1, 20)
def f_X3_init (h : Hp) (this : Nat) (x1 : Int32) (x2 : Int32) : Option Hp :=
    (pF h (some this) lws 0 (vI x1)).bind fun h6 =>
    (pF h6 (some this) lws 1 (vI x2)).bind fun h11 =>
    some h11
set_option maxRecDepth 100000 in
set_option maxHeartbeats 4000000 in
theorem k_X3_init (G : Gx) (l : Launch) {h : Hp} {this : Nat} {x1 : Int32} {x2 : Int32} {r : Hp} (hf : f_X3_init h this x1 x2 = some r) : KM l yX3_init (.code yX3_init cX3_init 3 none :: wsK) 1 20 G [vR (some this), vI x1, vI x2] h none r := by
  refine r_entry (ctor := true) (own := RX3) (by decide +kernel) rfl (fun _ => rfl) (Nat.le_of_ble_eq_true rfl) ?_
  show RJ G l M_X3_init none r 0 [(0, vR (some this)), (1, vI x1), (2, vI x2)] [] h
  unfold f_X3_init at hf
  refine r_aload_n 0 dX3_init_0 rfl ?_
  refine r_objInit dX3_init_1 kw_1_41 kw_1_28 kw_1_29 ⟨Nat.le_of_ble_eq_true rfl, Nat.le_of_ble_eq_true rfl⟩ (Nat.le_of_ble_eq_true rfl) ?_
  refine r_aload_n 0 dX3_init_4 rfl ?_
  refine r_iload_n 1 dX3_init_5 rfl ?_
  obtain ⟨h6, e6, hf⟩ := ob hf
  refine r_putF dX3_init_6 fl_L_0 kw_1_42 (Or.inl rfl) rfl rfl (by decide +kernel) (fit_int _) e6 ?_
  refine r_aload_n 0 dX3_init_9 rfl ?_
  refine r_iload_n 2 dX3_init_10 rfl ?_
  obtain ⟨h11, e11, hf⟩ := ob hf
  refine r_putF dX3_init_11 fl_L_1 kw_1_44 (Or.inl rfl) rfl rfl (by decide +kernel) (fit_int _) e11 ?_
  cases hf
  exact r_vret rfl dX3_init_14
/-! ===== NumberedByAge$Gap.<init>(II)V ===== -/
abbrev M_X0_init : Mx := (cX0_init, 3, RX0, true, none, 2, 42)
def f_X0_init (h : Hp) (this : Nat) (x1 : Int32) (x2 : Int32) : Option Hp :=
    (f_X3_init h this x1 x2).bind fun h3 =>
    some h3
set_option maxRecDepth 100000 in
set_option maxHeartbeats 4000000 in
theorem k_X0_init (G : Gx) (l : Launch) {h : Hp} {this : Nat} {x1 : Int32} {x2 : Int32} {r : Hp} (hf : f_X0_init h this x1 x2 = some r) : KM l yX0_init (.code yX0_init cX0_init 3 none :: wsK) 2 42 G [vR (some this), vI x1, vI x2] h none r := by
  refine r_entry (ctor := true) (own := RX0) (by decide +kernel) rfl (fun _ => rfl) (Nat.le_of_ble_eq_true rfl) ?_
  show RJ G l M_X0_init none r 0 [(0, vR (some this)), (1, vI x1), (2, vI x2)] [] h
  unfold f_X0_init at hf
  refine r_aload_n 0 dX0_init_0 rfl ?_
  refine r_iload_n 1 dX0_init_1 rfl ?_
  refine r_iload_n 2 dX0_init_2 rfl ?_
  obtain ⟨h3, e3, hf⟩ := ob hf
  refine r_callI (y := yX3_init) (avs := [vI x1, vI x2]) dX0_init_3 kw_2_35 kw_1_39 kw_1_3 kw_1_40 rfl oky_X3_init ⟨Nat.le_of_ble_eq_true rfl, Nat.le_of_ble_eq_true rfl⟩ rfl (Nat.le_of_ble_eq_true rfl) (k_X3_init G l e3) ?_
  cases hf
  exact r_vret rfl dX0_init_6
/-! ===== NumberedByAge$Law.levy()I ===== -/
abbrev M_X3_levy : Mx := (cX3_levy, 1, RX3, false, (some .int), 0, 0)
def f_X3_levy (h : Hp) (this : Nat) : Option Int32 :=
    some (3 : Int32)
set_option maxRecDepth 100000 in
set_option maxHeartbeats 4000000 in
theorem k_X3_levy (G : Gx) (l : Launch) {h : Hp} {this : Nat} {r : Int32} (hf : f_X3_levy h this = some r) : KM l yX3_levy (.code yX3_levy cX3_levy 1 (some .int) :: wsK) 0 0 G [vR (some this)] h (some (vI r)) h := by
  refine r_entry (ctor := false) (own := RX3) (by decide +kernel) rfl (fun q => by cases q) (Nat.le_of_ble_eq_true rfl) ?_
  show RJ G l M_X3_levy (some (vI r)) h 0 [(0, vR (some this))] [] h
  unfold f_X3_levy at hf
  refine r_iconst (x := (3 : Int32)) dX3_levy_0 (by decide) ?_
  cases hf
  exact r_iret rfl dX3_levy_1
/-! ===== NumberedByAge$Gap.levy()I ===== -/
abbrev M_X0_levy : Mx := (cX0_levy, 1, RX0, false, (some .int), 1, 20)
def f_X0_levy (h : Hp) (this : Nat) : Option Int32 :=
    (rcl h (some this)).bind fun a1 =>
    (f_X3_levy h a1.1).bind fun v1 =>
    (gI h (some this) lws 1).bind fun v5 =>
    some (v1 + v5)
set_option maxRecDepth 100000 in
set_option maxHeartbeats 4000000 in
theorem k_X0_levy (G : Gx) (l : Launch) {h : Hp} {this : Nat} {r : Int32} (hf : f_X0_levy h this = some r) : KM l yX0_levy (.code yX0_levy cX0_levy 1 (some .int) :: wsK) 1 20 G [vR (some this)] h (some (vI r)) h := by
  refine r_entry (ctor := false) (own := RX0) (by decide +kernel) rfl (fun q => by cases q) (Nat.le_of_ble_eq_true rfl) ?_
  show RJ G l M_X0_levy (some (vI r)) h 0 [(0, vR (some this))] [] h
  unfold f_X0_levy at hf
  refine r_aload_n 0 dX0_levy_0 rfl ?_
  obtain ⟨a1, ea1, hf⟩ := ob hf
  obtain ⟨v1, e1, hf⟩ := ob hf
  refine r_callSU (y := yX3_levy) (avs := []) dX0_levy_1 kw_3_125 kw_3_121 kw_2_38 kw_3_119 kw_1_3 kw_3_147 ⟨by decide +kernel, oky_X3_levy.2.2⟩ ⟨Nat.le_of_ble_eq_true rfl, Nat.le_of_ble_eq_true rfl⟩ rfl (Nat.le_of_ble_eq_true rfl) ea1 (k_X3_levy G l e1) ?_
  refine r_aload_n 0 dX0_levy_4 rfl ?_
  obtain ⟨v5, e5, hf⟩ := ob hf
  refine r_get dX0_levy_5 fl_L_1 kw_1_51 (Or.inr kw_1_52) (gI_sp e5) ?_
  refine r_iadd dX0_levy_8 ?_
  cases hf
  exact r_iret rfl dX0_levy_9
/-! ===== NumberedByAge$Street.leastFree()I ===== -/
abbrev M_X8_leastFree : Mx := (cX8_leastFree, 3, RX8, false, (some .int), 0, 0)
def f_X8_leastFree_32 (h : Hp) (this : Nat) (k4 : Int32 → Int32 → Option Int32) (x1 : Int32) (x2 : Int32) : Option Int32 :=
    k4 x1 (x2 + 1)
set_option maxRecDepth 100000 in
set_option maxHeartbeats 4000000 in
theorem t_X8_leastFree_32 (G : Gx) (l : Launch) (h : Hp) (this : Nat) (k4 : Int32 → Int32 → Option Int32) (hk4 : ∀ (x1 : Int32) (x2 : Int32) (r : Int32), k4 x1 x2 = some r → RJ G l M_X8_leastFree (some (vI r)) h 4 [(0, vR (some this)), (1, vI x1), (2, vI x2)] [] h) (x1 : Int32) (x2 : Int32) (r : Int32) (hf : f_X8_leastFree_32 h this k4 x1 x2 = some r) : RJ G l M_X8_leastFree (some (vI r)) h 32 [(0, vR (some this)), (1, vI x1), (2, vI x2)] [] h := by
  unfold f_X8_leastFree_32 at hf
  refine r_iinc (y := (x2 + 1)) (lv' := [(2, vI (x2 + 1)), (0, vR (some this)), (1, vI x1)]) 2 dX8_leastFree_32 rfl rfl (Nat.le_of_ble_eq_true rfl) rfl ?_
  refine r_goto (tgt := 4) dX8_leastFree_35 (by decide) ?_
  exact r_sub [1, 2, 0] rfl (hk4 _ _ _ hf)
def f_X8_leastFree_40 (h : Hp) (this : Nat) : Nat → Int32 → Int32 → Option Int32
  | 0, _, _ => none
  | n + 1, x1, x2 =>
    if (12 : Int32) < x2 then
      some (13 : Int32)
    else
      if (x1 &&& ((1 : Int32) <<< (x2 &&& 31))) = 0 then
        some x2
      else
        (f_X8_leastFree_40 h this n) x1 (x2 + 1)
set_option maxRecDepth 100000 in
set_option maxHeartbeats 4000000 in
theorem t_X8_leastFree_40 (G : Gx) (l : Launch) (h : Hp) (this : Nat)  : ∀ (n : Nat) (x1 : Int32) (x2 : Int32) (r : Int32), f_X8_leastFree_40 h this n x1 x2 = some r → RJ G l M_X8_leastFree (some (vI r)) h 40 [(0, vR (some this)), (1, vI x1), (2, vI x2)] [] h := by
  intro n
  induction n with
  | zero =>
    intro x1 x2 r hf
    rw [f_X8_leastFree_40] at hf
    cases hf
  | succ n ih =>
    intro x1 x2 r hf
    rw [f_X8_leastFree_40] at hf
    refine r_iload_n 2 dX8_leastFree_40 rfl ?_
    refine r_bipush (x := (12 : Int32)) dX8_leastFree_41 (by decide) ?_
    refine r_icmp_gt (tgt := 62) dX8_leastFree_43 (by decide) (fun c43 => ?_) (fun c43 => ?_)
    · replace hf := (if_pos c43).symm.trans hf
      refine r_bipush (x := (13 : Int32)) dX8_leastFree_62 (by decide) ?_
      cases hf
      exact r_iret rfl dX8_leastFree_64
    · replace hf := (if_neg c43).symm.trans hf
      refine r_iload_n 1 dX8_leastFree_46 rfl ?_
      refine r_iconst (x := (1 : Int32)) dX8_leastFree_47 (by decide) ?_
      refine r_iload_n 2 dX8_leastFree_48 rfl ?_
      refine r_ishl dX8_leastFree_49 ?_
      refine r_iand dX8_leastFree_50 ?_
      refine r_if_ne (tgt := 56) dX8_leastFree_51 (by decide) (fun c51 => ?_) (fun c51 => ?_)
      · replace hf := (if_pos c51).symm.trans hf
        refine r_iload_n 2 dX8_leastFree_54 rfl ?_
        cases hf
        exact r_iret rfl dX8_leastFree_55
      · replace hf := (if_neg c51).symm.trans hf
        refine r_iinc (y := (x2 + 1)) (lv' := [(2, vI (x2 + 1)), (0, vR (some this)), (1, vI x1)]) 2 dX8_leastFree_56 rfl rfl (Nat.le_of_ble_eq_true rfl) rfl ?_
        refine r_goto (tgt := 40) dX8_leastFree_59 (by decide) ?_
        exact r_sub [1, 2, 0] rfl (ih _ _ _ hf)
def f_X8_leastFree_4 (h : Hp) (this : Nat) : Nat → Int32 → Int32 → Option Int32
  | 0, _, _ => none
  | n + 1, x1, x2 =>
    if (12 : Int32) ≤ x2 then
      f_X8_leastFree_40 h this 10000 x1 (1 : Int32)
    else
      (gR h (some this) [8] 0).bind fun v11 =>
      (aI h v11 x2).bind fun v15 =>
      if (12 : Int32) < v15 then
        f_X8_leastFree_32 h this (f_X8_leastFree_4 h this n) x1 x2
      else
        (gR h (some this) [8] 0).bind fun v24 =>
        (aI h v24 x2).bind fun v28 =>
        f_X8_leastFree_32 h this (f_X8_leastFree_4 h this n) (x1 ||| ((1 : Int32) <<< (v28 &&& 31))) x2
set_option maxRecDepth 100000 in
set_option maxHeartbeats 4000000 in
theorem t_X8_leastFree_4 (G : Gx) (l : Launch) (h : Hp) (this : Nat)  : ∀ (n : Nat) (x1 : Int32) (x2 : Int32) (r : Int32), f_X8_leastFree_4 h this n x1 x2 = some r → RJ G l M_X8_leastFree (some (vI r)) h 4 [(0, vR (some this)), (1, vI x1), (2, vI x2)] [] h := by
  intro n
  induction n with
  | zero =>
    intro x1 x2 r hf
    rw [f_X8_leastFree_4] at hf
    cases hf
  | succ n ih =>
    intro x1 x2 r hf
    rw [f_X8_leastFree_4] at hf
    refine r_iload_n 2 dX8_leastFree_4 rfl ?_
    refine r_bipush (x := (12 : Int32)) dX8_leastFree_5 (by decide) ?_
    refine r_icmp_ge (tgt := 38) dX8_leastFree_7 (by decide) (fun c7 => ?_) (fun c7 => ?_)
    · replace hf := (if_pos c7).symm.trans hf
      refine r_iconst (x := (1 : Int32)) dX8_leastFree_38 (by decide) ?_
      refine r_istore_n (lv' := [(2, vI (1 : Int32)), (0, vR (some this)), (1, vI x1)]) dX8_leastFree_39 (Nat.le_of_ble_eq_true rfl) rfl ?_
      exact r_sub [1, 2, 0] rfl (t_X8_leastFree_40 G l _ _ _ _ _ _ hf)
    · replace hf := (if_neg c7).symm.trans hf
      refine r_aload_n 0 dX8_leastFree_10 rfl ?_
      obtain ⟨v11, e11, hf⟩ := ob hf
      refine r_get dX8_leastFree_11 fl_8_0 kw_1_62 (Or.inl rfl) (gR_sp e11) ?_
      refine r_iload_n 2 dX8_leastFree_14 rfl ?_
      obtain ⟨v15, e15, hf⟩ := ob hf
      refine r_iaload dX8_leastFree_15 e15 ?_
      refine r_bipush (x := (12 : Int32)) dX8_leastFree_16 (by decide) ?_
      refine r_icmp_gt (tgt := 32) dX8_leastFree_18 (by decide) (fun c18 => ?_) (fun c18 => ?_)
      · replace hf := (if_pos c18).symm.trans hf
        exact r_sub [0, 1, 2] rfl (t_X8_leastFree_32 G l _ _ (f_X8_leastFree_4 h this n) ih _ _ _ hf)
      · replace hf := (if_neg c18).symm.trans hf
        refine r_iload_n 1 dX8_leastFree_21 rfl ?_
        refine r_iconst (x := (1 : Int32)) dX8_leastFree_22 (by decide) ?_
        refine r_aload_n 0 dX8_leastFree_23 rfl ?_
        obtain ⟨v24, e24, hf⟩ := ob hf
        refine r_get dX8_leastFree_24 fl_8_0 kw_1_62 (Or.inl rfl) (gR_sp e24) ?_
        refine r_iload_n 2 dX8_leastFree_27 rfl ?_
        obtain ⟨v28, e28, hf⟩ := ob hf
        refine r_iaload dX8_leastFree_28 e28 ?_
        refine r_ishl dX8_leastFree_29 ?_
        refine r_ior dX8_leastFree_30 ?_
        refine r_istore_n (lv' := [(1, vI (x1 ||| ((1 : Int32) <<< (v28 &&& 31)))), (0, vR (some this)), (2, vI x2)]) dX8_leastFree_31 (Nat.le_of_ble_eq_true rfl) rfl ?_
        exact r_sub [1, 0, 2] rfl (t_X8_leastFree_32 G l _ _ (f_X8_leastFree_4 h this n) ih _ _ _ hf)
def f_X8_leastFree (h : Hp) (this : Nat) : Option Int32 :=
    f_X8_leastFree_4 h this 10000 (0 : Int32) (0 : Int32)
set_option maxRecDepth 100000 in
set_option maxHeartbeats 4000000 in
theorem k_X8_leastFree (G : Gx) (l : Launch) {h : Hp} {this : Nat} {r : Int32} (hf : f_X8_leastFree h this = some r) : KM l yX8_leastFree (.code yX8_leastFree cX8_leastFree 3 (some .int) :: wsK) 0 0 G [vR (some this)] h (some (vI r)) h := by
  refine r_entry (ctor := false) (own := RX8) (by decide +kernel) rfl (fun q => by cases q) (Nat.le_of_ble_eq_true rfl) ?_
  show RJ G l M_X8_leastFree (some (vI r)) h 0 [(0, vR (some this))] [] h
  unfold f_X8_leastFree at hf
  refine r_iconst (x := (0 : Int32)) dX8_leastFree_0 (by decide) ?_
  refine r_istore_n (lv' := [(1, vI (0 : Int32)), (0, vR (some this))]) dX8_leastFree_1 (Nat.le_of_ble_eq_true rfl) rfl ?_
  refine r_iconst (x := (0 : Int32)) dX8_leastFree_2 (by decide) ?_
  refine r_istore_n (lv' := [(2, vI (0 : Int32)), (1, vI (0 : Int32)), (0, vR (some this))]) dX8_leastFree_3 (Nat.le_of_ble_eq_true rfl) rfl ?_
  exact r_sub [2, 1, 0] rfl (t_X8_leastFree_4 G l _ _ _ _ _ _ hf)
/-! ===== NumberedByAge$Gap.numberFor(LNumberedByAge$Street;II)I ===== -/
abbrev M_X0_numberFor : Mx := (cX0_numberFor, 4, RX0, false, (some .int), 1, 22)
def f_X0_numberFor (h : Hp) (this : Nat) (x1 : Option Nat) (x2 : Int32) (x3 : Int32) : Option Int32 :=
    (rcv h x1 8).bind fun a1 =>
    (f_X8_leastFree h a1).bind fun v1 =>
    some v1
set_option maxRecDepth 100000 in
set_option maxHeartbeats 4000000 in
theorem k_X0_numberFor (G : Gx) (l : Launch) {h : Hp} {this : Nat} {x1 : Option Nat} {x2 : Int32} {x3 : Int32} {r : Int32} (hf : f_X0_numberFor h this x1 x2 x3 = some r) : KM l yX0_numberFor (.code yX0_numberFor cX0_numberFor 4 (some .int) :: wsK) 1 22 G [vR (some this), vR x1, vI x2, vI x3] h (some (vI r)) h := by
  refine r_entry (ctor := false) (own := RX0) (by decide +kernel) rfl (fun q => by cases q) (Nat.le_of_ble_eq_true rfl) ?_
  show RJ G l M_X0_numberFor (some (vI r)) h 0 [(0, vR (some this)), (1, vR x1), (2, vI x2), (3, vI x3)] [] h
  unfold f_X0_numberFor at hf
  refine r_aload_n 1 dX0_numberFor_0 rfl ?_
  obtain ⟨a1, ea1, hf⟩ := ob hf
  obtain ⟨v1, e1, hf⟩ := ob hf
  refine r_callV (y := yX8_leastFree) (ci := 8) (avs := []) dX0_numberFor_1 rfl kw_1_213 kw_1_214 kw_1_215 kw_1_2 kw_1_216 oky_X8_leastFree ⟨Nat.le_of_ble_eq_true rfl, Nat.le_of_ble_eq_true rfl⟩ rfl (Nat.le_of_ble_eq_true rfl) ea1 (k_X8_leastFree G l e1) ?_
  cases hf
  exact r_iret rfl dX0_numberFor_4
/-! ===== NumberedByAge.isPlot(I)Z ===== -/
abbrev M_X10_isPlot : Mx := (cX10_isPlot, 1, RX10, false, (some .boolean), 0, 0)
def f_X10_isPlot_14 (h : Hp)  : Option Int32 :=
    okZ (0 : Int32)
set_option maxRecDepth 100000 in
set_option maxHeartbeats 4000000 in
theorem t_X10_isPlot_14 (G : Gx) (l : Launch) (h : Hp)   (r : Int32) (hf : f_X10_isPlot_14 h = some r) : RJ G l M_X10_isPlot (some (vI r)) h 14 [] [] h := by
  unfold f_X10_isPlot_14 at hf
  refine r_iconst (x := (0 : Int32)) dX10_isPlot_14 (by decide) ?_
  exact r_zret rfl dX10_isPlot_15 hf
def f_X10_isPlot (h : Hp) (x0 : Int32) : Option Int32 :=
    if x0 < 0 then
      f_X10_isPlot_14 h 
    else
      if (12 : Int32) ≤ x0 then
        f_X10_isPlot_14 h 
      else
        okZ (1 : Int32)
set_option maxRecDepth 100000 in
set_option maxHeartbeats 4000000 in
theorem k_X10_isPlot (G : Gx) (l : Launch) {h : Hp} {x0 : Int32} {r : Int32} (hf : f_X10_isPlot h x0 = some r) : KM l yX10_isPlot (.code yX10_isPlot cX10_isPlot 1 (some .boolean) :: wsK) 0 0 G [vI x0] h (some (vI r)) h := by
  refine r_entry (ctor := false) (own := RX10) (by decide +kernel) rfl (fun q => by cases q) (Nat.le_of_ble_eq_true rfl) ?_
  show RJ G l M_X10_isPlot (some (vI r)) h 0 [(0, vI x0)] [] h
  unfold f_X10_isPlot at hf
  refine r_iload_n 0 dX10_isPlot_0 rfl ?_
  refine r_if_lt (tgt := 14) dX10_isPlot_1 (by decide) (fun c1 => ?_) (fun c1 => ?_)
  · replace hf := (if_pos c1).symm.trans hf
    exact r_sub [] rfl (t_X10_isPlot_14 G l _  _ hf)
  · replace hf := (if_neg c1).symm.trans hf
    refine r_iload_n 0 dX10_isPlot_4 rfl ?_
    refine r_bipush (x := (12 : Int32)) dX10_isPlot_5 (by decide) ?_
    refine r_icmp_ge (tgt := 14) dX10_isPlot_7 (by decide) (fun c7 => ?_) (fun c7 => ?_)
    · replace hf := (if_pos c7).symm.trans hf
      exact r_sub [] rfl (t_X10_isPlot_14 G l _  _ hf)
    · replace hf := (if_neg c7).symm.trans hf
      refine r_iconst (x := (1 : Int32)) dX10_isPlot_10 (by decide) ?_
      refine r_goto (tgt := 15) dX10_isPlot_11 (by decide) ?_
      exact r_zret rfl dX10_isPlot_15 hf
/-! ===== NumberedByAge.isHeight(I)Z ===== -/
abbrev M_X10_isHeight : Mx := (cX10_isHeight, 1, RX10, false, (some .boolean), 0, 0)
def f_X10_isHeight_15 (h : Hp)  : Option Int32 :=
    okZ (0 : Int32)
set_option maxRecDepth 100000 in
set_option maxHeartbeats 4000000 in
theorem t_X10_isHeight_15 (G : Gx) (l : Launch) (h : Hp)   (r : Int32) (hf : f_X10_isHeight_15 h = some r) : RJ G l M_X10_isHeight (some (vI r)) h 15 [] [] h := by
  unfold f_X10_isHeight_15 at hf
  refine r_iconst (x := (0 : Int32)) dX10_isHeight_15 (by decide) ?_
  exact r_zret rfl dX10_isHeight_16 hf
def f_X10_isHeight (h : Hp) (x0 : Int32) : Option Int32 :=
    if x0 < (1 : Int32) then
      f_X10_isHeight_15 h 
    else
      if (9 : Int32) < x0 then
        f_X10_isHeight_15 h 
      else
        okZ (1 : Int32)
set_option maxRecDepth 100000 in
set_option maxHeartbeats 4000000 in
theorem k_X10_isHeight (G : Gx) (l : Launch) {h : Hp} {x0 : Int32} {r : Int32} (hf : f_X10_isHeight h x0 = some r) : KM l yX10_isHeight (.code yX10_isHeight cX10_isHeight 1 (some .boolean) :: wsK) 0 0 G [vI x0] h (some (vI r)) h := by
  refine r_entry (ctor := false) (own := RX10) (by decide +kernel) rfl (fun q => by cases q) (Nat.le_of_ble_eq_true rfl) ?_
  show RJ G l M_X10_isHeight (some (vI r)) h 0 [(0, vI x0)] [] h
  unfold f_X10_isHeight at hf
  refine r_iload_n 0 dX10_isHeight_0 rfl ?_
  refine r_iconst (x := (1 : Int32)) dX10_isHeight_1 (by decide) ?_
  refine r_icmp_lt (tgt := 15) dX10_isHeight_2 (by decide) (fun c2 => ?_) (fun c2 => ?_)
  · replace hf := (if_pos c2).symm.trans hf
    exact r_sub [] rfl (t_X10_isHeight_15 G l _  _ hf)
  · replace hf := (if_neg c2).symm.trans hf
    refine r_iload_n 0 dX10_isHeight_5 rfl ?_
    refine r_bipush (x := (9 : Int32)) dX10_isHeight_6 (by decide) ?_
    refine r_icmp_gt (tgt := 15) dX10_isHeight_8 (by decide) (fun c8 => ?_) (fun c8 => ?_)
    · replace hf := (if_pos c8).symm.trans hf
      exact r_sub [] rfl (t_X10_isHeight_15 G l _  _ hf)
    · replace hf := (if_neg c8).symm.trans hf
      refine r_iconst (x := (1 : Int32)) dX10_isHeight_11 (by decide) ?_
      refine r_goto (tgt := 16) dX10_isHeight_12 (by decide) ?_
      exact r_zret rfl dX10_isHeight_16 hf
/-! ===== NumberedByAge$Law.numberFor(LNumberedByAge$Street;II)I ===== -/
abbrev M_X3_numberFor : Mx := (cX3_numberFor, 4, RX3, false, (some .int), 0, 0)
def f_X3_numberFor (h : Hp) (this : Nat) (x1 : Option Nat) (x2 : Int32) (x3 : Int32) : Option Int32 :=
    (gI h x1 [8] 8).bind fun v1 =>
    some (v1 + (1 : Int32))
set_option maxRecDepth 100000 in
set_option maxHeartbeats 4000000 in
theorem k_X3_numberFor (G : Gx) (l : Launch) {h : Hp} {this : Nat} {x1 : Option Nat} {x2 : Int32} {x3 : Int32} {r : Int32} (hf : f_X3_numberFor h this x1 x2 x3 = some r) : KM l yX3_numberFor (.code yX3_numberFor cX3_numberFor 4 (some .int) :: wsK) 0 0 G [vR (some this), vR x1, vI x2, vI x3] h (some (vI r)) h := by
  refine r_entry (ctor := false) (own := RX3) (by decide +kernel) rfl (fun q => by cases q) (Nat.le_of_ble_eq_true rfl) ?_
  show RJ G l M_X3_numberFor (some (vI r)) h 0 [(0, vR (some this)), (1, vR x1), (2, vI x2), (3, vI x3)] [] h
  unfold f_X3_numberFor at hf
  refine r_aload_n 1 dX3_numberFor_0 rfl ?_
  obtain ⟨v1, e1, hf⟩ := ob hf
  refine r_getN dX3_numberFor_1 fl_8_8 (by decide) (gI_sp e1) ?_
  refine r_iconst (x := (1 : Int32)) dX3_numberFor_4 (by decide) ?_
  refine r_iadd dX3_numberFor_5 ?_
  cases hf
  exact r_iret rfl dX3_numberFor_6
/-! ===== NumberedByAge$High.numberFor(LNumberedByAge$Street;II)I ===== -/
abbrev M_X1_numberFor : Mx := (cX1_numberFor, 4, RX1, false, (some .int), 1, 23)
def f_X1_numberFor (h : Hp) (this : Nat) (x1 : Option Nat) (x2 : Int32) (x3 : Int32) : Option Int32 :=
    (rcl h (some this)).bind fun a4 =>
    (f_X3_numberFor h a4.1 x1 x2 x3).bind fun v4 =>
    (gI h (some this) lws 1).bind fun v8 =>
    some (v4 + (v8 * x3))
set_option maxRecDepth 100000 in
set_option maxHeartbeats 4000000 in
theorem k_X1_numberFor (G : Gx) (l : Launch) {h : Hp} {this : Nat} {x1 : Option Nat} {x2 : Int32} {x3 : Int32} {r : Int32} (hf : f_X1_numberFor h this x1 x2 x3 = some r) : KM l yX1_numberFor (.code yX1_numberFor cX1_numberFor 4 (some .int) :: wsK) 1 23 G [vR (some this), vR x1, vI x2, vI x3] h (some (vI r)) h := by
  refine r_entry (ctor := false) (own := RX1) (by decide +kernel) rfl (fun q => by cases q) (Nat.le_of_ble_eq_true rfl) ?_
  show RJ G l M_X1_numberFor (some (vI r)) h 0 [(0, vR (some this)), (1, vR x1), (2, vI x2), (3, vI x3)] [] h
  unfold f_X1_numberFor at hf
  refine r_aload_n 0 dX1_numberFor_0 rfl ?_
  refine r_aload_n 1 dX1_numberFor_1 rfl ?_
  refine r_iload_n 2 dX1_numberFor_2 rfl ?_
  refine r_iload_n 3 dX1_numberFor_3 rfl ?_
  obtain ⟨a4, ea4, hf⟩ := ob hf
  obtain ⟨v4, e4, hf⟩ := ob hf
  refine r_callSU (y := yX3_numberFor) (avs := [vR x1, vI x2, vI x3]) dX1_numberFor_4 kw_1_220 kw_1_209 kw_1_221 kw_1_207 kw_1_3 kw_2_16 ⟨by decide +kernel, oky_X3_numberFor.2.2⟩ ⟨Nat.le_of_ble_eq_true rfl, Nat.le_of_ble_eq_true rfl⟩ rfl (Nat.le_of_ble_eq_true rfl) ea4 (k_X3_numberFor G l e4) ?_
  refine r_aload_n 0 dX1_numberFor_7 rfl ?_
  obtain ⟨v8, e8, hf⟩ := ob hf
  refine r_get dX1_numberFor_8 fl_L_1 kw_1_45 (Or.inr kw_1_46) (gI_sp e8) ?_
  refine r_iload_n 3 dX1_numberFor_11 rfl ?_
  refine r_imul dX1_numberFor_12 ?_
  refine r_iadd dX1_numberFor_13 ?_
  cases hf
  exact r_iret rfl dX1_numberFor_14
/-! ===== NumberedByAge$Street.greatest()I ===== -/
abbrev M_X8_greatest : Mx := (cX8_greatest, 3, RX8, false, (some .int), 1, 21)
def f_X8_greatest_4 (h : Hp) (this : Nat) : Nat → Int32 → Int32 → Option Int32
  | 0, _, _ => none
  | n + 1, x1, x2 =>
    if (12 : Int32) ≤ x2 then
      some x1
    else
      (gR h (some this) [8] 0).bind fun v12 =>
      (aI h v12 x2).bind fun v16 =>
      (f_X8_greatest_4 h this n) (mxI x1 v16) (x2 + 1)
set_option maxRecDepth 100000 in
set_option maxHeartbeats 4000000 in
theorem t_X8_greatest_4 (G : Gx) (l : Launch) (h : Hp) (this : Nat)  : ∀ (n : Nat) (x1 : Int32) (x2 : Int32) (r : Int32), f_X8_greatest_4 h this n x1 x2 = some r → RJ G l M_X8_greatest (some (vI r)) h 4 [(0, vR (some this)), (1, vI x1), (2, vI x2)] [] h := by
  intro n
  induction n with
  | zero =>
    intro x1 x2 r hf
    rw [f_X8_greatest_4] at hf
    cases hf
  | succ n ih =>
    intro x1 x2 r hf
    rw [f_X8_greatest_4] at hf
    refine r_iload_n 2 dX8_greatest_4 rfl ?_
    refine r_bipush (x := (12 : Int32)) dX8_greatest_5 (by decide) ?_
    refine r_icmp_ge (tgt := 27) dX8_greatest_7 (by decide) (fun c7 => ?_) (fun c7 => ?_)
    · replace hf := (if_pos c7).symm.trans hf
      refine r_iload_n 1 dX8_greatest_27 rfl ?_
      cases hf
      exact r_iret rfl dX8_greatest_28
    · replace hf := (if_neg c7).symm.trans hf
      refine r_iload_n 1 dX8_greatest_10 rfl ?_
      refine r_aload_n 0 dX8_greatest_11 rfl ?_
      obtain ⟨v12, e12, hf⟩ := ob hf
      refine r_get dX8_greatest_12 fl_8_0 kw_1_62 (Or.inl rfl) (gR_sp e12) ?_
      refine r_iload_n 2 dX8_greatest_15 rfl ?_
      obtain ⟨v16, e16, hf⟩ := ob hf
      refine r_iaload dX8_greatest_16 e16 ?_
      refine r_max dX8_greatest_17 kw_1_231 kw_1_232 kw_1_7 kw_1_233 ⟨Nat.le_of_ble_eq_true rfl, Nat.le_of_ble_eq_true rfl⟩ (Nat.le_of_ble_eq_true rfl) ?_
      refine r_istore_n (lv' := [(1, vI (mxI x1 v16)), (0, vR (some this)), (2, vI x2)]) dX8_greatest_20 (Nat.le_of_ble_eq_true rfl) rfl ?_
      refine r_iinc (y := (x2 + 1)) (lv' := [(2, vI (x2 + 1)), (1, vI (mxI x1 v16)), (0, vR (some this))]) 2 dX8_greatest_21 rfl rfl (Nat.le_of_ble_eq_true rfl) rfl ?_
      refine r_goto (tgt := 4) dX8_greatest_24 (by decide) ?_
      exact r_sub [2, 1, 0] rfl (ih _ _ _ hf)
def f_X8_greatest (h : Hp) (this : Nat) : Option Int32 :=
    f_X8_greatest_4 h this 10000 (0 : Int32) (0 : Int32)
set_option maxRecDepth 100000 in
set_option maxHeartbeats 4000000 in
theorem k_X8_greatest (G : Gx) (l : Launch) {h : Hp} {this : Nat} {r : Int32} (hf : f_X8_greatest h this = some r) : KM l yX8_greatest (.code yX8_greatest cX8_greatest 3 (some .int) :: wsK) 1 21 G [vR (some this)] h (some (vI r)) h := by
  refine r_entry (ctor := false) (own := RX8) (by decide +kernel) rfl (fun q => by cases q) (Nat.le_of_ble_eq_true rfl) ?_
  show RJ G l M_X8_greatest (some (vI r)) h 0 [(0, vR (some this))] [] h
  unfold f_X8_greatest at hf
  refine r_iconst (x := (0 : Int32)) dX8_greatest_0 (by decide) ?_
  refine r_istore_n (lv' := [(1, vI (0 : Int32)), (0, vR (some this))]) dX8_greatest_1 (Nat.le_of_ble_eq_true rfl) rfl ?_
  refine r_iconst (x := (0 : Int32)) dX8_greatest_2 (by decide) ?_
  refine r_istore_n (lv' := [(2, vI (0 : Int32)), (1, vI (0 : Int32)), (0, vR (some this))]) dX8_greatest_3 (Nat.le_of_ble_eq_true rfl) rfl ?_
  exact r_sub [2, 1, 0] rfl (t_X8_greatest_4 G l _ _ _ _ _ _ hf)
/-! ===== NumberedByAge$Last.numberFor(LNumberedByAge$Street;II)I ===== -/
abbrev M_X2_numberFor : Mx := (cX2_numberFor, 5, RX2, false, (some .int), 2, 45)
def f_X2_numberFor (h : Hp) (this : Nat) (x1 : Option Nat) (x2 : Int32) (x3 : Int32) : Option Int32 :=
    (rcl h (some this)).bind fun a4 =>
    (f_X0_numberFor h a4.1 x1 x2 x3).bind fun v4 =>
    (gI h (some this) lws 1).bind fun v12 =>
    if v12 ≤ v4 then
      (rcv h x1 8).bind fun a24 =>
      (f_X8_greatest h a24).bind fun v24 =>
      some (v24 + (1 : Int32))
    else
      some v4
set_option maxRecDepth 100000 in
set_option maxHeartbeats 4000000 in
theorem k_X2_numberFor (G : Gx) (l : Launch) {h : Hp} {this : Nat} {x1 : Option Nat} {x2 : Int32} {x3 : Int32} {r : Int32} (hf : f_X2_numberFor h this x1 x2 x3 = some r) : KM l yX2_numberFor (.code yX2_numberFor cX2_numberFor 5 (some .int) :: wsK) 2 45 G [vR (some this), vR x1, vI x2, vI x3] h (some (vI r)) h := by
  refine r_entry (ctor := false) (own := RX2) (by decide +kernel) rfl (fun q => by cases q) (Nat.le_of_ble_eq_true rfl) ?_
  show RJ G l M_X2_numberFor (some (vI r)) h 0 [(0, vR (some this)), (1, vR x1), (2, vI x2), (3, vI x3)] [] h
  unfold f_X2_numberFor at hf
  refine r_aload_n 0 dX2_numberFor_0 rfl ?_
  refine r_aload_n 1 dX2_numberFor_1 rfl ?_
  refine r_iload_n 2 dX2_numberFor_2 rfl ?_
  refine r_iload_n 3 dX2_numberFor_3 rfl ?_
  obtain ⟨a4, ea4, hf⟩ := ob hf
  obtain ⟨v4, e4, hf⟩ := ob hf
  refine r_callSU (y := yX0_numberFor) (avs := [vR x1, vI x2, vI x3]) dX2_numberFor_4 kw_1_225 kw_5_196 kw_1_226 kw_1_211 kw_1_8 kw_1_212 ⟨by decide +kernel, oky_X0_numberFor.2.2⟩ ⟨Nat.le_of_ble_eq_true rfl, Nat.le_of_ble_eq_true rfl⟩ rfl (Nat.le_of_ble_eq_true rfl) ea4 (k_X0_numberFor G l e4) ?_
  refine r_istore (lv' := [(4, vI v4), (0, vR (some this)), (1, vR x1), (2, vI x2), (3, vI x3)]) dX2_numberFor_7 (Nat.le_of_ble_eq_true rfl) rfl ?_
  refine r_iload 0 dX2_numberFor_9 rfl ?_
  refine r_aload_n 1 dX2_numberFor_11 rfl ?_
  obtain ⟨v12, e12, hf⟩ := ob hf
  refine r_get dX2_numberFor_12 fl_L_1 kw_1_49 (Or.inr kw_1_50) (gI_sp e12) ?_
  refine r_icmp_ge (tgt := 23) dX2_numberFor_15 (by decide) (fun c15 => ?_) (fun c15 => ?_)
  · replace hf := (if_pos c15).symm.trans hf
    refine r_aload_n 2 dX2_numberFor_23 rfl ?_
    obtain ⟨a24, ea24, hf⟩ := ob hf
    obtain ⟨v24, e24, hf⟩ := ob hf
    refine r_callV (y := yX8_greatest) (ci := 8) (avs := []) dX2_numberFor_24 rfl kw_1_227 kw_1_228 kw_1_229 kw_1_2 kw_1_230 oky_X8_greatest ⟨Nat.le_of_ble_eq_true rfl, Nat.le_of_ble_eq_true rfl⟩ rfl (Nat.le_of_ble_eq_true rfl) ea24 (k_X8_greatest G l e24) ?_
    refine r_iconst (x := (1 : Int32)) dX2_numberFor_27 (by decide) ?_
    refine r_iadd dX2_numberFor_28 ?_
    cases hf
    exact r_iret rfl dX2_numberFor_29
  · replace hf := (if_neg c15).symm.trans hf
    refine r_iload 0 dX2_numberFor_18 rfl ?_
    refine r_goto (tgt := 29) dX2_numberFor_20 (by decide) ?_
    cases hf
    exact r_iret rfl dX2_numberFor_29
/-! ===== NumberedByAge$Street.builtInQuarterOf(I)I ===== -/
abbrev M_X8_builtInQuarterOf : Mx := (cX8_builtInQuarterOf, 3, RX8, false, (some .int), 0, 0)
def f_X8_builtInQuarterOf_22 (h : Hp) (this : Nat)  : Option Int32 :=
    some (0 : Int32)
set_option maxRecDepth 100000 in
set_option maxHeartbeats 4000000 in
theorem t_X8_builtInQuarterOf_22 (G : Gx) (l : Launch) (h : Hp) (this : Nat)   (r : Int32) (hf : f_X8_builtInQuarterOf_22 h this = some r) : RJ G l M_X8_builtInQuarterOf (some (vI r)) h 22 [(0, vR (some this))] [] h := by
  unfold f_X8_builtInQuarterOf_22 at hf
  refine r_iconst (x := (0 : Int32)) dX8_builtInQuarterOf_22 (by decide) ?_
  cases hf
  exact r_iret rfl dX8_builtInQuarterOf_23
def f_X8_builtInQuarterOf (h : Hp) (this : Nat) (x1 : Int32) : Option Int32 :=
    (dvI x1 (4 : Int32)).bind fun v2 =>
    if v2 < 0 then
      f_X8_builtInQuarterOf_22 h this 
    else
      if (3 : Int32) ≤ v2 then
        f_X8_builtInQuarterOf_22 h this 
      else
        (gR h (some this) [8] 3).bind fun v14 =>
        (aI h v14 v2).bind fun v18 =>
        some v18
set_option maxRecDepth 100000 in
set_option maxHeartbeats 4000000 in
theorem k_X8_builtInQuarterOf (G : Gx) (l : Launch) {h : Hp} {this : Nat} {x1 : Int32} {r : Int32} (hf : f_X8_builtInQuarterOf h this x1 = some r) : KM l yX8_builtInQuarterOf (.code yX8_builtInQuarterOf cX8_builtInQuarterOf 3 (some .int) :: wsK) 0 0 G [vR (some this), vI x1] h (some (vI r)) h := by
  refine r_entry (ctor := false) (own := RX8) (by decide +kernel) rfl (fun q => by cases q) (Nat.le_of_ble_eq_true rfl) ?_
  show RJ G l M_X8_builtInQuarterOf (some (vI r)) h 0 [(0, vR (some this)), (1, vI x1)] [] h
  unfold f_X8_builtInQuarterOf at hf
  refine r_iload_n 1 dX8_builtInQuarterOf_0 rfl ?_
  refine r_iconst (x := (4 : Int32)) dX8_builtInQuarterOf_1 (by decide) ?_
  obtain ⟨v2, e2, hf⟩ := ob hf
  refine r_idiv dX8_builtInQuarterOf_2 e2 ?_
  refine r_istore_n (lv' := [(2, vI v2), (0, vR (some this)), (1, vI x1)]) dX8_builtInQuarterOf_3 (Nat.le_of_ble_eq_true rfl) rfl ?_
  refine r_iload_n 0 dX8_builtInQuarterOf_4 rfl ?_
  refine r_if_lt (tgt := 22) dX8_builtInQuarterOf_5 (by decide) (fun c5 => ?_) (fun c5 => ?_)
  · replace hf := (if_pos c5).symm.trans hf
    exact r_sub [1] rfl (t_X8_builtInQuarterOf_22 G l _ _  _ hf)
  · replace hf := (if_neg c5).symm.trans hf
    refine r_iload_n 0 dX8_builtInQuarterOf_8 rfl ?_
    refine r_iconst (x := (3 : Int32)) dX8_builtInQuarterOf_9 (by decide) ?_
    refine r_icmp_ge (tgt := 22) dX8_builtInQuarterOf_10 (by decide) (fun c10 => ?_) (fun c10 => ?_)
    · replace hf := (if_pos c10).symm.trans hf
      exact r_sub [1] rfl (t_X8_builtInQuarterOf_22 G l _ _  _ hf)
    · replace hf := (if_neg c10).symm.trans hf
      refine r_aload_n 1 dX8_builtInQuarterOf_13 rfl ?_
      obtain ⟨v14, e14, hf⟩ := ob hf
      refine r_get dX8_builtInQuarterOf_14 fl_8_3 kw_1_65 (Or.inl rfl) (gR_sp e14) ?_
      refine r_iload_n 0 dX8_builtInQuarterOf_17 rfl ?_
      obtain ⟨v18, e18, hf⟩ := ob hf
      refine r_iaload dX8_builtInQuarterOf_18 e18 ?_
      refine r_goto (tgt := 23) dX8_builtInQuarterOf_19 (by decide) ?_
      cases hf
      exact r_iret rfl dX8_builtInQuarterOf_23
/-! ===== NumberedByAge$Quarter.numberFor(LNumberedByAge$Street;II)I ===== -/
abbrev M_X4_numberFor : Mx := (cX4_numberFor, 4, RX4, false, (some .int), 1, 22)
def f_X4_numberFor (h : Hp) (this : Nat) (x1 : Option Nat) (x2 : Int32) (x3 : Int32) : Option Int32 :=
    (rcv h x1 8).bind fun a2 =>
    (f_X8_builtInQuarterOf h a2 x2).bind fun v2 =>
    some (v2 + (1 : Int32))
set_option maxRecDepth 100000 in
set_option maxHeartbeats 4000000 in
theorem k_X4_numberFor (G : Gx) (l : Launch) {h : Hp} {this : Nat} {x1 : Option Nat} {x2 : Int32} {x3 : Int32} {r : Int32} (hf : f_X4_numberFor h this x1 x2 x3 = some r) : KM l yX4_numberFor (.code yX4_numberFor cX4_numberFor 4 (some .int) :: wsK) 1 22 G [vR (some this), vR x1, vI x2, vI x3] h (some (vI r)) h := by
  refine r_entry (ctor := false) (own := RX4) (by decide +kernel) rfl (fun q => by cases q) (Nat.le_of_ble_eq_true rfl) ?_
  show RJ G l M_X4_numberFor (some (vI r)) h 0 [(0, vR (some this)), (1, vR x1), (2, vI x2), (3, vI x3)] [] h
  unfold f_X4_numberFor at hf
  refine r_aload_n 1 dX4_numberFor_0 rfl ?_
  refine r_iload_n 2 dX4_numberFor_1 rfl ?_
  obtain ⟨a2, ea2, hf⟩ := ob hf
  obtain ⟨v2, e2, hf⟩ := ob hf
  refine r_callV (y := yX8_builtInQuarterOf) (ci := 8) (avs := [vI x2]) dX4_numberFor_2 rfl kw_1_237 kw_1_238 kw_1_239 kw_1_2 kw_2_0 oky_X8_builtInQuarterOf ⟨Nat.le_of_ble_eq_true rfl, Nat.le_of_ble_eq_true rfl⟩ rfl (Nat.le_of_ble_eq_true rfl) ea2 (k_X8_builtInQuarterOf G l e2) ?_
  refine r_iconst (x := (1 : Int32)) dX4_numberFor_5 (by decide) ?_
  refine r_iadd dX4_numberFor_6 ?_
  cases hf
  exact r_iret rfl dX4_numberFor_7
/-! ===== NumberedByAge$Side.numberFor(LNumberedByAge$Street;II)I ===== -/
abbrev M_X6_numberFor : Mx := (cX6_numberFor, 5, RX6, false, (some .int), 2, 45)
def f_X6_numberFor (h : Hp) (this : Nat) (x1 : Option Nat) (x2 : Int32) (x3 : Int32) : Option Int32 :=
    (rcl h (some this)).bind fun a5 =>
    (f_X4_numberFor h a5.1 x1 x2 x3).bind fun v5 =>
    (rmI x2 (2 : Int32)).bind fun v13 =>
    if v13 = 0 then
      some (((2 : Int32) * v5) - (1 : Int32))
    else
      some ((2 : Int32) * v5)
set_option maxRecDepth 100000 in
set_option maxHeartbeats 4000000 in
theorem k_X6_numberFor (G : Gx) (l : Launch) {h : Hp} {this : Nat} {x1 : Option Nat} {x2 : Int32} {x3 : Int32} {r : Int32} (hf : f_X6_numberFor h this x1 x2 x3 = some r) : KM l yX6_numberFor (.code yX6_numberFor cX6_numberFor 5 (some .int) :: wsK) 2 45 G [vR (some this), vR x1, vI x2, vI x3] h (some (vI r)) h := by
  refine r_entry (ctor := false) (own := RX6) (by decide +kernel) rfl (fun q => by cases q) (Nat.le_of_ble_eq_true rfl) ?_
  show RJ G l M_X6_numberFor (some (vI r)) h 0 [(0, vR (some this)), (1, vR x1), (2, vI x2), (3, vI x3)] [] h
  unfold f_X6_numberFor at hf
  refine r_iconst (x := (2 : Int32)) dX6_numberFor_0 (by decide) ?_
  refine r_aload_n 0 dX6_numberFor_1 rfl ?_
  refine r_aload_n 1 dX6_numberFor_2 rfl ?_
  refine r_iload_n 2 dX6_numberFor_3 rfl ?_
  refine r_iload_n 3 dX6_numberFor_4 rfl ?_
  obtain ⟨a5, ea5, hf⟩ := ob hf
  obtain ⟨v5, e5, hf⟩ := ob hf
  refine r_callSU (y := yX4_numberFor) (avs := [vR x1, vI x2, vI x3]) dX6_numberFor_5 kw_2_4 kw_5_197 kw_2_5 kw_1_235 kw_1_9 kw_1_236 ⟨by decide +kernel, oky_X4_numberFor.2.2⟩ ⟨Nat.le_of_ble_eq_true rfl, Nat.le_of_ble_eq_true rfl⟩ rfl (Nat.le_of_ble_eq_true rfl) ea5 (k_X4_numberFor G l e5) ?_
  refine r_imul dX6_numberFor_8 ?_
  refine r_istore (lv' := [(4, vI ((2 : Int32) * v5)), (0, vR (some this)), (1, vR x1), (2, vI x2), (3, vI x3)]) dX6_numberFor_9 (Nat.le_of_ble_eq_true rfl) rfl ?_
  refine r_iload_n 3 dX6_numberFor_11 rfl ?_
  refine r_iconst (x := (2 : Int32)) dX6_numberFor_12 (by decide) ?_
  obtain ⟨v13, e13, hf⟩ := ob hf
  refine r_irem dX6_numberFor_13 e13 ?_
  refine r_if_ne (tgt := 24) dX6_numberFor_14 (by decide) (fun c14 => ?_) (fun c14 => ?_)
  · replace hf := (if_pos c14).symm.trans hf
    refine r_iload 0 dX6_numberFor_17 rfl ?_
    refine r_iconst (x := (1 : Int32)) dX6_numberFor_19 (by decide) ?_
    refine r_isub dX6_numberFor_20 ?_
    refine r_goto (tgt := 26) dX6_numberFor_21 (by decide) ?_
    cases hf
    exact r_iret rfl dX6_numberFor_26
  · replace hf := (if_neg c14).symm.trans hf
    refine r_iload 0 dX6_numberFor_24 rfl ?_
    cases hf
    exact r_iret rfl dX6_numberFor_26
/-! ===== NumberedByAge$Skip.numberFor(LNumberedByAge$Street;II)I ===== -/
abbrev M_X7_numberFor : Mx := (cX7_numberFor, 5, RX7, false, (some .int), 1, 23)
def f_X7_numberFor (h : Hp) (this : Nat) (x1 : Option Nat) (x2 : Int32) (x3 : Int32) : Option Int32 :=
    (rcl h (some this)).bind fun a4 =>
    (f_X3_numberFor h a4.1 x1 x2 x3).bind fun v4 =>
    (gI h (some this) lws 1).bind fun v10 =>
    if (2 : Int32) ≤ v10 then
      (gI h (some this) lws 1).bind fun v29 =>
      (dvI (v4 - (1 : Int32)) (v29 - (1 : Int32))).bind fun v34 =>
      some (v4 + v34)
    else
      some v4
set_option maxRecDepth 100000 in
set_option maxHeartbeats 4000000 in
theorem k_X7_numberFor (G : Gx) (l : Launch) {h : Hp} {this : Nat} {x1 : Option Nat} {x2 : Int32} {x3 : Int32} {r : Int32} (hf : f_X7_numberFor h this x1 x2 x3 = some r) : KM l yX7_numberFor (.code yX7_numberFor cX7_numberFor 5 (some .int) :: wsK) 1 23 G [vR (some this), vR x1, vI x2, vI x3] h (some (vI r)) h := by
  refine r_entry (ctor := false) (own := RX7) (by decide +kernel) rfl (fun q => by cases q) (Nat.le_of_ble_eq_true rfl) ?_
  show RJ G l M_X7_numberFor (some (vI r)) h 0 [(0, vR (some this)), (1, vR x1), (2, vI x2), (3, vI x3)] [] h
  unfold f_X7_numberFor at hf
  refine r_aload_n 0 dX7_numberFor_0 rfl ?_
  refine r_aload_n 1 dX7_numberFor_1 rfl ?_
  refine r_iload_n 2 dX7_numberFor_2 rfl ?_
  refine r_iload_n 3 dX7_numberFor_3 rfl ?_
  obtain ⟨a4, ea4, hf⟩ := ob hf
  obtain ⟨v4, e4, hf⟩ := ob hf
  refine r_callSU (y := yX3_numberFor) (avs := [vR x1, vI x2, vI x3]) dX7_numberFor_4 kw_2_9 kw_1_209 kw_2_10 kw_1_207 kw_1_3 kw_2_16 ⟨by decide +kernel, oky_X3_numberFor.2.2⟩ ⟨Nat.le_of_ble_eq_true rfl, Nat.le_of_ble_eq_true rfl⟩ rfl (Nat.le_of_ble_eq_true rfl) ea4 (k_X3_numberFor G l e4) ?_
  refine r_istore (lv' := [(4, vI v4), (0, vR (some this)), (1, vR x1), (2, vI x2), (3, vI x3)]) dX7_numberFor_7 (Nat.le_of_ble_eq_true rfl) rfl ?_
  refine r_aload_n 1 dX7_numberFor_9 rfl ?_
  obtain ⟨v10, e10, hf⟩ := ob hf
  refine r_get dX7_numberFor_10 fl_L_1 kw_1_47 (Or.inr kw_1_48) (gI_sp e10) ?_
  refine r_iconst (x := (2 : Int32)) dX7_numberFor_13 (by decide) ?_
  refine r_icmp_ge (tgt := 22) dX7_numberFor_14 (by decide) (fun c14 => ?_) (fun c14 => ?_)
  · replace hf := (if_pos c14).symm.trans hf
    refine r_iload 0 dX7_numberFor_22 rfl ?_
    refine r_iload 0 dX7_numberFor_24 rfl ?_
    refine r_iconst (x := (1 : Int32)) dX7_numberFor_26 (by decide) ?_
    refine r_isub dX7_numberFor_27 ?_
    refine r_aload_n 1 dX7_numberFor_28 rfl ?_
    obtain ⟨v29, e29, hf⟩ := ob hf
    refine r_get dX7_numberFor_29 fl_L_1 kw_1_47 (Or.inr kw_1_48) (gI_sp e29) ?_
    refine r_iconst (x := (1 : Int32)) dX7_numberFor_32 (by decide) ?_
    refine r_isub dX7_numberFor_33 ?_
    obtain ⟨v34, e34, hf⟩ := ob hf
    refine r_idiv dX7_numberFor_34 e34 ?_
    refine r_iadd dX7_numberFor_35 ?_
    cases hf
    exact r_iret rfl dX7_numberFor_36
  · replace hf := (if_neg c14).symm.trans hf
    refine r_iload 0 dX7_numberFor_17 rfl ?_
    refine r_goto (tgt := 36) dX7_numberFor_19 (by decide) ?_
    cases hf
    exact r_iret rfl dX7_numberFor_36
/-! ===== NumberedByAge$Twice.numberFor(LNumberedByAge$Street;II)I ===== -/
abbrev M_X9_numberFor : Mx := (cX9_numberFor, 4, RX9, false, (some .int), 1, 23)
def f_X9_numberFor (h : Hp) (this : Nat) (x1 : Option Nat) (x2 : Int32) (x3 : Int32) : Option Int32 :=
    (rcl h (some this)).bind fun a5 =>
    (f_X3_numberFor h a5.1 x1 x2 x3).bind fun v5 =>
    some ((2 : Int32) * v5)
set_option maxRecDepth 100000 in
set_option maxHeartbeats 4000000 in
theorem k_X9_numberFor (G : Gx) (l : Launch) {h : Hp} {this : Nat} {x1 : Option Nat} {x2 : Int32} {x3 : Int32} {r : Int32} (hf : f_X9_numberFor h this x1 x2 x3 = some r) : KM l yX9_numberFor (.code yX9_numberFor cX9_numberFor 4 (some .int) :: wsK) 1 23 G [vR (some this), vR x1, vI x2, vI x3] h (some (vI r)) h := by
  refine r_entry (ctor := false) (own := RX9) (by decide +kernel) rfl (fun q => by cases q) (Nat.le_of_ble_eq_true rfl) ?_
  show RJ G l M_X9_numberFor (some (vI r)) h 0 [(0, vR (some this)), (1, vR x1), (2, vI x2), (3, vI x3)] [] h
  unfold f_X9_numberFor at hf
  refine r_iconst (x := (2 : Int32)) dX9_numberFor_0 (by decide) ?_
  refine r_aload_n 0 dX9_numberFor_1 rfl ?_
  refine r_aload_n 1 dX9_numberFor_2 rfl ?_
  refine r_iload_n 2 dX9_numberFor_3 rfl ?_
  refine r_iload_n 3 dX9_numberFor_4 rfl ?_
  obtain ⟨a5, ea5, hf⟩ := ob hf
  obtain ⟨v5, e5, hf⟩ := ob hf
  refine r_callSU (y := yX3_numberFor) (avs := [vR x1, vI x2, vI x3]) dX9_numberFor_5 kw_2_14 kw_1_209 kw_2_15 kw_1_207 kw_1_3 kw_2_16 ⟨by decide +kernel, oky_X3_numberFor.2.2⟩ ⟨Nat.le_of_ble_eq_true rfl, Nat.le_of_ble_eq_true rfl⟩ rfl (Nat.le_of_ble_eq_true rfl) ea5 (k_X3_numberFor G l e5) ?_
  refine r_imul dX9_numberFor_8 ?_
  cases hf
  exact r_iret rfl dX9_numberFor_9
def f_V_numberFor (h : Hp) (r : Option Nat) (x1 : Option Nat) (x2 : Int32) (x3 : Int32) : Option Int32 :=
  (rcl h r).bind fun q => if q.2 = 0 then f_X0_numberFor h q.1 x1 x2 x3 else if q.2 = 1 then f_X1_numberFor h q.1 x1 x2 x3 else if q.2 = 2 then f_X2_numberFor h q.1 x1 x2 x3 else if q.2 = 3 then f_X3_numberFor h q.1 x1 x2 x3 else if q.2 = 4 then f_X4_numberFor h q.1 x1 x2 x3 else if q.2 = 6 then f_X6_numberFor h q.1 x1 x2 x3 else if q.2 = 7 then f_X7_numberFor h q.1 x1 x2 x3 else if q.2 = 9 then f_X9_numberFor h q.1 x1 x2 x3 else none
set_option maxRecDepth 100000 in
set_option maxHeartbeats 4000000 in
theorem rv_numberFor {G : Gx} {l : Launch} {M : Mx} {v : Option Vv} {h' : Hp} {pc idx : Nat} {lv : List (Nat × Vv)} {st stk : List Vv} {h : Hp} {r : Option Nat} {x1 : Option Nat} {x2 : Int32} {x3 : Int32} {x : Int32} (hd : decode M.1 pc = .ok (.invokevirtual idx, 3)) (w1 : Cond.methodLink M.2.2.1 idx yX3_numberFor ∈ wsK) (hroom : 3 ≤ M.2.2.2.2.2.1 ∧ 69 ≤ M.2.2.2.2.2.2) (hs : [vR x1, vI x2, vI x3].reverse ++ vR r :: st = stk) (hst : (st.map vcat).sum ≤ 8) (e : f_V_numberFor h r x1 x2 x3 = some x) (K : RJ G l M v h' (pc + 3) lv (vI x :: st) h) : RJ G l M v h' pc lv stk h := by
  unfold f_V_numberFor at e
  obtain ⟨⟨a, ci⟩, ea, e⟩ := ob e
  dsimp only at e
  by_cases c0 : ci = 0
  · replace e := (if_pos c0).symm.trans e
    subst c0
    exact r_callO (y := yX0_numberFor) (x := yX3_numberFor) (ci := 0) (avs := [vR x1, vI x2, vI x3]) hd rfl w1 kw_1_209 kw_1_207 kw_1_210 kw_1_211 kw_1_8 kw_1_212 kw_2_16 oky_X3_numberFor ⟨Nat.le_trans (Nat.le_of_ble_eq_true rfl) hroom.1, Nat.le_trans (Nat.le_of_ble_eq_true rfl) hroom.2⟩ hs hst ea (k_X0_numberFor G l e) K
  · replace e := (if_neg c0).symm.trans e
    by_cases c1 : ci = 1
    · replace e := (if_pos c1).symm.trans e
      subst c1
      exact r_callO (y := yX1_numberFor) (x := yX3_numberFor) (ci := 1) (avs := [vR x1, vI x2, vI x3]) hd rfl w1 kw_1_209 kw_1_207 kw_1_217 kw_1_218 kw_1_10 kw_1_219 kw_2_16 oky_X3_numberFor ⟨Nat.le_trans (Nat.le_of_ble_eq_true rfl) hroom.1, Nat.le_trans (Nat.le_of_ble_eq_true rfl) hroom.2⟩ hs hst ea (k_X1_numberFor G l e) K
    · replace e := (if_neg c1).symm.trans e
      by_cases c2 : ci = 2
      · replace e := (if_pos c2).symm.trans e
        subst c2
        exact r_callO (y := yX2_numberFor) (x := yX3_numberFor) (ci := 2) (avs := [vR x1, vI x2, vI x3]) hd rfl w1 kw_1_209 kw_1_207 kw_1_222 kw_1_223 kw_1_13 kw_1_224 kw_2_16 oky_X3_numberFor ⟨Nat.le_trans (Nat.le_of_ble_eq_true rfl) hroom.1, Nat.le_trans (Nat.le_of_ble_eq_true rfl) hroom.2⟩ hs hst ea (k_X2_numberFor G l e) K
      · replace e := (if_neg c2).symm.trans e
        by_cases c3 : ci = 3
        · replace e := (if_pos c3).symm.trans e
          subst c3
          exact r_callO (y := yX3_numberFor) (x := yX3_numberFor) (ci := 3) (avs := [vR x1, vI x2, vI x3]) hd rfl w1 kw_1_209 kw_1_207 kw_1_208 kw_1_207 kw_1_3 kw_2_16 kw_2_16 oky_X3_numberFor ⟨Nat.le_trans (Nat.le_of_ble_eq_true rfl) hroom.1, Nat.le_trans (Nat.le_of_ble_eq_true rfl) hroom.2⟩ hs hst ea (k_X3_numberFor G l e) K
        · replace e := (if_neg c3).symm.trans e
          by_cases c4 : ci = 4
          · replace e := (if_pos c4).symm.trans e
            subst c4
            exact r_callO (y := yX4_numberFor) (x := yX3_numberFor) (ci := 4) (avs := [vR x1, vI x2, vI x3]) hd rfl w1 kw_1_209 kw_1_207 kw_1_234 kw_1_235 kw_1_9 kw_1_236 kw_2_16 oky_X3_numberFor ⟨Nat.le_trans (Nat.le_of_ble_eq_true rfl) hroom.1, Nat.le_trans (Nat.le_of_ble_eq_true rfl) hroom.2⟩ hs hst ea (k_X4_numberFor G l e) K
          · replace e := (if_neg c4).symm.trans e
            by_cases c6 : ci = 6
            · replace e := (if_pos c6).symm.trans e
              subst c6
              exact r_callO (y := yX6_numberFor) (x := yX3_numberFor) (ci := 6) (avs := [vR x1, vI x2, vI x3]) hd rfl w1 kw_1_209 kw_1_207 kw_2_1 kw_2_2 kw_1_14 kw_2_3 kw_2_16 oky_X3_numberFor ⟨Nat.le_trans (Nat.le_of_ble_eq_true rfl) hroom.1, Nat.le_trans (Nat.le_of_ble_eq_true rfl) hroom.2⟩ hs hst ea (k_X6_numberFor G l e) K
            · replace e := (if_neg c6).symm.trans e
              by_cases c7 : ci = 7
              · replace e := (if_pos c7).symm.trans e
                subst c7
                exact r_callO (y := yX7_numberFor) (x := yX3_numberFor) (ci := 7) (avs := [vR x1, vI x2, vI x3]) hd rfl w1 kw_1_209 kw_1_207 kw_2_6 kw_2_7 kw_1_12 kw_2_8 kw_2_16 oky_X3_numberFor ⟨Nat.le_trans (Nat.le_of_ble_eq_true rfl) hroom.1, Nat.le_trans (Nat.le_of_ble_eq_true rfl) hroom.2⟩ hs hst ea (k_X7_numberFor G l e) K
              · replace e := (if_neg c7).symm.trans e
                by_cases c9 : ci = 9
                · replace e := (if_pos c9).symm.trans e
                  subst c9
                  exact r_callO (y := yX9_numberFor) (x := yX3_numberFor) (ci := 9) (avs := [vR x1, vI x2, vI x3]) hd rfl w1 kw_1_209 kw_1_207 kw_2_11 kw_2_12 kw_1_11 kw_2_13 kw_2_16 oky_X3_numberFor ⟨Nat.le_trans (Nat.le_of_ble_eq_true rfl) hroom.1, Nat.le_trans (Nat.le_of_ble_eq_true rfl) hroom.2⟩ hs hst ea (k_X9_numberFor G l e) K
                · replace e := (if_neg c9).symm.trans e
                  cases e

/-! ===== NumberedByAge$Quarter.<init>(II)V ===== -/
abbrev M_X4_init : Mx := (cX4_init, 3, RX4, true, none, 2, 42)
def f_X4_init (h : Hp) (this : Nat) (x1 : Int32) (x2 : Int32) : Option Hp :=
    (f_X3_init h this x1 x2).bind fun h3 =>
    some h3
set_option maxRecDepth 100000 in
set_option maxHeartbeats 4000000 in
theorem k_X4_init (G : Gx) (l : Launch) {h : Hp} {this : Nat} {x1 : Int32} {x2 : Int32} {r : Hp} (hf : f_X4_init h this x1 x2 = some r) : KM l yX4_init (.code yX4_init cX4_init 3 none :: wsK) 2 42 G [vR (some this), vI x1, vI x2] h none r := by
  refine r_entry (ctor := true) (own := RX4) (by decide +kernel) rfl (fun _ => rfl) (Nat.le_of_ble_eq_true rfl) ?_
  show RJ G l M_X4_init none r 0 [(0, vR (some this)), (1, vI x1), (2, vI x2)] [] h
  unfold f_X4_init at hf
  refine r_aload_n 0 dX4_init_0 rfl ?_
  refine r_iload_n 1 dX4_init_1 rfl ?_
  refine r_iload_n 2 dX4_init_2 rfl ?_
  obtain ⟨h3, e3, hf⟩ := ob hf
  refine r_callI (y := yX3_init) (avs := [vI x1, vI x2]) dX4_init_3 kw_2_44 kw_1_39 kw_1_3 kw_1_40 rfl oky_X3_init ⟨Nat.le_of_ble_eq_true rfl, Nat.le_of_ble_eq_true rfl⟩ rfl (Nat.le_of_ble_eq_true rfl) (k_X3_init G l e3) ?_
  cases hf
  exact r_vret rfl dX4_init_6
/-! ===== NumberedByAge$High.<init>(II)V ===== -/
abbrev M_X1_init : Mx := (cX1_init, 3, RX1, true, none, 2, 42)
def f_X1_init (h : Hp) (this : Nat) (x1 : Int32) (x2 : Int32) : Option Hp :=
    (f_X3_init h this x1 x2).bind fun h3 =>
    some h3
set_option maxRecDepth 100000 in
set_option maxHeartbeats 4000000 in
theorem k_X1_init (G : Gx) (l : Launch) {h : Hp} {this : Nat} {x1 : Int32} {x2 : Int32} {r : Hp} (hf : f_X1_init h this x1 x2 = some r) : KM l yX1_init (.code yX1_init cX1_init 3 none :: wsK) 2 42 G [vR (some this), vI x1, vI x2] h none r := by
  refine r_entry (ctor := true) (own := RX1) (by decide +kernel) rfl (fun _ => rfl) (Nat.le_of_ble_eq_true rfl) ?_
  show RJ G l M_X1_init none r 0 [(0, vR (some this)), (1, vI x1), (2, vI x2)] [] h
  unfold f_X1_init at hf
  refine r_aload_n 0 dX1_init_0 rfl ?_
  refine r_iload_n 1 dX1_init_1 rfl ?_
  refine r_iload_n 2 dX1_init_2 rfl ?_
  obtain ⟨h3, e3, hf⟩ := ob hf
  refine r_callI (y := yX3_init) (avs := [vI x1, vI x2]) dX1_init_3 kw_2_53 kw_1_39 kw_1_3 kw_1_40 rfl oky_X3_init ⟨Nat.le_of_ble_eq_true rfl, Nat.le_of_ble_eq_true rfl⟩ rfl (Nat.le_of_ble_eq_true rfl) (k_X3_init G l e3) ?_
  cases hf
  exact r_vret rfl dX1_init_6
/-! ===== NumberedByAge$Twice.<init>(II)V ===== -/
abbrev M_X9_init : Mx := (cX9_init, 3, RX9, true, none, 2, 42)
def f_X9_init (h : Hp) (this : Nat) (x1 : Int32) (x2 : Int32) : Option Hp :=
    (f_X3_init h this x1 x2).bind fun h3 =>
    some h3
set_option maxRecDepth 100000 in
set_option maxHeartbeats 4000000 in
theorem k_X9_init (G : Gx) (l : Launch) {h : Hp} {this : Nat} {x1 : Int32} {x2 : Int32} {r : Hp} (hf : f_X9_init h this x1 x2 = some r) : KM l yX9_init (.code yX9_init cX9_init 3 none :: wsK) 2 42 G [vR (some this), vI x1, vI x2] h none r := by
  refine r_entry (ctor := true) (own := RX9) (by decide +kernel) rfl (fun _ => rfl) (Nat.le_of_ble_eq_true rfl) ?_
  show RJ G l M_X9_init none r 0 [(0, vR (some this)), (1, vI x1), (2, vI x2)] [] h
  unfold f_X9_init at hf
  refine r_aload_n 0 dX9_init_0 rfl ?_
  refine r_iload_n 1 dX9_init_1 rfl ?_
  refine r_iload_n 2 dX9_init_2 rfl ?_
  obtain ⟨h3, e3, hf⟩ := ob hf
  refine r_callI (y := yX3_init) (avs := [vI x1, vI x2]) dX9_init_3 kw_2_61 kw_1_39 kw_1_3 kw_1_40 rfl oky_X3_init ⟨Nat.le_of_ble_eq_true rfl, Nat.le_of_ble_eq_true rfl⟩ rfl (Nat.le_of_ble_eq_true rfl) (k_X3_init G l e3) ?_
  cases hf
  exact r_vret rfl dX9_init_6
/-! ===== NumberedByAge$Skip.<init>(II)V ===== -/
abbrev M_X7_init : Mx := (cX7_init, 3, RX7, true, none, 2, 42)
def f_X7_init (h : Hp) (this : Nat) (x1 : Int32) (x2 : Int32) : Option Hp :=
    (f_X3_init h this x1 x2).bind fun h3 =>
    some h3
set_option maxRecDepth 100000 in
set_option maxHeartbeats 4000000 in
theorem k_X7_init (G : Gx) (l : Launch) {h : Hp} {this : Nat} {x1 : Int32} {x2 : Int32} {r : Hp} (hf : f_X7_init h this x1 x2 = some r) : KM l yX7_init (.code yX7_init cX7_init 3 none :: wsK) 2 42 G [vR (some this), vI x1, vI x2] h none r := by
  refine r_entry (ctor := true) (own := RX7) (by decide +kernel) rfl (fun _ => rfl) (Nat.le_of_ble_eq_true rfl) ?_
  show RJ G l M_X7_init none r 0 [(0, vR (some this)), (1, vI x1), (2, vI x2)] [] h
  unfold f_X7_init at hf
  refine r_aload_n 0 dX7_init_0 rfl ?_
  refine r_iload_n 1 dX7_init_1 rfl ?_
  refine r_iload_n 2 dX7_init_2 rfl ?_
  obtain ⟨h3, e3, hf⟩ := ob hf
  refine r_callI (y := yX3_init) (avs := [vI x1, vI x2]) dX7_init_3 kw_2_69 kw_1_39 kw_1_3 kw_1_40 rfl oky_X3_init ⟨Nat.le_of_ble_eq_true rfl, Nat.le_of_ble_eq_true rfl⟩ rfl (Nat.le_of_ble_eq_true rfl) (k_X3_init G l e3) ?_
  cases hf
  exact r_vret rfl dX7_init_6
/-! ===== NumberedByAge$Last.<init>(II)V ===== -/
abbrev M_X2_init : Mx := (cX2_init, 3, RX2, true, none, 3, 64)
def f_X2_init (h : Hp) (this : Nat) (x1 : Int32) (x2 : Int32) : Option Hp :=
    (f_X0_init h this x1 x2).bind fun h3 =>
    some h3
set_option maxRecDepth 100000 in
set_option maxHeartbeats 4000000 in
theorem k_X2_init (G : Gx) (l : Launch) {h : Hp} {this : Nat} {x1 : Int32} {x2 : Int32} {r : Hp} (hf : f_X2_init h this x1 x2 = some r) : KM l yX2_init (.code yX2_init cX2_init 3 none :: wsK) 3 64 G [vR (some this), vI x1, vI x2] h none r := by
  refine r_entry (ctor := true) (own := RX2) (by decide +kernel) rfl (fun _ => rfl) (Nat.le_of_ble_eq_true rfl) ?_
  show RJ G l M_X2_init none r 0 [(0, vR (some this)), (1, vI x1), (2, vI x2)] [] h
  unfold f_X2_init at hf
  refine r_aload_n 0 dX2_init_0 rfl ?_
  refine r_iload_n 1 dX2_init_1 rfl ?_
  refine r_iload_n 2 dX2_init_2 rfl ?_
  obtain ⟨h3, e3, hf⟩ := ob hf
  refine r_callI (y := yX0_init) (avs := [vI x1, vI x2]) dX2_init_3 kw_2_77 kw_2_33 kw_1_8 kw_2_34 rfl oky_X0_init ⟨Nat.le_of_ble_eq_true rfl, Nat.le_of_ble_eq_true rfl⟩ rfl (Nat.le_of_ble_eq_true rfl) (k_X0_init G l e3) ?_
  cases hf
  exact r_vret rfl dX2_init_6
/-! ===== NumberedByAge$Side.<init>(II)V ===== -/
abbrev M_X6_init : Mx := (cX6_init, 3, RX6, true, none, 3, 64)
def f_X6_init (h : Hp) (this : Nat) (x1 : Int32) (x2 : Int32) : Option Hp :=
    (f_X4_init h this x1 x2).bind fun h3 =>
    some h3
set_option maxRecDepth 100000 in
set_option maxHeartbeats 4000000 in
theorem k_X6_init (G : Gx) (l : Launch) {h : Hp} {this : Nat} {x1 : Int32} {x2 : Int32} {r : Hp} (hf : f_X6_init h this x1 x2 = some r) : KM l yX6_init (.code yX6_init cX6_init 3 none :: wsK) 3 64 G [vR (some this), vI x1, vI x2] h none r := by
  refine r_entry (ctor := true) (own := RX6) (by decide +kernel) rfl (fun _ => rfl) (Nat.le_of_ble_eq_true rfl) ?_
  show RJ G l M_X6_init none r 0 [(0, vR (some this)), (1, vI x1), (2, vI x2)] [] h
  unfold f_X6_init at hf
  refine r_aload_n 0 dX6_init_0 rfl ?_
  refine r_iload_n 1 dX6_init_1 rfl ?_
  refine r_iload_n 2 dX6_init_2 rfl ?_
  obtain ⟨h3, e3, hf⟩ := ob hf
  refine r_callI (y := yX4_init) (avs := [vI x1, vI x2]) dX6_init_3 kw_2_85 kw_2_42 kw_1_9 kw_2_43 rfl oky_X4_init ⟨Nat.le_of_ble_eq_true rfl, Nat.le_of_ble_eq_true rfl⟩ rfl (Nat.le_of_ble_eq_true rfl) (k_X4_init G l e3) ?_
  cases hf
  exact r_vret rfl dX6_init_6
/-! ===== NumberedByAge$Shelf.hasPlace(I)Z ===== -/
abbrev M_X5_hasPlace : Mx := (cX5_hasPlace, 2, RX5, false, (some .boolean), 0, 0)
def f_X5_hasPlace_16 (h : Hp) (this : Nat)  : Option Int32 :=
    okZ (0 : Int32)
set_option maxRecDepth 100000 in
set_option maxHeartbeats 4000000 in
theorem t_X5_hasPlace_16 (G : Gx) (l : Launch) (h : Hp) (this : Nat)   (r : Int32) (hf : f_X5_hasPlace_16 h this = some r) : RJ G l M_X5_hasPlace (some (vI r)) h 16 [(0, vR (some this))] [] h := by
  unfold f_X5_hasPlace_16 at hf
  refine r_iconst (x := (0 : Int32)) dX5_hasPlace_16 (by decide) ?_
  exact r_zret rfl dX5_hasPlace_17 hf
def f_X5_hasPlace (h : Hp) (this : Nat) (x1 : Int32) : Option Int32 :=
    if x1 < 0 then
      f_X5_hasPlace_16 h this 
    else
      (gI h (some this) [5] 2).bind fun v6 =>
      if v6 ≤ x1 then
        f_X5_hasPlace_16 h this 
      else
        okZ (1 : Int32)
set_option maxRecDepth 100000 in
set_option maxHeartbeats 4000000 in
theorem k_X5_hasPlace (G : Gx) (l : Launch) {h : Hp} {this : Nat} {x1 : Int32} {r : Int32} (hf : f_X5_hasPlace h this x1 = some r) : KM l yX5_hasPlace (.code yX5_hasPlace cX5_hasPlace 2 (some .boolean) :: wsK) 0 0 G [vR (some this), vI x1] h (some (vI r)) h := by
  refine r_entry (ctor := false) (own := RX5) (by decide +kernel) rfl (fun q => by cases q) (Nat.le_of_ble_eq_true rfl) ?_
  show RJ G l M_X5_hasPlace (some (vI r)) h 0 [(0, vR (some this)), (1, vI x1)] [] h
  unfold f_X5_hasPlace at hf
  refine r_iload_n 1 dX5_hasPlace_0 rfl ?_
  refine r_if_lt (tgt := 16) dX5_hasPlace_1 (by decide) (fun c1 => ?_) (fun c1 => ?_)
  · replace hf := (if_pos c1).symm.trans hf
    exact r_sub [0] rfl (t_X5_hasPlace_16 G l _ _  _ hf)
  · replace hf := (if_neg c1).symm.trans hf
    refine r_iload_n 1 dX5_hasPlace_4 rfl ?_
    refine r_aload_n 0 dX5_hasPlace_5 rfl ?_
    obtain ⟨v6, e6, hf⟩ := ob hf
    refine r_get dX5_hasPlace_6 fl_5_2 kw_1_108 (Or.inl rfl) (gI_sp e6) ?_
    refine r_icmp_ge (tgt := 16) dX5_hasPlace_9 (by decide) (fun c9 => ?_) (fun c9 => ?_)
    · replace hf := (if_pos c9).symm.trans hf
      exact r_sub [0] rfl (t_X5_hasPlace_16 G l _ _  _ hf)
    · replace hf := (if_neg c9).symm.trans hf
      refine r_iconst (x := (1 : Int32)) dX5_hasPlace_12 (by decide) ?_
      refine r_goto (tgt := 17) dX5_hasPlace_13 (by decide) ?_
      exact r_zret rfl dX5_hasPlace_17 hf
end
