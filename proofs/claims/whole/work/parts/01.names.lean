-- ===== PART A: goes FIRST, ahead of the names: the tables' words, and 'selects' of the private methods out of them =====
/-- a private method of a class that the tables say can be made, by its rows of tables_1 -/
def lw_okq (q : MethodName × Nat) : Prop := (q.1.cls ≠ "java/lang/invoke/MethodHandle" ∧ q.1.cls ≠ "java/lang/invoke/VarHandle") ∧ Cond.instantiable q.1.cls q.2 ∈ tables_1 ∧ Cond.privateMethod q.1 ∈ tables_1 ∧ Cond.instanceMethod q.1 ∈ tables_1
theorem lw_p0 : lw_okq (⟨"SuetTroubles$Reader", "skipBlanks", "()V"⟩, 5) := ⟨⟨by decide +kernel, by decide +kernel⟩, List.mem_of_getElem? (i := 26) (by decide +kernel), List.mem_of_getElem? (i := 344) (by decide +kernel), List.mem_of_getElem? (i := 345) (by decide +kernel)⟩
theorem lw_p1 : lw_okq (⟨"SuetTroubles$Reader", "here", "()I"⟩, 5) := ⟨⟨by decide +kernel, by decide +kernel⟩, List.mem_of_getElem? (i := 26) (by decide +kernel), List.mem_of_getElem? (i := 348) (by decide +kernel), List.mem_of_getElem? (i := 349) (by decide +kernel)⟩
theorem lw_p2 : lw_okq (⟨"SuetTroubles$Reader", "readClause", "(LSuetTroubles$Plan;)V"⟩, 5) := ⟨⟨by decide +kernel, by decide +kernel⟩, List.mem_of_getElem? (i := 26) (by decide +kernel), List.mem_of_getElem? (i := 352) (by decide +kernel), List.mem_of_getElem? (i := 353) (by decide +kernel)⟩
theorem lw_p3 : lw_okq (⟨"SuetTroubles$Reader", "readFire", "(LSuetTroubles$Plan;)V"⟩, 5) := ⟨⟨by decide +kernel, by decide +kernel⟩, List.mem_of_getElem? (i := 26) (by decide +kernel), List.mem_of_getElem? (i := 356) (by decide +kernel), List.mem_of_getElem? (i := 357) (by decide +kernel)⟩
theorem lw_p4 : lw_okq (⟨"SuetTroubles$Reader", "blame", "(II)V"⟩, 5) := ⟨⟨by decide +kernel, by decide +kernel⟩, List.mem_of_getElem? (i := 26) (by decide +kernel), List.mem_of_getElem? (i := 364) (by decide +kernel), List.mem_of_getElem? (i := 365) (by decide +kernel)⟩
theorem lw_p5 : lw_okq (⟨"SuetTroubles$Reader", "readNumber", "(II)I"⟩, 5) := ⟨⟨by decide +kernel, by decide +kernel⟩, List.mem_of_getElem? (i := 26) (by decide +kernel), List.mem_of_getElem? (i := 368) (by decide +kernel), List.mem_of_getElem? (i := 369) (by decide +kernel)⟩
theorem lw_p6 : lw_okq (⟨"SuetTroubles$Reader", "readSign", "(I)V"⟩, 5) := ⟨⟨by decide +kernel, by decide +kernel⟩, List.mem_of_getElem? (i := 26) (by decide +kernel), List.mem_of_getElem? (i := 378) (by decide +kernel), List.mem_of_getElem? (i := 379) (by decide +kernel)⟩
theorem lw_p7 : lw_okq (⟨"SuetTroubles$Reader", "readTrouble", "(LSuetTroubles$Plan;)V"⟩, 5) := ⟨⟨by decide +kernel, by decide +kernel⟩, List.mem_of_getElem? (i := 26) (by decide +kernel), List.mem_of_getElem? (i := 382) (by decide +kernel), List.mem_of_getElem? (i := 383) (by decide +kernel)⟩
theorem lw_p8 : lw_okq (⟨"SuetTroubles$Reader", "readEater", "(LSuetTroubles$Plan;)V"⟩, 5) := ⟨⟨by decide +kernel, by decide +kernel⟩, List.mem_of_getElem? (i := 26) (by decide +kernel), List.mem_of_getElem? (i := 390) (by decide +kernel), List.mem_of_getElem? (i := 391) (by decide +kernel)⟩
theorem lw_p9 : lw_okq (⟨"SuetTroubles$Past", "forgetUndone", "()V"⟩, 6) := ⟨⟨by decide +kernel, by decide +kernel⟩, List.mem_of_getElem? (i := 190) (by decide +kernel), List.mem_of_getElem? (i := 414) (by decide +kernel), List.mem_of_getElem? (i := 415) (by decide +kernel)⟩
theorem lw_p10 : lw_okq (⟨"SuetTroubles$Cloth", "feelAll", "(LSuetTroubles$Plan;LSuetTroubles$Scene;)V"⟩, 6) := ⟨⟨by decide +kernel, by decide +kernel⟩, List.mem_of_getElem? (i := 242) (by decide +kernel), List.mem_of_getElem? (i := 462) (by decide +kernel), List.mem_of_getElem? (i := 463) (by decide +kernel)⟩
theorem lw_p11 : lw_okq (⟨"SuetTroubles$Cloth", "feelMoves", "(I)V"⟩, 6) := ⟨⟨by decide +kernel, by decide +kernel⟩, List.mem_of_getElem? (i := 242) (by decide +kernel), List.mem_of_getElem? (i := 466) (by decide +kernel), List.mem_of_getElem? (i := 467) (by decide +kernel)⟩
theorem lw_p12 : lw_okq (⟨"SuetTroubles$Cloth", "countPair", "(I)V"⟩, 6) := ⟨⟨by decide +kernel, by decide +kernel⟩, List.mem_of_getElem? (i := 242) (by decide +kernel), List.mem_of_getElem? (i := 491) (by decide +kernel), List.mem_of_getElem? (i := 492) (by decide +kernel)⟩
theorem lw_p13 : lw_okq (⟨"SuetTroubles$Sheets", "addRow", "(I)V"⟩, 2) := ⟨⟨by decide +kernel, by decide +kernel⟩, List.mem_of_getElem? (i := 148) (by decide +kernel), List.mem_of_getElem? (i := 591) (by decide +kernel), List.mem_of_getElem? (i := 592) (by decide +kernel)⟩
theorem lw_p14 : lw_okq (⟨"SuetTroubles", "refusalOfHours", "(I)I"⟩, 12) := ⟨⟨by decide +kernel, by decide +kernel⟩, List.mem_of_getElem? (i := 18) (by decide +kernel), List.mem_of_getElem? (i := 619) (by decide +kernel), List.mem_of_getElem? (i := 620) (by decide +kernel)⟩
theorem lw_p15 : lw_okq (⟨"SuetTroubles$Deeds", "softenedBy", "(I)I"⟩, 4) := ⟨⟨by decide +kernel, by decide +kernel⟩, List.mem_of_getElem? (i := 101) (by decide +kernel), List.mem_of_getElem? (i := 632) (by decide +kernel), List.mem_of_getElem? (i := 633) (by decide +kernel)⟩
def lw_privs_1 : List (MethodName × Nat) := [(⟨"SuetTroubles$Reader", "skipBlanks", "()V"⟩, 5), (⟨"SuetTroubles$Reader", "here", "()I"⟩, 5), (⟨"SuetTroubles$Reader", "readClause", "(LSuetTroubles$Plan;)V"⟩, 5), (⟨"SuetTroubles$Reader", "readFire", "(LSuetTroubles$Plan;)V"⟩, 5), (⟨"SuetTroubles$Reader", "blame", "(II)V"⟩, 5), (⟨"SuetTroubles$Reader", "readNumber", "(II)I"⟩, 5), (⟨"SuetTroubles$Reader", "readSign", "(I)V"⟩, 5), (⟨"SuetTroubles$Reader", "readTrouble", "(LSuetTroubles$Plan;)V"⟩, 5), (⟨"SuetTroubles$Reader", "readEater", "(LSuetTroubles$Plan;)V"⟩, 5), (⟨"SuetTroubles$Past", "forgetUndone", "()V"⟩, 6), (⟨"SuetTroubles$Cloth", "feelAll", "(LSuetTroubles$Plan;LSuetTroubles$Scene;)V"⟩, 6), (⟨"SuetTroubles$Cloth", "feelMoves", "(I)V"⟩, 6), (⟨"SuetTroubles$Cloth", "countPair", "(I)V"⟩, 6), (⟨"SuetTroubles$Sheets", "addRow", "(I)V"⟩, 2), (⟨"SuetTroubles", "refusalOfHours", "(I)I"⟩, 12), (⟨"SuetTroubles$Deeds", "softenedBy", "(I)I"⟩, 4)]
theorem lw_r1 : ∀ q ∈ lw_privs_1, lw_okq q := List.forall_mem_cons.mpr ⟨lw_p0, List.forall_mem_cons.mpr ⟨lw_p1, List.forall_mem_cons.mpr ⟨lw_p2, List.forall_mem_cons.mpr ⟨lw_p3, List.forall_mem_cons.mpr ⟨lw_p4, List.forall_mem_cons.mpr ⟨lw_p5, List.forall_mem_cons.mpr ⟨lw_p6, List.forall_mem_cons.mpr ⟨lw_p7, List.forall_mem_cons.mpr ⟨lw_p8, List.forall_mem_cons.mpr ⟨lw_p9, List.forall_mem_cons.mpr ⟨lw_p10, List.forall_mem_cons.mpr ⟨lw_p11, List.forall_mem_cons.mpr ⟨lw_p12, List.forall_mem_cons.mpr ⟨lw_p13, List.forall_mem_cons.mpr ⟨lw_p14, List.forall_mem_cons.mpr ⟨lw_p15, fun _ h => absurd h List.not_mem_nil⟩⟩⟩⟩⟩⟩⟩⟩⟩⟩⟩⟩⟩⟩⟩⟩
theorem lw_p16 : lw_okq (⟨"SuetTroublesModel", "readsKitchen", "()Z"⟩, 36) := ⟨⟨by decide +kernel, by decide +kernel⟩, List.mem_of_getElem? (i := 805) (by decide +kernel), List.mem_of_getElem? (i := 934) (by decide +kernel), List.mem_of_getElem? (i := 935) (by decide +kernel)⟩
theorem lw_p17 : lw_okq (⟨"SuetTroublesModel", "nextLetter", "()I"⟩, 36) := ⟨⟨by decide +kernel, by decide +kernel⟩, List.mem_of_getElem? (i := 805) (by decide +kernel), List.mem_of_getElem? (i := 938) (by decide +kernel), List.mem_of_getElem? (i := 939) (by decide +kernel)⟩
theorem lw_p18 : lw_okq (⟨"SuetTroublesModel", "letterAt", "(I)I"⟩, 36) := ⟨⟨by decide +kernel, by decide +kernel⟩, List.mem_of_getElem? (i := 805) (by decide +kernel), List.mem_of_getElem? (i := 942) (by decide +kernel), List.mem_of_getElem? (i := 943) (by decide +kernel)⟩
theorem lw_p19 : lw_okq (⟨"SuetTroublesModel", "readsClause", "()Z"⟩, 36) := ⟨⟨by decide +kernel, by decide +kernel⟩, List.mem_of_getElem? (i := 805) (by decide +kernel), List.mem_of_getElem? (i := 946) (by decide +kernel), List.mem_of_getElem? (i := 947) (by decide +kernel)⟩
theorem lw_p20 : lw_okq (⟨"SuetTroublesModel", "readsHead", "()Z"⟩, 36) := ⟨⟨by decide +kernel, by decide +kernel⟩, List.mem_of_getElem? (i := 805) (by decide +kernel), List.mem_of_getElem? (i := 950) (by decide +kernel), List.mem_of_getElem? (i := 951) (by decide +kernel)⟩
theorem lw_p21 : lw_okq (⟨"SuetTroublesModel", "readsNumber", "(II)I"⟩, 36) := ⟨⟨by decide +kernel, by decide +kernel⟩, List.mem_of_getElem? (i := 805) (by decide +kernel), List.mem_of_getElem? (i := 954) (by decide +kernel), List.mem_of_getElem? (i := 955) (by decide +kernel)⟩
theorem lw_p22 : lw_okq (⟨"SuetTroublesModel", "fails", "(II)I"⟩, 36) := ⟨⟨by decide +kernel, by decide +kernel⟩, List.mem_of_getElem? (i := 805) (by decide +kernel), List.mem_of_getElem? (i := 958) (by decide +kernel), List.mem_of_getElem? (i := 959) (by decide +kernel)⟩
theorem lw_p23 : lw_okq (⟨"SuetTroublesModel", "readsSign", "(I)Z"⟩, 36) := ⟨⟨by decide +kernel, by decide +kernel⟩, List.mem_of_getElem? (i := 805) (by decide +kernel), List.mem_of_getElem? (i := 962) (by decide +kernel), List.mem_of_getElem? (i := 963) (by decide +kernel)⟩
theorem lw_p24 : lw_okq (⟨"SuetTroublesModel", "readsTrouble", "()Z"⟩, 36) := ⟨⟨by decide +kernel, by decide +kernel⟩, List.mem_of_getElem? (i := 805) (by decide +kernel), List.mem_of_getElem? (i := 966) (by decide +kernel), List.mem_of_getElem? (i := 967) (by decide +kernel)⟩
theorem lw_p25 : lw_okq (⟨"SuetTroublesModel", "readsEater", "()Z"⟩, 36) := ⟨⟨by decide +kernel, by decide +kernel⟩, List.mem_of_getElem? (i := 805) (by decide +kernel), List.mem_of_getElem? (i := 970) (by decide +kernel), List.mem_of_getElem? (i := 971) (by decide +kernel)⟩
theorem lw_p26 : lw_okq (⟨"SuetTroublesModel", "are", "(I)I"⟩, 36) := ⟨⟨by decide +kernel, by decide +kernel⟩, List.mem_of_getElem? (i := 805) (by decide +kernel), List.mem_of_getElem? (i := 982) (by decide +kernel), List.mem_of_getElem? (i := 983) (by decide +kernel)⟩
theorem lw_p27 : lw_okq (⟨"SuetTroublesModel", "good", "()I"⟩, 36) := ⟨⟨by decide +kernel, by decide +kernel⟩, List.mem_of_getElem? (i := 805) (by decide +kernel), List.mem_of_getElem? (i := 986) (by decide +kernel), List.mem_of_getElem? (i := 987) (by decide +kernel)⟩
theorem lw_p28 : lw_okq (⟨"SuetTroublesModel", "isGood", "(I)Z"⟩, 36) := ⟨⟨by decide +kernel, by decide +kernel⟩, List.mem_of_getElem? (i := 805) (by decide +kernel), List.mem_of_getElem? (i := 990) (by decide +kernel), List.mem_of_getElem? (i := 991) (by decide +kernel)⟩
theorem lw_p29 : lw_okq (⟨"SuetTroublesModel", "leftAll", "()I"⟩, 36) := ⟨⟨by decide +kernel, by decide +kernel⟩, List.mem_of_getElem? (i := 805) (by decide +kernel), List.mem_of_getElem? (i := 994) (by decide +kernel), List.mem_of_getElem? (i := 995) (by decide +kernel)⟩
theorem lw_p30 : lw_okq (⟨"SuetTroublesModel", "left", "(I)I"⟩, 36) := ⟨⟨by decide +kernel, by decide +kernel⟩, List.mem_of_getElem? (i := 805) (by decide +kernel), List.mem_of_getElem? (i := 998) (by decide +kernel), List.mem_of_getElem? (i := 999) (by decide +kernel)⟩
theorem lw_p31 : lw_okq (⟨"SuetTroublesModel", "strongest", "()I"⟩, 36) := ⟨⟨by decide +kernel, by decide +kernel⟩, List.mem_of_getElem? (i := 805) (by decide +kernel), List.mem_of_getElem? (i := 1002) (by decide +kernel), List.mem_of_getElem? (i := 1003) (by decide +kernel)⟩
def lw_privs_2 : List (MethodName × Nat) := [(⟨"SuetTroublesModel", "readsKitchen", "()Z"⟩, 36), (⟨"SuetTroublesModel", "nextLetter", "()I"⟩, 36), (⟨"SuetTroublesModel", "letterAt", "(I)I"⟩, 36), (⟨"SuetTroublesModel", "readsClause", "()Z"⟩, 36), (⟨"SuetTroublesModel", "readsHead", "()Z"⟩, 36), (⟨"SuetTroublesModel", "readsNumber", "(II)I"⟩, 36), (⟨"SuetTroublesModel", "fails", "(II)I"⟩, 36), (⟨"SuetTroublesModel", "readsSign", "(I)Z"⟩, 36), (⟨"SuetTroublesModel", "readsTrouble", "()Z"⟩, 36), (⟨"SuetTroublesModel", "readsEater", "()Z"⟩, 36), (⟨"SuetTroublesModel", "are", "(I)I"⟩, 36), (⟨"SuetTroublesModel", "good", "()I"⟩, 36), (⟨"SuetTroublesModel", "isGood", "(I)Z"⟩, 36), (⟨"SuetTroublesModel", "leftAll", "()I"⟩, 36), (⟨"SuetTroublesModel", "left", "(I)I"⟩, 36), (⟨"SuetTroublesModel", "strongest", "()I"⟩, 36)]
theorem lw_r2 : ∀ q ∈ lw_privs_2, lw_okq q := List.forall_mem_cons.mpr ⟨lw_p16, List.forall_mem_cons.mpr ⟨lw_p17, List.forall_mem_cons.mpr ⟨lw_p18, List.forall_mem_cons.mpr ⟨lw_p19, List.forall_mem_cons.mpr ⟨lw_p20, List.forall_mem_cons.mpr ⟨lw_p21, List.forall_mem_cons.mpr ⟨lw_p22, List.forall_mem_cons.mpr ⟨lw_p23, List.forall_mem_cons.mpr ⟨lw_p24, List.forall_mem_cons.mpr ⟨lw_p25, List.forall_mem_cons.mpr ⟨lw_p26, List.forall_mem_cons.mpr ⟨lw_p27, List.forall_mem_cons.mpr ⟨lw_p28, List.forall_mem_cons.mpr ⟨lw_p29, List.forall_mem_cons.mpr ⟨lw_p30, List.forall_mem_cons.mpr ⟨lw_p31, fun _ h => absurd h List.not_mem_nil⟩⟩⟩⟩⟩⟩⟩⟩⟩⟩⟩⟩⟩⟩⟩⟩
theorem lw_p32 : lw_okq (⟨"SuetTroublesModel", "within", "()I"⟩, 36) := ⟨⟨by decide +kernel, by decide +kernel⟩, List.mem_of_getElem? (i := 805) (by decide +kernel), List.mem_of_getElem? (i := 1006) (by decide +kernel), List.mem_of_getElem? (i := 1007) (by decide +kernel)⟩
theorem lw_p33 : lw_okq (⟨"SuetTroublesModel", "fit", "(I)I"⟩, 36) := ⟨⟨by decide +kernel, by decide +kernel⟩, List.mem_of_getElem? (i := 805) (by decide +kernel), List.mem_of_getElem? (i := 1010) (by decide +kernel), List.mem_of_getElem? (i := 1011) (by decide +kernel)⟩
theorem lw_p34 : lw_okq (⟨"SuetTroublesModel", "fitMany", "()I"⟩, 36) := ⟨⟨by decide +kernel, by decide +kernel⟩, List.mem_of_getElem? (i := 805) (by decide +kernel), List.mem_of_getElem? (i := 1020) (by decide +kernel), List.mem_of_getElem? (i := 1021) (by decide +kernel)⟩
theorem lw_p35 : lw_okq (⟨"SuetTroublesModel", "weave", "()I"⟩, 36) := ⟨⟨by decide +kernel, by decide +kernel⟩, List.mem_of_getElem? (i := 805) (by decide +kernel), List.mem_of_getElem? (i := 1024) (by decide +kernel), List.mem_of_getElem? (i := 1025) (by decide +kernel)⟩
theorem lw_p36 : lw_okq (⟨"SuetTroublesModel", "isTrouble", "(I)Z"⟩, 36) := ⟨⟨by decide +kernel, by decide +kernel⟩, List.mem_of_getElem? (i := 805) (by decide +kernel), List.mem_of_getElem? (i := 1032) (by decide +kernel), List.mem_of_getElem? (i := 1033) (by decide +kernel)⟩
theorem lw_p37 : lw_okq (⟨"SuetTroublesModel", "isBearable", "(I)Z"⟩, 36) := ⟨⟨by decide +kernel, by decide +kernel⟩, List.mem_of_getElem? (i := 805) (by decide +kernel), List.mem_of_getElem? (i := 1059) (by decide +kernel), List.mem_of_getElem? (i := 1060) (by decide +kernel)⟩
theorem lw_p38 : lw_okq (⟨"SuetTroublesModel", "weight", "(I)I"⟩, 36) := ⟨⟨by decide +kernel, by decide +kernel⟩, List.mem_of_getElem? (i := 805) (by decide +kernel), List.mem_of_getElem? (i := 1063) (by decide +kernel), List.mem_of_getElem? (i := 1064) (by decide +kernel)⟩
theorem lw_p39 : lw_okq (⟨"SuetTroublesModel", "isEater", "(I)Z"⟩, 36) := ⟨⟨by decide +kernel, by decide +kernel⟩, List.mem_of_getElem? (i := 805) (by decide +kernel), List.mem_of_getElem? (i := 1071) (by decide +kernel), List.mem_of_getElem? (i := 1072) (by decide +kernel)⟩
theorem lw_p40 : lw_okq (⟨"SuetTroublesModel", "remember", "()V"⟩, 36) := ⟨⟨by decide +kernel, by decide +kernel⟩, List.mem_of_getElem? (i := 805) (by decide +kernel), List.mem_of_getElem? (i := 1080) (by decide +kernel), List.mem_of_getElem? (i := 1081) (by decide +kernel)⟩
theorem lw_p41 : lw_okq (⟨"SuetTroublesModel", "wraps", "(I)I"⟩, 36) := ⟨⟨by decide +kernel, by decide +kernel⟩, List.mem_of_getElem? (i := 805) (by decide +kernel), List.mem_of_getElem? (i := 1084) (by decide +kernel), List.mem_of_getElem? (i := 1085) (by decide +kernel)⟩
theorem lw_p42 : lw_okq (⟨"SuetTroublesModel", "sheetsFor", "(I)I"⟩, 36) := ⟨⟨by decide +kernel, by decide +kernel⟩, List.mem_of_getElem? (i := 805) (by decide +kernel), List.mem_of_getElem? (i := 1088) (by decide +kernel), List.mem_of_getElem? (i := 1089) (by decide +kernel)⟩
theorem lw_p43 : lw_okq (⟨"SuetTroublesModel", "fewestSheets", "(IZ)I"⟩, 36) := ⟨⟨by decide +kernel, by decide +kernel⟩, List.mem_of_getElem? (i := 805) (by decide +kernel), List.mem_of_getElem? (i := 1092) (by decide +kernel), List.mem_of_getElem? (i := 1093) (by decide +kernel)⟩
theorem lw_p44 : lw_okq (⟨"SuetTroublesModel", "potsFree", "()I"⟩, 36) := ⟨⟨by decide +kernel, by decide +kernel⟩, List.mem_of_getElem? (i := 805) (by decide +kernel), List.mem_of_getElem? (i := 1105) (by decide +kernel), List.mem_of_getElem? (i := 1106) (by decide +kernel)⟩
theorem lw_p45 : lw_okq (⟨"SuetTroublesModel", "needHours", "(I)I"⟩, 36) := ⟨⟨by decide +kernel, by decide +kernel⟩, List.mem_of_getElem? (i := 805) (by decide +kernel), List.mem_of_getElem? (i := 1117) (by decide +kernel), List.mem_of_getElem? (i := 1118) (by decide +kernel)⟩
theorem lw_p46 : lw_okq (⟨"SuetTroublesModel", "isKitchen", "()Z"⟩, 36) := ⟨⟨by decide +kernel, by decide +kernel⟩, List.mem_of_getElem? (i := 805) (by decide +kernel), List.mem_of_getElem? (i := 1121) (by decide +kernel), List.mem_of_getElem? (i := 1122) (by decide +kernel)⟩
theorem lw_p47 : lw_okq (⟨"SuetTroublesModel", "passes", "()V"⟩, 36) := ⟨⟨by decide +kernel, by decide +kernel⟩, List.mem_of_getElem? (i := 805) (by decide +kernel), List.mem_of_getElem? (i := 1125) (by decide +kernel), List.mem_of_getElem? (i := 1126) (by decide +kernel)⟩
def lw_privs_3 : List (MethodName × Nat) := [(⟨"SuetTroublesModel", "within", "()I"⟩, 36), (⟨"SuetTroublesModel", "fit", "(I)I"⟩, 36), (⟨"SuetTroublesModel", "fitMany", "()I"⟩, 36), (⟨"SuetTroublesModel", "weave", "()I"⟩, 36), (⟨"SuetTroublesModel", "isTrouble", "(I)Z"⟩, 36), (⟨"SuetTroublesModel", "isBearable", "(I)Z"⟩, 36), (⟨"SuetTroublesModel", "weight", "(I)I"⟩, 36), (⟨"SuetTroublesModel", "isEater", "(I)Z"⟩, 36), (⟨"SuetTroublesModel", "remember", "()V"⟩, 36), (⟨"SuetTroublesModel", "wraps", "(I)I"⟩, 36), (⟨"SuetTroublesModel", "sheetsFor", "(I)I"⟩, 36), (⟨"SuetTroublesModel", "fewestSheets", "(IZ)I"⟩, 36), (⟨"SuetTroublesModel", "potsFree", "()I"⟩, 36), (⟨"SuetTroublesModel", "needHours", "(I)I"⟩, 36), (⟨"SuetTroublesModel", "isKitchen", "()Z"⟩, 36), (⟨"SuetTroublesModel", "passes", "()V"⟩, 36)]
theorem lw_r3 : ∀ q ∈ lw_privs_3, lw_okq q := List.forall_mem_cons.mpr ⟨lw_p32, List.forall_mem_cons.mpr ⟨lw_p33, List.forall_mem_cons.mpr ⟨lw_p34, List.forall_mem_cons.mpr ⟨lw_p35, List.forall_mem_cons.mpr ⟨lw_p36, List.forall_mem_cons.mpr ⟨lw_p37, List.forall_mem_cons.mpr ⟨lw_p38, List.forall_mem_cons.mpr ⟨lw_p39, List.forall_mem_cons.mpr ⟨lw_p40, List.forall_mem_cons.mpr ⟨lw_p41, List.forall_mem_cons.mpr ⟨lw_p42, List.forall_mem_cons.mpr ⟨lw_p43, List.forall_mem_cons.mpr ⟨lw_p44, List.forall_mem_cons.mpr ⟨lw_p45, List.forall_mem_cons.mpr ⟨lw_p46, List.forall_mem_cons.mpr ⟨lw_p47, fun _ h => absurd h List.not_mem_nil⟩⟩⟩⟩⟩⟩⟩⟩⟩⟩⟩⟩⟩⟩⟩⟩
theorem lw_p48 : lw_okq (⟨"SuetTroublesModel", "softens", "(II)I"⟩, 36) := ⟨⟨by decide +kernel, by decide +kernel⟩, List.mem_of_getElem? (i := 805) (by decide +kernel), List.mem_of_getElem? (i := 1129) (by decide +kernel), List.mem_of_getElem? (i := 1130) (by decide +kernel)⟩
theorem lw_p49 : lw_okq (⟨"SuetTroublesModel", "canBeBorne", "(I)Z"⟩, 36) := ⟨⟨by decide +kernel, by decide +kernel⟩, List.mem_of_getElem? (i := 805) (by decide +kernel), List.mem_of_getElem? (i := 1140) (by decide +kernel), List.mem_of_getElem? (i := 1141) (by decide +kernel)⟩
theorem lw_p50 : lw_okq (⟨"SuetTroublesModel", "bears", "(I)V"⟩, 36) := ⟨⟨by decide +kernel, by decide +kernel⟩, List.mem_of_getElem? (i := 805) (by decide +kernel), List.mem_of_getElem? (i := 1144) (by decide +kernel), List.mem_of_getElem? (i := 1145) (by decide +kernel)⟩
theorem lw_p51 : lw_okq (⟨"SuetTroublesModel", "rests", "()I"⟩, 36) := ⟨⟨by decide +kernel, by decide +kernel⟩, List.mem_of_getElem? (i := 805) (by decide +kernel), List.mem_of_getElem? (i := 1152) (by decide +kernel), List.mem_of_getElem? (i := 1153) (by decide +kernel)⟩
theorem lw_p52 : lw_okq (⟨"SuetTroublesModel", "draw", "(I)I"⟩, 36) := ⟨⟨by decide +kernel, by decide +kernel⟩, List.mem_of_getElem? (i := 805) (by decide +kernel), List.mem_of_getElem? (i := 1164) (by decide +kernel), List.mem_of_getElem? (i := 1165) (by decide +kernel)⟩
theorem lw_p53 : lw_okq (⟨"SuetTroublesModel", "does", "(II)V"⟩, 36) := ⟨⟨by decide +kernel, by decide +kernel⟩, List.mem_of_getElem? (i := 805) (by decide +kernel), List.mem_of_getElem? (i := 1172) (by decide +kernel), List.mem_of_getElem? (i := 1173) (by decide +kernel)⟩
theorem lw_p54 : lw_okq (⟨"SuetTroublesModel", "softBehind", "(II)I"⟩, 36) := ⟨⟨by decide +kernel, by decide +kernel⟩, List.mem_of_getElem? (i := 805) (by decide +kernel), List.mem_of_getElem? (i := 1194) (by decide +kernel), List.mem_of_getElem? (i := 1195) (by decide +kernel)⟩
theorem lw_p55 : lw_okq (⟨"SuetTroublesModel", "softIn", "(II)I"⟩, 36) := ⟨⟨by decide +kernel, by decide +kernel⟩, List.mem_of_getElem? (i := 805) (by decide +kernel), List.mem_of_getElem? (i := 1202) (by decide +kernel), List.mem_of_getElem? (i := 1203) (by decide +kernel)⟩
theorem lw_p56 : lw_okq (⟨"SuetTroublesModel", "sumOf", "(II)I"⟩, 36) := ⟨⟨by decide +kernel, by decide +kernel⟩, List.mem_of_getElem? (i := 805) (by decide +kernel), List.mem_of_getElem? (i := 1211) (by decide +kernel), List.mem_of_getElem? (i := 1212) (by decide +kernel)⟩
def lw_privs_4 : List (MethodName × Nat) := [(⟨"SuetTroublesModel", "softens", "(II)I"⟩, 36), (⟨"SuetTroublesModel", "canBeBorne", "(I)Z"⟩, 36), (⟨"SuetTroublesModel", "bears", "(I)V"⟩, 36), (⟨"SuetTroublesModel", "rests", "()I"⟩, 36), (⟨"SuetTroublesModel", "draw", "(I)I"⟩, 36), (⟨"SuetTroublesModel", "does", "(II)V"⟩, 36), (⟨"SuetTroublesModel", "softBehind", "(II)I"⟩, 36), (⟨"SuetTroublesModel", "softIn", "(II)I"⟩, 36), (⟨"SuetTroublesModel", "sumOf", "(II)I"⟩, 36)]
theorem lw_r4 : ∀ q ∈ lw_privs_4, lw_okq q := List.forall_mem_cons.mpr ⟨lw_p48, List.forall_mem_cons.mpr ⟨lw_p49, List.forall_mem_cons.mpr ⟨lw_p50, List.forall_mem_cons.mpr ⟨lw_p51, List.forall_mem_cons.mpr ⟨lw_p52, List.forall_mem_cons.mpr ⟨lw_p53, List.forall_mem_cons.mpr ⟨lw_p54, List.forall_mem_cons.mpr ⟨lw_p55, List.forall_mem_cons.mpr ⟨lw_p56, fun _ h => absurd h List.not_mem_nil⟩⟩⟩⟩⟩⟩⟩⟩⟩
def lw_privs : List (MethodName × Nat) := lw_privs_1 ++ (lw_privs_2 ++ (lw_privs_3 ++ (lw_privs_4)))
def lw_tbl : List Cond := k2_sels lw_privs ++ tables_1
theorem lw_privs_ok : ∀ q ∈ lw_privs, lw_okq q := by
  show ∀ q ∈ lw_privs_1 ++ (lw_privs_2 ++ (lw_privs_3 ++ (lw_privs_4))), lw_okq q
  exact List.forall_mem_append.mpr ⟨lw_r1, List.forall_mem_append.mpr ⟨lw_r2, List.forall_mem_append.mpr ⟨lw_r3, lw_r4⟩⟩⟩
-- names, as printed
def RX0 : String := "SuetTroubles$Book"
def TX0 : u_T := fun k => match k with
  | 0 => ("SuetTroubles$Book", "entries", "I", false)
  | 1 => ("SuetTroubles$Book", "who", "[I", true)
  | _ => ("SuetTroubles$Book", "said", "[I", true)
def tyX0 : Nat → FieldType := fun k => match k with
  | 0 => .int
  | 1 => .array .int
  | _ => .array .int
abbrev wsX00 : List Cond := u_ws RX0 TX0 3
theorem nmX0 : ∀ a, a < 3 → ∀ b, b < 3 → a ≠ b → (TX0 a).2.1 ≠ (TX0 b).2.1 := by decide +kernel
theorem tyX0_ok : ∀ k, k < 3 → parseFieldDescriptor (TX0 k).2.2.1 = some (tyX0 k) := by decide +kernel
abbrev cX0_init : ByteArray := prog_2_method_1_code
def yX0_init : MethodName := ⟨RX0, "<init>", "()V"⟩
abbrev cX0_add : ByteArray := prog_2_method_2_code
def yX0_add : MethodName := ⟨RX0, "add", "(II)I"⟩
abbrev cX0_clear : ByteArray := prog_2_method_3_code
def yX0_clear : MethodName := ⟨RX0, "clear", "()V"⟩
abbrev cX0_firstWrong : ByteArray := prog_2_method_4_code
def yX0_firstWrong : MethodName := ⟨RX0, "firstWrong", "(LSuetTroubles$Scene;)I"⟩
def RX1 : String := "SuetTroubles$Cloth"
def TX1 : u_T := fun k => match k with
  | 0 => ("SuetTroubles$Cloth", "bumps", "I", false)
  | 1 => ("SuetTroubles$Cloth", "full", "I", false)
  | 2 => ("SuetTroubles$Cloth", "notFull", "I", false)
  | 3 => ("SuetTroubles$Cloth", "withinSet", "I", false)
  | 4 => ("SuetTroubles$Cloth", "pairCount", "I", false)
  | _ => ("SuetTroubles$Cloth", "fullPairs", "[I", true)
def tyX1 : Nat → FieldType := fun k => match k with
  | 0 => .int
  | 1 => .int
  | 2 => .int
  | 3 => .int
  | 4 => .int
  | _ => .array .int
abbrev wsX10 : List Cond := u_ws RX1 TX1 6
theorem nmX1 : ∀ a, a < 6 → ∀ b, b < 6 → a ≠ b → (TX1 a).2.1 ≠ (TX1 b).2.1 := by decide +kernel
theorem tyX1_ok : ∀ k, k < 6 → parseFieldDescriptor (TX1 k).2.2.1 = some (tyX1 k) := by decide +kernel
abbrev cX1_init : ByteArray := prog_3_method_1_code
def yX1_init : MethodName := ⟨RX1, "<init>", "()V"⟩
abbrev cX1_add : ByteArray := prog_3_method_2_code
def yX1_add : MethodName := ⟨RX1, "add", "(IZ)I"⟩
abbrev cX1_clear : ByteArray := prog_3_method_3_code
def yX1_clear : MethodName := ⟨RX1, "clear", "()V"⟩
abbrev cX1_within : ByteArray := prog_3_method_4_code
def yX1_within : MethodName := ⟨RX1, "within", "(LSuetTroubles$Plan;LSuetTroubles$Scene;)I"⟩
abbrev cX1_pairs : ByteArray := prog_3_method_5_code
def yX1_pairs : MethodName := ⟨RX1, "pairs", "(LSuetTroubles$Plan;LSuetTroubles$Scene;)I"⟩
abbrev cX1_weave : ByteArray := prog_3_method_6_code
def yX1_weave : MethodName := ⟨RX1, "weave", "(LSuetTroubles$Plan;LSuetTroubles$Scene;)I"⟩
abbrev cX1_feelAll : ByteArray := prog_3_method_7_code
def yX1_feelAll : MethodName := ⟨RX1, "feelAll", "(LSuetTroubles$Plan;LSuetTroubles$Scene;)V"⟩
abbrev cX1_feelMoves : ByteArray := prog_3_method_8_code
def yX1_feelMoves : MethodName := ⟨RX1, "feelMoves", "(I)V"⟩
abbrev cX1_countPair : ByteArray := prog_3_method_9_code
def yX1_countPair : MethodName := ⟨RX1, "countPair", "(I)V"⟩
def RX2 : String := "SuetTroubles$Deeds"
def TX2 : u_T := fun k => match k with
  | 0 => ("SuetTroubles$Deeds", "plan", "LSuetTroubles$Plan;", true)
  | 1 => ("SuetTroubles$Deeds", "scene", "LSuetTroubles$Scene;", true)
  | 2 => ("SuetTroubles$Deeds", "sheets", "LSuetTroubles$Sheets;", true)
  | _ => ("SuetTroubles$Deeds", "draws", "LSuetTroubles$Draws;", true)
def tyX2 : Nat → FieldType := fun k => match k with
  | 0 => .object "SuetTroubles$Plan"
  | 1 => .object "SuetTroubles$Scene"
  | 2 => .object "SuetTroubles$Sheets"
  | _ => .object "SuetTroubles$Draws"
abbrev wsX20 : List Cond := u_ws RX2 TX2 4
theorem nmX2 : ∀ a, a < 4 → ∀ b, b < 4 → a ≠ b → (TX2 a).2.1 ≠ (TX2 b).2.1 := by decide +kernel
theorem tyX2_ok : ∀ k, k < 4 → parseFieldDescriptor (TX2 k).2.2.1 = some (tyX2 k) := by decide +kernel
abbrev cX2_init : ByteArray := prog_4_method_1_code
def yX2_init : MethodName := ⟨RX2, "<init>", "()V"⟩
abbrev cX2_allThatAre : ByteArray := prog_4_method_2_code
def yX2_allThatAre : MethodName := ⟨RX2, "allThatAre", "(I)I"⟩
abbrev cX2_isGood : ByteArray := prog_4_method_3_code
def yX2_isGood : MethodName := ⟨RX2, "isGood", "(I)Z"⟩
abbrev cX2_allGood : ByteArray := prog_4_method_4_code
def yX2_allGood : MethodName := ⟨RX2, "allGood", "()I"⟩
abbrev cX2_canBeWrapped : ByteArray := prog_4_method_5_code
def yX2_canBeWrapped : MethodName := ⟨RX2, "canBeWrapped", "(I)Z"⟩
abbrev cX2_putInSuet : ByteArray := prog_4_method_6_code
def yX2_putInSuet : MethodName := ⟨RX2, "putInSuet", "(I)I"⟩
abbrev cX2_freePots : ByteArray := prog_4_method_7_code
def yX2_freePots : MethodName := ⟨RX2, "freePots", "()I"⟩
abbrev cX2_leftOf : ByteArray := prog_4_method_8_code
def yX2_leftOf : MethodName := ⟨RX2, "leftOf", "(I)I"⟩
abbrev cX2_leftTogether : ByteArray := prog_4_method_9_code
def yX2_leftTogether : MethodName := ⟨RX2, "leftTogether", "()I"⟩
abbrev cX2_strongest : ByteArray := prog_4_method_10_code
def yX2_strongest : MethodName := ⟨RX2, "strongest", "()I"⟩
abbrev cX2_weight : ByteArray := prog_4_method_11_code
def yX2_weight : MethodName := ⟨RX2, "weight", "(I)I"⟩
abbrev cX2_isBearable : ByteArray := prog_4_method_12_code
def yX2_isBearable : MethodName := ⟨RX2, "isBearable", "(I)Z"⟩
abbrev cX2_canBeBorne : ByteArray := prog_4_method_13_code
def yX2_canBeBorne : MethodName := ⟨RX2, "canBeBorne", "(I)Z"⟩
abbrev cX2_shareOut : ByteArray := prog_4_method_14_code
def yX2_shareOut : MethodName := ⟨RX2, "shareOut", "(I)V"⟩
abbrev cX2_unload : ByteArray := prog_4_method_15_code
def yX2_unload : MethodName := ⟨RX2, "unload", "()I"⟩
abbrev cX2_softenedBy : ByteArray := prog_4_method_16_code
def yX2_softenedBy : MethodName := ⟨RX2, "softenedBy", "(I)I"⟩
abbrev cX2_hardBehind : ByteArray := prog_4_method_17_code
def yX2_hardBehind : MethodName := ⟨RX2, "hardBehind", "(II)I"⟩
abbrev cX2_hoursTillGood : ByteArray := prog_4_method_18_code
def yX2_hoursTillGood : MethodName := ⟨RX2, "hoursTillGood", "(II)I"⟩
abbrev cX2_boil : ByteArray := prog_4_method_19_code
def yX2_boil : MethodName := ⟨RX2, "boil", "()V"⟩
abbrev cX2_actByDraws : ByteArray := prog_4_method_20_code
def yX2_actByDraws : MethodName := ⟨RX2, "actByDraws", "()V"⟩
def RX3 : String := "SuetTroubles$Draws"
def TX3 : u_T := fun k => match k with
  | _ => ("SuetTroubles$Draws", "value", "I", false)
def tyX3 : Nat → FieldType := fun k => match k with
  | _ => .int
abbrev wsX30 : List Cond := u_ws RX3 TX3 1
theorem nmX3 : ∀ a, a < 1 → ∀ b, b < 1 → a ≠ b → (TX3 a).2.1 ≠ (TX3 b).2.1 := by decide +kernel
theorem tyX3_ok : ∀ k, k < 1 → parseFieldDescriptor (TX3 k).2.2.1 = some (tyX3 k) := by decide +kernel
abbrev cX3_init : ByteArray := prog_5_method_1_code
def yX3_init : MethodName := ⟨RX3, "<init>", "()V"⟩
abbrev cX3_draw : ByteArray := prog_5_method_2_code
def yX3_draw : MethodName := ⟨RX3, "draw", "(I)I"⟩
def RX4 : String := "SuetTroubles$Orders"
def TX4 : u_T := fun k => match k with
  | 0 => ("SuetTroubles$Orders", "time", "[I", true)
  | 1 => ("SuetTroubles$Orders", "sum", "I", false)
  | 2 => ("SuetTroubles$Orders", "figures", "I", false)
  | _ => ("SuetTroubles$Orders", "startHour", "I", false)
def tyX4 : Nat → FieldType := fun k => match k with
  | 0 => .array .int
  | 1 => .int
  | 2 => .int
  | _ => .int
abbrev wsX40 : List Cond := u_ws RX4 TX4 4
theorem nmX4 : ∀ a, a < 4 → ∀ b, b < 4 → a ≠ b → (TX4 a).2.1 ≠ (TX4 b).2.1 := by decide +kernel
theorem tyX4_ok : ∀ k, k < 4 → parseFieldDescriptor (TX4 k).2.2.1 = some (tyX4 k) := by decide +kernel
abbrev cX4_init : ByteArray := prog_6_method_1_code
def yX4_init : MethodName := ⟨RX4, "<init>", "()V"⟩
abbrev cX4_find : ByteArray := prog_6_method_2_code
def yX4_find : MethodName := ⟨RX4, "find", "(ILSuetTroubles$Deeds;I)V"⟩
abbrev cX4_tryNext : ByteArray := prog_6_method_3_code
def yX4_tryNext : MethodName := ⟨RX4, "tryNext", "(LSuetTroubles$Orders;IIIII)V"⟩
def RX5 : String := "SuetTroubles$Past"
def TX5 : u_T := fun k => match k with
  | 0 => ("SuetTroubles$Past", "undone", "[LSuetTroubles$Scene;", true)
  | 1 => ("SuetTroubles$Past", "image", "[LSuetTroubles$Scene;", true)
  | 2 => ("SuetTroubles$Past", "imageSeed", "[I", true)
  | 3 => ("SuetTroubles$Past", "kept", "[Z", true)
  | 4 => ("SuetTroubles$Past", "oldest", "I", false)
  | _ => ("SuetTroubles$Past", "size", "I", false)
def tyX5 : Nat → FieldType := fun k => match k with
  | 0 => .array (.object "SuetTroubles$Scene")
  | 1 => .array (.object "SuetTroubles$Scene")
  | 2 => .array .int
  | 3 => .array .boolean
  | 4 => .int
  | _ => .int
abbrev wsX50 : List Cond := u_ws RX5 TX5 6
theorem nmX5 : ∀ a, a < 6 → ∀ b, b < 6 → a ≠ b → (TX5 a).2.1 ≠ (TX5 b).2.1 := by decide +kernel
theorem tyX5_ok : ∀ k, k < 6 → parseFieldDescriptor (TX5 k).2.2.1 = some (tyX5 k) := by decide +kernel
abbrev cX5_init : ByteArray := prog_7_method_1_code
def yX5_init : MethodName := ⟨RX5, "<init>", "()V"⟩
abbrev cX5_remember : ByteArray := prog_7_method_2_code
def yX5_remember : MethodName := ⟨RX5, "remember", "(LSuetTroubles$Scene;)V"⟩
abbrev cX5_stepBack : ByteArray := prog_7_method_3_code
def yX5_stepBack : MethodName := ⟨RX5, "stepBack", "(LSuetTroubles$Scene;)V"⟩
abbrev cX5_keepImage : ByteArray := prog_7_method_4_code
def yX5_keepImage : MethodName := ⟨RX5, "keepImage", "(ILSuetTroubles$Scene;LSuetTroubles$Draws;)V"⟩
abbrev cX5_showImage : ByteArray := prog_7_method_5_code
def yX5_showImage : MethodName := ⟨RX5, "showImage", "(ILSuetTroubles$Scene;LSuetTroubles$Draws;)V"⟩
abbrev cX5_forgetAll : ByteArray := prog_7_method_6_code
def yX5_forgetAll : MethodName := ⟨RX5, "forgetAll", "()V"⟩
abbrev cX5_forgetUndone : ByteArray := prog_7_method_7_code
def yX5_forgetUndone : MethodName := ⟨RX5, "forgetUndone", "()V"⟩
def RX6 : String := "SuetTroubles$Plan"
def TX6 : u_T := fun k => match k with
  | 0 => ("SuetTroubles$Plan", "fire", "I", false)
  | 1 => ("SuetTroubles$Plan", "pots", "I", false)
  | 2 => ("SuetTroubles$Plan", "troubles", "I", false)
  | 3 => ("SuetTroubles$Plan", "eaters", "I", false)
  | 4 => ("SuetTroubles$Plan", "kind", "[I", true)
  | 5 => ("SuetTroubles$Plan", "hard", "[I", true)
  | 6 => ("SuetTroubles$Plan", "shape", "[I", true)
  | _ => ("SuetTroubles$Plan", "strength", "[I", true)
def tyX6 : Nat → FieldType := fun k => match k with
  | 0 => .int
  | 1 => .int
  | 2 => .int
  | 3 => .int
  | 4 => .array .int
  | 5 => .array .int
  | 6 => .array .int
  | _ => .array .int
abbrev wsX60 : List Cond := u_ws RX6 TX6 8
theorem nmX6 : ∀ a, a < 8 → ∀ b, b < 8 → a ≠ b → (TX6 a).2.1 ≠ (TX6 b).2.1 := by decide +kernel
theorem tyX6_ok : ∀ k, k < 8 → parseFieldDescriptor (TX6 k).2.2.1 = some (tyX6 k) := by decide +kernel
abbrev cX6_init : ByteArray := prog_8_method_1_code
def yX6_init : MethodName := ⟨RX6, "<init>", "()V"⟩
abbrev cX6_isThere : ByteArray := prog_8_method_2_code
def yX6_isThere : MethodName := ⟨RX6, "isThere", "()Z"⟩
abbrev cX6_hasTrouble : ByteArray := prog_8_method_3_code
def yX6_hasTrouble : MethodName := ⟨RX6, "hasTrouble", "(I)Z"⟩
abbrev cX6_hasEater : ByteArray := prog_8_method_4_code
def yX6_hasEater : MethodName := ⟨RX6, "hasEater", "(I)Z"⟩
abbrev cX6_allTroubles : ByteArray := prog_8_method_5_code
def yX6_allTroubles : MethodName := ⟨RX6, "allTroubles", "()I"⟩
abbrev cX6_clear : ByteArray := prog_8_method_6_code
def yX6_clear : MethodName := ⟨RX6, "clear", "()V"⟩
abbrev cX6_addTrouble : ByteArray := prog_8_method_7_code
def yX6_addTrouble : MethodName := ⟨RX6, "addTrouble", "(III)V"⟩
abbrev cX6_addEater : ByteArray := prog_8_method_8_code
def yX6_addEater : MethodName := ⟨RX6, "addEater", "(I)V"⟩
abbrev cX6_become : ByteArray := prog_8_method_9_code
def yX6_become : MethodName := ⟨RX6, "become", "(LSuetTroubles$Plan;)V"⟩
def RX7 : String := "SuetTroubles$Reader"
def TX7 : u_T := fun k => match k with
  | 0 => ("SuetTroubles$Reader", "letters", "[I", true)
  | 1 => ("SuetTroubles$Reader", "length", "I", false)
  | 2 => ("SuetTroubles$Reader", "faultAt", "I", false)
  | 3 => ("SuetTroubles$Reader", "at", "I", false)
  | _ => ("SuetTroubles$Reader", "fault", "I", false)
def tyX7 : Nat → FieldType := fun k => match k with
  | 0 => .array .int
  | 1 => .int
  | 2 => .int
  | 3 => .int
  | _ => .int
abbrev wsX70 : List Cond := u_ws RX7 TX7 5
theorem nmX7 : ∀ a, a < 5 → ∀ b, b < 5 → a ≠ b → (TX7 a).2.1 ≠ (TX7 b).2.1 := by decide +kernel
theorem tyX7_ok : ∀ k, k < 5 → parseFieldDescriptor (TX7 k).2.2.1 = some (tyX7 k) := by decide +kernel
abbrev cX7_init : ByteArray := prog_9_method_1_code
def yX7_init : MethodName := ⟨RX7, "<init>", "()V"⟩
abbrev cX7_add : ByteArray := prog_9_method_2_code
def yX7_add : MethodName := ⟨RX7, "add", "(I)I"⟩
abbrev cX7_read : ByteArray := prog_9_method_3_code
def yX7_read : MethodName := ⟨RX7, "read", "(LSuetTroubles$Plan;)I"⟩
abbrev cX7_readClause : ByteArray := prog_9_method_4_code
def yX7_readClause : MethodName := ⟨RX7, "readClause", "(LSuetTroubles$Plan;)V"⟩
abbrev cX7_readFire : ByteArray := prog_9_method_5_code
def yX7_readFire : MethodName := ⟨RX7, "readFire", "(LSuetTroubles$Plan;)V"⟩
abbrev cX7_readTrouble : ByteArray := prog_9_method_6_code
def yX7_readTrouble : MethodName := ⟨RX7, "readTrouble", "(LSuetTroubles$Plan;)V"⟩
abbrev cX7_readEater : ByteArray := prog_9_method_7_code
def yX7_readEater : MethodName := ⟨RX7, "readEater", "(LSuetTroubles$Plan;)V"⟩
abbrev cX7_readNumber : ByteArray := prog_9_method_8_code
def yX7_readNumber : MethodName := ⟨RX7, "readNumber", "(II)I"⟩
abbrev cX7_readSign : ByteArray := prog_9_method_9_code
def yX7_readSign : MethodName := ⟨RX7, "readSign", "(I)V"⟩
abbrev cX7_skipBlanks : ByteArray := prog_9_method_10_code
def yX7_skipBlanks : MethodName := ⟨RX7, "skipBlanks", "()V"⟩
abbrev cX7_here : ByteArray := prog_9_method_11_code
def yX7_here : MethodName := ⟨RX7, "here", "()I"⟩
abbrev cX7_isFigure : ByteArray := prog_9_method_12_code
def yX7_isFigure : MethodName := ⟨RX7, "isFigure", "(I)Z"⟩
abbrev cX7_blame : ByteArray := prog_9_method_13_code
def yX7_blame : MethodName := ⟨RX7, "blame", "(II)V"⟩
def RX8 : String := "SuetTroubles$Scene"
def TX8 : u_T := fun k => match k with
  | 0 => ("SuetTroubles$Scene", "hours", "I", false)
  | 1 => ("SuetTroubles$Scene", "sheets", "I", false)
  | 2 => ("SuetTroubles$Scene", "stage", "[I", true)
  | 3 => ("SuetTroubles$Scene", "hard", "[I", true)
  | 4 => ("SuetTroubles$Scene", "shape", "[I", true)
  | _ => ("SuetTroubles$Scene", "load", "[I", true)
def tyX8 : Nat → FieldType := fun k => match k with
  | 0 => .int
  | 1 => .int
  | 2 => .array .int
  | 3 => .array .int
  | 4 => .array .int
  | _ => .array .int
abbrev wsX80 : List Cond := u_ws RX8 TX8 6
theorem nmX8 : ∀ a, a < 6 → ∀ b, b < 6 → a ≠ b → (TX8 a).2.1 ≠ (TX8 b).2.1 := by decide +kernel
theorem tyX8_ok : ∀ k, k < 6 → parseFieldDescriptor (TX8 k).2.2.1 = some (tyX8 k) := by decide +kernel
abbrev cX8_init : ByteArray := prog_10_method_1_code
def yX8_init : MethodName := ⟨RX8, "<init>", "()V"⟩
abbrev cX8_begin : ByteArray := prog_10_method_2_code
def yX8_begin : MethodName := ⟨RX8, "begin", "(LSuetTroubles$Plan;)V"⟩
abbrev cX8_become : ByteArray := prog_10_method_3_code
def yX8_become : MethodName := ⟨RX8, "become", "(LSuetTroubles$Scene;)V"⟩
def RX9 : String := "SuetTroubles$Shapes"
def TX9 : u_T := fun k => match k with
  | _ => ("", "", "", false)
def tyX9 : Nat → FieldType := fun k => match k with
  | _ => .int
abbrev wsX90 : List Cond := u_ws RX9 TX9 0
theorem nmX9 : ∀ a, a < 0 → ∀ b, b < 0 → a ≠ b → (TX9 a).2.1 ≠ (TX9 b).2.1 := by decide +kernel
theorem tyX9_ok : ∀ k, k < 0 → parseFieldDescriptor (TX9 k).2.2.1 = some (tyX9 k) := by decide +kernel
abbrev cX9_has : ByteArray := prog_11_method_2_code
def yX9_has : MethodName := ⟨RX9, "has", "(II)Z"⟩
abbrev cX9_besideIt : ByteArray := prog_11_method_3_code
def yX9_besideIt : MethodName := ⟨RX9, "besideIt", "(II)I"⟩
abbrev cX9_partFrom : ByteArray := prog_11_method_4_code
def yX9_partFrom : MethodName := ⟨RX9, "partFrom", "(II)I"⟩
abbrev cX9_parts : ByteArray := prog_11_method_5_code
def yX9_parts : MethodName := ⟨RX9, "parts", "(I)I"⟩
abbrev cX9_greatestPart : ByteArray := prog_11_method_6_code
def yX9_greatestPart : MethodName := ⟨RX9, "greatestPart", "(I)I"⟩
abbrev cX9_edge : ByteArray := prog_11_method_7_code
def yX9_edge : MethodName := ⟨RX9, "edge", "(I)I"⟩
abbrev cX9_hold : ByteArray := prog_11_method_8_code
def yX9_hold : MethodName := ⟨RX9, "hold", "(I)I"⟩
abbrev cX9_openSides : ByteArray := prog_11_method_9_code
def yX9_openSides : MethodName := ⟨RX9, "openSides", "(II)I"⟩
abbrev cX9_rowOf : ByteArray := prog_11_method_10_code
def yX9_rowOf : MethodName := ⟨RX9, "rowOf", "(II)I"⟩
abbrev cX9_columnsUsed : ByteArray := prog_11_method_11_code
def yX9_columnsUsed : MethodName := ⟨RX9, "columnsUsed", "(I)I"⟩
abbrev cX9_rowsUsed : ByteArray := prog_11_method_12_code
def yX9_rowsUsed : MethodName := ⟨RX9, "rowsUsed", "(I)I"⟩
abbrev cX9_firstOf : ByteArray := prog_11_method_13_code
def yX9_firstOf : MethodName := ⟨RX9, "firstOf", "(I)I"⟩
abbrev cX9_lastOf : ByteArray := prog_11_method_14_code
def yX9_lastOf : MethodName := ⟨RX9, "lastOf", "(I)I"⟩
abbrev cX9_squareSide : ByteArray := prog_11_method_15_code
def yX9_squareSide : MethodName := ⟨RX9, "squareSide", "(I)I"⟩
abbrev cX9_movesDown : ByteArray := prog_11_method_16_code
def yX9_movesDown : MethodName := ⟨RX9, "movesDown", "(I)I"⟩
abbrev cX9_movesRight : ByteArray := prog_11_method_17_code
def yX9_movesRight : MethodName := ⟨RX9, "movesRight", "(I)I"⟩
abbrev cX9_greaterHalf : ByteArray := prog_11_method_18_code
def yX9_greaterHalf : MethodName := ⟨RX9, "greaterHalf", "(II)I"⟩
abbrev cX9_halvingLine : ByteArray := prog_11_method_19_code
def yX9_halvingLine : MethodName := ⟨RX9, "halvingLine", "(I)I"⟩
def RX10 : String := "SuetTroubles$Sheets"
def TX10 : u_T := fun k => match k with
  | 0 => ("SuetTroubles$Sheets", "cost", "[I", false)
  | _ => ("SuetTroubles$Sheets", "nextCost", "[I", false)
def tyX10 : Nat → FieldType := fun k => match k with
  | 0 => .array .int
  | _ => .array .int
abbrev wsX100 : List Cond := u_ws RX10 TX10 2
theorem nmX10 : ∀ a, a < 2 → ∀ b, b < 2 → a ≠ b → (TX10 a).2.1 ≠ (TX10 b).2.1 := by decide +kernel
theorem tyX10_ok : ∀ k, k < 2 → parseFieldDescriptor (TX10 k).2.2.1 = some (tyX10 k) := by decide +kernel
abbrev cX10_init : ByteArray := prog_12_method_1_code
def yX10_init : MethodName := ⟨RX10, "<init>", "()V"⟩
abbrev cX10_fewest : ByteArray := prog_12_method_2_code
def yX10_fewest : MethodName := ⟨RX10, "fewest", "(I)I"⟩
abbrev cX10_addRow : ByteArray := prog_12_method_3_code
def yX10_addRow : MethodName := ⟨RX10, "addRow", "(I)V"⟩
abbrev cX10_covered : ByteArray := prog_12_method_4_code
def yX10_covered : MethodName := ⟨RX10, "covered", "(I)I"⟩
abbrev cX10_first : ByteArray := prog_12_method_5_code
def yX10_first : MethodName := ⟨RX10, "first", "(I)I"⟩
def RX11 : String := "SuetTroubles"
def TX11 : u_T := fun k => match k with
  | 0 => ("SuetTroubles", "reader", "LSuetTroubles$Reader;", true)
  | 1 => ("SuetTroubles", "draft", "LSuetTroubles$Plan;", true)
  | 2 => ("SuetTroubles", "deeds", "LSuetTroubles$Deeds;", true)
  | 3 => ("SuetTroubles", "plan", "LSuetTroubles$Plan;", true)
  | 4 => ("SuetTroubles", "scene", "LSuetTroubles$Scene;", true)
  | 5 => ("SuetTroubles", "sheets", "LSuetTroubles$Sheets;", true)
  | 6 => ("SuetTroubles", "draws", "LSuetTroubles$Draws;", true)
  | 7 => ("SuetTroubles", "past", "LSuetTroubles$Past;", true)
  | 8 => ("SuetTroubles", "orders", "LSuetTroubles$Orders;", true)
  | 9 => ("SuetTroubles", "cloth", "LSuetTroubles$Cloth;", true)
  | 10 => ("SuetTroubles", "book", "LSuetTroubles$Book;", true)
  | _ => ("SuetTroubles", "faultAt", "I", false)
def tyX11 : Nat → FieldType := fun k => match k with
  | 0 => .object "SuetTroubles$Reader"
  | 1 => .object "SuetTroubles$Plan"
  | 2 => .object "SuetTroubles$Deeds"
  | 3 => .object "SuetTroubles$Plan"
  | 4 => .object "SuetTroubles$Scene"
  | 5 => .object "SuetTroubles$Sheets"
  | 6 => .object "SuetTroubles$Draws"
  | 7 => .object "SuetTroubles$Past"
  | 8 => .object "SuetTroubles$Orders"
  | 9 => .object "SuetTroubles$Cloth"
  | 10 => .object "SuetTroubles$Book"
  | _ => .int
abbrev wsX110 : List Cond := u_ws RX11 TX11 12
theorem nmX11 : ∀ a, a < 12 → ∀ b, b < 12 → a ≠ b → (TX11 a).2.1 ≠ (TX11 b).2.1 := by decide +kernel
theorem tyX11_ok : ∀ k, k < 12 → parseFieldDescriptor (TX11 k).2.2.1 = some (tyX11 k) := by decide +kernel
abbrev cX11_init : ByteArray := prog_1_method_1_code
def yX11_init : MethodName := ⟨RX11, "<init>", "()V"⟩
abbrev cX11_feed : ByteArray := prog_1_method_2_code
def yX11_feed : MethodName := ⟨RX11, "feed", "(I)I"⟩
abbrev cX11_kitchen : ByteArray := prog_1_method_3_code
def yX11_kitchen : MethodName := ⟨RX11, "kitchen", "()I"⟩
abbrev cX11_fault : ByteArray := prog_1_method_4_code
def yX11_fault : MethodName := ⟨RX11, "fault", "()I"⟩
abbrev cX11_told : ByteArray := prog_1_method_5_code
def yX11_told : MethodName := ⟨RX11, "told", "(I)I"⟩
abbrev cX11_trouble : ByteArray := prog_1_method_6_code
def yX11_trouble : MethodName := ⟨RX11, "trouble", "(II)I"⟩
abbrev cX11_eater : ByteArray := prog_1_method_7_code
def yX11_eater : MethodName := ⟨RX11, "eater", "(II)I"⟩
abbrev cX11_wrap : ByteArray := prog_1_method_8_code
def yX11_wrap : MethodName := ⟨RX11, "wrap", "(I)I"⟩
abbrev cX11_putOn : ByteArray := prog_1_method_9_code
def yX11_putOn : MethodName := ⟨RX11, "putOn", "(I)I"⟩
abbrev cX11_takeOff : ByteArray := prog_1_method_10_code
def yX11_takeOff : MethodName := ⟨RX11, "takeOff", "(I)I"⟩
abbrev cX11_hour : ByteArray := prog_1_method_11_code
def yX11_hour : MethodName := ⟨RX11, "hour", "(I)I"⟩
abbrev cX11_bear : ByteArray := prog_1_method_12_code
def yX11_bear : MethodName := ⟨RX11, "bear", "(I)I"⟩
abbrev cX11_rest : ByteArray := prog_1_method_13_code
def yX11_rest : MethodName := ⟨RX11, "rest", "()I"⟩
abbrev cX11_cut : ByteArray := prog_1_method_14_code
def yX11_cut : MethodName := ⟨RX11, "cut", "(II)I"⟩
abbrev cX11_drift : ByteArray := prog_1_method_15_code
def yX11_drift : MethodName := ⟨RX11, "drift", "(I)I"⟩
abbrev cX11_undo : ByteArray := prog_1_method_16_code
def yX11_undo : MethodName := ⟨RX11, "undo", "()I"⟩
abbrev cX11_refusalOfHours : ByteArray := prog_1_method_17_code
def yX11_refusalOfHours : MethodName := ⟨RX11, "refusalOfHours", "(I)I"⟩
abbrev cX11_toWrap : ByteArray := prog_1_method_18_code
def yX11_toWrap : MethodName := ⟨RX11, "toWrap", "(II)I"⟩
abbrev cX11_soft : ByteArray := prog_1_method_19_code
def yX11_soft : MethodName := ⟨RX11, "soft", "(II)I"⟩
abbrev cX11_when : ByteArray := prog_1_method_20_code
def yX11_when : MethodName := ⟨RX11, "when", "(I)I"⟩
abbrev cX11_order : ByteArray := prog_1_method_21_code
def yX11_order : MethodName := ⟨RX11, "order", "(II)I"⟩
abbrev cX11_halves : ByteArray := prog_1_method_22_code
def yX11_halves : MethodName := ⟨RX11, "halves", "(II)I"⟩
abbrev cX11_mild : ByteArray := prog_1_method_23_code
def yX11_mild : MethodName := ⟨RX11, "mild", "(II)I"⟩
abbrev cX11_bump : ByteArray := prog_1_method_24_code
def yX11_bump : MethodName := ⟨RX11, "bump", "(IZ)I"⟩
abbrev cX11_write : ByteArray := prog_1_method_25_code
def yX11_write : MethodName := ⟨RX11, "write", "(II)I"⟩
abbrev cX11_tear : ByteArray := prog_1_method_26_code
def yX11_tear : MethodName := ⟨RX11, "tear", "()I"⟩
abbrev cX11_judge : ByteArray := prog_1_method_27_code
def yX11_judge : MethodName := ⟨RX11, "judge", "()I"⟩
abbrev cX11_seed : ByteArray := prog_1_method_28_code
def yX11_seed : MethodName := ⟨RX11, "seed", "(I)I"⟩
abbrev cX11_keep : ByteArray := prog_1_method_29_code
def yX11_keep : MethodName := ⟨RX11, "keep", "(I)I"⟩
abbrev cX11_goBack : ByteArray := prog_1_method_30_code
def yX11_goBack : MethodName := ⟨RX11, "goBack", "(I)I"⟩
def RX12 : String := "SuetTroublesModel"
def TX12 : u_T := fun k => match k with
  | 0 => ("SuetTroublesModel", "letterMany", "I", false)
  | 1 => ("SuetTroublesModel", "text", "[I", true)
  | 2 => ("SuetTroublesModel", "readAt", "I", false)
  | 3 => ("SuetTroublesModel", "numberAt", "I", false)
  | 4 => ("SuetTroublesModel", "readFault", "I", false)
  | 5 => ("SuetTroublesModel", "faultAt", "I", false)
  | 6 => ("SuetTroublesModel", "readHeat", "I", false)
  | 7 => ("SuetTroublesModel", "readPots", "I", false)
  | 8 => ("SuetTroublesModel", "readTroubles", "I", false)
  | 9 => ("SuetTroublesModel", "readEaters", "I", false)
  | 10 => ("SuetTroublesModel", "readKind", "[I", true)
  | 11 => ("SuetTroublesModel", "readHard", "[I", true)
  | 12 => ("SuetTroublesModel", "readShape", "[I", true)
  | 13 => ("SuetTroublesModel", "readStrength", "[I", true)
  | 14 => ("SuetTroublesModel", "heat", "I", false)
  | 15 => ("SuetTroublesModel", "pots", "I", false)
  | 16 => ("SuetTroublesModel", "m", "I", false)
  | 17 => ("SuetTroublesModel", "n", "I", false)
  | 18 => ("SuetTroublesModel", "kinds", "[I", true)
  | 19 => ("SuetTroublesModel", "strengths", "[I", true)
  | 20 => ("SuetTroublesModel", "now", "[I", true)
  | 21 => ("SuetTroublesModel", "undoMany", "I", false)
  | 22 => ("SuetTroublesModel", "undoAt", "I", false)
  | 23 => ("SuetTroublesModel", "undos", "[I", true)
  | 24 => ("SuetTroublesModel", "seeded", "J", false)
  | 25 => ("SuetTroublesModel", "covers", "[I", true)
  | 26 => ("SuetTroublesModel", "bumpMany", "I", false)
  | 27 => ("SuetTroublesModel", "bumpCell", "[I", true)
  | 28 => ("SuetTroublesModel", "bumpIs", "[Z", true)
  | 29 => ("SuetTroublesModel", "fulls", "[I", true)
  | 30 => ("SuetTroublesModel", "bookMany", "I", false)
  | 31 => ("SuetTroublesModel", "bookTrouble", "[I", true)
  | 32 => ("SuetTroublesModel", "bookHard", "[I", true)
  | 33 => ("SuetTroublesModel", "isKept", "[Z", true)
  | 34 => ("SuetTroublesModel", "kept", "[I", true)
  | _ => ("SuetTroublesModel", "keptSeed", "[J", true)
def tyX12 : Nat → FieldType := fun k => match k with
  | 0 => .int
  | 1 => .array .int
  | 2 => .int
  | 3 => .int
  | 4 => .int
  | 5 => .int
  | 6 => .int
  | 7 => .int
  | 8 => .int
  | 9 => .int
  | 10 => .array .int
  | 11 => .array .int
  | 12 => .array .int
  | 13 => .array .int
  | 14 => .int
  | 15 => .int
  | 16 => .int
  | 17 => .int
  | 18 => .array .int
  | 19 => .array .int
  | 20 => .array .int
  | 21 => .int
  | 22 => .int
  | 23 => .array .int
  | 24 => .long
  | 25 => .array .int
  | 26 => .int
  | 27 => .array .int
  | 28 => .array .boolean
  | 29 => .array .int
  | 30 => .int
  | 31 => .array .int
  | 32 => .array .int
  | 33 => .array .boolean
  | 34 => .array .int
  | _ => .array .long
abbrev wsX120 : List Cond := u_ws RX12 TX12 36
theorem nmX12 : ∀ a, a < 36 → ∀ b, b < 36 → a ≠ b → (TX12 a).2.1 ≠ (TX12 b).2.1 := by decide +kernel
theorem tyX12_ok : ∀ k, k < 36 → parseFieldDescriptor (TX12 k).2.2.1 = some (tyX12 k) := by decide +kernel
abbrev cX12_init : ByteArray := prog_14_method_1_code
def yX12_init : MethodName := ⟨RX12, "<init>", "()V"⟩
abbrev cX12_in : ByteArray := prog_14_method_2_code
def yX12_in : MethodName := ⟨RX12, "in", "(III)Z"⟩
abbrev cX12_has : ByteArray := prog_14_method_3_code
def yX12_has : MethodName := ⟨RX12, "has", "(II)Z"⟩
abbrev cX12_bits : ByteArray := prog_14_method_4_code
def yX12_bits : MethodName := ⟨RX12, "bits", "(I)I"⟩
abbrev cX12_feed : ByteArray := prog_14_method_5_code
def yX12_feed : MethodName := ⟨RX12, "feed", "(I)I"⟩
abbrev cX12_letterAt : ByteArray := prog_14_method_6_code
def yX12_letterAt : MethodName := ⟨RX12, "letterAt", "(I)I"⟩
abbrev cX12_nextLetter : ByteArray := prog_14_method_7_code
def yX12_nextLetter : MethodName := ⟨RX12, "nextLetter", "()I"⟩
abbrev cX12_fails : ByteArray := prog_14_method_8_code
def yX12_fails : MethodName := ⟨RX12, "fails", "(II)I"⟩
abbrev cX12_readsNumber : ByteArray := prog_14_method_9_code
def yX12_readsNumber : MethodName := ⟨RX12, "readsNumber", "(II)I"⟩
abbrev cX12_readsSign : ByteArray := prog_14_method_10_code
def yX12_readsSign : MethodName := ⟨RX12, "readsSign", "(I)Z"⟩
abbrev cX12_readsHead : ByteArray := prog_14_method_11_code
def yX12_readsHead : MethodName := ⟨RX12, "readsHead", "()Z"⟩
abbrev cX12_readsTrouble : ByteArray := prog_14_method_12_code
def yX12_readsTrouble : MethodName := ⟨RX12, "readsTrouble", "()Z"⟩
abbrev cX12_readsEater : ByteArray := prog_14_method_13_code
def yX12_readsEater : MethodName := ⟨RX12, "readsEater", "()Z"⟩
abbrev cX12_readsClause : ByteArray := prog_14_method_14_code
def yX12_readsClause : MethodName := ⟨RX12, "readsClause", "()Z"⟩
abbrev cX12_readsKitchen : ByteArray := prog_14_method_15_code
def yX12_readsKitchen : MethodName := ⟨RX12, "readsKitchen", "()Z"⟩
abbrev cX12_kitchen : ByteArray := prog_14_method_16_code
def yX12_kitchen : MethodName := ⟨RX12, "kitchen", "()I"⟩
abbrev cX12_fault : ByteArray := prog_14_method_17_code
def yX12_fault : MethodName := ⟨RX12, "fault", "()I"⟩
abbrev cX12_isKitchen : ByteArray := prog_14_method_18_code
def yX12_isKitchen : MethodName := ⟨RX12, "isKitchen", "()Z"⟩
abbrev cX12_isTrouble : ByteArray := prog_14_method_19_code
def yX12_isTrouble : MethodName := ⟨RX12, "isTrouble", "(I)Z"⟩
abbrev cX12_isEater : ByteArray := prog_14_method_20_code
def yX12_isEater : MethodName := ⟨RX12, "isEater", "(I)Z"⟩
abbrev cX12_are : ByteArray := prog_14_method_21_code
def yX12_are : MethodName := ⟨RX12, "are", "(I)I"⟩
abbrev cX12_isGood : ByteArray := prog_14_method_22_code
def yX12_isGood : MethodName := ⟨RX12, "isGood", "(I)Z"⟩
abbrev cX12_good : ByteArray := prog_14_method_23_code
def yX12_good : MethodName := ⟨RX12, "good", "()I"⟩
abbrev cX12_left : ByteArray := prog_14_method_24_code
def yX12_left : MethodName := ⟨RX12, "left", "(I)I"⟩
abbrev cX12_leftAll : ByteArray := prog_14_method_25_code
def yX12_leftAll : MethodName := ⟨RX12, "leftAll", "()I"⟩
abbrev cX12_strongest : ByteArray := prog_14_method_26_code
def yX12_strongest : MethodName := ⟨RX12, "strongest", "()I"⟩
abbrev cX12_weight : ByteArray := prog_14_method_27_code
def yX12_weight : MethodName := ⟨RX12, "weight", "(I)I"⟩
abbrev cX12_isBearable : ByteArray := prog_14_method_28_code
def yX12_isBearable : MethodName := ⟨RX12, "isBearable", "(I)Z"⟩
abbrev cX12_told : ByteArray := prog_14_method_29_code
def yX12_told : MethodName := ⟨RX12, "told", "(I)I"⟩
abbrev cX12_grown : ByteArray := prog_14_method_30_code
def yX12_grown : MethodName := ⟨RX12, "grown", "(I)I"⟩
abbrev cX12_partOf : ByteArray := prog_14_method_31_code
def yX12_partOf : MethodName := ⟨RX12, "partOf", "(II)I"⟩
abbrev cX12_parts : ByteArray := prog_14_method_32_code
def yX12_parts : MethodName := ⟨RX12, "parts", "(IZ)I"⟩
abbrev cX12_edgeOf : ByteArray := prog_14_method_33_code
def yX12_edgeOf : MethodName := ⟨RX12, "edgeOf", "(II)I"⟩
abbrev cX12_edge : ByteArray := prog_14_method_34_code
def yX12_edge : MethodName := ⟨RX12, "edge", "(I)I"⟩
abbrev cX12_hold : ByteArray := prog_14_method_35_code
def yX12_hold : MethodName := ⟨RX12, "hold", "(I)I"⟩
abbrev cX12_trouble : ByteArray := prog_14_method_36_code
def yX12_trouble : MethodName := ⟨RX12, "trouble", "(II)I"⟩
abbrev cX12_eater : ByteArray := prog_14_method_37_code
def yX12_eater : MethodName := ⟨RX12, "eater", "(II)I"⟩
abbrev cX12_remember : ByteArray := prog_14_method_38_code
def yX12_remember : MethodName := ⟨RX12, "remember", "()V"⟩
abbrev cX12_sheetsFor : ByteArray := prog_14_method_39_code
def yX12_sheetsFor : MethodName := ⟨RX12, "sheetsFor", "(I)I"⟩
abbrev cX12_wraps : ByteArray := prog_14_method_40_code
def yX12_wraps : MethodName := ⟨RX12, "wraps", "(I)I"⟩
abbrev cX12_wrap : ByteArray := prog_14_method_41_code
def yX12_wrap : MethodName := ⟨RX12, "wrap", "(I)I"⟩
abbrev cX12_potsFree : ByteArray := prog_14_method_42_code
def yX12_potsFree : MethodName := ⟨RX12, "potsFree", "()I"⟩
abbrev cX12_putOn : ByteArray := prog_14_method_43_code
def yX12_putOn : MethodName := ⟨RX12, "putOn", "(I)I"⟩
abbrev cX12_takeOff : ByteArray := prog_14_method_44_code
def yX12_takeOff : MethodName := ⟨RX12, "takeOff", "(I)I"⟩
abbrev cX12_softens : ByteArray := prog_14_method_45_code
def yX12_softens : MethodName := ⟨RX12, "softens", "(II)I"⟩
abbrev cX12_less : ByteArray := prog_14_method_46_code
def yX12_less : MethodName := ⟨RX12, "less", "(II)I"⟩
abbrev cX12_passes : ByteArray := prog_14_method_47_code
def yX12_passes : MethodName := ⟨RX12, "passes", "()V"⟩
abbrev cX12_needHours : ByteArray := prog_14_method_48_code
def yX12_needHours : MethodName := ⟨RX12, "needHours", "(I)I"⟩
abbrev cX12_hour : ByteArray := prog_14_method_49_code
def yX12_hour : MethodName := ⟨RX12, "hour", "(I)I"⟩
abbrev cX12_canBeBorne : ByteArray := prog_14_method_50_code
def yX12_canBeBorne : MethodName := ⟨RX12, "canBeBorne", "(I)Z"⟩
abbrev cX12_bears : ByteArray := prog_14_method_51_code
def yX12_bears : MethodName := ⟨RX12, "bears", "(I)V"⟩
abbrev cX12_bear : ByteArray := prog_14_method_52_code
def yX12_bear : MethodName := ⟨RX12, "bear", "(I)I"⟩
abbrev cX12_rests : ByteArray := prog_14_method_53_code
def yX12_rests : MethodName := ⟨RX12, "rests", "()I"⟩
abbrev cX12_rest : ByteArray := prog_14_method_54_code
def yX12_rest : MethodName := ⟨RX12, "rest", "()I"⟩
abbrev cX12_cut : ByteArray := prog_14_method_55_code
def yX12_cut : MethodName := ⟨RX12, "cut", "(II)I"⟩
abbrev cX12_draw : ByteArray := prog_14_method_56_code
def yX12_draw : MethodName := ⟨RX12, "draw", "(I)I"⟩
abbrev cX12_does : ByteArray := prog_14_method_57_code
def yX12_does : MethodName := ⟨RX12, "does", "(II)V"⟩
abbrev cX12_drift : ByteArray := prog_14_method_58_code
def yX12_drift : MethodName := ⟨RX12, "drift", "(I)I"⟩
abbrev cX12_undo : ByteArray := prog_14_method_59_code
def yX12_undo : MethodName := ⟨RX12, "undo", "()I"⟩
abbrev cX12_sheet : ByteArray := prog_14_method_60_code
def yX12_sheet : MethodName := ⟨RX12, "sheet", "(I)I"⟩
abbrev cX12_fewestSheets : ByteArray := prog_14_method_61_code
def yX12_fewestSheets : MethodName := ⟨RX12, "fewestSheets", "(IZ)I"⟩
abbrev cX12_sideOf : ByteArray := prog_14_method_62_code
def yX12_sideOf : MethodName := ⟨RX12, "sideOf", "(I)I"⟩
abbrev cX12_span : ByteArray := prog_14_method_63_code
def yX12_span : MethodName := ⟨RX12, "span", "(I)I"⟩
abbrev cX12_toWrap : ByteArray := prog_14_method_64_code
def yX12_toWrap : MethodName := ⟨RX12, "toWrap", "(II)I"⟩
abbrev cX12_softBehind : ByteArray := prog_14_method_65_code
def yX12_softBehind : MethodName := ⟨RX12, "softBehind", "(II)I"⟩
abbrev cX12_soft : ByteArray := prog_14_method_66_code
def yX12_soft : MethodName := ⟨RX12, "soft", "(II)I"⟩
abbrev cX12_softIn : ByteArray := prog_14_method_67_code
def yX12_softIn : MethodName := ⟨RX12, "softIn", "(II)I"⟩
abbrev cX12_when : ByteArray := prog_14_method_68_code
def yX12_when : MethodName := ⟨RX12, "when", "(I)I"⟩
abbrev cX12_sumOf : ByteArray := prog_14_method_69_code
def yX12_sumOf : MethodName := ⟨RX12, "sumOf", "(II)I"⟩
abbrev cX12_nextFigures : ByteArray := prog_14_method_70_code
def yX12_nextFigures : MethodName := ⟨RX12, "nextFigures", "(II)I"⟩
abbrev cX12_order : ByteArray := prog_14_method_71_code
def yX12_order : MethodName := ⟨RX12, "order", "(II)I"⟩
abbrev cX12_ahead : ByteArray := prog_14_method_72_code
def yX12_ahead : MethodName := ⟨RX12, "ahead", "(II)I"⟩
abbrev cX12_halves : ByteArray := prog_14_method_73_code
def yX12_halves : MethodName := ⟨RX12, "halves", "(II)I"⟩
abbrev cX12_mild : ByteArray := prog_14_method_74_code
def yX12_mild : MethodName := ⟨RX12, "mild", "(II)I"⟩
abbrev cX12_bump : ByteArray := prog_14_method_75_code
def yX12_bump : MethodName := ⟨RX12, "bump", "(IZ)I"⟩
abbrev cX12_moved : ByteArray := prog_14_method_76_code
def yX12_moved : MethodName := ⟨RX12, "moved", "(III)I"⟩
abbrev cX12_fit : ByteArray := prog_14_method_77_code
def yX12_fit : MethodName := ⟨RX12, "fit", "(I)I"⟩
abbrev cX12_within : ByteArray := prog_14_method_78_code
def yX12_within : MethodName := ⟨RX12, "within", "()I"⟩
abbrev cX12_fitMany : ByteArray := prog_14_method_79_code
def yX12_fitMany : MethodName := ⟨RX12, "fitMany", "()I"⟩
abbrev cX12_weave : ByteArray := prog_14_method_80_code
def yX12_weave : MethodName := ⟨RX12, "weave", "()I"⟩
abbrev cX12_write : ByteArray := prog_14_method_81_code
def yX12_write : MethodName := ⟨RX12, "write", "(II)I"⟩
abbrev cX12_tear : ByteArray := prog_14_method_82_code
def yX12_tear : MethodName := ⟨RX12, "tear", "()I"⟩
abbrev cX12_judge : ByteArray := prog_14_method_83_code
def yX12_judge : MethodName := ⟨RX12, "judge", "()I"⟩
abbrev cX12_seed : ByteArray := prog_14_method_84_code
def yX12_seed : MethodName := ⟨RX12, "seed", "(I)I"⟩
abbrev cX12_keep : ByteArray := prog_14_method_85_code
def yX12_keep : MethodName := ⟨RX12, "keep", "(I)I"⟩
abbrev cX12_goBack : ByteArray := prog_14_method_86_code
def yX12_goBack : MethodName := ⟨RX12, "goBack", "(I)I"⟩
def RJ6 : String := "java/lang/Integer"
def TJ6 : u_T := fun k => match k with
  | _ => ("", "", "", false)
def tyJ6 : Nat → FieldType := fun k => match k with
  | _ => .int
abbrev wsJ60 : List Cond := u_ws RJ6 TJ6 0
theorem nmJ6 : ∀ a, a < 0 → ∀ b, b < 0 → a ≠ b → (TJ6 a).2.1 ≠ (TJ6 b).2.1 := by decide +kernel
theorem tyJ6_ok : ∀ k, k < 0 → parseFieldDescriptor (TJ6 k).2.2.1 = some (tyJ6 k) := by decide +kernel
abbrev cJ6_bitCount_0f7a4 : ByteArray := prog_15_method_49_code
def yJ6_bitCount_0f7a4 : MethodName := ⟨RJ6, "bitCount", "(I)I"⟩
def RJ9 : String := "java/lang/Math"
def TJ9 : u_T := fun k => match k with
  | _ => ("", "", "", false)
def tyJ9 : Nat → FieldType := fun k => match k with
  | _ => .int
abbrev wsJ90 : List Cond := u_ws RJ9 TJ9 0
theorem nmJ9 : ∀ a, a < 0 → ∀ b, b < 0 → a ≠ b → (TJ9 a).2.1 ≠ (TJ9 b).2.1 := by decide +kernel
theorem tyJ9_ok : ∀ k, k < 0 → parseFieldDescriptor (TJ9 k).2.2.1 = some (tyJ9 k) := by decide +kernel
abbrev cJ9_max_7cf53 : ByteArray := prog_16_method_65_code
def yJ9_max_7cf53 : MethodName := ⟨RJ9, "max", "(II)I"⟩
abbrev cJ9_min_7cf53 : ByteArray := prog_16_method_69_code
def yJ9_min_7cf53 : MethodName := ⟨RJ9, "min", "(II)I"⟩
def RJ10 : String := "java/lang/System"
def TJ10 : u_T := fun k => match k with
  | _ => ("", "", "", false)
def tyJ10 : Nat → FieldType := fun k => match k with
  | _ => .int
abbrev wsJ100 : List Cond := u_ws RJ10 TJ10 0
theorem nmJ10 : ∀ a, a < 0 → ∀ b, b < 0 → a ≠ b → (TJ10 a).2.1 ≠ (TJ10 b).2.1 := by decide +kernel
theorem tyJ10_ok : ∀ k, k < 0 → parseFieldDescriptor (TJ10 k).2.2.1 = some (tyJ10 k) := by decide +kernel
def RL : String := "SuetTroublesLaw"
abbrev cL_law : ByteArray := code
def yL_law : MethodName := ⟨RL, "law", "([I)Z"⟩
theorem inX0 : ∀ w ∈ wsX00, w ∈ lw_tbl := by decide +kernel
theorem inX1 : ∀ w ∈ wsX10, w ∈ lw_tbl := by decide +kernel
theorem inX2 : ∀ w ∈ wsX20, w ∈ lw_tbl := by decide +kernel
theorem inX3 : ∀ w ∈ wsX30, w ∈ lw_tbl := by decide +kernel
theorem inX4 : ∀ w ∈ wsX40, w ∈ lw_tbl := by decide +kernel
theorem inX5 : ∀ w ∈ wsX50, w ∈ lw_tbl := by decide +kernel
theorem inX6 : ∀ w ∈ wsX60, w ∈ lw_tbl := by decide +kernel
theorem inX7 : ∀ w ∈ wsX70, w ∈ lw_tbl := by decide +kernel
theorem inX8 : ∀ w ∈ wsX80, w ∈ lw_tbl := by decide +kernel
theorem inX10 : ∀ w ∈ wsX100, w ∈ lw_tbl := by decide +kernel
theorem inX11 : ∀ w ∈ wsX110, w ∈ lw_tbl := by decide +kernel
theorem inX12 : ∀ w ∈ wsX120, w ∈ lw_tbl := by decide +kernel
def lw_g : List Cond := lw_tbl.filter goodWord
theorem lw_gIn {w : Cond} (h : w ∈ lw_tbl) (hg : goodWord w = true) : w ∈ lw_g := List.mem_filter.mpr ⟨h, hg⟩
theorem lw_gSub {w : Cond} (h : w ∈ lw_g) : w ∈ lw_tbl := (List.mem_filter.mp h).1
theorem lw_gGood {w : Cond} (h : w ∈ lw_g) : (w.onTables && w.keeps) = true ∨ ∃ ty, w = .arrayClass ty := good_of_word (List.mem_filter.mp h).2
theorem igX0 : ∀ w ∈ wsX00, w ∈ lw_g := by
  intro w h
  exact lw_gIn (inX0 w h) (by have := List.all_eq_true.mp (show wsX00.all goodWord = true by decide +kernel) w h; exact this)
theorem igX1 : ∀ w ∈ wsX10, w ∈ lw_g := by
  intro w h
  exact lw_gIn (inX1 w h) (by have := List.all_eq_true.mp (show wsX10.all goodWord = true by decide +kernel) w h; exact this)
theorem igX2 : ∀ w ∈ wsX20, w ∈ lw_g := by
  intro w h
  exact lw_gIn (inX2 w h) (by have := List.all_eq_true.mp (show wsX20.all goodWord = true by decide +kernel) w h; exact this)
theorem igX3 : ∀ w ∈ wsX30, w ∈ lw_g := by
  intro w h
  exact lw_gIn (inX3 w h) (by have := List.all_eq_true.mp (show wsX30.all goodWord = true by decide +kernel) w h; exact this)
theorem igX4 : ∀ w ∈ wsX40, w ∈ lw_g := by
  intro w h
  exact lw_gIn (inX4 w h) (by have := List.all_eq_true.mp (show wsX40.all goodWord = true by decide +kernel) w h; exact this)
theorem igX5 : ∀ w ∈ wsX50, w ∈ lw_g := by
  intro w h
  exact lw_gIn (inX5 w h) (by have := List.all_eq_true.mp (show wsX50.all goodWord = true by decide +kernel) w h; exact this)
theorem igX6 : ∀ w ∈ wsX60, w ∈ lw_g := by
  intro w h
  exact lw_gIn (inX6 w h) (by have := List.all_eq_true.mp (show wsX60.all goodWord = true by decide +kernel) w h; exact this)
theorem igX7 : ∀ w ∈ wsX70, w ∈ lw_g := by
  intro w h
  exact lw_gIn (inX7 w h) (by have := List.all_eq_true.mp (show wsX70.all goodWord = true by decide +kernel) w h; exact this)
theorem igX8 : ∀ w ∈ wsX80, w ∈ lw_g := by
  intro w h
  exact lw_gIn (inX8 w h) (by have := List.all_eq_true.mp (show wsX80.all goodWord = true by decide +kernel) w h; exact this)
theorem igX10 : ∀ w ∈ wsX100, w ∈ lw_g := by
  intro w h
  exact lw_gIn (inX10 w h) (by have := List.all_eq_true.mp (show wsX100.all goodWord = true by decide +kernel) w h; exact this)
theorem igX11 : ∀ w ∈ wsX110, w ∈ lw_g := by
  intro w h
  exact lw_gIn (inX11 w h) (by have := List.all_eq_true.mp (show wsX110.all goodWord = true by decide +kernel) w h; exact this)
theorem igX12 : ∀ w ∈ wsX120, w ∈ lw_g := by
  intro w h
  exact lw_gIn (inX12 w h) (by have := List.all_eq_true.mp (show wsX120.all goodWord = true by decide +kernel) w h; exact this)
