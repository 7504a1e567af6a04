section
-- ===== PART A: goes FIRST, ahead of the names: the tables' words, and 'selects' of the private methods out of them =====
/-- a private method of a class that the tables say can be made, by its rows of tables_1 -/
def lw_okq (q : MethodName × Nat) : Prop := (q.1.cls ≠ "java/lang/invoke/MethodHandle" ∧ q.1.cls ≠ "java/lang/invoke/VarHandle") ∧ Cond.instantiable q.1.cls q.2 ∈ tables_1 ∧ Cond.privateMethod q.1 ∈ tables_1 ∧ Cond.instanceMethod q.1 ∈ tables_1
theorem lw_p0 : lw_okq (⟨"SuetTroubles$Reader", "skipBlanks", "()V"⟩, 5) := ⟨⟨by decide +kernel, by decide +kernel⟩, List.mem_of_getElem? (i := 26) (by decide +kernel), List.mem_of_getElem? (i := 338) (by decide +kernel), List.mem_of_getElem? (i := 339) (by decide +kernel)⟩
theorem lw_p1 : lw_okq (⟨"SuetTroubles$Reader", "here", "()I"⟩, 5) := ⟨⟨by decide +kernel, by decide +kernel⟩, List.mem_of_getElem? (i := 26) (by decide +kernel), List.mem_of_getElem? (i := 342) (by decide +kernel), List.mem_of_getElem? (i := 343) (by decide +kernel)⟩
theorem lw_p2 : lw_okq (⟨"SuetTroubles$Reader", "readClause", "(LSuetTroubles$Plan;)V"⟩, 5) := ⟨⟨by decide +kernel, by decide +kernel⟩, List.mem_of_getElem? (i := 26) (by decide +kernel), List.mem_of_getElem? (i := 346) (by decide +kernel), List.mem_of_getElem? (i := 347) (by decide +kernel)⟩
theorem lw_p3 : lw_okq (⟨"SuetTroubles$Reader", "readFire", "(LSuetTroubles$Plan;)V"⟩, 5) := ⟨⟨by decide +kernel, by decide +kernel⟩, List.mem_of_getElem? (i := 26) (by decide +kernel), List.mem_of_getElem? (i := 350) (by decide +kernel), List.mem_of_getElem? (i := 351) (by decide +kernel)⟩
theorem lw_p4 : lw_okq (⟨"SuetTroubles$Reader", "blame", "(II)V"⟩, 5) := ⟨⟨by decide +kernel, by decide +kernel⟩, List.mem_of_getElem? (i := 26) (by decide +kernel), List.mem_of_getElem? (i := 358) (by decide +kernel), List.mem_of_getElem? (i := 359) (by decide +kernel)⟩
theorem lw_p5 : lw_okq (⟨"SuetTroubles$Reader", "readNumber", "(II)I"⟩, 5) := ⟨⟨by decide +kernel, by decide +kernel⟩, List.mem_of_getElem? (i := 26) (by decide +kernel), List.mem_of_getElem? (i := 362) (by decide +kernel), List.mem_of_getElem? (i := 363) (by decide +kernel)⟩
theorem lw_p6 : lw_okq (⟨"SuetTroubles$Reader", "readSign", "(I)V"⟩, 5) := ⟨⟨by decide +kernel, by decide +kernel⟩, List.mem_of_getElem? (i := 26) (by decide +kernel), List.mem_of_getElem? (i := 372) (by decide +kernel), List.mem_of_getElem? (i := 373) (by decide +kernel)⟩
theorem lw_p7 : lw_okq (⟨"SuetTroubles$Reader", "readTrouble", "(LSuetTroubles$Plan;)V"⟩, 5) := ⟨⟨by decide +kernel, by decide +kernel⟩, List.mem_of_getElem? (i := 26) (by decide +kernel), List.mem_of_getElem? (i := 376) (by decide +kernel), List.mem_of_getElem? (i := 377) (by decide +kernel)⟩
theorem lw_p8 : lw_okq (⟨"SuetTroubles$Reader", "readEater", "(LSuetTroubles$Plan;)V"⟩, 5) := ⟨⟨by decide +kernel, by decide +kernel⟩, List.mem_of_getElem? (i := 26) (by decide +kernel), List.mem_of_getElem? (i := 384) (by decide +kernel), List.mem_of_getElem? (i := 385) (by decide +kernel)⟩
theorem lw_p9 : lw_okq (⟨"SuetTroubles$Past", "forgetUndone", "()V"⟩, 6) := ⟨⟨by decide +kernel, by decide +kernel⟩, List.mem_of_getElem? (i := 184) (by decide +kernel), List.mem_of_getElem? (i := 408) (by decide +kernel), List.mem_of_getElem? (i := 409) (by decide +kernel)⟩
theorem lw_p10 : lw_okq (⟨"SuetTroubles$Cloth", "feelAll", "(LSuetTroubles$Plan;LSuetTroubles$Scene;)V"⟩, 6) := ⟨⟨by decide +kernel, by decide +kernel⟩, List.mem_of_getElem? (i := 236) (by decide +kernel), List.mem_of_getElem? (i := 456) (by decide +kernel), List.mem_of_getElem? (i := 457) (by decide +kernel)⟩
theorem lw_p11 : lw_okq (⟨"SuetTroubles$Cloth", "feelMoves", "(I)V"⟩, 6) := ⟨⟨by decide +kernel, by decide +kernel⟩, List.mem_of_getElem? (i := 236) (by decide +kernel), List.mem_of_getElem? (i := 460) (by decide +kernel), List.mem_of_getElem? (i := 461) (by decide +kernel)⟩
theorem lw_p12 : lw_okq (⟨"SuetTroubles$Cloth", "countPair", "(I)V"⟩, 6) := ⟨⟨by decide +kernel, by decide +kernel⟩, List.mem_of_getElem? (i := 236) (by decide +kernel), List.mem_of_getElem? (i := 485) (by decide +kernel), List.mem_of_getElem? (i := 486) (by decide +kernel)⟩
theorem lw_p13 : lw_okq (⟨"SuetTroubles$Sheets", "addRow", "(I)V"⟩, 2) := ⟨⟨by decide +kernel, by decide +kernel⟩, List.mem_of_getElem? (i := 140) (by decide +kernel), List.mem_of_getElem? (i := 585) (by decide +kernel), List.mem_of_getElem? (i := 586) (by decide +kernel)⟩
theorem lw_p14 : lw_okq (⟨"SuetTroubles", "refusalOfHours", "(I)I"⟩, 12) := ⟨⟨by decide +kernel, by decide +kernel⟩, List.mem_of_getElem? (i := 18) (by decide +kernel), List.mem_of_getElem? (i := 613) (by decide +kernel), List.mem_of_getElem? (i := 614) (by decide +kernel)⟩
theorem lw_p15 : lw_okq (⟨"SuetTroubles$Deeds", "softenedBy", "(I)I"⟩, 4) := ⟨⟨by decide +kernel, by decide +kernel⟩, List.mem_of_getElem? (i := 165) (by decide +kernel), List.mem_of_getElem? (i := 626) (by decide +kernel), List.mem_of_getElem? (i := 627) (by decide +kernel)⟩
def lw_privs_1 : List (MethodName × Nat) := [(⟨"SuetTroubles$Reader", "skipBlanks", "()V"⟩, 5), (⟨"SuetTroubles$Reader", "here", "()I"⟩, 5), (⟨"SuetTroubles$Reader", "readClause", "(LSuetTroubles$Plan;)V"⟩, 5), (⟨"SuetTroubles$Reader", "readFire", "(LSuetTroubles$Plan;)V"⟩, 5), (⟨"SuetTroubles$Reader", "blame", "(II)V"⟩, 5), (⟨"SuetTroubles$Reader", "readNumber", "(II)I"⟩, 5), (⟨"SuetTroubles$Reader", "readSign", "(I)V"⟩, 5), (⟨"SuetTroubles$Reader", "readTrouble", "(LSuetTroubles$Plan;)V"⟩, 5), (⟨"SuetTroubles$Reader", "readEater", "(LSuetTroubles$Plan;)V"⟩, 5), (⟨"SuetTroubles$Past", "forgetUndone", "()V"⟩, 6), (⟨"SuetTroubles$Cloth", "feelAll", "(LSuetTroubles$Plan;LSuetTroubles$Scene;)V"⟩, 6), (⟨"SuetTroubles$Cloth", "feelMoves", "(I)V"⟩, 6), (⟨"SuetTroubles$Cloth", "countPair", "(I)V"⟩, 6), (⟨"SuetTroubles$Sheets", "addRow", "(I)V"⟩, 2), (⟨"SuetTroubles", "refusalOfHours", "(I)I"⟩, 12), (⟨"SuetTroubles$Deeds", "softenedBy", "(I)I"⟩, 4)]
theorem lw_r1 : ∀ q ∈ lw_privs_1, lw_okq q := List.forall_mem_cons.mpr ⟨lw_p0, List.forall_mem_cons.mpr ⟨lw_p1, List.forall_mem_cons.mpr ⟨lw_p2, List.forall_mem_cons.mpr ⟨lw_p3, List.forall_mem_cons.mpr ⟨lw_p4, List.forall_mem_cons.mpr ⟨lw_p5, List.forall_mem_cons.mpr ⟨lw_p6, List.forall_mem_cons.mpr ⟨lw_p7, List.forall_mem_cons.mpr ⟨lw_p8, List.forall_mem_cons.mpr ⟨lw_p9, List.forall_mem_cons.mpr ⟨lw_p10, List.forall_mem_cons.mpr ⟨lw_p11, List.forall_mem_cons.mpr ⟨lw_p12, List.forall_mem_cons.mpr ⟨lw_p13, List.forall_mem_cons.mpr ⟨lw_p14, List.forall_mem_cons.mpr ⟨lw_p15, fun _ h => absurd h List.not_mem_nil⟩⟩⟩⟩⟩⟩⟩⟩⟩⟩⟩⟩⟩⟩⟩⟩
theorem lw_p16 : lw_okq (⟨"SuetTroubles$Orders", "tryNext", "(IIIII)V"⟩, 4) := ⟨⟨by decide +kernel, by decide +kernel⟩, List.mem_of_getElem? (i := 215) (by decide +kernel), List.mem_of_getElem? (i := 730) (by decide +kernel), List.mem_of_getElem? (i := 731) (by decide +kernel)⟩
theorem lw_p17 : lw_okq (⟨"SuetTroublesModel", "readsKitchen", "()Z"⟩, 36) := ⟨⟨by decide +kernel, by decide +kernel⟩, List.mem_of_getElem? (i := 800) (by decide +kernel), List.mem_of_getElem? (i := 929) (by decide +kernel), List.mem_of_getElem? (i := 930) (by decide +kernel)⟩
theorem lw_p18 : lw_okq (⟨"SuetTroublesModel", "nextLetter", "()I"⟩, 36) := ⟨⟨by decide +kernel, by decide +kernel⟩, List.mem_of_getElem? (i := 800) (by decide +kernel), List.mem_of_getElem? (i := 933) (by decide +kernel), List.mem_of_getElem? (i := 934) (by decide +kernel)⟩
theorem lw_p19 : lw_okq (⟨"SuetTroublesModel", "letterAt", "(I)I"⟩, 36) := ⟨⟨by decide +kernel, by decide +kernel⟩, List.mem_of_getElem? (i := 800) (by decide +kernel), List.mem_of_getElem? (i := 937) (by decide +kernel), List.mem_of_getElem? (i := 938) (by decide +kernel)⟩
theorem lw_p20 : lw_okq (⟨"SuetTroublesModel", "readsClause", "()Z"⟩, 36) := ⟨⟨by decide +kernel, by decide +kernel⟩, List.mem_of_getElem? (i := 800) (by decide +kernel), List.mem_of_getElem? (i := 941) (by decide +kernel), List.mem_of_getElem? (i := 942) (by decide +kernel)⟩
theorem lw_p21 : lw_okq (⟨"SuetTroublesModel", "readsHead", "()Z"⟩, 36) := ⟨⟨by decide +kernel, by decide +kernel⟩, List.mem_of_getElem? (i := 800) (by decide +kernel), List.mem_of_getElem? (i := 945) (by decide +kernel), List.mem_of_getElem? (i := 946) (by decide +kernel)⟩
theorem lw_p22 : lw_okq (⟨"SuetTroublesModel", "readsNumber", "(II)I"⟩, 36) := ⟨⟨by decide +kernel, by decide +kernel⟩, List.mem_of_getElem? (i := 800) (by decide +kernel), List.mem_of_getElem? (i := 949) (by decide +kernel), List.mem_of_getElem? (i := 950) (by decide +kernel)⟩
theorem lw_p23 : lw_okq (⟨"SuetTroublesModel", "fails", "(II)I"⟩, 36) := ⟨⟨by decide +kernel, by decide +kernel⟩, List.mem_of_getElem? (i := 800) (by decide +kernel), List.mem_of_getElem? (i := 953) (by decide +kernel), List.mem_of_getElem? (i := 954) (by decide +kernel)⟩
theorem lw_p24 : lw_okq (⟨"SuetTroublesModel", "readsSign", "(I)Z"⟩, 36) := ⟨⟨by decide +kernel, by decide +kernel⟩, List.mem_of_getElem? (i := 800) (by decide +kernel), List.mem_of_getElem? (i := 957) (by decide +kernel), List.mem_of_getElem? (i := 958) (by decide +kernel)⟩
theorem lw_p25 : lw_okq (⟨"SuetTroublesModel", "readsTrouble", "()Z"⟩, 36) := ⟨⟨by decide +kernel, by decide +kernel⟩, List.mem_of_getElem? (i := 800) (by decide +kernel), List.mem_of_getElem? (i := 961) (by decide +kernel), List.mem_of_getElem? (i := 962) (by decide +kernel)⟩
theorem lw_p26 : lw_okq (⟨"SuetTroublesModel", "readsEater", "()Z"⟩, 36) := ⟨⟨by decide +kernel, by decide +kernel⟩, List.mem_of_getElem? (i := 800) (by decide +kernel), List.mem_of_getElem? (i := 965) (by decide +kernel), List.mem_of_getElem? (i := 966) (by decide +kernel)⟩
theorem lw_p27 : lw_okq (⟨"SuetTroublesModel", "are", "(I)I"⟩, 36) := ⟨⟨by decide +kernel, by decide +kernel⟩, List.mem_of_getElem? (i := 800) (by decide +kernel), List.mem_of_getElem? (i := 977) (by decide +kernel), List.mem_of_getElem? (i := 978) (by decide +kernel)⟩
theorem lw_p28 : lw_okq (⟨"SuetTroublesModel", "good", "()I"⟩, 36) := ⟨⟨by decide +kernel, by decide +kernel⟩, List.mem_of_getElem? (i := 800) (by decide +kernel), List.mem_of_getElem? (i := 981) (by decide +kernel), List.mem_of_getElem? (i := 982) (by decide +kernel)⟩
theorem lw_p29 : lw_okq (⟨"SuetTroublesModel", "isGood", "(I)Z"⟩, 36) := ⟨⟨by decide +kernel, by decide +kernel⟩, List.mem_of_getElem? (i := 800) (by decide +kernel), List.mem_of_getElem? (i := 985) (by decide +kernel), List.mem_of_getElem? (i := 986) (by decide +kernel)⟩
theorem lw_p30 : lw_okq (⟨"SuetTroublesModel", "leftAll", "()I"⟩, 36) := ⟨⟨by decide +kernel, by decide +kernel⟩, List.mem_of_getElem? (i := 800) (by decide +kernel), List.mem_of_getElem? (i := 989) (by decide +kernel), List.mem_of_getElem? (i := 990) (by decide +kernel)⟩
theorem lw_p31 : lw_okq (⟨"SuetTroublesModel", "left", "(I)I"⟩, 36) := ⟨⟨by decide +kernel, by decide +kernel⟩, List.mem_of_getElem? (i := 800) (by decide +kernel), List.mem_of_getElem? (i := 993) (by decide +kernel), List.mem_of_getElem? (i := 994) (by decide +kernel)⟩
def lw_privs_2 : List (MethodName × Nat) := [(⟨"SuetTroubles$Orders", "tryNext", "(IIIII)V"⟩, 4), (⟨"SuetTroublesModel", "readsKitchen", "()Z"⟩, 36), (⟨"SuetTroublesModel", "nextLetter", "()I"⟩, 36), (⟨"SuetTroublesModel", "letterAt", "(I)I"⟩, 36), (⟨"SuetTroublesModel", "readsClause", "()Z"⟩, 36), (⟨"SuetTroublesModel", "readsHead", "()Z"⟩, 36), (⟨"SuetTroublesModel", "readsNumber", "(II)I"⟩, 36), (⟨"SuetTroublesModel", "fails", "(II)I"⟩, 36), (⟨"SuetTroublesModel", "readsSign", "(I)Z"⟩, 36), (⟨"SuetTroublesModel", "readsTrouble", "()Z"⟩, 36), (⟨"SuetTroublesModel", "readsEater", "()Z"⟩, 36), (⟨"SuetTroublesModel", "are", "(I)I"⟩, 36), (⟨"SuetTroublesModel", "good", "()I"⟩, 36), (⟨"SuetTroublesModel", "isGood", "(I)Z"⟩, 36), (⟨"SuetTroublesModel", "leftAll", "()I"⟩, 36), (⟨"SuetTroublesModel", "left", "(I)I"⟩, 36)]
theorem lw_r2 : ∀ q ∈ lw_privs_2, lw_okq q := List.forall_mem_cons.mpr ⟨lw_p16, List.forall_mem_cons.mpr ⟨lw_p17, List.forall_mem_cons.mpr ⟨lw_p18, List.forall_mem_cons.mpr ⟨lw_p19, List.forall_mem_cons.mpr ⟨lw_p20, List.forall_mem_cons.mpr ⟨lw_p21, List.forall_mem_cons.mpr ⟨lw_p22, List.forall_mem_cons.mpr ⟨lw_p23, List.forall_mem_cons.mpr ⟨lw_p24, List.forall_mem_cons.mpr ⟨lw_p25, List.forall_mem_cons.mpr ⟨lw_p26, List.forall_mem_cons.mpr ⟨lw_p27, List.forall_mem_cons.mpr ⟨lw_p28, List.forall_mem_cons.mpr ⟨lw_p29, List.forall_mem_cons.mpr ⟨lw_p30, List.forall_mem_cons.mpr ⟨lw_p31, fun _ h => absurd h List.not_mem_nil⟩⟩⟩⟩⟩⟩⟩⟩⟩⟩⟩⟩⟩⟩⟩⟩
theorem lw_p32 : lw_okq (⟨"SuetTroublesModel", "strongest", "()I"⟩, 36) := ⟨⟨by decide +kernel, by decide +kernel⟩, List.mem_of_getElem? (i := 800) (by decide +kernel), List.mem_of_getElem? (i := 997) (by decide +kernel), List.mem_of_getElem? (i := 998) (by decide +kernel)⟩
theorem lw_p33 : lw_okq (⟨"SuetTroublesModel", "within", "()I"⟩, 36) := ⟨⟨by decide +kernel, by decide +kernel⟩, List.mem_of_getElem? (i := 800) (by decide +kernel), List.mem_of_getElem? (i := 1001) (by decide +kernel), List.mem_of_getElem? (i := 1002) (by decide +kernel)⟩
theorem lw_p34 : lw_okq (⟨"SuetTroublesModel", "fit", "(I)I"⟩, 36) := ⟨⟨by decide +kernel, by decide +kernel⟩, List.mem_of_getElem? (i := 800) (by decide +kernel), List.mem_of_getElem? (i := 1005) (by decide +kernel), List.mem_of_getElem? (i := 1006) (by decide +kernel)⟩
theorem lw_p35 : lw_okq (⟨"SuetTroublesModel", "fitMany", "()I"⟩, 36) := ⟨⟨by decide +kernel, by decide +kernel⟩, List.mem_of_getElem? (i := 800) (by decide +kernel), List.mem_of_getElem? (i := 1015) (by decide +kernel), List.mem_of_getElem? (i := 1016) (by decide +kernel)⟩
theorem lw_p36 : lw_okq (⟨"SuetTroublesModel", "weave", "()I"⟩, 36) := ⟨⟨by decide +kernel, by decide +kernel⟩, List.mem_of_getElem? (i := 800) (by decide +kernel), List.mem_of_getElem? (i := 1019) (by decide +kernel), List.mem_of_getElem? (i := 1020) (by decide +kernel)⟩
theorem lw_p37 : lw_okq (⟨"SuetTroublesModel", "isTrouble", "(I)Z"⟩, 36) := ⟨⟨by decide +kernel, by decide +kernel⟩, List.mem_of_getElem? (i := 800) (by decide +kernel), List.mem_of_getElem? (i := 1027) (by decide +kernel), List.mem_of_getElem? (i := 1028) (by decide +kernel)⟩
theorem lw_p38 : lw_okq (⟨"SuetTroublesModel", "isBearable", "(I)Z"⟩, 36) := ⟨⟨by decide +kernel, by decide +kernel⟩, List.mem_of_getElem? (i := 800) (by decide +kernel), List.mem_of_getElem? (i := 1054) (by decide +kernel), List.mem_of_getElem? (i := 1055) (by decide +kernel)⟩
theorem lw_p39 : lw_okq (⟨"SuetTroublesModel", "weight", "(I)I"⟩, 36) := ⟨⟨by decide +kernel, by decide +kernel⟩, List.mem_of_getElem? (i := 800) (by decide +kernel), List.mem_of_getElem? (i := 1058) (by decide +kernel), List.mem_of_getElem? (i := 1059) (by decide +kernel)⟩
theorem lw_p40 : lw_okq (⟨"SuetTroublesModel", "isEater", "(I)Z"⟩, 36) := ⟨⟨by decide +kernel, by decide +kernel⟩, List.mem_of_getElem? (i := 800) (by decide +kernel), List.mem_of_getElem? (i := 1066) (by decide +kernel), List.mem_of_getElem? (i := 1067) (by decide +kernel)⟩
theorem lw_p41 : lw_okq (⟨"SuetTroublesModel", "remember", "()V"⟩, 36) := ⟨⟨by decide +kernel, by decide +kernel⟩, List.mem_of_getElem? (i := 800) (by decide +kernel), List.mem_of_getElem? (i := 1075) (by decide +kernel), List.mem_of_getElem? (i := 1076) (by decide +kernel)⟩
theorem lw_p42 : lw_okq (⟨"SuetTroublesModel", "wraps", "(I)I"⟩, 36) := ⟨⟨by decide +kernel, by decide +kernel⟩, List.mem_of_getElem? (i := 800) (by decide +kernel), List.mem_of_getElem? (i := 1079) (by decide +kernel), List.mem_of_getElem? (i := 1080) (by decide +kernel)⟩
theorem lw_p43 : lw_okq (⟨"SuetTroublesModel", "sheetsFor", "(I)I"⟩, 36) := ⟨⟨by decide +kernel, by decide +kernel⟩, List.mem_of_getElem? (i := 800) (by decide +kernel), List.mem_of_getElem? (i := 1083) (by decide +kernel), List.mem_of_getElem? (i := 1084) (by decide +kernel)⟩
theorem lw_p44 : lw_okq (⟨"SuetTroublesModel", "fewestSheets", "(IZ)I"⟩, 36) := ⟨⟨by decide +kernel, by decide +kernel⟩, List.mem_of_getElem? (i := 800) (by decide +kernel), List.mem_of_getElem? (i := 1087) (by decide +kernel), List.mem_of_getElem? (i := 1088) (by decide +kernel)⟩
theorem lw_p45 : lw_okq (⟨"SuetTroublesModel", "potsFree", "()I"⟩, 36) := ⟨⟨by decide +kernel, by decide +kernel⟩, List.mem_of_getElem? (i := 800) (by decide +kernel), List.mem_of_getElem? (i := 1100) (by decide +kernel), List.mem_of_getElem? (i := 1101) (by decide +kernel)⟩
theorem lw_p46 : lw_okq (⟨"SuetTroublesModel", "needHours", "(I)I"⟩, 36) := ⟨⟨by decide +kernel, by decide +kernel⟩, List.mem_of_getElem? (i := 800) (by decide +kernel), List.mem_of_getElem? (i := 1112) (by decide +kernel), List.mem_of_getElem? (i := 1113) (by decide +kernel)⟩
theorem lw_p47 : lw_okq (⟨"SuetTroublesModel", "isKitchen", "()Z"⟩, 36) := ⟨⟨by decide +kernel, by decide +kernel⟩, List.mem_of_getElem? (i := 800) (by decide +kernel), List.mem_of_getElem? (i := 1116) (by decide +kernel), List.mem_of_getElem? (i := 1117) (by decide +kernel)⟩
def lw_privs_3 : List (MethodName × Nat) := [(⟨"SuetTroublesModel", "strongest", "()I"⟩, 36), (⟨"SuetTroublesModel", "within", "()I"⟩, 36), (⟨"SuetTroublesModel", "fit", "(I)I"⟩, 36), (⟨"SuetTroublesModel", "fitMany", "()I"⟩, 36), (⟨"SuetTroublesModel", "weave", "()I"⟩, 36), (⟨"SuetTroublesModel", "isTrouble", "(I)Z"⟩, 36), (⟨"SuetTroublesModel", "isBearable", "(I)Z"⟩, 36), (⟨"SuetTroublesModel", "weight", "(I)I"⟩, 36), (⟨"SuetTroublesModel", "isEater", "(I)Z"⟩, 36), (⟨"SuetTroublesModel", "remember", "()V"⟩, 36), (⟨"SuetTroublesModel", "wraps", "(I)I"⟩, 36), (⟨"SuetTroublesModel", "sheetsFor", "(I)I"⟩, 36), (⟨"SuetTroublesModel", "fewestSheets", "(IZ)I"⟩, 36), (⟨"SuetTroublesModel", "potsFree", "()I"⟩, 36), (⟨"SuetTroublesModel", "needHours", "(I)I"⟩, 36), (⟨"SuetTroublesModel", "isKitchen", "()Z"⟩, 36)]
theorem lw_r3 : ∀ q ∈ lw_privs_3, lw_okq q := List.forall_mem_cons.mpr ⟨lw_p32, List.forall_mem_cons.mpr ⟨lw_p33, List.forall_mem_cons.mpr ⟨lw_p34, List.forall_mem_cons.mpr ⟨lw_p35, List.forall_mem_cons.mpr ⟨lw_p36, List.forall_mem_cons.mpr ⟨lw_p37, List.forall_mem_cons.mpr ⟨lw_p38, List.forall_mem_cons.mpr ⟨lw_p39, List.forall_mem_cons.mpr ⟨lw_p40, List.forall_mem_cons.mpr ⟨lw_p41, List.forall_mem_cons.mpr ⟨lw_p42, List.forall_mem_cons.mpr ⟨lw_p43, List.forall_mem_cons.mpr ⟨lw_p44, List.forall_mem_cons.mpr ⟨lw_p45, List.forall_mem_cons.mpr ⟨lw_p46, List.forall_mem_cons.mpr ⟨lw_p47, fun _ h => absurd h List.not_mem_nil⟩⟩⟩⟩⟩⟩⟩⟩⟩⟩⟩⟩⟩⟩⟩⟩
theorem lw_p48 : lw_okq (⟨"SuetTroublesModel", "passes", "()V"⟩, 36) := ⟨⟨by decide +kernel, by decide +kernel⟩, List.mem_of_getElem? (i := 800) (by decide +kernel), List.mem_of_getElem? (i := 1120) (by decide +kernel), List.mem_of_getElem? (i := 1121) (by decide +kernel)⟩
theorem lw_p49 : lw_okq (⟨"SuetTroublesModel", "softens", "(II)I"⟩, 36) := ⟨⟨by decide +kernel, by decide +kernel⟩, List.mem_of_getElem? (i := 800) (by decide +kernel), List.mem_of_getElem? (i := 1124) (by decide +kernel), List.mem_of_getElem? (i := 1125) (by decide +kernel)⟩
theorem lw_p50 : lw_okq (⟨"SuetTroublesModel", "canBeBorne", "(I)Z"⟩, 36) := ⟨⟨by decide +kernel, by decide +kernel⟩, List.mem_of_getElem? (i := 800) (by decide +kernel), List.mem_of_getElem? (i := 1135) (by decide +kernel), List.mem_of_getElem? (i := 1136) (by decide +kernel)⟩
theorem lw_p51 : lw_okq (⟨"SuetTroublesModel", "bears", "(I)V"⟩, 36) := ⟨⟨by decide +kernel, by decide +kernel⟩, List.mem_of_getElem? (i := 800) (by decide +kernel), List.mem_of_getElem? (i := 1139) (by decide +kernel), List.mem_of_getElem? (i := 1140) (by decide +kernel)⟩
theorem lw_p52 : lw_okq (⟨"SuetTroublesModel", "rests", "()I"⟩, 36) := ⟨⟨by decide +kernel, by decide +kernel⟩, List.mem_of_getElem? (i := 800) (by decide +kernel), List.mem_of_getElem? (i := 1147) (by decide +kernel), List.mem_of_getElem? (i := 1148) (by decide +kernel)⟩
theorem lw_p53 : lw_okq (⟨"SuetTroublesModel", "draw", "(I)I"⟩, 36) := ⟨⟨by decide +kernel, by decide +kernel⟩, List.mem_of_getElem? (i := 800) (by decide +kernel), List.mem_of_getElem? (i := 1159) (by decide +kernel), List.mem_of_getElem? (i := 1160) (by decide +kernel)⟩
theorem lw_p54 : lw_okq (⟨"SuetTroublesModel", "does", "(II)V"⟩, 36) := ⟨⟨by decide +kernel, by decide +kernel⟩, List.mem_of_getElem? (i := 800) (by decide +kernel), List.mem_of_getElem? (i := 1167) (by decide +kernel), List.mem_of_getElem? (i := 1168) (by decide +kernel)⟩
theorem lw_p55 : lw_okq (⟨"SuetTroublesModel", "softBehind", "(II)I"⟩, 36) := ⟨⟨by decide +kernel, by decide +kernel⟩, List.mem_of_getElem? (i := 800) (by decide +kernel), List.mem_of_getElem? (i := 1189) (by decide +kernel), List.mem_of_getElem? (i := 1190) (by decide +kernel)⟩
theorem lw_p56 : lw_okq (⟨"SuetTroublesModel", "softIn", "(II)I"⟩, 36) := ⟨⟨by decide +kernel, by decide +kernel⟩, List.mem_of_getElem? (i := 800) (by decide +kernel), List.mem_of_getElem? (i := 1197) (by decide +kernel), List.mem_of_getElem? (i := 1198) (by decide +kernel)⟩
theorem lw_p57 : lw_okq (⟨"SuetTroublesModel", "sumOf", "(II)I"⟩, 36) := ⟨⟨by decide +kernel, by decide +kernel⟩, List.mem_of_getElem? (i := 800) (by decide +kernel), List.mem_of_getElem? (i := 1206) (by decide +kernel), List.mem_of_getElem? (i := 1207) (by decide +kernel)⟩
def lw_privs_4 : List (MethodName × Nat) := [(⟨"SuetTroublesModel", "passes", "()V"⟩, 36), (⟨"SuetTroublesModel", "softens", "(II)I"⟩, 36), (⟨"SuetTroublesModel", "canBeBorne", "(I)Z"⟩, 36), (⟨"SuetTroublesModel", "bears", "(I)V"⟩, 36), (⟨"SuetTroublesModel", "rests", "()I"⟩, 36), (⟨"SuetTroublesModel", "draw", "(I)I"⟩, 36), (⟨"SuetTroublesModel", "does", "(II)V"⟩, 36), (⟨"SuetTroublesModel", "softBehind", "(II)I"⟩, 36), (⟨"SuetTroublesModel", "softIn", "(II)I"⟩, 36), (⟨"SuetTroublesModel", "sumOf", "(II)I"⟩, 36)]
theorem lw_r4 : ∀ q ∈ lw_privs_4, lw_okq q := List.forall_mem_cons.mpr ⟨lw_p48, List.forall_mem_cons.mpr ⟨lw_p49, List.forall_mem_cons.mpr ⟨lw_p50, List.forall_mem_cons.mpr ⟨lw_p51, List.forall_mem_cons.mpr ⟨lw_p52, List.forall_mem_cons.mpr ⟨lw_p53, List.forall_mem_cons.mpr ⟨lw_p54, List.forall_mem_cons.mpr ⟨lw_p55, List.forall_mem_cons.mpr ⟨lw_p56, List.forall_mem_cons.mpr ⟨lw_p57, fun _ h => absurd h List.not_mem_nil⟩⟩⟩⟩⟩⟩⟩⟩⟩⟩
def lw_privs : List (MethodName × Nat) := lw_privs_1 ++ (lw_privs_2 ++ (lw_privs_3 ++ (lw_privs_4)))
def lw_tbl : List Cond := k2_sels lw_privs ++ tables_1
theorem lw_privs_ok : ∀ q ∈ lw_privs, lw_okq q := by
  show ∀ q ∈ lw_privs_1 ++ (lw_privs_2 ++ (lw_privs_3 ++ (lw_privs_4))), lw_okq q
  exact List.forall_mem_append.mpr ⟨lw_r1, List.forall_mem_append.mpr ⟨lw_r2, List.forall_mem_append.mpr ⟨lw_r3, lw_r4⟩⟩⟩
-- names, as printed
def RX0 : String := "SuetTroubles$Book"
def TX0 : u_T := fun k => match k with
  | 0 => ("SuetTroubles$Book", "entries", "I", false)
  | 1 => ("SuetTroubles$Book", "who", "[I", true)
  | _ => ("SuetTroubles$Book", "said", "[I", true)
def tyX0 : Nat → FieldType := fun k => match k with
  | 0 => .int
  | 1 => .array .int
  | _ => .array .int
abbrev wsX00 : List Cond := u_ws RX0 TX0 3
theorem nmX0 : ∀ a, a < 3 → ∀ b, b < 3 → a ≠ b → (TX0 a).2.1 ≠ (TX0 b).2.1 := by decide +kernel
theorem tyX0_ok : ∀ k, k < 3 → parseFieldDescriptor (TX0 k).2.2.1 = some (tyX0 k) := by decide +kernel
abbrev cX0_init : ByteArray := prog_2_method_1_code
def yX0_init : MethodName := ⟨RX0, "<init>", "()V"⟩
abbrev cX0_add : ByteArray := prog_2_method_2_code
def yX0_add : MethodName := ⟨RX0, "add", "(II)I"⟩
abbrev cX0_clear : ByteArray := prog_2_method_3_code
def yX0_clear : MethodName := ⟨RX0, "clear", "()V"⟩
abbrev cX0_firstWrong : ByteArray := prog_2_method_4_code
def yX0_firstWrong : MethodName := ⟨RX0, "firstWrong", "(LSuetTroubles$Scene;)I"⟩
def RX1 : String := "SuetTroubles$Cloth"
def TX1 : u_T := fun k => match k with
  | 0 => ("SuetTroubles$Cloth", "bumps", "I", false)
  | 1 => ("SuetTroubles$Cloth", "full", "I", false)
  | 2 => ("SuetTroubles$Cloth", "notFull", "I", false)
  | 3 => ("SuetTroubles$Cloth", "withinSet", "I", false)
  | 4 => ("SuetTroubles$Cloth", "pairCount", "I", false)
  | _ => ("SuetTroubles$Cloth", "fullPairs", "[I", true)
def tyX1 : Nat → FieldType := fun k => match k with
  | 0 => .int
  | 1 => .int
  | 2 => .int
  | 3 => .int
  | 4 => .int
  | _ => .array .int
abbrev wsX10 : List Cond := u_ws RX1 TX1 6
theorem nmX1 : ∀ a, a < 6 → ∀ b, b < 6 → a ≠ b → (TX1 a).2.1 ≠ (TX1 b).2.1 := by decide +kernel
theorem tyX1_ok : ∀ k, k < 6 → parseFieldDescriptor (TX1 k).2.2.1 = some (tyX1 k) := by decide +kernel
abbrev cX1_init : ByteArray := prog_3_method_1_code
def yX1_init : MethodName := ⟨RX1, "<init>", "()V"⟩
abbrev cX1_add : ByteArray := prog_3_method_2_code
def yX1_add : MethodName := ⟨RX1, "add", "(IZ)I"⟩
abbrev cX1_clear : ByteArray := prog_3_method_3_code
def yX1_clear : MethodName := ⟨RX1, "clear", "()V"⟩
abbrev cX1_within : ByteArray := prog_3_method_4_code
def yX1_within : MethodName := ⟨RX1, "within", "(LSuetTroubles$Plan;LSuetTroubles$Scene;)I"⟩
abbrev cX1_pairs : ByteArray := prog_3_method_5_code
def yX1_pairs : MethodName := ⟨RX1, "pairs", "(LSuetTroubles$Plan;LSuetTroubles$Scene;)I"⟩
abbrev cX1_weave : ByteArray := prog_3_method_6_code
def yX1_weave : MethodName := ⟨RX1, "weave", "(LSuetTroubles$Plan;LSuetTroubles$Scene;)I"⟩
abbrev cX1_feelAll : ByteArray := prog_3_method_7_code
def yX1_feelAll : MethodName := ⟨RX1, "feelAll", "(LSuetTroubles$Plan;LSuetTroubles$Scene;)V"⟩
abbrev cX1_feelMoves : ByteArray := prog_3_method_8_code
def yX1_feelMoves : MethodName := ⟨RX1, "feelMoves", "(I)V"⟩
abbrev cX1_countPair : ByteArray := prog_3_method_9_code
def yX1_countPair : MethodName := ⟨RX1, "countPair", "(I)V"⟩
def RX2 : String := "SuetTroubles$Deeds"
def TX2 : u_T := fun k => match k with
  | 0 => ("SuetTroubles$Deeds", "plan", "LSuetTroubles$Plan;", true)
  | 1 => ("SuetTroubles$Deeds", "scene", "LSuetTroubles$Scene;", true)
  | 2 => ("SuetTroubles$Deeds", "sheets", "LSuetTroubles$Sheets;", true)
  | _ => ("SuetTroubles$Deeds", "draws", "LSuetTroubles$Draws;", true)
def tyX2 : Nat → FieldType := fun k => match k with
  | 0 => .object "SuetTroubles$Plan"
  | 1 => .object "SuetTroubles$Scene"
  | 2 => .object "SuetTroubles$Sheets"
  | _ => .object "SuetTroubles$Draws"
abbrev wsX20 : List Cond := u_ws RX2 TX2 4
theorem nmX2 : ∀ a, a < 4 → ∀ b, b < 4 → a ≠ b → (TX2 a).2.1 ≠ (TX2 b).2.1 := by decide +kernel
theorem tyX2_ok : ∀ k, k < 4 → parseFieldDescriptor (TX2 k).2.2.1 = some (tyX2 k) := by decide +kernel
abbrev cX2_init : ByteArray := prog_4_method_1_code
def yX2_init : MethodName := ⟨RX2, "<init>", "(LSuetTroubles$Plan;LSuetTroubles$Scene;LSuetTroubles$Sheets;LSuetTroubles$Draws;)V"⟩
abbrev cX2_allThatAre : ByteArray := prog_4_method_2_code
def yX2_allThatAre : MethodName := ⟨RX2, "allThatAre", "(I)I"⟩
abbrev cX2_isGood : ByteArray := prog_4_method_3_code
def yX2_isGood : MethodName := ⟨RX2, "isGood", "(I)Z"⟩
abbrev cX2_allGood : ByteArray := prog_4_method_4_code
def yX2_allGood : MethodName := ⟨RX2, "allGood", "()I"⟩
abbrev cX2_canBeWrapped : ByteArray := prog_4_method_5_code
def yX2_canBeWrapped : MethodName := ⟨RX2, "canBeWrapped", "(I)Z"⟩
abbrev cX2_putInSuet : ByteArray := prog_4_method_6_code
def yX2_putInSuet : MethodName := ⟨RX2, "putInSuet", "(I)I"⟩
abbrev cX2_freePots : ByteArray := prog_4_method_7_code
def yX2_freePots : MethodName := ⟨RX2, "freePots", "()I"⟩
abbrev cX2_leftOf : ByteArray := prog_4_method_8_code
def yX2_leftOf : MethodName := ⟨RX2, "leftOf", "(I)I"⟩
abbrev cX2_leftTogether : ByteArray := prog_4_method_9_code
def yX2_leftTogether : MethodName := ⟨RX2, "leftTogether", "()I"⟩
abbrev cX2_strongest : ByteArray := prog_4_method_10_code
def yX2_strongest : MethodName := ⟨RX2, "strongest", "()I"⟩
abbrev cX2_weight : ByteArray := prog_4_method_11_code
def yX2_weight : MethodName := ⟨RX2, "weight", "(I)I"⟩
abbrev cX2_isBearable : ByteArray := prog_4_method_12_code
def yX2_isBearable : MethodName := ⟨RX2, "isBearable", "(I)Z"⟩
abbrev cX2_canBeBorne : ByteArray := prog_4_method_13_code
def yX2_canBeBorne : MethodName := ⟨RX2, "canBeBorne", "(I)Z"⟩
abbrev cX2_shareOut : ByteArray := prog_4_method_14_code
def yX2_shareOut : MethodName := ⟨RX2, "shareOut", "(I)V"⟩
abbrev cX2_unload : ByteArray := prog_4_method_15_code
def yX2_unload : MethodName := ⟨RX2, "unload", "()I"⟩
abbrev cX2_softenedBy : ByteArray := prog_4_method_16_code
def yX2_softenedBy : MethodName := ⟨RX2, "softenedBy", "(I)I"⟩
abbrev cX2_hardBehind : ByteArray := prog_4_method_17_code
def yX2_hardBehind : MethodName := ⟨RX2, "hardBehind", "(II)I"⟩
abbrev cX2_hoursTillGood : ByteArray := prog_4_method_18_code
def yX2_hoursTillGood : MethodName := ⟨RX2, "hoursTillGood", "(II)I"⟩
abbrev cX2_boil : ByteArray := prog_4_method_19_code
def yX2_boil : MethodName := ⟨RX2, "boil", "()V"⟩
abbrev cX2_actByDraws : ByteArray := prog_4_method_20_code
def yX2_actByDraws : MethodName := ⟨RX2, "actByDraws", "()V"⟩
def RX3 : String := "SuetTroubles$Draws"
def TX3 : u_T := fun k => match k with
  | _ => ("SuetTroubles$Draws", "value", "I", false)
def tyX3 : Nat → FieldType := fun k => match k with
  | _ => .int
abbrev wsX30 : List Cond := u_ws RX3 TX3 1
theorem nmX3 : ∀ a, a < 1 → ∀ b, b < 1 → a ≠ b → (TX3 a).2.1 ≠ (TX3 b).2.1 := by decide +kernel
theorem tyX3_ok : ∀ k, k < 1 → parseFieldDescriptor (TX3 k).2.2.1 = some (tyX3 k) := by decide +kernel
abbrev cX3_init : ByteArray := prog_5_method_1_code
def yX3_init : MethodName := ⟨RX3, "<init>", "()V"⟩
abbrev cX3_draw : ByteArray := prog_5_method_2_code
def yX3_draw : MethodName := ⟨RX3, "draw", "(I)I"⟩
def RX4 : String := "SuetTroubles$Orders"
def TX4 : u_T := fun k => match k with
  | 0 => ("SuetTroubles$Orders", "time", "[I", true)
  | 1 => ("SuetTroubles$Orders", "sum", "I", false)
  | 2 => ("SuetTroubles$Orders", "figures", "I", false)
  | _ => ("SuetTroubles$Orders", "startHour", "I", false)
def tyX4 : Nat → FieldType := fun k => match k with
  | 0 => .array .int
  | 1 => .int
  | 2 => .int
  | _ => .int
abbrev wsX40 : List Cond := u_ws RX4 TX4 4
theorem nmX4 : ∀ a, a < 4 → ∀ b, b < 4 → a ≠ b → (TX4 a).2.1 ≠ (TX4 b).2.1 := by decide +kernel
theorem tyX4_ok : ∀ k, k < 4 → parseFieldDescriptor (TX4 k).2.2.1 = some (tyX4 k) := by decide +kernel
abbrev cX4_init : ByteArray := prog_6_method_1_code
def yX4_init : MethodName := ⟨RX4, "<init>", "()V"⟩
abbrev cX4_find : ByteArray := prog_6_method_2_code
def yX4_find : MethodName := ⟨RX4, "find", "(ILSuetTroubles$Deeds;I)V"⟩
abbrev cX4_tryNext : ByteArray := prog_6_method_3_code
def yX4_tryNext : MethodName := ⟨RX4, "tryNext", "(IIIII)V"⟩
def RX5 : String := "SuetTroubles$Past"
def TX5 : u_T := fun k => match k with
  | 0 => ("SuetTroubles$Past", "undone", "[LSuetTroubles$Scene;", true)
  | 1 => ("SuetTroubles$Past", "image", "[LSuetTroubles$Scene;", true)
  | 2 => ("SuetTroubles$Past", "imageSeed", "[I", true)
  | 3 => ("SuetTroubles$Past", "kept", "[Z", true)
  | 4 => ("SuetTroubles$Past", "oldest", "I", false)
  | _ => ("SuetTroubles$Past", "size", "I", false)
def tyX5 : Nat → FieldType := fun k => match k with
  | 0 => .array (.object "SuetTroubles$Scene")
  | 1 => .array (.object "SuetTroubles$Scene")
  | 2 => .array .int
  | 3 => .array .boolean
  | 4 => .int
  | _ => .int
abbrev wsX50 : List Cond := u_ws RX5 TX5 6
theorem nmX5 : ∀ a, a < 6 → ∀ b, b < 6 → a ≠ b → (TX5 a).2.1 ≠ (TX5 b).2.1 := by decide +kernel
theorem tyX5_ok : ∀ k, k < 6 → parseFieldDescriptor (TX5 k).2.2.1 = some (tyX5 k) := by decide +kernel
abbrev cX5_init : ByteArray := prog_7_method_1_code
def yX5_init : MethodName := ⟨RX5, "<init>", "()V"⟩
abbrev cX5_remember : ByteArray := prog_7_method_2_code
def yX5_remember : MethodName := ⟨RX5, "remember", "(LSuetTroubles$Scene;)V"⟩
abbrev cX5_stepBack : ByteArray := prog_7_method_3_code
def yX5_stepBack : MethodName := ⟨RX5, "stepBack", "(LSuetTroubles$Scene;)V"⟩
abbrev cX5_keepImage : ByteArray := prog_7_method_4_code
def yX5_keepImage : MethodName := ⟨RX5, "keepImage", "(ILSuetTroubles$Scene;LSuetTroubles$Draws;)V"⟩
abbrev cX5_showImage : ByteArray := prog_7_method_5_code
def yX5_showImage : MethodName := ⟨RX5, "showImage", "(ILSuetTroubles$Scene;LSuetTroubles$Draws;)V"⟩
abbrev cX5_forgetAll : ByteArray := prog_7_method_6_code
def yX5_forgetAll : MethodName := ⟨RX5, "forgetAll", "()V"⟩
abbrev cX5_forgetUndone : ByteArray := prog_7_method_7_code
def yX5_forgetUndone : MethodName := ⟨RX5, "forgetUndone", "()V"⟩
def RX6 : String := "SuetTroubles$Plan"
def TX6 : u_T := fun k => match k with
  | 0 => ("SuetTroubles$Plan", "fire", "I", false)
  | 1 => ("SuetTroubles$Plan", "pots", "I", false)
  | 2 => ("SuetTroubles$Plan", "troubles", "I", false)
  | 3 => ("SuetTroubles$Plan", "eaters", "I", false)
  | 4 => ("SuetTroubles$Plan", "kind", "[I", true)
  | 5 => ("SuetTroubles$Plan", "hard", "[I", true)
  | 6 => ("SuetTroubles$Plan", "shape", "[I", true)
  | _ => ("SuetTroubles$Plan", "strength", "[I", true)
def tyX6 : Nat → FieldType := fun k => match k with
  | 0 => .int
  | 1 => .int
  | 2 => .int
  | 3 => .int
  | 4 => .array .int
  | 5 => .array .int
  | 6 => .array .int
  | _ => .array .int
abbrev wsX60 : List Cond := u_ws RX6 TX6 8
theorem nmX6 : ∀ a, a < 8 → ∀ b, b < 8 → a ≠ b → (TX6 a).2.1 ≠ (TX6 b).2.1 := by decide +kernel
theorem tyX6_ok : ∀ k, k < 8 → parseFieldDescriptor (TX6 k).2.2.1 = some (tyX6 k) := by decide +kernel
abbrev cX6_init : ByteArray := prog_8_method_1_code
def yX6_init : MethodName := ⟨RX6, "<init>", "()V"⟩
abbrev cX6_isThere : ByteArray := prog_8_method_2_code
def yX6_isThere : MethodName := ⟨RX6, "isThere", "()Z"⟩
abbrev cX6_hasTrouble : ByteArray := prog_8_method_3_code
def yX6_hasTrouble : MethodName := ⟨RX6, "hasTrouble", "(I)Z"⟩
abbrev cX6_hasEater : ByteArray := prog_8_method_4_code
def yX6_hasEater : MethodName := ⟨RX6, "hasEater", "(I)Z"⟩
abbrev cX6_allTroubles : ByteArray := prog_8_method_5_code
def yX6_allTroubles : MethodName := ⟨RX6, "allTroubles", "()I"⟩
abbrev cX6_clear : ByteArray := prog_8_method_6_code
def yX6_clear : MethodName := ⟨RX6, "clear", "()V"⟩
abbrev cX6_addTrouble : ByteArray := prog_8_method_7_code
def yX6_addTrouble : MethodName := ⟨RX6, "addTrouble", "(III)V"⟩
abbrev cX6_addEater : ByteArray := prog_8_method_8_code
def yX6_addEater : MethodName := ⟨RX6, "addEater", "(I)V"⟩
abbrev cX6_become : ByteArray := prog_8_method_9_code
def yX6_become : MethodName := ⟨RX6, "become", "(LSuetTroubles$Plan;)V"⟩
def RX7 : String := "SuetTroubles$Reader"
def TX7 : u_T := fun k => match k with
  | 0 => ("SuetTroubles$Reader", "letters", "[I", true)
  | 1 => ("SuetTroubles$Reader", "length", "I", false)
  | 2 => ("SuetTroubles$Reader", "faultAt", "I", false)
  | 3 => ("SuetTroubles$Reader", "at", "I", false)
  | _ => ("SuetTroubles$Reader", "fault", "I", false)
def tyX7 : Nat → FieldType := fun k => match k with
  | 0 => .array .int
  | 1 => .int
  | 2 => .int
  | 3 => .int
  | _ => .int
abbrev wsX70 : List Cond := u_ws RX7 TX7 5
theorem nmX7 : ∀ a, a < 5 → ∀ b, b < 5 → a ≠ b → (TX7 a).2.1 ≠ (TX7 b).2.1 := by decide +kernel
theorem tyX7_ok : ∀ k, k < 5 → parseFieldDescriptor (TX7 k).2.2.1 = some (tyX7 k) := by decide +kernel
abbrev cX7_init : ByteArray := prog_9_method_1_code
def yX7_init : MethodName := ⟨RX7, "<init>", "()V"⟩
abbrev cX7_add : ByteArray := prog_9_method_2_code
def yX7_add : MethodName := ⟨RX7, "add", "(I)I"⟩
abbrev cX7_read : ByteArray := prog_9_method_3_code
def yX7_read : MethodName := ⟨RX7, "read", "(LSuetTroubles$Plan;)I"⟩
abbrev cX7_readClause : ByteArray := prog_9_method_4_code
def yX7_readClause : MethodName := ⟨RX7, "readClause", "(LSuetTroubles$Plan;)V"⟩
abbrev cX7_readFire : ByteArray := prog_9_method_5_code
def yX7_readFire : MethodName := ⟨RX7, "readFire", "(LSuetTroubles$Plan;)V"⟩
abbrev cX7_readTrouble : ByteArray := prog_9_method_6_code
def yX7_readTrouble : MethodName := ⟨RX7, "readTrouble", "(LSuetTroubles$Plan;)V"⟩
abbrev cX7_readEater : ByteArray := prog_9_method_7_code
def yX7_readEater : MethodName := ⟨RX7, "readEater", "(LSuetTroubles$Plan;)V"⟩
abbrev cX7_readNumber : ByteArray := prog_9_method_8_code
def yX7_readNumber : MethodName := ⟨RX7, "readNumber", "(II)I"⟩
abbrev cX7_readSign : ByteArray := prog_9_method_9_code
def yX7_readSign : MethodName := ⟨RX7, "readSign", "(I)V"⟩
abbrev cX7_skipBlanks : ByteArray := prog_9_method_10_code
def yX7_skipBlanks : MethodName := ⟨RX7, "skipBlanks", "()V"⟩
abbrev cX7_here : ByteArray := prog_9_method_11_code
def yX7_here : MethodName := ⟨RX7, "here", "()I"⟩
abbrev cX7_isFigure : ByteArray := prog_9_method_12_code
def yX7_isFigure : MethodName := ⟨RX7, "isFigure", "(I)Z"⟩
abbrev cX7_blame : ByteArray := prog_9_method_13_code
def yX7_blame : MethodName := ⟨RX7, "blame", "(II)V"⟩
def RX8 : String := "SuetTroubles$Scene"
def TX8 : u_T := fun k => match k with
  | 0 => ("SuetTroubles$Scene", "hours", "I", false)
  | 1 => ("SuetTroubles$Scene", "sheets", "I", false)
  | 2 => ("SuetTroubles$Scene", "stage", "[I", true)
  | 3 => ("SuetTroubles$Scene", "hard", "[I", true)
  | 4 => ("SuetTroubles$Scene", "shape", "[I", true)
  | _ => ("SuetTroubles$Scene", "load", "[I", true)
def tyX8 : Nat → FieldType := fun k => match k with
  | 0 => .int
  | 1 => .int
  | 2 => .array .int
  | 3 => .array .int
  | 4 => .array .int
  | _ => .array .int
abbrev wsX80 : List Cond := u_ws RX8 TX8 6
theorem nmX8 : ∀ a, a < 6 → ∀ b, b < 6 → a ≠ b → (TX8 a).2.1 ≠ (TX8 b).2.1 := by decide +kernel
theorem tyX8_ok : ∀ k, k < 6 → parseFieldDescriptor (TX8 k).2.2.1 = some (tyX8 k) := by decide +kernel
abbrev cX8_init : ByteArray := prog_10_method_1_code
def yX8_init : MethodName := ⟨RX8, "<init>", "()V"⟩
abbrev cX8_begin : ByteArray := prog_10_method_2_code
def yX8_begin : MethodName := ⟨RX8, "begin", "(LSuetTroubles$Plan;)V"⟩
abbrev cX8_become : ByteArray := prog_10_method_3_code
def yX8_become : MethodName := ⟨RX8, "become", "(LSuetTroubles$Scene;)V"⟩
def RX9 : String := "SuetTroubles$Shapes"
def TX9 : u_T := fun k => match k with
  | _ => ("", "", "", false)
def tyX9 : Nat → FieldType := fun k => match k with
  | _ => .int
abbrev wsX90 : List Cond := u_ws RX9 TX9 0
theorem nmX9 : ∀ a, a < 0 → ∀ b, b < 0 → a ≠ b → (TX9 a).2.1 ≠ (TX9 b).2.1 := by decide +kernel
theorem tyX9_ok : ∀ k, k < 0 → parseFieldDescriptor (TX9 k).2.2.1 = some (tyX9 k) := by decide +kernel
abbrev cX9_has : ByteArray := prog_11_method_2_code
def yX9_has : MethodName := ⟨RX9, "has", "(II)Z"⟩
abbrev cX9_besideIt : ByteArray := prog_11_method_3_code
def yX9_besideIt : MethodName := ⟨RX9, "besideIt", "(II)I"⟩
abbrev cX9_partFrom : ByteArray := prog_11_method_4_code
def yX9_partFrom : MethodName := ⟨RX9, "partFrom", "(II)I"⟩
abbrev cX9_parts : ByteArray := prog_11_method_5_code
def yX9_parts : MethodName := ⟨RX9, "parts", "(I)I"⟩
abbrev cX9_greatestPart : ByteArray := prog_11_method_6_code
def yX9_greatestPart : MethodName := ⟨RX9, "greatestPart", "(I)I"⟩
abbrev cX9_edge : ByteArray := prog_11_method_7_code
def yX9_edge : MethodName := ⟨RX9, "edge", "(I)I"⟩
abbrev cX9_hold : ByteArray := prog_11_method_8_code
def yX9_hold : MethodName := ⟨RX9, "hold", "(I)I"⟩
abbrev cX9_openSides : ByteArray := prog_11_method_9_code
def yX9_openSides : MethodName := ⟨RX9, "openSides", "(II)I"⟩
abbrev cX9_rowOf : ByteArray := prog_11_method_10_code
def yX9_rowOf : MethodName := ⟨RX9, "rowOf", "(II)I"⟩
abbrev cX9_columnsUsed : ByteArray := prog_11_method_11_code
def yX9_columnsUsed : MethodName := ⟨RX9, "columnsUsed", "(I)I"⟩
abbrev cX9_rowsUsed : ByteArray := prog_11_method_12_code
def yX9_rowsUsed : MethodName := ⟨RX9, "rowsUsed", "(I)I"⟩
abbrev cX9_firstOf : ByteArray := prog_11_method_13_code
def yX9_firstOf : MethodName := ⟨RX9, "firstOf", "(I)I"⟩
abbrev cX9_lastOf : ByteArray := prog_11_method_14_code
def yX9_lastOf : MethodName := ⟨RX9, "lastOf", "(I)I"⟩
abbrev cX9_squareSide : ByteArray := prog_11_method_15_code
def yX9_squareSide : MethodName := ⟨RX9, "squareSide", "(I)I"⟩
abbrev cX9_movesDown : ByteArray := prog_11_method_16_code
def yX9_movesDown : MethodName := ⟨RX9, "movesDown", "(I)I"⟩
abbrev cX9_movesRight : ByteArray := prog_11_method_17_code
def yX9_movesRight : MethodName := ⟨RX9, "movesRight", "(I)I"⟩
abbrev cX9_greaterHalf : ByteArray := prog_11_method_18_code
def yX9_greaterHalf : MethodName := ⟨RX9, "greaterHalf", "(II)I"⟩
abbrev cX9_halvingLine : ByteArray := prog_11_method_19_code
def yX9_halvingLine : MethodName := ⟨RX9, "halvingLine", "(I)I"⟩
def RX10 : String := "SuetTroubles$Sheets"
def TX10 : u_T := fun k => match k with
  | 0 => ("SuetTroubles$Sheets", "cost", "[I", false)
  | _ => ("SuetTroubles$Sheets", "nextCost", "[I", false)
def tyX10 : Nat → FieldType := fun k => match k with
  | 0 => .array .int
  | _ => .array .int
abbrev wsX100 : List Cond := u_ws RX10 TX10 2
theorem nmX10 : ∀ a, a < 2 → ∀ b, b < 2 → a ≠ b → (TX10 a).2.1 ≠ (TX10 b).2.1 := by decide +kernel
theorem tyX10_ok : ∀ k, k < 2 → parseFieldDescriptor (TX10 k).2.2.1 = some (tyX10 k) := by decide +kernel
abbrev cX10_init : ByteArray := prog_12_method_1_code
def yX10_init : MethodName := ⟨RX10, "<init>", "()V"⟩
abbrev cX10_fewest : ByteArray := prog_12_method_2_code
def yX10_fewest : MethodName := ⟨RX10, "fewest", "(I)I"⟩
abbrev cX10_addRow : ByteArray := prog_12_method_3_code
def yX10_addRow : MethodName := ⟨RX10, "addRow", "(I)V"⟩
abbrev cX10_covered : ByteArray := prog_12_method_4_code
def yX10_covered : MethodName := ⟨RX10, "covered", "(I)I"⟩
abbrev cX10_first : ByteArray := prog_12_method_5_code
def yX10_first : MethodName := ⟨RX10, "first", "(I)I"⟩
def RX11 : String := "SuetTroubles"
def TX11 : u_T := fun k => match k with
  | 0 => ("SuetTroubles", "reader", "LSuetTroubles$Reader;", true)
  | 1 => ("SuetTroubles", "draft", "LSuetTroubles$Plan;", true)
  | 2 => ("SuetTroubles", "plan", "LSuetTroubles$Plan;", true)
  | 3 => ("SuetTroubles", "scene", "LSuetTroubles$Scene;", true)
  | 4 => ("SuetTroubles", "sheets", "LSuetTroubles$Sheets;", true)
  | 5 => ("SuetTroubles", "draws", "LSuetTroubles$Draws;", true)
  | 6 => ("SuetTroubles", "deeds", "LSuetTroubles$Deeds;", true)
  | 7 => ("SuetTroubles", "past", "LSuetTroubles$Past;", true)
  | 8 => ("SuetTroubles", "orders", "LSuetTroubles$Orders;", true)
  | 9 => ("SuetTroubles", "cloth", "LSuetTroubles$Cloth;", true)
  | 10 => ("SuetTroubles", "book", "LSuetTroubles$Book;", true)
  | _ => ("SuetTroubles", "faultAt", "I", false)
def tyX11 : Nat → FieldType := fun k => match k with
  | 0 => .object "SuetTroubles$Reader"
  | 1 => .object "SuetTroubles$Plan"
  | 2 => .object "SuetTroubles$Plan"
  | 3 => .object "SuetTroubles$Scene"
  | 4 => .object "SuetTroubles$Sheets"
  | 5 => .object "SuetTroubles$Draws"
  | 6 => .object "SuetTroubles$Deeds"
  | 7 => .object "SuetTroubles$Past"
  | 8 => .object "SuetTroubles$Orders"
  | 9 => .object "SuetTroubles$Cloth"
  | 10 => .object "SuetTroubles$Book"
  | _ => .int
abbrev wsX110 : List Cond := u_ws RX11 TX11 12
theorem nmX11 : ∀ a, a < 12 → ∀ b, b < 12 → a ≠ b → (TX11 a).2.1 ≠ (TX11 b).2.1 := by decide +kernel
theorem tyX11_ok : ∀ k, k < 12 → parseFieldDescriptor (TX11 k).2.2.1 = some (tyX11 k) := by decide +kernel
abbrev cX11_init : ByteArray := prog_1_method_1_code
def yX11_init : MethodName := ⟨RX11, "<init>", "()V"⟩
abbrev cX11_feed : ByteArray := prog_1_method_2_code
def yX11_feed : MethodName := ⟨RX11, "feed", "(I)I"⟩
abbrev cX11_kitchen : ByteArray := prog_1_method_3_code
def yX11_kitchen : MethodName := ⟨RX11, "kitchen", "()I"⟩
abbrev cX11_fault : ByteArray := prog_1_method_4_code
def yX11_fault : MethodName := ⟨RX11, "fault", "()I"⟩
abbrev cX11_told : ByteArray := prog_1_method_5_code
def yX11_told : MethodName := ⟨RX11, "told", "(I)I"⟩
abbrev cX11_trouble : ByteArray := prog_1_method_6_code
def yX11_trouble : MethodName := ⟨RX11, "trouble", "(II)I"⟩
abbrev cX11_eater : ByteArray := prog_1_method_7_code
def yX11_eater : MethodName := ⟨RX11, "eater", "(II)I"⟩
abbrev cX11_wrap : ByteArray := prog_1_method_8_code
def yX11_wrap : MethodName := ⟨RX11, "wrap", "(I)I"⟩
abbrev cX11_putOn : ByteArray := prog_1_method_9_code
def yX11_putOn : MethodName := ⟨RX11, "putOn", "(I)I"⟩
abbrev cX11_takeOff : ByteArray := prog_1_method_10_code
def yX11_takeOff : MethodName := ⟨RX11, "takeOff", "(I)I"⟩
abbrev cX11_hour : ByteArray := prog_1_method_11_code
def yX11_hour : MethodName := ⟨RX11, "hour", "(I)I"⟩
abbrev cX11_bear : ByteArray := prog_1_method_12_code
def yX11_bear : MethodName := ⟨RX11, "bear", "(I)I"⟩
abbrev cX11_rest : ByteArray := prog_1_method_13_code
def yX11_rest : MethodName := ⟨RX11, "rest", "()I"⟩
abbrev cX11_cut : ByteArray := prog_1_method_14_code
def yX11_cut : MethodName := ⟨RX11, "cut", "(II)I"⟩
abbrev cX11_drift : ByteArray := prog_1_method_15_code
def yX11_drift : MethodName := ⟨RX11, "drift", "(I)I"⟩
abbrev cX11_undo : ByteArray := prog_1_method_16_code
def yX11_undo : MethodName := ⟨RX11, "undo", "()I"⟩
abbrev cX11_refusalOfHours : ByteArray := prog_1_method_17_code
def yX11_refusalOfHours : MethodName := ⟨RX11, "refusalOfHours", "(I)I"⟩
abbrev cX11_toWrap : ByteArray := prog_1_method_18_code
def yX11_toWrap : MethodName := ⟨RX11, "toWrap", "(II)I"⟩
abbrev cX11_soft : ByteArray := prog_1_method_19_code
def yX11_soft : MethodName := ⟨RX11, "soft", "(II)I"⟩
abbrev cX11_when : ByteArray := prog_1_method_20_code
def yX11_when : MethodName := ⟨RX11, "when", "(I)I"⟩
abbrev cX11_order : ByteArray := prog_1_method_21_code
def yX11_order : MethodName := ⟨RX11, "order", "(II)I"⟩
abbrev cX11_halves : ByteArray := prog_1_method_22_code
def yX11_halves : MethodName := ⟨RX11, "halves", "(II)I"⟩
abbrev cX11_mild : ByteArray := prog_1_method_23_code
def yX11_mild : MethodName := ⟨RX11, "mild", "(II)I"⟩
abbrev cX11_bump : ByteArray := prog_1_method_24_code
def yX11_bump : MethodName := ⟨RX11, "bump", "(IZ)I"⟩
abbrev cX11_write : ByteArray := prog_1_method_25_code
def yX11_write : MethodName := ⟨RX11, "write", "(II)I"⟩
abbrev cX11_tear : ByteArray := prog_1_method_26_code
def yX11_tear : MethodName := ⟨RX11, "tear", "()I"⟩
abbrev cX11_judge : ByteArray := prog_1_method_27_code
def yX11_judge : MethodName := ⟨RX11, "judge", "()I"⟩
abbrev cX11_seed : ByteArray := prog_1_method_28_code
def yX11_seed : MethodName := ⟨RX11, "seed", "(I)I"⟩
abbrev cX11_keep : ByteArray := prog_1_method_29_code
def yX11_keep : MethodName := ⟨RX11, "keep", "(I)I"⟩
abbrev cX11_goBack : ByteArray := prog_1_method_30_code
def yX11_goBack : MethodName := ⟨RX11, "goBack", "(I)I"⟩
def RX12 : String := "SuetTroublesModel"
def TX12 : u_T := fun k => match k with
  | 0 => ("SuetTroublesModel", "letterMany", "I", false)
  | 1 => ("SuetTroublesModel", "text", "[I", true)
  | 2 => ("SuetTroublesModel", "readAt", "I", false)
  | 3 => ("SuetTroublesModel", "numberAt", "I", false)
  | 4 => ("SuetTroublesModel", "readFault", "I", false)
  | 5 => ("SuetTroublesModel", "faultAt", "I", false)
  | 6 => ("SuetTroublesModel", "readHeat", "I", false)
  | 7 => ("SuetTroublesModel", "readPots", "I", false)
  | 8 => ("SuetTroublesModel", "readTroubles", "I", false)
  | 9 => ("SuetTroublesModel", "readEaters", "I", false)
  | 10 => ("SuetTroublesModel", "readKind", "[I", true)
  | 11 => ("SuetTroublesModel", "readHard", "[I", true)
  | 12 => ("SuetTroublesModel", "readShape", "[I", true)
  | 13 => ("SuetTroublesModel", "readStrength", "[I", true)
  | 14 => ("SuetTroublesModel", "heat", "I", false)
  | 15 => ("SuetTroublesModel", "pots", "I", false)
  | 16 => ("SuetTroublesModel", "m", "I", false)
  | 17 => ("SuetTroublesModel", "n", "I", false)
  | 18 => ("SuetTroublesModel", "kinds", "[I", true)
  | 19 => ("SuetTroublesModel", "strengths", "[I", true)
  | 20 => ("SuetTroublesModel", "now", "[I", true)
  | 21 => ("SuetTroublesModel", "undoMany", "I", false)
  | 22 => ("SuetTroublesModel", "undoAt", "I", false)
  | 23 => ("SuetTroublesModel", "undos", "[I", true)
  | 24 => ("SuetTroublesModel", "seeded", "J", false)
  | 25 => ("SuetTroublesModel", "covers", "[I", true)
  | 26 => ("SuetTroublesModel", "bumpMany", "I", false)
  | 27 => ("SuetTroublesModel", "bumpCell", "[I", true)
  | 28 => ("SuetTroublesModel", "bumpIs", "[Z", true)
  | 29 => ("SuetTroublesModel", "fulls", "[I", true)
  | 30 => ("SuetTroublesModel", "bookMany", "I", false)
  | 31 => ("SuetTroublesModel", "bookTrouble", "[I", true)
  | 32 => ("SuetTroublesModel", "bookHard", "[I", true)
  | 33 => ("SuetTroublesModel", "isKept", "[Z", true)
  | 34 => ("SuetTroublesModel", "kept", "[I", true)
  | _ => ("SuetTroublesModel", "keptSeed", "[J", true)
def tyX12 : Nat → FieldType := fun k => match k with
  | 0 => .int
  | 1 => .array .int
  | 2 => .int
  | 3 => .int
  | 4 => .int
  | 5 => .int
  | 6 => .int
  | 7 => .int
  | 8 => .int
  | 9 => .int
  | 10 => .array .int
  | 11 => .array .int
  | 12 => .array .int
  | 13 => .array .int
  | 14 => .int
  | 15 => .int
  | 16 => .int
  | 17 => .int
  | 18 => .array .int
  | 19 => .array .int
  | 20 => .array .int
  | 21 => .int
  | 22 => .int
  | 23 => .array .int
  | 24 => .long
  | 25 => .array .int
  | 26 => .int
  | 27 => .array .int
  | 28 => .array .boolean
  | 29 => .array .int
  | 30 => .int
  | 31 => .array .int
  | 32 => .array .int
  | 33 => .array .boolean
  | 34 => .array .int
  | _ => .array .long
abbrev wsX120 : List Cond := u_ws RX12 TX12 36
theorem nmX12 : ∀ a, a < 36 → ∀ b, b < 36 → a ≠ b → (TX12 a).2.1 ≠ (TX12 b).2.1 := by decide +kernel
theorem tyX12_ok : ∀ k, k < 36 → parseFieldDescriptor (TX12 k).2.2.1 = some (tyX12 k) := by decide +kernel
abbrev cX12_init : ByteArray := prog_14_method_1_code
def yX12_init : MethodName := ⟨RX12, "<init>", "()V"⟩
abbrev cX12_in : ByteArray := prog_14_method_2_code
def yX12_in : MethodName := ⟨RX12, "in", "(III)Z"⟩
abbrev cX12_has : ByteArray := prog_14_method_3_code
def yX12_has : MethodName := ⟨RX12, "has", "(II)Z"⟩
abbrev cX12_bits : ByteArray := prog_14_method_4_code
def yX12_bits : MethodName := ⟨RX12, "bits", "(I)I"⟩
abbrev cX12_feed : ByteArray := prog_14_method_5_code
def yX12_feed : MethodName := ⟨RX12, "feed", "(I)I"⟩
abbrev cX12_letterAt : ByteArray := prog_14_method_6_code
def yX12_letterAt : MethodName := ⟨RX12, "letterAt", "(I)I"⟩
abbrev cX12_nextLetter : ByteArray := prog_14_method_7_code
def yX12_nextLetter : MethodName := ⟨RX12, "nextLetter", "()I"⟩
abbrev cX12_fails : ByteArray := prog_14_method_8_code
def yX12_fails : MethodName := ⟨RX12, "fails", "(II)I"⟩
abbrev cX12_readsNumber : ByteArray := prog_14_method_9_code
def yX12_readsNumber : MethodName := ⟨RX12, "readsNumber", "(II)I"⟩
abbrev cX12_readsSign : ByteArray := prog_14_method_10_code
def yX12_readsSign : MethodName := ⟨RX12, "readsSign", "(I)Z"⟩
abbrev cX12_readsHead : ByteArray := prog_14_method_11_code
def yX12_readsHead : MethodName := ⟨RX12, "readsHead", "()Z"⟩
abbrev cX12_readsTrouble : ByteArray := prog_14_method_12_code
def yX12_readsTrouble : MethodName := ⟨RX12, "readsTrouble", "()Z"⟩
abbrev cX12_readsEater : ByteArray := prog_14_method_13_code
def yX12_readsEater : MethodName := ⟨RX12, "readsEater", "()Z"⟩
abbrev cX12_readsClause : ByteArray := prog_14_method_14_code
def yX12_readsClause : MethodName := ⟨RX12, "readsClause", "()Z"⟩
abbrev cX12_readsKitchen : ByteArray := prog_14_method_15_code
def yX12_readsKitchen : MethodName := ⟨RX12, "readsKitchen", "()Z"⟩
abbrev cX12_kitchen : ByteArray := prog_14_method_16_code
def yX12_kitchen : MethodName := ⟨RX12, "kitchen", "()I"⟩
abbrev cX12_fault : ByteArray := prog_14_method_17_code
def yX12_fault : MethodName := ⟨RX12, "fault", "()I"⟩
abbrev cX12_isKitchen : ByteArray := prog_14_method_18_code
def yX12_isKitchen : MethodName := ⟨RX12, "isKitchen", "()Z"⟩
abbrev cX12_isTrouble : ByteArray := prog_14_method_19_code
def yX12_isTrouble : MethodName := ⟨RX12, "isTrouble", "(I)Z"⟩
abbrev cX12_isEater : ByteArray := prog_14_method_20_code
def yX12_isEater : MethodName := ⟨RX12, "isEater", "(I)Z"⟩
abbrev cX12_are : ByteArray := prog_14_method_21_code
def yX12_are : MethodName := ⟨RX12, "are", "(I)I"⟩
abbrev cX12_isGood : ByteArray := prog_14_method_22_code
def yX12_isGood : MethodName := ⟨RX12, "isGood", "(I)Z"⟩
abbrev cX12_good : ByteArray := prog_14_method_23_code
def yX12_good : MethodName := ⟨RX12, "good", "()I"⟩
abbrev cX12_left : ByteArray := prog_14_method_24_code
def yX12_left : MethodName := ⟨RX12, "left", "(I)I"⟩
abbrev cX12_leftAll : ByteArray := prog_14_method_25_code
def yX12_leftAll : MethodName := ⟨RX12, "leftAll", "()I"⟩
abbrev cX12_strongest : ByteArray := prog_14_method_26_code
def yX12_strongest : MethodName := ⟨RX12, "strongest", "()I"⟩
abbrev cX12_weight : ByteArray := prog_14_method_27_code
def yX12_weight : MethodName := ⟨RX12, "weight", "(I)I"⟩
abbrev cX12_isBearable : ByteArray := prog_14_method_28_code
def yX12_isBearable : MethodName := ⟨RX12, "isBearable", "(I)Z"⟩
abbrev cX12_told : ByteArray := prog_14_method_29_code
def yX12_told : MethodName := ⟨RX12, "told", "(I)I"⟩
abbrev cX12_grown : ByteArray := prog_14_method_30_code
def yX12_grown : MethodName := ⟨RX12, "grown", "(I)I"⟩
abbrev cX12_partOf : ByteArray := prog_14_method_31_code
def yX12_partOf : MethodName := ⟨RX12, "partOf", "(II)I"⟩
abbrev cX12_parts : ByteArray := prog_14_method_32_code
def yX12_parts : MethodName := ⟨RX12, "parts", "(IZ)I"⟩
abbrev cX12_edgeOf : ByteArray := prog_14_method_33_code
def yX12_edgeOf : MethodName := ⟨RX12, "edgeOf", "(II)I"⟩
abbrev cX12_edge : ByteArray := prog_14_method_34_code
def yX12_edge : MethodName := ⟨RX12, "edge", "(I)I"⟩
abbrev cX12_hold : ByteArray := prog_14_method_35_code
def yX12_hold : MethodName := ⟨RX12, "hold", "(I)I"⟩
abbrev cX12_trouble : ByteArray := prog_14_method_36_code
def yX12_trouble : MethodName := ⟨RX12, "trouble", "(II)I"⟩
abbrev cX12_eater : ByteArray := prog_14_method_37_code
def yX12_eater : MethodName := ⟨RX12, "eater", "(II)I"⟩
abbrev cX12_remember : ByteArray := prog_14_method_38_code
def yX12_remember : MethodName := ⟨RX12, "remember", "()V"⟩
abbrev cX12_sheetsFor : ByteArray := prog_14_method_39_code
def yX12_sheetsFor : MethodName := ⟨RX12, "sheetsFor", "(I)I"⟩
abbrev cX12_wraps : ByteArray := prog_14_method_40_code
def yX12_wraps : MethodName := ⟨RX12, "wraps", "(I)I"⟩
abbrev cX12_wrap : ByteArray := prog_14_method_41_code
def yX12_wrap : MethodName := ⟨RX12, "wrap", "(I)I"⟩
abbrev cX12_potsFree : ByteArray := prog_14_method_42_code
def yX12_potsFree : MethodName := ⟨RX12, "potsFree", "()I"⟩
abbrev cX12_putOn : ByteArray := prog_14_method_43_code
def yX12_putOn : MethodName := ⟨RX12, "putOn", "(I)I"⟩
abbrev cX12_takeOff : ByteArray := prog_14_method_44_code
def yX12_takeOff : MethodName := ⟨RX12, "takeOff", "(I)I"⟩
abbrev cX12_softens : ByteArray := prog_14_method_45_code
def yX12_softens : MethodName := ⟨RX12, "softens", "(II)I"⟩
abbrev cX12_less : ByteArray := prog_14_method_46_code
def yX12_less : MethodName := ⟨RX12, "less", "(II)I"⟩
abbrev cX12_passes : ByteArray := prog_14_method_47_code
def yX12_passes : MethodName := ⟨RX12, "passes", "()V"⟩
abbrev cX12_needHours : ByteArray := prog_14_method_48_code
def yX12_needHours : MethodName := ⟨RX12, "needHours", "(I)I"⟩
abbrev cX12_hour : ByteArray := prog_14_method_49_code
def yX12_hour : MethodName := ⟨RX12, "hour", "(I)I"⟩
abbrev cX12_canBeBorne : ByteArray := prog_14_method_50_code
def yX12_canBeBorne : MethodName := ⟨RX12, "canBeBorne", "(I)Z"⟩
abbrev cX12_bears : ByteArray := prog_14_method_51_code
def yX12_bears : MethodName := ⟨RX12, "bears", "(I)V"⟩
abbrev cX12_bear : ByteArray := prog_14_method_52_code
def yX12_bear : MethodName := ⟨RX12, "bear", "(I)I"⟩
abbrev cX12_rests : ByteArray := prog_14_method_53_code
def yX12_rests : MethodName := ⟨RX12, "rests", "()I"⟩
abbrev cX12_rest : ByteArray := prog_14_method_54_code
def yX12_rest : MethodName := ⟨RX12, "rest", "()I"⟩
abbrev cX12_cut : ByteArray := prog_14_method_55_code
def yX12_cut : MethodName := ⟨RX12, "cut", "(II)I"⟩
abbrev cX12_draw : ByteArray := prog_14_method_56_code
def yX12_draw : MethodName := ⟨RX12, "draw", "(I)I"⟩
abbrev cX12_does : ByteArray := prog_14_method_57_code
def yX12_does : MethodName := ⟨RX12, "does", "(II)V"⟩
abbrev cX12_drift : ByteArray := prog_14_method_58_code
def yX12_drift : MethodName := ⟨RX12, "drift", "(I)I"⟩
abbrev cX12_undo : ByteArray := prog_14_method_59_code
def yX12_undo : MethodName := ⟨RX12, "undo", "()I"⟩
abbrev cX12_sheet : ByteArray := prog_14_method_60_code
def yX12_sheet : MethodName := ⟨RX12, "sheet", "(I)I"⟩
abbrev cX12_fewestSheets : ByteArray := prog_14_method_61_code
def yX12_fewestSheets : MethodName := ⟨RX12, "fewestSheets", "(IZ)I"⟩
abbrev cX12_sideOf : ByteArray := prog_14_method_62_code
def yX12_sideOf : MethodName := ⟨RX12, "sideOf", "(I)I"⟩
abbrev cX12_span : ByteArray := prog_14_method_63_code
def yX12_span : MethodName := ⟨RX12, "span", "(I)I"⟩
abbrev cX12_toWrap : ByteArray := prog_14_method_64_code
def yX12_toWrap : MethodName := ⟨RX12, "toWrap", "(II)I"⟩
abbrev cX12_softBehind : ByteArray := prog_14_method_65_code
def yX12_softBehind : MethodName := ⟨RX12, "softBehind", "(II)I"⟩
abbrev cX12_soft : ByteArray := prog_14_method_66_code
def yX12_soft : MethodName := ⟨RX12, "soft", "(II)I"⟩
abbrev cX12_softIn : ByteArray := prog_14_method_67_code
def yX12_softIn : MethodName := ⟨RX12, "softIn", "(II)I"⟩
abbrev cX12_when : ByteArray := prog_14_method_68_code
def yX12_when : MethodName := ⟨RX12, "when", "(I)I"⟩
abbrev cX12_sumOf : ByteArray := prog_14_method_69_code
def yX12_sumOf : MethodName := ⟨RX12, "sumOf", "(II)I"⟩
abbrev cX12_nextFigures : ByteArray := prog_14_method_70_code
def yX12_nextFigures : MethodName := ⟨RX12, "nextFigures", "(II)I"⟩
abbrev cX12_order : ByteArray := prog_14_method_71_code
def yX12_order : MethodName := ⟨RX12, "order", "(II)I"⟩
abbrev cX12_ahead : ByteArray := prog_14_method_72_code
def yX12_ahead : MethodName := ⟨RX12, "ahead", "(II)I"⟩
abbrev cX12_halves : ByteArray := prog_14_method_73_code
def yX12_halves : MethodName := ⟨RX12, "halves", "(II)I"⟩
abbrev cX12_mild : ByteArray := prog_14_method_74_code
def yX12_mild : MethodName := ⟨RX12, "mild", "(II)I"⟩
abbrev cX12_bump : ByteArray := prog_14_method_75_code
def yX12_bump : MethodName := ⟨RX12, "bump", "(IZ)I"⟩
abbrev cX12_moved : ByteArray := prog_14_method_76_code
def yX12_moved : MethodName := ⟨RX12, "moved", "(III)I"⟩
abbrev cX12_fit : ByteArray := prog_14_method_77_code
def yX12_fit : MethodName := ⟨RX12, "fit", "(I)I"⟩
abbrev cX12_within : ByteArray := prog_14_method_78_code
def yX12_within : MethodName := ⟨RX12, "within", "()I"⟩
abbrev cX12_fitMany : ByteArray := prog_14_method_79_code
def yX12_fitMany : MethodName := ⟨RX12, "fitMany", "()I"⟩
abbrev cX12_weave : ByteArray := prog_14_method_80_code
def yX12_weave : MethodName := ⟨RX12, "weave", "()I"⟩
abbrev cX12_write : ByteArray := prog_14_method_81_code
def yX12_write : MethodName := ⟨RX12, "write", "(II)I"⟩
abbrev cX12_tear : ByteArray := prog_14_method_82_code
def yX12_tear : MethodName := ⟨RX12, "tear", "()I"⟩
abbrev cX12_judge : ByteArray := prog_14_method_83_code
def yX12_judge : MethodName := ⟨RX12, "judge", "()I"⟩
abbrev cX12_seed : ByteArray := prog_14_method_84_code
def yX12_seed : MethodName := ⟨RX12, "seed", "(I)I"⟩
abbrev cX12_keep : ByteArray := prog_14_method_85_code
def yX12_keep : MethodName := ⟨RX12, "keep", "(I)I"⟩
abbrev cX12_goBack : ByteArray := prog_14_method_86_code
def yX12_goBack : MethodName := ⟨RX12, "goBack", "(I)I"⟩
def RJ6 : String := "java/lang/Integer"
def TJ6 : u_T := fun k => match k with
  | _ => ("", "", "", false)
def tyJ6 : Nat → FieldType := fun k => match k with
  | _ => .int
abbrev wsJ60 : List Cond := u_ws RJ6 TJ6 0
theorem nmJ6 : ∀ a, a < 0 → ∀ b, b < 0 → a ≠ b → (TJ6 a).2.1 ≠ (TJ6 b).2.1 := by decide +kernel
theorem tyJ6_ok : ∀ k, k < 0 → parseFieldDescriptor (TJ6 k).2.2.1 = some (tyJ6 k) := by decide +kernel
abbrev cJ6_bitCount_0f7a4 : ByteArray := prog_15_method_49_code
def yJ6_bitCount_0f7a4 : MethodName := ⟨RJ6, "bitCount", "(I)I"⟩
def RJ9 : String := "java/lang/Math"
def TJ9 : u_T := fun k => match k with
  | _ => ("", "", "", false)
def tyJ9 : Nat → FieldType := fun k => match k with
  | _ => .int
abbrev wsJ90 : List Cond := u_ws RJ9 TJ9 0
theorem nmJ9 : ∀ a, a < 0 → ∀ b, b < 0 → a ≠ b → (TJ9 a).2.1 ≠ (TJ9 b).2.1 := by decide +kernel
theorem tyJ9_ok : ∀ k, k < 0 → parseFieldDescriptor (TJ9 k).2.2.1 = some (tyJ9 k) := by decide +kernel
abbrev cJ9_max_7cf53 : ByteArray := prog_16_method_65_code
def yJ9_max_7cf53 : MethodName := ⟨RJ9, "max", "(II)I"⟩
abbrev cJ9_min_7cf53 : ByteArray := prog_16_method_69_code
def yJ9_min_7cf53 : MethodName := ⟨RJ9, "min", "(II)I"⟩
def RJ10 : String := "java/lang/System"
def TJ10 : u_T := fun k => match k with
  | _ => ("", "", "", false)
def tyJ10 : Nat → FieldType := fun k => match k with
  | _ => .int
abbrev wsJ100 : List Cond := u_ws RJ10 TJ10 0
theorem nmJ10 : ∀ a, a < 0 → ∀ b, b < 0 → a ≠ b → (TJ10 a).2.1 ≠ (TJ10 b).2.1 := by decide +kernel
theorem tyJ10_ok : ∀ k, k < 0 → parseFieldDescriptor (TJ10 k).2.2.1 = some (tyJ10 k) := by decide +kernel
def RL : String := "SuetTroublesLaw"
abbrev cL_law : ByteArray := code
def yL_law : MethodName := ⟨RL, "law", "([I)Z"⟩
theorem inX0 : ∀ w ∈ wsX00, w ∈ lw_tbl := by decide +kernel
theorem inX1 : ∀ w ∈ wsX10, w ∈ lw_tbl := by decide +kernel
theorem inX2 : ∀ w ∈ wsX20, w ∈ lw_tbl := by decide +kernel
theorem inX3 : ∀ w ∈ wsX30, w ∈ lw_tbl := by decide +kernel
theorem inX4 : ∀ w ∈ wsX40, w ∈ lw_tbl := by decide +kernel
theorem inX5 : ∀ w ∈ wsX50, w ∈ lw_tbl := by decide +kernel
theorem inX6 : ∀ w ∈ wsX60, w ∈ lw_tbl := by decide +kernel
theorem inX7 : ∀ w ∈ wsX70, w ∈ lw_tbl := by decide +kernel
theorem inX8 : ∀ w ∈ wsX80, w ∈ lw_tbl := by decide +kernel
theorem inX10 : ∀ w ∈ wsX100, w ∈ lw_tbl := by decide +kernel
theorem inX11 : ∀ w ∈ wsX110, w ∈ lw_tbl := by decide +kernel
theorem inX12 : ∀ w ∈ wsX120, w ∈ lw_tbl := by decide +kernel
def lw_g : List Cond := lw_tbl.filter goodWord
theorem lw_gIn {w : Cond} (h : w ∈ lw_tbl) (hg : goodWord w = true) : w ∈ lw_g := List.mem_filter.mpr ⟨h, hg⟩
theorem lw_gSub {w : Cond} (h : w ∈ lw_g) : w ∈ lw_tbl := (List.mem_filter.mp h).1
theorem lw_gGood {w : Cond} (h : w ∈ lw_g) : (w.onTables && w.keeps) = true ∨ ∃ ty, w = .arrayClass ty := good_of_word (List.mem_filter.mp h).2
theorem igX0 : ∀ w ∈ wsX00, w ∈ lw_g := by
  intro w h
  exact lw_gIn (inX0 w h) (by have := List.all_eq_true.mp (show wsX00.all goodWord = true by decide +kernel) w h; exact this)
theorem igX1 : ∀ w ∈ wsX10, w ∈ lw_g := by
  intro w h
  exact lw_gIn (inX1 w h) (by have := List.all_eq_true.mp (show wsX10.all goodWord = true by decide +kernel) w h; exact this)
theorem igX2 : ∀ w ∈ wsX20, w ∈ lw_g := by
  intro w h
  exact lw_gIn (inX2 w h) (by have := List.all_eq_true.mp (show wsX20.all goodWord = true by decide +kernel) w h; exact this)
theorem igX3 : ∀ w ∈ wsX30, w ∈ lw_g := by
  intro w h
  exact lw_gIn (inX3 w h) (by have := List.all_eq_true.mp (show wsX30.all goodWord = true by decide +kernel) w h; exact this)
theorem igX4 : ∀ w ∈ wsX40, w ∈ lw_g := by
  intro w h
  exact lw_gIn (inX4 w h) (by have := List.all_eq_true.mp (show wsX40.all goodWord = true by decide +kernel) w h; exact this)
theorem igX5 : ∀ w ∈ wsX50, w ∈ lw_g := by
  intro w h
  exact lw_gIn (inX5 w h) (by have := List.all_eq_true.mp (show wsX50.all goodWord = true by decide +kernel) w h; exact this)
theorem igX6 : ∀ w ∈ wsX60, w ∈ lw_g := by
  intro w h
  exact lw_gIn (inX6 w h) (by have := List.all_eq_true.mp (show wsX60.all goodWord = true by decide +kernel) w h; exact this)
theorem igX7 : ∀ w ∈ wsX70, w ∈ lw_g := by
  intro w h
  exact lw_gIn (inX7 w h) (by have := List.all_eq_true.mp (show wsX70.all goodWord = true by decide +kernel) w h; exact this)
theorem igX8 : ∀ w ∈ wsX80, w ∈ lw_g := by
  intro w h
  exact lw_gIn (inX8 w h) (by have := List.all_eq_true.mp (show wsX80.all goodWord = true by decide +kernel) w h; exact this)
theorem igX10 : ∀ w ∈ wsX100, w ∈ lw_g := by
  intro w h
  exact lw_gIn (inX10 w h) (by have := List.all_eq_true.mp (show wsX100.all goodWord = true by decide +kernel) w h; exact this)
theorem igX11 : ∀ w ∈ wsX110, w ∈ lw_g := by
  intro w h
  exact lw_gIn (inX11 w h) (by have := List.all_eq_true.mp (show wsX110.all goodWord = true by decide +kernel) w h; exact this)
theorem igX12 : ∀ w ∈ wsX120, w ∈ lw_g := by
  intro w h
  exact lw_gIn (inX12 w h) (by have := List.all_eq_true.mp (show wsX120.all goodWord = true by decide +kernel) w h; exact this)
end
section
/-! THE WORLD: all cells made since the base b, in the order of their making; their kinds, and what they hold. -/
abbrev zMI : Type := MethodName × ByteArray × Nat × Option FieldType
abbrev zKd : Type := Nat → Nat × Nat
abbrev zGm : Type := Nat → Nat → Option Nat
abbrev zSg : Type := Nat → Nat → Int32
abbrev zLm : Type := Nat → Nat → Int64
abbrev zDD : Type := va_G × (Nat → ClassId)
def cls12 : List vw_C := [(RX0, TX0, 3), (RX1, TX1, 6), (RX2, TX2, 4), (RX3, TX3, 1), (RX4, TX4, 4), (RX5, TX5, 6), (RX6, TX6, 8), (RX7, TX7, 5), (RX8, TX8, 6), (RX10, TX10, 2), (RX11, TX11, 12), (RX12, TX12, 36)]
def cN (t : Nat) : Nat := match t with
  | 0 => 3 | 1 => 6 | 2 => 4 | 3 => 1 | 4 => 4 | 5 => 6 | 6 => 8 | 7 => 5 | 8 => 6 | 9 => 2 | 10 => 12 | 11 => 36 | _ => 0
def cTy (t : Nat) : Nat → FieldType := match t with
  | 0 => tyX0 | 1 => tyX1 | 2 => tyX2 | 3 => tyX3 | 4 => tyX4 | 5 => tyX5 | 6 => tyX6 | 7 => tyX7 | 8 => tyX8 | 9 => tyX10 | 10 => tyX11 | _ => tyX12
def rv (b : Nat) (r : Option Nat) : Value := va_rf (r.map (fun c => b + c))
def fval (b : Nat) (ty : FieldType) (g : Option Nat) (x : Int32) (y : Int64) : Value := match ty with
  | .int => .int x
  | .long => .long y
  | _ => rv b g
def fldsOf (b t : Nat) (g : Nat → Option Nat) (x : Nat → Int32) (y : Nat → Int64) : List Value := (List.range (cN t)).map (fun j => fval b (cTy t j) (g j) (x j) (y j))
def zEnt (D : zDD) (b : Nat) (k : Nat × Nat) (g : Nat → Option Nat) (x : Nat → Int32) (y : Nat → Int64) : va_E := match k.1 with
  | 0 => .inl (D.2 0, k.2, .inl x)
  | 1 => .inl (D.2 1, k.2, .inl x)
  | 2 => .inl (D.2 2, k.2, .inr (.inl y))
  | 3 => .inl (D.2 3, k.2, .inr (.inr (.inr (.inr (fun j => (g j).map (fun c => b + c))))))
  | t + 4 => .inr (t, fldsOf b t g x y)
def zEE (D : zDD) (b : Nat) (kd : zKd) (γ : zGm) (σ : zSg) (τ : zLm) (c : Nat) : va_E := zEnt D b (kd c) (γ c) (σ c) (τ c)
def wlE (b N : Nat) (F : Nat → va_E) : va_W := (List.range N).map (fun c => (b + c, F c))
abbrev wl (D : zDD) (b N : Nat) (kd : zKd) (γ : zGm) (σ : zSg) (τ : zLm) : va_W := wlE b N (zEE D b kd γ σ τ)
def tysD (D : zDD) : List (ClassId × FieldType) := [(D.2 0, .int), (D.2 1, .boolean), (D.2 2, .long), (D.2 3, .object RX8)]
/-- fz = 0: nothing is said of the heap's size; else it is known (makers need it) -/
def zWd (D : zDD) (b fz N : Nat) (kd : zKd) (γ : zGm) (σ : zSg) (τ : zLm) (U : State) (H : Heap) : Prop := va_P D.1 cls12 (wl D b N kd γ σ τ) H ∧ va_K D.1 cls12 (tysD D) U ∧ (fz = 0 ∨ H.size = b + N)
theorem zWd.moved {D : zDD} {b fz N : Nat} {kd : zKd} {γ : zGm} {σ : zSg} {τ : zLm} {u U : State} {H : Heap} (hvm : u.vm.Alike U.vm) (h : zWd D b fz N kd γ σ τ u H) : zWd D b fz N kd γ σ τ U H := ⟨h.1, h.2.1.moved hvm, h.2.2⟩
theorem wlE_get {b N : Nat} {F : Nat → va_E} {c : Nat} (h : c < N) : (wlE b N F)[c]? = some (b + c, F c) := by
  simp [wlE, List.getElem?_range h]
theorem wlE_D (b N : Nat) (F : Nat → va_E) : va_D (fun q => b ≤ q) (wlE b N F) := by
  have key : ∀ (k : Nat) (q : Nat × va_E), (wlE b N F)[k]? = some q → q.1 = b + k := by
    intro k q hk
    by_cases hl : k < N
    · rw [wlE_get hl] at hk
      cases hk
      rfl
    · rw [List.getElem?_eq_none (by simp [wlE]; omega)] at hk
      cases hk
  refine ⟨fun i j p q hi hj hpq => ?_, fun k q hk => ?_⟩
  · have h1 := key i p hi
    have h2 := key j q hj
    omega
  · show b ≤ q.1
    rw [key k q hk]
    omega
theorem wlE_set {b N : Nat} {F : Nat → va_E} {c : Nat} {e : va_E} : (wlE b N F).set c (b + c, e) = wlE b N (va_up F c e) := by
  apply List.ext_getElem?
  intro j
  by_cases hN : j < N
  · rw [wlE_get hN]
    by_cases hj : j = c
    · subst hj
      rw [List.getElem?_set_self (by simp [wlE]; exact hN)]
      simp [va_up]
    · rw [List.getElem?_set_ne (Ne.symm hj), wlE_get hN]
      simp [va_up, hj]
  · rw [List.getElem?_eq_none (by simp [wlE]; omega), List.getElem?_eq_none (by simp [wlE]; omega)]
theorem wlE_push {b N : Nat} {F : Nat → va_E} {e : va_E} : wlE b N F ++ [(b + N, e)] = wlE b (N + 1) (va_up F N e) := by
  apply List.ext_getElem?
  intro j
  by_cases hN : j < N
  · rw [List.getElem?_append_left (by simp [wlE]; exact hN), wlE_get hN, wlE_get (by omega)]
    simp [va_up, Nat.ne_of_lt hN]
  · rw [List.getElem?_append_right (by simp [wlE]; omega)]
    by_cases hj : j = N
    · subst hj
      rw [wlE_get (by omega)]
      simp [wlE, va_up]
    · rw [List.getElem?_eq_none (by simp [wlE]; omega), List.getElem?_eq_none (by simp [wlE]; omega)]
/-- a store of one slot -/
def st2 {α : Type} (f : Nat → Nat → α) (c j : Nat) (v : α) : Nat → Nat → α := va_up f c (va_up (f c) j v)
theorem zEE_σ {D : zDD} {b : Nat} {kd : zKd} {γ : zGm} {σ : zSg} {τ : zLm} {c : Nat} {f : Nat → Int32} : va_up (zEE D b kd γ σ τ) c (zEnt D b (kd c) (γ c) f (τ c)) = zEE D b kd γ (va_up σ c f) τ := by
  funext q
  by_cases h : q = c
  · subst h; simp [zEE, va_up]
  · simp [zEE, va_up, h]
theorem zEE_τ {D : zDD} {b : Nat} {kd : zKd} {γ : zGm} {σ : zSg} {τ : zLm} {c : Nat} {f : Nat → Int64} : va_up (zEE D b kd γ σ τ) c (zEnt D b (kd c) (γ c) (σ c) f) = zEE D b kd γ σ (va_up τ c f) := by
  funext q
  by_cases h : q = c
  · subst h; simp [zEE, va_up]
  · simp [zEE, va_up, h]
theorem zEE_γ {D : zDD} {b : Nat} {kd : zKd} {γ : zGm} {σ : zSg} {τ : zLm} {c : Nat} {f : Nat → Option Nat} : va_up (zEE D b kd γ σ τ) c (zEnt D b (kd c) f (σ c) (τ c)) = zEE D b kd (va_up γ c f) σ τ := by
  funext q
  by_cases h : q = c
  · subst h; simp [zEE, va_up]
  · simp [zEE, va_up, h]
theorem zEE_new {D : zDD} {b : Nat} {kd : zKd} {γ : zGm} {σ : zSg} {τ : zLm} {c : Nat} {k : Nat × Nat} {g : Nat → Option Nat} {x : Nat → Int32} {y : Nat → Int64} : va_up (zEE D b kd γ σ τ) c (zEnt D b k g x y) = zEE D b (va_up kd c k) (va_up γ c g) (va_up σ c x) (va_up τ c y) := by
  funext q
  by_cases h : q = c
  · subst h; simp [zEE, va_up]
  · simp [zEE, va_up, h]
theorem flds_get {b t : Nat} {g : Nat → Option Nat} {x : Nat → Int32} {y : Nat → Int64} {j : Nat} (h : j < cN t) : (fldsOf b t g x y)[j]? = some (fval b (cTy t j) (g j) (x j) (y j)) := by
  simp [fldsOf, List.getElem?_range h]
theorem flds_len {b t : Nat} {g : Nat → Option Nat} {x : Nat → Int32} {y : Nat → Int64} : (fldsOf b t g x y).length = cN t := by simp [fldsOf]
theorem flds_set {b t : Nat} {g g' : Nat → Option Nat} {x x' : Nat → Int32} {y y' : Nat → Int64} {j : Nat} {v : Value} (hv : fval b (cTy t j) (g' j) (x' j) (y' j) = v) (ho : ∀ i, i ≠ j → g' i = g i ∧ x' i = x i ∧ y' i = y i) : (fldsOf b t g x y).set j v = fldsOf b t g' x' y' := by
  apply List.ext_getElem?
  intro i
  by_cases hN : i < cN t
  · rw [flds_get hN]
    by_cases hj : i = j
    · subst hj
      rw [List.getElem?_set_self (by rw [flds_len]; exact hN), hv]
    · rw [List.getElem?_set_ne (Ne.symm hj), flds_get hN, (ho i hj).1, (ho i hj).2.1, (ho i hj).2.2]
  · rw [List.getElem?_eq_none (by rw [List.length_set, flds_len]; omega), List.getElem?_eq_none (by rw [flds_len]; omega)]
theorem cls_N {t : Nat} {C : String} {T : u_T} {n : Nat} (h : cls12[t]? = some (C, T, n)) : cN t = n ∧ (∀ w ∈ u_ws C T n, w ∈ lw_g) ∧ (∀ k, k < n → parseFieldDescriptor (T k).2.2.1 = some (cTy t k)) ∧ (∀ a, a < n → ∀ b, b < n → a ≠ b → (T a).2.1 ≠ (T b).2.1) := by
  match t, h with
  | 0, h => cases h; exact ⟨rfl, igX0, tyX0_ok, nmX0⟩
  | 1, h => cases h; exact ⟨rfl, igX1, tyX1_ok, nmX1⟩
  | 2, h => cases h; exact ⟨rfl, igX2, tyX2_ok, nmX2⟩
  | 3, h => cases h; exact ⟨rfl, igX3, tyX3_ok, nmX3⟩
  | 4, h => cases h; exact ⟨rfl, igX4, tyX4_ok, nmX4⟩
  | 5, h => cases h; exact ⟨rfl, igX5, tyX5_ok, nmX5⟩
  | 6, h => cases h; exact ⟨rfl, igX6, tyX6_ok, nmX6⟩
  | 7, h => cases h; exact ⟨rfl, igX7, tyX7_ok, nmX7⟩
  | 8, h => cases h; exact ⟨rfl, igX8, tyX8_ok, nmX8⟩
  | 9, h => cases h; exact ⟨rfl, igX10, tyX10_ok, nmX10⟩
  | 10, h => cases h; exact ⟨rfl, igX11, tyX11_ok, nmX11⟩
  | 11, h => cases h; exact ⟨rfl, igX12, tyX12_ok, nmX12⟩
  | t + 12, h => simp [cls12] at h
end
section
/-! THE JUDGEMENT zA: a method at a place, with its locals and stack, in a world; and its rows, one an instruction. -/
def nestL : List Cond := [.methodLinkNest "SuetTroubles" 9 ⟨"SuetTroubles$Reader", "<init>", "()V"⟩ "SuetTroubles", .methodLinkNest "SuetTroubles" 18 ⟨"SuetTroubles$Plan", "<init>", "()V"⟩ "SuetTroubles", .methodLinkNest "SuetTroubles" 28 ⟨"SuetTroubles$Scene", "<init>", "()V"⟩ "SuetTroubles", .methodLinkNest "SuetTroubles" 35 ⟨"SuetTroubles$Sheets", "<init>", "()V"⟩ "SuetTroubles", .methodLinkNest "SuetTroubles" 42 ⟨"SuetTroubles$Draws", "<init>", "()V"⟩ "SuetTroubles", .methodLinkNest "SuetTroubles$Past" 28 ⟨"SuetTroubles$Scene", "<init>", "()V"⟩ "SuetTroubles", .methodLinkNest "SuetTroubles" 65 ⟨"SuetTroubles$Orders", "<init>", "()V"⟩ "SuetTroubles", .methodLinkNest "SuetTroubles" 72 ⟨"SuetTroubles$Cloth", "<init>", "()V"⟩ "SuetTroubles", .methodLinkNest "SuetTroubles" 79 ⟨"SuetTroubles$Book", "<init>", "()V"⟩ "SuetTroubles"]
def zNW (U : State) : Prop := (∀ w ∈ nestL, va_Nw w U) ∧ va_AO RX8 U
theorem zNW.warm {s U : State} (hW : s.WarmedH U.vm) (h : zNW s) : zNW U := by
  refine ⟨fun w hw => ?_, h.2.moved hW.alike⟩
  have h1 := h.1 w hw
  simp only [nestL, List.mem_cons, List.not_mem_nil, or_false] at hw
  rcases hw with rfl | rfl | rfl | rfl | rfl | rfl | rfl | rfl | rfl <;> exact va_Nw.warmM hW h1
theorem zNW.same {u U : State} (e : u.vm = U.vm) (h : zNW u) : zNW U := by
  refine ⟨fun w hw => ?_, h.2.moved (by rw [e]; exact Vm.Alike.refl _)⟩
  have h1 := h.1 w hw
  simp only [nestL, List.mem_cons, List.not_mem_nil, or_false] at hw
  rcases hw with rfl | rfl | rfl | rfl | rfl | rfl | rfl | rfl | rfl <;> exact va_Nw.same rfl e h1
def zCx (b : Nat) (M : zMI) (h kc ks : Nat) (p : Program) (R : Room) (s : State) (m : MethodId) (args : Array Value) (meth : Method) (c : Code) : Prop :=
  p.tables.exec = Jvm.exec ∧ c.code = M.2.1 ∧ meth.sig.returnType = M.2.2.2 ∧ c.maxLocals = M.2.2.1 ∧ s.vm.findClass M.1.cls = some m.cls ∧ (∀ w ∈ lw_g, w.before args s = true) ∧ meth.locks = false ∧ meth.name = M.1.name ∧ b ≤ s.heap.size ∧ h ≤ R.frames ∧ 40 * h ≤ R.locals ∧ kc ≤ R.cells ∧ ks ≤ R.slots ∧ zNW s
abbrev zZZ : Type := Array Value → State → List Frame → State → Prop
def zA (l : Launch) (D : zDD) (b : Nat) (M : zMI) (h fz kc ks : Nat) (Z : zZZ) (pc : Nat) (lv : List (Nat × Value)) (stk : List Value) (k n N : Nat) (kd : zKd) (γ : zGm) (σ : zSg) (τ : zLm) : Prop :=
  ∀ (p : Program) (e : Env) (R : Room) (s : State) (m : MethodId) (args : Array Value) (below : List Frame) (meth : Method) (c : Code), zCx b M h kc ks p R s m args meth c →
  ∀ (H : Heap) (locs : List Loc) (ls : Array Slot), lv_has ls M.2.2.1 lv → zWd D b fz N kd γ σ τ s H → va_S (fun q => b ≤ q) s.heap H locs → W p l e R s m args below meth c H locs k n (Z args s below) (F0 m pc ls stk)
section ROWS
variable {l : Launch} {D : zDD} {b : Nat} {M : zMI} {h fz kc ks : Nat} {Z : zZZ} {pc : Nat} {lv lv' : List (Nat × Value)} {stk : List Value} {k n N : Nat} {kd : zKd} {γ : zGm} {σ : zSg} {τ : zLm}
theorem r_iadd {x y : Int32} (hd : decode M.2.1 pc = .ok (.iadd, 1)) (a : zA l D b M h fz kc ks Z (pc + 1) lv (.int (x + y) :: stk) k n N kd γ σ τ) : zA l D b M h fz kc ks Z pc lv (.int y :: .int x :: stk) k n N kd γ σ τ :=
  fun p e R s m args below meth c C H locs ls hl hW hS => lv_iadd C.1 C.2.1 hd (a p e R s m args below meth c C H locs ls hl hW hS)
theorem r_isub {x y : Int32} (hd : decode M.2.1 pc = .ok (.isub, 1)) (a : zA l D b M h fz kc ks Z (pc + 1) lv (.int (x - y) :: stk) k n N kd γ σ τ) : zA l D b M h fz kc ks Z pc lv (.int y :: .int x :: stk) k n N kd γ σ τ :=
  fun p e R s m args below meth c C H locs ls hl hW hS => lv_isub C.1 C.2.1 hd (a p e R s m args below meth c C H locs ls hl hW hS)
theorem r_imul {x y : Int32} (hd : decode M.2.1 pc = .ok (.imul, 1)) (a : zA l D b M h fz kc ks Z (pc + 1) lv (.int (x * y) :: stk) k n N kd γ σ τ) : zA l D b M h fz kc ks Z pc lv (.int y :: .int x :: stk) k n N kd γ σ τ :=
  fun p e R s m args below meth c C H locs ls hl hW hS => lv_imul C.1 C.2.1 hd (a p e R s m args below meth c C H locs ls hl hW hS)
theorem r_iand {x y : Int32} (hd : decode M.2.1 pc = .ok (.iand, 1)) (a : zA l D b M h fz kc ks Z (pc + 1) lv (.int (x &&& y) :: stk) k n N kd γ σ τ) : zA l D b M h fz kc ks Z pc lv (.int y :: .int x :: stk) k n N kd γ σ τ :=
  fun p e R s m args below meth c C H locs ls hl hW hS => lv_iand C.1 C.2.1 hd (a p e R s m args below meth c C H locs ls hl hW hS)
theorem r_ior {x y : Int32} (hd : decode M.2.1 pc = .ok (.ior, 1)) (a : zA l D b M h fz kc ks Z (pc + 1) lv (.int (x ||| y) :: stk) k n N kd γ σ τ) : zA l D b M h fz kc ks Z pc lv (.int y :: .int x :: stk) k n N kd γ σ τ :=
  fun p e R s m args below meth c C H locs ls hl hW hS => lv_ior C.1 C.2.1 hd (a p e R s m args below meth c C H locs ls hl hW hS)
theorem r_ixor {x y : Int32} (hd : decode M.2.1 pc = .ok (.ixor, 1)) (a : zA l D b M h fz kc ks Z (pc + 1) lv (.int (x ^^^ y) :: stk) k n N kd γ σ τ) : zA l D b M h fz kc ks Z pc lv (.int y :: .int x :: stk) k n N kd γ σ τ :=
  fun p e R s m args below meth c C H locs ls hl hW hS => lv_ixor C.1 C.2.1 hd (a p e R s m args below meth c C H locs ls hl hW hS)
theorem r_idiv {x y : Int32} (hd : decode M.2.1 pc = .ok (.idiv, 1)) (hne : ¬ y = 0) (a : zA l D b M h fz kc ks Z (pc + 1) lv (.int (x / y) :: stk) k n N kd γ σ τ) : zA l D b M h fz kc ks Z pc lv (.int y :: .int x :: stk) k n N kd γ σ τ :=
  fun p e R s m args below meth c C H locs ls hl hW hS => lv_idiv C.1 C.2.1 hd hne (a p e R s m args below meth c C H locs ls hl hW hS)
theorem r_irem {x y : Int32} (hd : decode M.2.1 pc = .ok (.irem, 1)) (hne : ¬ y = 0) (a : zA l D b M h fz kc ks Z (pc + 1) lv (.int (x - x / y * y) :: stk) k n N kd γ σ τ) : zA l D b M h fz kc ks Z pc lv (.int y :: .int x :: stk) k n N kd γ σ τ :=
  fun p e R s m args below meth c C H locs ls hl hW hS => lv_irem C.1 C.2.1 hd hne (a p e R s m args below meth c C H locs ls hl hW hS)
theorem r_ineg {x : Int32} (hd : decode M.2.1 pc = .ok (.ineg, 1)) (a : zA l D b M h fz kc ks Z (pc + 1) lv (.int (-x) :: stk) k n N kd γ σ τ) : zA l D b M h fz kc ks Z pc lv (.int x :: stk) k n N kd γ σ τ :=
  fun p e R s m args below meth c C H locs ls hl hW hS => lv_ineg C.1 C.2.1 hd (a p e R s m args below meth c C H locs ls hl hW hS)
theorem r_ishl {x y : Int32} (hd : decode M.2.1 pc = .ok (.ishl, 1)) (a : zA l D b M h fz kc ks Z (pc + 1) lv (.int (x <<< (y &&& 31)) :: stk) k n N kd γ σ τ) : zA l D b M h fz kc ks Z pc lv (.int y :: .int x :: stk) k n N kd γ σ τ :=
  fun p e R s m args below meth c C H locs ls hl hW hS => lv_ishl C.1 C.2.1 hd (a p e R s m args below meth c C H locs ls hl hW hS)
theorem r_ishr {x y : Int32} (hd : decode M.2.1 pc = .ok (.ishr, 1)) (a : zA l D b M h fz kc ks Z (pc + 1) lv (.int (x >>> (y &&& 31)) :: stk) k n N kd γ σ τ) : zA l D b M h fz kc ks Z pc lv (.int y :: .int x :: stk) k n N kd γ σ τ :=
  fun p e R s m args below meth c C H locs ls hl hW hS => lv_ishr C.1 C.2.1 hd (a p e R s m args below meth c C H locs ls hl hW hS)
theorem r_iushr {x y : Int32} (hd : decode M.2.1 pc = .ok (.iushr, 1)) (a : zA l D b M h fz kc ks Z (pc + 1) lv (.int ((x.toUInt32 >>> (y.toUInt32 &&& Int32.toUInt32 31)).toInt32) :: stk) k n N kd γ σ τ) : zA l D b M h fz kc ks Z pc lv (.int y :: .int x :: stk) k n N kd γ σ τ :=
  fun p e R s m args below meth c C H locs ls hl hW hS => lv_iushr C.1 C.2.1 hd rfl (a p e R s m args below meth c C H locs ls hl hW hS)
theorem r_ladd {x y : Int64} (hd : decode M.2.1 pc = .ok (.ladd, 1)) (a : zA l D b M h fz kc ks Z (pc + 1) lv (.long (x + y) :: stk) k n N kd γ σ τ) : zA l D b M h fz kc ks Z pc lv (.long y :: .long x :: stk) k n N kd γ σ τ :=
  fun p e R s m args below meth c C H locs ls hl hW hS => lv_ladd C.1 C.2.1 hd (a p e R s m args below meth c C H locs ls hl hW hS)
theorem r_lmul {x y : Int64} (hd : decode M.2.1 pc = .ok (.lmul, 1)) (a : zA l D b M h fz kc ks Z (pc + 1) lv (.long (x * y) :: stk) k n N kd γ σ τ) : zA l D b M h fz kc ks Z pc lv (.long y :: .long x :: stk) k n N kd γ σ τ :=
  fun p e R s m args below meth c C H locs ls hl hW hS => lv_lmul C.1 C.2.1 hd (a p e R s m args below meth c C H locs ls hl hW hS)
theorem r_ldiv {x y : Int64} (hd : decode M.2.1 pc = .ok (.ldiv, 1)) (hne : ¬ y = 0) (a : zA l D b M h fz kc ks Z (pc + 1) lv (.long (x / y) :: stk) k n N kd γ σ τ) : zA l D b M h fz kc ks Z pc lv (.long y :: .long x :: stk) k n N kd γ σ τ :=
  fun p e R s m args below meth c C H locs ls hl hW hS => lv_ldiv C.1 C.2.1 hd hne (a p e R s m args below meth c C H locs ls hl hW hS)
theorem r_lrem {x y : Int64} (hd : decode M.2.1 pc = .ok (.lrem, 1)) (hne : ¬ y = 0) (a : zA l D b M h fz kc ks Z (pc + 1) lv (.long (x - x / y * y) :: stk) k n N kd γ σ τ) : zA l D b M h fz kc ks Z pc lv (.long y :: .long x :: stk) k n N kd γ σ τ :=
  fun p e R s m args below meth c C H locs ls hl hW hS => lv_lrem C.1 C.2.1 hd hne (a p e R s m args below meth c C H locs ls hl hW hS)
theorem r_i2l {x : Int32} (hd : decode M.2.1 pc = .ok (.i2l, 1)) (a : zA l D b M h fz kc ks Z (pc + 1) lv (.long x.toInt64 :: stk) k n N kd γ σ τ) : zA l D b M h fz kc ks Z pc lv (.int x :: stk) k n N kd γ σ τ :=
  fun p e R s m args below meth c C H locs ls hl hW hS => lv_i2l C.1 C.2.1 hd rfl (a p e R s m args below meth c C H locs ls hl hW hS)
theorem r_l2i {x : Int64} (hd : decode M.2.1 pc = .ok (.l2i, 1)) (a : zA l D b M h fz kc ks Z (pc + 1) lv (.int x.toInt32 :: stk) k n N kd γ σ τ) : zA l D b M h fz kc ks Z pc lv (.long x :: stk) k n N kd γ σ τ :=
  fun p e R s m args below meth c C H locs ls hl hW hS => lv_l2i C.1 C.2.1 hd rfl (a p e R s m args below meth c C H locs ls hl hW hS)
theorem r_dup {va : Value} (hd : decode M.2.1 pc = .ok (.dup, 1)) (hva : va.category = 1) (a : zA l D b M h fz kc ks Z (pc + 1) lv (va :: va :: stk) k n N kd γ σ τ) : zA l D b M h fz kc ks Z pc lv (va :: stk) k n N kd γ σ τ :=
  fun p e R s m args below meth c C H locs ls hl hW hS => lv_dup C.1 C.2.1 hd hva (a p e R s m args below meth c C H locs ls hl hW hS)
theorem r_pop {va : Value} (hd : decode M.2.1 pc = .ok (.pop, 1)) (hva : va.category = 1) (a : zA l D b M h fz kc ks Z (pc + 1) lv (stk) k n N kd γ σ τ) : zA l D b M h fz kc ks Z pc lv (va :: stk) k n N kd γ σ τ :=
  fun p e R s m args below meth c C H locs ls hl hW hS => lv_pop C.1 C.2.1 hd hva (a p e R s m args below meth c C H locs ls hl hW hS)
theorem r_dup2 {va vb : Value} (hd : decode M.2.1 pc = .ok (.dup2, 1)) (hva : va.category = 1) (hvb : vb.category = 1) (a : zA l D b M h fz kc ks Z (pc + 1) lv (va :: vb :: va :: vb :: stk) k n N kd γ σ τ) : zA l D b M h fz kc ks Z pc lv (va :: vb :: stk) k n N kd γ σ τ :=
  fun p e R s m args below meth c C H locs ls hl hW hS => lv_dup2_11 C.1 C.2.1 hd hva hvb (a p e R s m args below meth c C H locs ls hl hW hS)
theorem r_iconst {z : Int} {v : Int32} (hd : decode M.2.1 pc = .ok (.iconst z, 1)) (hv : Int32.ofInt z = v) (a : zA l D b M h fz kc ks Z (pc + 1) lv (.int v :: stk) k n N kd γ σ τ) : zA l D b M h fz kc ks Z pc lv (stk) k n N kd γ σ τ :=
  fun p e R s m args below meth c C H locs ls hl hW hS => lv_iconst C.1 C.2.1 hd hv (a p e R s m args below meth c C H locs ls hl hW hS)
theorem r_bipush {z : Int} {v : Int32} (hd : decode M.2.1 pc = .ok (.bipush z, 2)) (hv : (Int8.ofInt z).toInt32 = v) (a : zA l D b M h fz kc ks Z (pc + 2) lv (.int v :: stk) k n N kd γ σ τ) : zA l D b M h fz kc ks Z pc lv (stk) k n N kd γ σ τ :=
  fun p e R s m args below meth c C H locs ls hl hW hS => lv_bipush C.1 C.2.1 hd hv (a p e R s m args below meth c C H locs ls hl hW hS)
theorem r_sipush {z : Int} {v : Int32} (hd : decode M.2.1 pc = .ok (.sipush z, 3)) (hv : (Int16.ofInt z).toInt32 = v) (a : zA l D b M h fz kc ks Z (pc + 3) lv (.int v :: stk) k n N kd γ σ τ) : zA l D b M h fz kc ks Z pc lv (stk) k n N kd γ σ τ :=
  fun p e R s m args below meth c C H locs ls hl hW hS => lv_sipush C.1 C.2.1 hd hv (a p e R s m args below meth c C H locs ls hl hW hS)
theorem r_ldc {own : String} {index : Nat} {v : Int32} (ho : M.1.cls = own) (hw : Cond.constant own index v ∈ lw_tbl) (hg : goodWord (Cond.constant own index v) = true) (hd : decode M.2.1 pc = .ok (.ldc index, 2)) (a : zA l D b M h fz kc ks Z (pc + 2) lv (.int v :: stk) k n N kd γ σ τ) : zA l D b M h fz kc ks Z pc lv stk k n N kd γ σ τ := by
  subst ho
  exact fun p e R s m args below meth c C H locs ls hl hW hS => lv_ldc C.1 C.2.1 C.2.2.2.2.1 (C.2.2.2.2.2.1 _ (lw_gIn hw hg)) hd (a p e R s m args below meth c C H locs ls hl hW hS)
theorem r_ldcw {own : String} {index : Nat} {v : Int32} (ho : M.1.cls = own) (hw : Cond.constant own index v ∈ lw_tbl) (hg : goodWord (Cond.constant own index v) = true) (hd : decode M.2.1 pc = .ok (.ldc_w index, 3)) (a : zA l D b M h fz kc ks Z (pc + 3) lv (.int v :: stk) k n N kd γ σ τ) : zA l D b M h fz kc ks Z pc lv stk k n N kd γ σ τ := by
  subst ho
  exact fun p e R s m args below meth c C H locs ls hl hW hS => lv_ldcw C.1 C.2.1 C.2.2.2.2.1 (C.2.2.2.2.2.1 _ (lw_gIn hw hg)) hd (a p e R s m args below meth c C H locs ls hl hW hS)
theorem r_ldc2 {own : String} {index : Nat} {v : Int64} (ho : M.1.cls = own) (hw : Cond.constantLong own index v ∈ lw_tbl) (hg : goodWord (Cond.constantLong own index v) = true) (hd : decode M.2.1 pc = .ok (.ldc2_w index, 3)) (a : zA l D b M h fz kc ks Z (pc + 3) lv (.long v :: stk) k n N kd γ σ τ) : zA l D b M h fz kc ks Z pc lv stk k n N kd γ σ τ := by
  subst ho
  exact fun p e R s m args below meth c C H locs ls hl hW hS => lv_ldc2 C.1 C.2.1 C.2.2.2.2.1 (C.2.2.2.2.2.1 _ (lw_gIn hw hg)) hd (a p e R s m args below meth c C H locs ls hl hW hS)
theorem r_iload_n (q : Nat) {f : Fin 4} {i : Nat} {x : Int32} (hd : decode M.2.1 pc = .ok (.iload_n f, 1)) (hf : (f : Nat) = i) (hq : lv[q]? = some (i, .int x)) (a : zA l D b M h fz kc ks Z (pc + 1) lv (.int x :: stk) k n N kd γ σ τ) : zA l D b M h fz kc ks Z pc lv stk k n N kd γ σ τ :=
  fun p e R s m args below meth c C H locs ls hl hW hS => lv_iload_n C.1 C.2.1 hd hf (lv_at hl q hq) (a p e R s m args below meth c C H locs ls hl hW hS)
theorem r_iload (q : Nat) {i : Nat} {x : Int32} (hd : decode M.2.1 pc = .ok (.iload i, 2)) (hq : lv[q]? = some (i, .int x)) (a : zA l D b M h fz kc ks Z (pc + 2) lv (.int x :: stk) k n N kd γ σ τ) : zA l D b M h fz kc ks Z pc lv stk k n N kd γ σ τ :=
  fun p e R s m args below meth c C H locs ls hl hW hS => lv_iload C.1 C.2.1 hd (lv_at hl q hq) (a p e R s m args below meth c C H locs ls hl hW hS)
theorem r_istore_n {f : Fin 4} {i : Nat} {x : Int32} (hd : decode M.2.1 pc = .ok (.istore_n f, 1)) (hf : (f : Nat) = i) (hn : i < M.2.2.1) (hl0 : (i, (.int x : Value)) :: lv.filter (fun q => !(q.1 == i) && !(q.1 + 1 == i && q.2.category == 2)) = lv') (a : zA l D b M h fz kc ks Z (pc + 1) lv' stk k n N kd γ σ τ) : zA l D b M h fz kc ks Z pc lv (.int x :: stk) k n N kd γ σ τ :=
  fun p e R s m args below meth c C H locs ls hl hW hS => lv_istore_n C.1 C.2.1 hd hf hl hn hl0 (fun ls' hl' => a p e R s m args below meth c C H locs ls' hl' hW hS)
theorem r_istore {i : Nat} {x : Int32} (hd : decode M.2.1 pc = .ok (.istore i, 2)) (hn : i < M.2.2.1) (hl0 : (i, (.int x : Value)) :: lv.filter (fun q => !(q.1 == i) && !(q.1 + 1 == i && q.2.category == 2)) = lv') (a : zA l D b M h fz kc ks Z (pc + 2) lv' stk k n N kd γ σ τ) : zA l D b M h fz kc ks Z pc lv (.int x :: stk) k n N kd γ σ τ :=
  fun p e R s m args below meth c C H locs ls hl hW hS => lv_istore C.1 C.2.1 hd hl hn hl0 (fun ls' hl' => a p e R s m args below meth c C H locs ls' hl' hW hS)
theorem r_lload_n (q : Nat) {f : Fin 4} {i : Nat} {x : Int64} (hd : decode M.2.1 pc = .ok (.lload_n f, 1)) (hf : (f : Nat) = i) (hq : lv[q]? = some (i, .long x)) (a : zA l D b M h fz kc ks Z (pc + 1) lv (.long x :: stk) k n N kd γ σ τ) : zA l D b M h fz kc ks Z pc lv stk k n N kd γ σ τ :=
  fun p e R s m args below meth c C H locs ls hl hW hS => lv_lload_n C.1 C.2.1 hd hf (lv_at hl q hq) (a p e R s m args below meth c C H locs ls hl hW hS)
theorem r_lload (q : Nat) {i : Nat} {x : Int64} (hd : decode M.2.1 pc = .ok (.lload i, 2)) (hq : lv[q]? = some (i, .long x)) (a : zA l D b M h fz kc ks Z (pc + 2) lv (.long x :: stk) k n N kd γ σ τ) : zA l D b M h fz kc ks Z pc lv stk k n N kd γ σ τ :=
  fun p e R s m args below meth c C H locs ls hl hW hS => lv_lload C.1 C.2.1 hd (lv_at hl q hq) (a p e R s m args below meth c C H locs ls hl hW hS)
theorem r_lstore_n {f : Fin 4} {i : Nat} {x : Int64} (hd : decode M.2.1 pc = .ok (.lstore_n f, 1)) (hf : (f : Nat) = i) (hn : i + 1 < M.2.2.1) (hl0 : (i, (.long x : Value)) :: lv.filter (fun q => !(q.1 == i) && (!(q.1 == i + 1) && !(q.1 + 1 == i && q.2.category == 2))) = lv') (a : zA l D b M h fz kc ks Z (pc + 1) lv' stk k n N kd γ σ τ) : zA l D b M h fz kc ks Z pc lv (.long x :: stk) k n N kd γ σ τ :=
  fun p e R s m args below meth c C H locs ls hl hW hS => lv_lstore_n C.1 C.2.1 hd hf hl hn hl0 (fun ls' hl' => a p e R s m args below meth c C H locs ls' hl' hW hS)
theorem r_lstore {i : Nat} {x : Int64} (hd : decode M.2.1 pc = .ok (.lstore i, 2)) (hn : i + 1 < M.2.2.1) (hl0 : (i, (.long x : Value)) :: lv.filter (fun q => !(q.1 == i) && (!(q.1 == i + 1) && !(q.1 + 1 == i && q.2.category == 2))) = lv') (a : zA l D b M h fz kc ks Z (pc + 2) lv' stk k n N kd γ σ τ) : zA l D b M h fz kc ks Z pc lv (.long x :: stk) k n N kd γ σ τ :=
  fun p e R s m args below meth c C H locs ls hl hW hS => lv_lstore C.1 C.2.1 hd hl hn hl0 (fun ls' hl' => a p e R s m args below meth c C H locs ls' hl' hW hS)
theorem r_aload_n (q : Nat) {f : Fin 4} {i : Nat} {x : Nat} (hd : decode M.2.1 pc = .ok (.aload_n f, 1)) (hf : (f : Nat) = i) (hq : lv[q]? = some (i, .ref x)) (a : zA l D b M h fz kc ks Z (pc + 1) lv (.ref x :: stk) k n N kd γ σ τ) : zA l D b M h fz kc ks Z pc lv stk k n N kd γ σ τ :=
  fun p e R s m args below meth c C H locs ls hl hW hS => lv_aload_n C.1 C.2.1 hd hf (lv_at hl q hq) (a p e R s m args below meth c C H locs ls hl hW hS)
theorem r_aload (q : Nat) {i : Nat} {x : Nat} (hd : decode M.2.1 pc = .ok (.aload i, 2)) (hq : lv[q]? = some (i, .ref x)) (a : zA l D b M h fz kc ks Z (pc + 2) lv (.ref x :: stk) k n N kd γ σ τ) : zA l D b M h fz kc ks Z pc lv stk k n N kd γ σ τ :=
  fun p e R s m args below meth c C H locs ls hl hW hS => lv_aload C.1 C.2.1 hd (lv_at hl q hq) (a p e R s m args below meth c C H locs ls hl hW hS)
theorem r_astore_n {f : Fin 4} {i : Nat} {x : Nat} (hd : decode M.2.1 pc = .ok (.astore_n f, 1)) (hf : (f : Nat) = i) (hn : i < M.2.2.1) (hl0 : (i, (.ref x : Value)) :: lv.filter (fun q => !(q.1 == i) && !(q.1 + 1 == i && q.2.category == 2)) = lv') (a : zA l D b M h fz kc ks Z (pc + 1) lv' stk k n N kd γ σ τ) : zA l D b M h fz kc ks Z pc lv (.ref x :: stk) k n N kd γ σ τ :=
  fun p e R s m args below meth c C H locs ls hl hW hS => lv_astore_n C.1 C.2.1 hd hf hl hn hl0 (fun ls' hl' => a p e R s m args below meth c C H locs ls' hl' hW hS)
theorem r_astore {i : Nat} {x : Nat} (hd : decode M.2.1 pc = .ok (.astore i, 2)) (hn : i < M.2.2.1) (hl0 : (i, (.ref x : Value)) :: lv.filter (fun q => !(q.1 == i) && !(q.1 + 1 == i && q.2.category == 2)) = lv') (a : zA l D b M h fz kc ks Z (pc + 2) lv' stk k n N kd γ σ τ) : zA l D b M h fz kc ks Z pc lv (.ref x :: stk) k n N kd γ σ τ :=
  fun p e R s m args below meth c C H locs ls hl hW hS => lv_astore C.1 C.2.1 hd hl hn hl0 (fun ls' hl' => a p e R s m args below meth c C H locs ls' hl' hW hS)
theorem r_iinc (q : Nat) {i : Nat} {z : Int} {x v : Int32} (hd : decode M.2.1 pc = .ok (.iinc i z, 3)) (hq : lv[q]? = some (i, .int x)) (hv : x + Int32.ofInt z = v) (hn : i < M.2.2.1) (hl0 : (i, Value.int v) :: lv.filter (fun q => !(q.1 == i) && !(q.1 + 1 == i && q.2.category == 2)) = lv') (a : zA l D b M h fz kc ks Z (pc + 3) lv' stk k n N kd γ σ τ) : zA l D b M h fz kc ks Z pc lv stk k n N kd γ σ τ :=
  fun p e R s m args below meth c C H locs ls hl hW hS => lv_iinc C.1 C.2.1 hd hl hq hv hn hl0 (fun ls' hl' => a p e R s m args below meth c C H locs ls' hl' hW hS)
theorem r_lv (qs : List Nat) (hl0 : lv_pick lv qs = lv') (a : zA l D b M h fz kc ks Z pc lv' stk k n N kd γ σ τ) : zA l D b M h fz kc ks Z pc lv stk k n N kd γ σ τ :=
  fun p e R s m args below meth c C H locs ls hl hW hS => a p e R s m args below meth c C H locs ls (lv_sub hl qs hl0) hW hS
theorem r_goto {off : Int} {tgt : Nat} (hd : decode M.2.1 pc = .ok (.goto off, 3)) (ht : (pc : Int) + off = (tgt : Int)) (a : zA l D b M h fz kc ks Z tgt lv stk k n N kd γ σ τ) : zA l D b M h fz kc ks Z pc lv stk k n N kd γ σ τ :=
  fun p e R s m args below meth c C H locs ls hl hW hS => lv_goto C.1 C.2.1 hd ht (a p e R s m args below meth c C H locs ls hl hW hS)
theorem r_if_eq {x : Int32} {off : Int} {tgt : Nat} (hd : decode M.2.1 pc = .ok (.ifCond .eq off, 3)) (ht : (pc : Int) + off = (tgt : Int)) (at_ : x = 0 → zA l D b M h fz kc ks Z tgt lv stk k n N kd γ σ τ) (af : ¬ x = 0 → zA l D b M h fz kc ks Z (pc + 3) lv stk k n N kd γ σ τ) : zA l D b M h fz kc ks Z pc lv (.int x :: stk) k n N kd γ σ τ :=
  fun p e R s m args below meth c C H locs ls hl hW hS => lv_if_eq C.1 C.2.1 hd ht (fun q => at_ q p e R s m args below meth c C H locs ls hl hW hS) (fun q => af q p e R s m args below meth c C H locs ls hl hW hS)
theorem r_if_ne {x : Int32} {off : Int} {tgt : Nat} (hd : decode M.2.1 pc = .ok (.ifCond .ne off, 3)) (ht : (pc : Int) + off = (tgt : Int)) (at_ : ¬ x = 0 → zA l D b M h fz kc ks Z tgt lv stk k n N kd γ σ τ) (af : x = 0 → zA l D b M h fz kc ks Z (pc + 3) lv stk k n N kd γ σ τ) : zA l D b M h fz kc ks Z pc lv (.int x :: stk) k n N kd γ σ τ :=
  fun p e R s m args below meth c C H locs ls hl hW hS => lv_if_ne C.1 C.2.1 hd ht (fun q => at_ q p e R s m args below meth c C H locs ls hl hW hS) (fun q => af q p e R s m args below meth c C H locs ls hl hW hS)
theorem r_if_lt {x : Int32} {off : Int} {tgt : Nat} (hd : decode M.2.1 pc = .ok (.ifCond .lt off, 3)) (ht : (pc : Int) + off = (tgt : Int)) (at_ : x < 0 → zA l D b M h fz kc ks Z tgt lv stk k n N kd γ σ τ) (af : ¬ x < 0 → zA l D b M h fz kc ks Z (pc + 3) lv stk k n N kd γ σ τ) : zA l D b M h fz kc ks Z pc lv (.int x :: stk) k n N kd γ σ τ :=
  fun p e R s m args below meth c C H locs ls hl hW hS => lv_if_lt C.1 C.2.1 hd ht (fun q => at_ q p e R s m args below meth c C H locs ls hl hW hS) (fun q => af q p e R s m args below meth c C H locs ls hl hW hS)
theorem r_if_ge {x : Int32} {off : Int} {tgt : Nat} (hd : decode M.2.1 pc = .ok (.ifCond .ge off, 3)) (ht : (pc : Int) + off = (tgt : Int)) (at_ : 0 ≤ x → zA l D b M h fz kc ks Z tgt lv stk k n N kd γ σ τ) (af : ¬ 0 ≤ x → zA l D b M h fz kc ks Z (pc + 3) lv stk k n N kd γ σ τ) : zA l D b M h fz kc ks Z pc lv (.int x :: stk) k n N kd γ σ τ :=
  fun p e R s m args below meth c C H locs ls hl hW hS => lv_if_ge C.1 C.2.1 hd ht (fun q => at_ q p e R s m args below meth c C H locs ls hl hW hS) (fun q => af q p e R s m args below meth c C H locs ls hl hW hS)
theorem r_if_gt {x : Int32} {off : Int} {tgt : Nat} (hd : decode M.2.1 pc = .ok (.ifCond .gt off, 3)) (ht : (pc : Int) + off = (tgt : Int)) (at_ : 0 < x → zA l D b M h fz kc ks Z tgt lv stk k n N kd γ σ τ) (af : ¬ 0 < x → zA l D b M h fz kc ks Z (pc + 3) lv stk k n N kd γ σ τ) : zA l D b M h fz kc ks Z pc lv (.int x :: stk) k n N kd γ σ τ :=
  fun p e R s m args below meth c C H locs ls hl hW hS => lv_if_gt C.1 C.2.1 hd ht (fun q => at_ q p e R s m args below meth c C H locs ls hl hW hS) (fun q => af q p e R s m args below meth c C H locs ls hl hW hS)
theorem r_if_le {x : Int32} {off : Int} {tgt : Nat} (hd : decode M.2.1 pc = .ok (.ifCond .le off, 3)) (ht : (pc : Int) + off = (tgt : Int)) (at_ : x ≤ 0 → zA l D b M h fz kc ks Z tgt lv stk k n N kd γ σ τ) (af : ¬ x ≤ 0 → zA l D b M h fz kc ks Z (pc + 3) lv stk k n N kd γ σ τ) : zA l D b M h fz kc ks Z pc lv (.int x :: stk) k n N kd γ σ τ :=
  fun p e R s m args below meth c C H locs ls hl hW hS => lv_if_le C.1 C.2.1 hd ht (fun q => at_ q p e R s m args below meth c C H locs ls hl hW hS) (fun q => af q p e R s m args below meth c C H locs ls hl hW hS)
theorem r_icmp_eq {x y : Int32} {off : Int} {tgt : Nat} (hd : decode M.2.1 pc = .ok (.if_icmp .eq off, 3)) (ht : (pc : Int) + off = (tgt : Int)) (at_ : x = y → zA l D b M h fz kc ks Z tgt lv stk k n N kd γ σ τ) (af : ¬ x = y → zA l D b M h fz kc ks Z (pc + 3) lv stk k n N kd γ σ τ) : zA l D b M h fz kc ks Z pc lv (.int y :: .int x :: stk) k n N kd γ σ τ :=
  fun p e R s m args below meth c C H locs ls hl hW hS => lv_icmp_eq C.1 C.2.1 hd ht (fun q => at_ q p e R s m args below meth c C H locs ls hl hW hS) (fun q => af q p e R s m args below meth c C H locs ls hl hW hS)
theorem r_icmp_ne {x y : Int32} {off : Int} {tgt : Nat} (hd : decode M.2.1 pc = .ok (.if_icmp .ne off, 3)) (ht : (pc : Int) + off = (tgt : Int)) (at_ : ¬ x = y → zA l D b M h fz kc ks Z tgt lv stk k n N kd γ σ τ) (af : x = y → zA l D b M h fz kc ks Z (pc + 3) lv stk k n N kd γ σ τ) : zA l D b M h fz kc ks Z pc lv (.int y :: .int x :: stk) k n N kd γ σ τ :=
  fun p e R s m args below meth c C H locs ls hl hW hS => lv_icmp_ne C.1 C.2.1 hd ht (fun q => at_ q p e R s m args below meth c C H locs ls hl hW hS) (fun q => af q p e R s m args below meth c C H locs ls hl hW hS)
theorem r_icmp_lt {x y : Int32} {off : Int} {tgt : Nat} (hd : decode M.2.1 pc = .ok (.if_icmp .lt off, 3)) (ht : (pc : Int) + off = (tgt : Int)) (at_ : x < y → zA l D b M h fz kc ks Z tgt lv stk k n N kd γ σ τ) (af : ¬ x < y → zA l D b M h fz kc ks Z (pc + 3) lv stk k n N kd γ σ τ) : zA l D b M h fz kc ks Z pc lv (.int y :: .int x :: stk) k n N kd γ σ τ :=
  fun p e R s m args below meth c C H locs ls hl hW hS => lv_icmp_lt C.1 C.2.1 hd ht (fun q => at_ q p e R s m args below meth c C H locs ls hl hW hS) (fun q => af q p e R s m args below meth c C H locs ls hl hW hS)
theorem r_icmp_ge {x y : Int32} {off : Int} {tgt : Nat} (hd : decode M.2.1 pc = .ok (.if_icmp .ge off, 3)) (ht : (pc : Int) + off = (tgt : Int)) (at_ : y ≤ x → zA l D b M h fz kc ks Z tgt lv stk k n N kd γ σ τ) (af : ¬ y ≤ x → zA l D b M h fz kc ks Z (pc + 3) lv stk k n N kd γ σ τ) : zA l D b M h fz kc ks Z pc lv (.int y :: .int x :: stk) k n N kd γ σ τ :=
  fun p e R s m args below meth c C H locs ls hl hW hS => lv_icmp_ge C.1 C.2.1 hd ht (fun q => at_ q p e R s m args below meth c C H locs ls hl hW hS) (fun q => af q p e R s m args below meth c C H locs ls hl hW hS)
theorem r_icmp_gt {x y : Int32} {off : Int} {tgt : Nat} (hd : decode M.2.1 pc = .ok (.if_icmp .gt off, 3)) (ht : (pc : Int) + off = (tgt : Int)) (at_ : y < x → zA l D b M h fz kc ks Z tgt lv stk k n N kd γ σ τ) (af : ¬ y < x → zA l D b M h fz kc ks Z (pc + 3) lv stk k n N kd γ σ τ) : zA l D b M h fz kc ks Z pc lv (.int y :: .int x :: stk) k n N kd γ σ τ :=
  fun p e R s m args below meth c C H locs ls hl hW hS => lv_icmp_gt C.1 C.2.1 hd ht (fun q => at_ q p e R s m args below meth c C H locs ls hl hW hS) (fun q => af q p e R s m args below meth c C H locs ls hl hW hS)
theorem r_icmp_le {x y : Int32} {off : Int} {tgt : Nat} (hd : decode M.2.1 pc = .ok (.if_icmp .le off, 3)) (ht : (pc : Int) + off = (tgt : Int)) (at_ : x ≤ y → zA l D b M h fz kc ks Z tgt lv stk k n N kd γ σ τ) (af : ¬ x ≤ y → zA l D b M h fz kc ks Z (pc + 3) lv stk k n N kd γ σ τ) : zA l D b M h fz kc ks Z pc lv (.int y :: .int x :: stk) k n N kd γ σ τ :=
  fun p e R s m args below meth c C H locs ls hl hW hS => lv_icmp_le C.1 C.2.1 hd ht (fun q => at_ q p e R s m args below meth c C H locs ls hl hW hS) (fun q => af q p e R s m args below meth c C H locs ls hl hW hS)
theorem r_tableOut {dflt lo hi : Int} {offs : Array Int} {len : Nat} {x : Int32} {tgt : Nat} (hd : decode M.2.1 pc = .ok (.tableswitch dflt lo hi offs, len)) (hx : x.toInt < lo ∨ hi < x.toInt) (ht : (pc : Int) + dflt = (tgt : Int)) (a : zA l D b M h fz kc ks Z tgt lv stk k n N kd γ σ τ) : zA l D b M h fz kc ks Z pc lv (.int x :: stk) k n N kd γ σ τ :=
  fun p e R s m args below meth c C H locs ls hl hW hS => lv_tableOut C.1 C.2.1 hd hx ht (a p e R s m args below meth c C H locs ls hl hW hS)
theorem r_tableIn {dflt lo hi : Int} {offs : Array Int} {len : Nat} {x : Int32} {off : Int} {tgt : Nat} (hd : decode M.2.1 pc = .ok (.tableswitch dflt lo hi offs, len)) (h1 : ¬ x.toInt < lo) (h2 : ¬ hi < x.toInt) (ho : offs[(x.toInt - lo).toNat]? = some off) (ht : (pc : Int) + off = (tgt : Int)) (a : zA l D b M h fz kc ks Z tgt lv stk k n N kd γ σ τ) : zA l D b M h fz kc ks Z pc lv (.int x :: stk) k n N kd γ σ τ :=
  fun p e R s m args below meth c C H locs ls hl hW hS => lv_tableIn C.1 C.2.1 hd h1 h2 ho ht (a p e R s m args below meth c C H locs ls hl hW hS)
theorem r_lookup {dflt : Int} {ps : Array (Int × Int)} {len : Nat} {x : Int32} {off : Int} {tgt : Nat} (hd : decode M.2.1 pc = .ok (.lookupswitch dflt ps, len)) (hp : (ps.toList.zip (ps.toList.drop 1)).all (fun (a, next) => a.1 < next.1) = true) (ho : Op.lookupswitch.offset ps.toList dflt x.toInt = off) (ht : (pc : Int) + off = (tgt : Int)) (a : zA l D b M h fz kc ks Z tgt lv stk k n N kd γ σ τ) : zA l D b M h fz kc ks Z pc lv (.int x :: stk) k n N kd γ σ τ :=
  fun p e R s m args below meth c C H locs ls hl hW hS => lv_lookup C.1 C.2.1 hd hp ho ht (a p e R s m args below meth c C H locs ls hl hW hS)
theorem r_getI {ci c j : Nat} {C : String} {T : u_T} {nf index : Nat} (hN : c < N) (hk : (kd c).1 = ci + 4) (hc : cls12[ci]? = some (C, T, nf)) (hj : j < nf) (hty : cTy ci j = .int) (hw : Cond.fieldLink M.1.cls index (T j).1 (T j).2.1 (T j).2.2.1 ∈ lw_tbl) (hd : decode M.2.1 pc = .ok (.getfield index, 3)) (a : zA l D b M h fz kc ks Z (pc + 3) lv (.int (σ c j) :: stk) k n N kd γ σ τ) : zA l D b M h fz kc ks Z pc lv (.ref (b + c) :: stk) k n N kd γ σ τ := by
  intro p e R s m args below meth c0 C H locs ls hl hW hS
  obtain ⟨hcn, hci, -, -⟩ := cls_N hc
  obtain ⟨hP, hK, hz⟩ := hW
  refine va_get (D := D.1) (ci := ci) (v := .int (σ c j)) C.1 C.2.1 C.2.2.2.2.2.1 hci C.2.2.2.2.1 hK hP c (fs := fldsOf b ci (γ c) (σ c) (τ c)) ?_ hc j hj (C.2.2.2.2.2.1 _ (lw_gIn hw rfl)) (fun _ h9 => h9) ?_ hd (a p e R s m args below meth c0 C H locs ls hl ⟨hP, hK, hz⟩ hS)
  · rw [wlE_get hN]; unfold zEE zEnt; rw [hk]
  · rw [flds_get (by rw [hcn]; exact hj), hty]; rfl
theorem r_getL {ci c j : Nat} {C : String} {T : u_T} {nf index : Nat} (hN : c < N) (hk : (kd c).1 = ci + 4) (hc : cls12[ci]? = some (C, T, nf)) (hj : j < nf) (hty : cTy ci j = .long) (hw : Cond.fieldLink M.1.cls index (T j).1 (T j).2.1 (T j).2.2.1 ∈ lw_tbl) (hd : decode M.2.1 pc = .ok (.getfield index, 3)) (a : zA l D b M h fz kc ks Z (pc + 3) lv (.long (τ c j) :: stk) k n N kd γ σ τ) : zA l D b M h fz kc ks Z pc lv (.ref (b + c) :: stk) k n N kd γ σ τ := by
  intro p e R s m args below meth c0 C H locs ls hl hW hS
  obtain ⟨hcn, hci, -, -⟩ := cls_N hc
  obtain ⟨hP, hK, hz⟩ := hW
  refine va_get (D := D.1) (ci := ci) (v := .long (τ c j)) C.1 C.2.1 C.2.2.2.2.2.1 hci C.2.2.2.2.1 hK hP c (fs := fldsOf b ci (γ c) (σ c) (τ c)) ?_ hc j hj (C.2.2.2.2.2.1 _ (lw_gIn hw rfl)) (fun _ h9 => h9) ?_ hd (a p e R s m args below meth c0 C H locs ls hl ⟨hP, hK, hz⟩ hS)
  · rw [wlE_get hN]; unfold zEE zEnt; rw [hk]
  · rw [flds_get (by rw [hcn]; exact hj), hty]; rfl
theorem r_getR {c2 : Nat} {ci c j : Nat} {C : String} {T : u_T} {nf index : Nat} (hN : c < N) (hk : (kd c).1 = ci + 4) (hc : cls12[ci]? = some (C, T, nf)) (hj : j < nf) (hty : (match cTy ci j with | .int => false | .long => false | _ => true) = true) (hg : γ c j = some c2) (hw : Cond.fieldLink M.1.cls index (T j).1 (T j).2.1 (T j).2.2.1 ∈ lw_tbl) (hd : decode M.2.1 pc = .ok (.getfield index, 3)) (a : zA l D b M h fz kc ks Z (pc + 3) lv (.ref (b + c2) :: stk) k n N kd γ σ τ) : zA l D b M h fz kc ks Z pc lv (.ref (b + c) :: stk) k n N kd γ σ τ := by
  intro p e R s m args below meth c0 C H locs ls hl hW hS
  obtain ⟨hcn, hci, -, -⟩ := cls_N hc
  obtain ⟨hP, hK, hz⟩ := hW
  refine va_get (D := D.1) (ci := ci) (v := .ref (b + c2)) C.1 C.2.1 C.2.2.2.2.2.1 hci C.2.2.2.2.1 hK hP c (fs := fldsOf b ci (γ c) (σ c) (τ c)) ?_ hc j hj (C.2.2.2.2.2.1 _ (lw_gIn hw rfl)) (fun _ h9 => h9) ?_ hd (a p e R s m args below meth c0 C H locs ls hl ⟨hP, hK, hz⟩ hS)
  · rw [wlE_get hN]; unfold zEE zEnt; rw [hk]
  · rw [flds_get (by rw [hcn]; exact hj), hg]
    unfold fval
    cases hx : cTy ci j <;> rw [hx] at hty <;> first | rfl | cases hty
end ROWS
section PUTS
variable {p : Program} {l : Launch} {e : Env} {R : Room} {s : State} {m : MethodId} {args : Array Value} {below : List Frame} {meth : Method} {c : Code} {H : Heap} {locs : List Loc} {cells slots : Nat} {Q : State → Prop}
variable {cc : ByteArray} {pc : Nat} {ls : Array Slot} {rest : List Value} {D : va_G} {cl : List vw_C} {A : Nat → Prop} {a : Nat} {tys : List (ClassId × FieldType)} {ws : va_W} {H0 : Heap}
theorem pt_put (hexec : p.tables.exec = Jvm.exec) (hb : c.code = cc) {own C : String} {T : u_T} {N ci index : Nat} {Ts : List Cond} (hts : ∀ w ∈ Ts, w.before args s = true) (hin : ∀ w ∈ u_ws C T N, w ∈ Ts) (ty0 : Nat → FieldType) (hty : ∀ k, k < N → parseFieldDescriptor (T k).2.2.1 = some (ty0 k)) (hnm : ∀ a, a < N → ∀ b, b < N → a ≠ b → (T a).2.1 ≠ (T b).2.1) (hown : s.vm.findClass own = some m.cls) (hK : va_K D cl tys s) (hP : va_P D cl ws H) (hD : va_D A ws) (hS0 : va_S A H0 H locs) (q0 : Nat) {fs : List Value} (he : ws[q0]? = some (a, .inr (ci, fs))) (hc : cl[ci]? = some (C, T, N)) (k : Nat) (hk : k < N) (hlink : (Cond.fieldLink own index (T k).1 (T k).2.1 (T k).2.2.1).before args s = true) (hfin : (T k).2.2.2 = false ∨ ((T k).2.2.2 = true ∧ meth.name = "<init>" ∧ (T k).1 = own)) {v : Value} (hn : narrow (ty0 k) v = v) (hfit : fits (ty0 k) v = true) (hl : k < fs.length)
    (hdg : decode cc pc = .ok (.putfield index, 3)) (kk : ∀ (H1 : Heap) (locs1 : List Loc), H1.size = H.size → va_P D cl (ws.set q0 (a, .inr (ci, fs.set k v))) H1 → va_S A H0 H1 locs1 → W p l e R s m args below meth c H1 locs1 cells slots Q (F0 m (pc + 3) ls rest)) : W p l e R s m args below meth c H locs cells slots Q (F0 m pc ls (v :: .ref a :: rest)) := by
  have hap := va_apart (own := own) hts hin ty0 hty hnm hK hc
  obtain ⟨r, h1, cell, q1, q2, q3, q4⟩ := hP q0 _ he
  have hr : r = (C, T, N) := Option.some.inj (h1.symm.trans hc)
  subst hr
  obtain ⟨hS, hfc, kC, hkC, hkind⟩ := hK.1 ci _ hc
  obtain ⟨cf, kf, fi, f, hi, hsl⟩ := hS k hk
  have hd := hty k hk
  have hlay := hts _ (hin _ (u_in_lay hk))
  have hst := (u_facts hfc hkC (u_lays hts hin hk) hi).1
  have fin : ∀ H' : Heap, H'[a]? = some (cell.setSlot f.slot v) → H'.size = H.size → (∀ q, q ≠ a → H'[q]? = H[q]?) → W p l e R s m args below meth c H' (locs ++ [⟨a, f.slot⟩]) cells slots Q (F0 m (pc + 3) ls rest) := by
    intro H' e1 e2 e3
    rw [hsl] at e1 ⊢
    exact kk H' _ e2 (hP.set hD he ⟨_, hc, t_OB.to (V := updV (vp_V fs) k v) ⟨_, e1, q2, q3, t_set q4 hap hk v⟩ (fun j _ => vp_updV_set hl v j)⟩ e3) (hS0.put e2 e3 (hD.2 q0 _ he))
  rcases hfin with hfin | ⟨hfin, hin2, hdecl⟩
  · unfold u_lay at hlay
    rw [if_neg (by rw [hfin]; decide)] at hlay
    have h6 := u_store hfc hkC hkind hlay hi hd hn hfit
    exact W.putK hexec hb (f := f) ⟨hown, hlink, ⟨_, _, _, hi⟩, hst⟩ (by rw [q2]; exact h6) q1 q3 (by rw [hsl]; exact k2_hasslot (q4 k hk)) rfl rfl hdg fin
  · unfold u_lay at hlay
    rw [if_pos hfin] at hlay
    have hcf : m.cls = cf := by
      obtain ⟨_, _, c', _, _, _, -, -, hf', -, -, -, hown2, -⟩ := Cond.laysFinal_spec hlay
      have e1 : c' = cf := by have := hi.symm.trans hf'; simp at this; exact this.1.symm
      rw [hdecl] at hown2
      rw [← e1]; exact Option.some.inj (hown.symm.trans hown2)
    have h6 := u_fits hfc hkC hkind (Or.inr hlay) hi hd hn hfit
    exact W.putFinK hexec hb hown hlink hi hst hcf hin2 (by rw [q2]; exact h6) q1 q3 (by rw [hsl]; exact k2_hasslot (q4 k hk)) rfl rfl hdg fin
end PUTS
section ROWS2
variable {l : Launch} {D : zDD} {b : Nat} {M : zMI} {h fz kc ks : Nat} {Z : zZZ} {pc : Nat} {lv lv' : List (Nat × Value)} {stk : List Value} {k n N : Nat} {kd : zKd} {γ : zGm} {σ : zSg} {τ : zLm}
theorem r_putI {x : Int32} {ci c j : Nat} {C : String} {T : u_T} {nf index : Nat} (hN : c < N) (hk : (kd c).1 = ci + 4) (hc : cls12[ci]? = some (C, T, nf)) (hj : j < nf) (hty : cTy ci j = .int) (hfin : (T j).2.2.2 = false ∨ ((T j).2.2.2 = true ∧ M.1.name = "<init>" ∧ (T j).1 = M.1.cls)) (hw : Cond.fieldLink M.1.cls index (T j).1 (T j).2.1 (T j).2.2.1 ∈ lw_tbl) (hd : decode M.2.1 pc = .ok (.putfield index, 3)) (a : zA l D b M h fz kc ks Z (pc + 3) lv stk k n N kd γ (st2 σ c j x) τ) : zA l D b M h fz kc ks Z pc lv (.int x :: .ref (b + c) :: stk) k n N kd γ σ τ := by
  intro p e R s m args below meth c0 C H locs ls hl hW hS
  obtain ⟨hcn, hci, hpt, hnm⟩ := cls_N hc
  obtain ⟨hP, hK, hz⟩ := hW
  have hget : (wl D b N kd γ σ τ)[c]? = some (b + c, .inr (ci, fldsOf b ci (γ c) (σ c) (τ c))) := by rw [wlE_get hN]; unfold zEE zEnt; rw [hk]
  have hnf : narrow (cTy ci j) (.int x) = .int x ∧ fits (cTy ci j) (.int x) = true := by
    rw [hty]; exact ⟨rfl, rfl⟩
  refine pt_put (D := D.1) (ci := ci) (v := .int x) C.1 C.2.1 C.2.2.2.2.2.1 hci (cTy ci) hpt hnm C.2.2.2.2.1 hK hP (wlE_D b N _) hS c hget hc j hj (C.2.2.2.2.2.1 _ (lw_gIn hw rfl)) (hfin.imp id (fun q => ⟨q.1, C.2.2.2.2.2.2.2.1.trans q.2.1, q.2.2⟩)) hnf.1 hnf.2 (by rw [flds_len, hcn]; exact hj) hd (fun H1 locs1 hz1 hP1 hS1 => ?_)
  have e1 : (wl D b N kd γ σ τ).set c (b + c, .inr (ci, (fldsOf b ci (γ c) (σ c) (τ c)).set j (.int x))) = wl D b N kd γ (st2 σ c j x) τ := by
    have e2 : (fldsOf b ci (γ c) (σ c) (τ c)).set j (.int x) = fldsOf b ci (γ c) (va_up (σ c) j x) (τ c) := flds_set (by rw [hty]; simp [fval, va_up]) (fun i hi => by simp [va_up, hi])
    rw [wlE_set, e2, show (Sum.inr (ci, fldsOf b ci (γ c) (va_up (σ c) j x) (τ c)) : va_E) = zEnt D b (kd c) (γ c) (va_up (σ c) j x) (τ c) by unfold zEnt; rw [hk], zEE_σ]
    rfl
  rw [e1] at hP1
  exact a p e R s m args below meth c0 C H1 locs1 ls hl ⟨hP1, hK, hz.imp id (fun q => hz1.trans q)⟩ hS1
theorem r_putL {x : Int64} {ci c j : Nat} {C : String} {T : u_T} {nf index : Nat} (hN : c < N) (hk : (kd c).1 = ci + 4) (hc : cls12[ci]? = some (C, T, nf)) (hj : j < nf) (hty : cTy ci j = .long) (hfin : (T j).2.2.2 = false ∨ ((T j).2.2.2 = true ∧ M.1.name = "<init>" ∧ (T j).1 = M.1.cls)) (hw : Cond.fieldLink M.1.cls index (T j).1 (T j).2.1 (T j).2.2.1 ∈ lw_tbl) (hd : decode M.2.1 pc = .ok (.putfield index, 3)) (a : zA l D b M h fz kc ks Z (pc + 3) lv stk k n N kd γ σ (st2 τ c j x)) : zA l D b M h fz kc ks Z pc lv (.long x :: .ref (b + c) :: stk) k n N kd γ σ τ := by
  intro p e R s m args below meth c0 C H locs ls hl hW hS
  obtain ⟨hcn, hci, hpt, hnm⟩ := cls_N hc
  obtain ⟨hP, hK, hz⟩ := hW
  have hget : (wl D b N kd γ σ τ)[c]? = some (b + c, .inr (ci, fldsOf b ci (γ c) (σ c) (τ c))) := by rw [wlE_get hN]; unfold zEE zEnt; rw [hk]
  have hnf : narrow (cTy ci j) (.long x) = .long x ∧ fits (cTy ci j) (.long x) = true := by
    rw [hty]; exact ⟨rfl, rfl⟩
  refine pt_put (D := D.1) (ci := ci) (v := .long x) C.1 C.2.1 C.2.2.2.2.2.1 hci (cTy ci) hpt hnm C.2.2.2.2.1 hK hP (wlE_D b N _) hS c hget hc j hj (C.2.2.2.2.2.1 _ (lw_gIn hw rfl)) (hfin.imp id (fun q => ⟨q.1, C.2.2.2.2.2.2.2.1.trans q.2.1, q.2.2⟩)) hnf.1 hnf.2 (by rw [flds_len, hcn]; exact hj) hd (fun H1 locs1 hz1 hP1 hS1 => ?_)
  have e1 : (wl D b N kd γ σ τ).set c (b + c, .inr (ci, (fldsOf b ci (γ c) (σ c) (τ c)).set j (.long x))) = wl D b N kd γ σ (st2 τ c j x) := by
    have e2 : (fldsOf b ci (γ c) (σ c) (τ c)).set j (.long x) = fldsOf b ci (γ c) (σ c) (va_up (τ c) j x) := flds_set (by rw [hty]; simp [fval, va_up]) (fun i hi => by simp [va_up, hi])
    rw [wlE_set, e2, show (Sum.inr (ci, fldsOf b ci (γ c) (σ c) (va_up (τ c) j x)) : va_E) = zEnt D b (kd c) (γ c) (σ c) (va_up (τ c) j x) by unfold zEnt; rw [hk], zEE_τ]
    rfl
  rw [e1] at hP1
  exact a p e R s m args below meth c0 C H1 locs1 ls hl ⟨hP1, hK, hz.imp id (fun q => hz1.trans q)⟩ hS1
theorem r_putR {c2 : Nat} {ci c j : Nat} {C : String} {T : u_T} {nf index : Nat} (hN : c < N) (hk : (kd c).1 = ci + 4) (hc : cls12[ci]? = some (C, T, nf)) (hj : j < nf) (hty : (match cTy ci j with | .object _ => true | .array _ => true | _ => false) = true) (hfin : (T j).2.2.2 = false ∨ ((T j).2.2.2 = true ∧ M.1.name = "<init>" ∧ (T j).1 = M.1.cls)) (hw : Cond.fieldLink M.1.cls index (T j).1 (T j).2.1 (T j).2.2.1 ∈ lw_tbl) (hd : decode M.2.1 pc = .ok (.putfield index, 3)) (a : zA l D b M h fz kc ks Z (pc + 3) lv stk k n N kd (st2 γ c j (some c2)) σ τ) : zA l D b M h fz kc ks Z pc lv (.ref (b + c2) :: .ref (b + c) :: stk) k n N kd γ σ τ := by
  intro p e R s m args below meth c0 C H locs ls hl hW hS
  obtain ⟨hcn, hci, hpt, hnm⟩ := cls_N hc
  obtain ⟨hP, hK, hz⟩ := hW
  have hget : (wl D b N kd γ σ τ)[c]? = some (b + c, .inr (ci, fldsOf b ci (γ c) (σ c) (τ c))) := by rw [wlE_get hN]; unfold zEE zEnt; rw [hk]
  have hnf : narrow (cTy ci j) (.ref (b + c2)) = .ref (b + c2) ∧ fits (cTy ci j) (.ref (b + c2)) = true := by
    cases hx : cTy ci j <;> rw [hx] at hty <;> first | exact ⟨rfl, rfl⟩ | cases hty
  refine pt_put (D := D.1) (ci := ci) (v := .ref (b + c2)) C.1 C.2.1 C.2.2.2.2.2.1 hci (cTy ci) hpt hnm C.2.2.2.2.1 hK hP (wlE_D b N _) hS c hget hc j hj (C.2.2.2.2.2.1 _ (lw_gIn hw rfl)) (hfin.imp id (fun q => ⟨q.1, C.2.2.2.2.2.2.2.1.trans q.2.1, q.2.2⟩)) hnf.1 hnf.2 (by rw [flds_len, hcn]; exact hj) hd (fun H1 locs1 hz1 hP1 hS1 => ?_)
  have e1 : (wl D b N kd γ σ τ).set c (b + c, .inr (ci, (fldsOf b ci (γ c) (σ c) (τ c)).set j (.ref (b + c2)))) = wl D b N kd (st2 γ c j (some c2)) σ τ := by
    have e2 : (fldsOf b ci (γ c) (σ c) (τ c)).set j (.ref (b + c2)) = fldsOf b ci (va_up (γ c) j (some c2)) (σ c) (τ c) := flds_set (by cases hx : cTy ci j <;> rw [hx] at hty <;> first | (simp [fval, va_up, rv, va_rf]; done) | cases hty) (fun i hi => by simp [va_up, hi])
    rw [wlE_set, e2, show (Sum.inr (ci, fldsOf b ci (va_up (γ c) j (some c2)) (σ c) (τ c)) : va_E) = zEnt D b (kd c) (va_up (γ c) j (some c2)) (σ c) (τ c) by unfold zEnt; rw [hk], zEE_γ]
    rfl
  rw [e1] at hP1
  exact a p e R s m args below meth c0 C H1 locs1 ls hl ⟨hP1, hK, hz.imp id (fun q => hz1.trans q)⟩ hS1
theorem r_iald {c len : Nat} {i : Int32} (hN : c < N) (hk : kd c = (0, len)) (hd : decode M.2.1 pc = .ok (.iaload, 1)) (hin : vp_in i len) (a : zA l D b M h fz kc ks Z (pc + 1) lv (.int (σ c i.toNatClampNeg) :: stk) k n N kd γ σ τ) : zA l D b M h fz kc ks Z pc lv (.int i :: .ref (b + c) :: stk) k n N kd γ σ τ := by
  intro p e R s m args below meth c0 C H locs ls hl hW hS
  obtain ⟨hP, hK, hz⟩ := hW
  exact va_iald (D := D.1) C.1 C.2.1 hK hP c 0 (cA := D.2 0) (n := len) (f := σ c) (by rw [wlE_get hN]; unfold zEE zEnt; rw [hk]) rfl hin hd (a p e R s m args below meth c0 C H locs ls hl ⟨hP, hK, hz⟩ hS)
theorem r_zald {c len : Nat} {i : Int32} (hN : c < N) (hk : kd c = (1, len)) (hd : decode M.2.1 pc = .ok (.baload, 1)) (hin : vp_in i len) (a : zA l D b M h fz kc ks Z (pc + 1) lv (.int (σ c i.toNatClampNeg) :: stk) k n N kd γ σ τ) : zA l D b M h fz kc ks Z pc lv (.int i :: .ref (b + c) :: stk) k n N kd γ σ τ := by
  intro p e R s m args below meth c0 C H locs ls hl hW hS
  obtain ⟨hP, hK, hz⟩ := hW
  exact va_zald (D := D.1) C.1 C.2.1 hK hP c 1 (cA := D.2 1) (n := len) (f := σ c) (by rw [wlE_get hN]; unfold zEE zEnt; rw [hk]) rfl hin hd (a p e R s m args below meth c0 C H locs ls hl ⟨hP, hK, hz⟩ hS)
theorem r_lald {c len : Nat} {i : Int32} (hN : c < N) (hk : kd c = (2, len)) (hd : decode M.2.1 pc = .ok (.laload, 1)) (hin : vp_in i len) (a : zA l D b M h fz kc ks Z (pc + 1) lv (.long (τ c i.toNatClampNeg) :: stk) k n N kd γ σ τ) : zA l D b M h fz kc ks Z pc lv (.int i :: .ref (b + c) :: stk) k n N kd γ σ τ := by
  intro p e R s m args below meth c0 C H locs ls hl hW hS
  obtain ⟨hP, hK, hz⟩ := hW
  exact va_lald (D := D.1) C.1 C.2.1 hK hP c 2 (cA := D.2 2) (n := len) (f := τ c) (by rw [wlE_get hN]; unfold zEE zEnt; rw [hk]) rfl hin hd (a p e R s m args below meth c0 C H locs ls hl ⟨hP, hK, hz⟩ hS)
theorem r_aald {c len c2 : Nat} {i : Int32} (hN : c < N) (hk : kd c = (3, len)) (hd : decode M.2.1 pc = .ok (.aaload, 1)) (hin : vp_in i len) (hg : γ c i.toNatClampNeg = some c2) (a : zA l D b M h fz kc ks Z (pc + 1) lv (.ref (b + c2) :: stk) k n N kd γ σ τ) : zA l D b M h fz kc ks Z pc lv (.int i :: .ref (b + c) :: stk) k n N kd γ σ τ := by
  intro p e R s m args below meth c0 C H locs ls hl hW hS
  obtain ⟨hP, hK, hz⟩ := hW
  refine va_aldq (D := D.1) (C := RX8) C.1 C.2.1 hK hP c 3 (cA := D.2 3) (n := len) (f := fun j => (γ c j).map (fun q => b + q)) (by rw [wlE_get hN]; unfold zEE zEnt; rw [hk]) rfl hin hd ?_
  rw [hg]
  exact a p e R s m args below meth c0 C H locs ls hl ⟨hP, hK, hz⟩ hS
theorem r_iast {c len : Nat} {i : Int32} {x : Int32} (hN : c < N) (hk : kd c = (0, len)) (hd : decode M.2.1 pc = .ok (.iastore, 1)) (hin : vp_in i len) (a : zA l D b M h 0 kc ks Z (pc + 1) lv stk k n N kd γ (st2 σ c i.toNatClampNeg x) τ) : zA l D b M h 0 kc ks Z pc lv (.int x :: .int i :: .ref (b + c) :: stk) k n N kd γ σ τ := by
  intro p e R s m args below meth c0 C H locs ls hl hW hS
  obtain ⟨hP, hK, hz⟩ := hW
  refine va_iast (D := D.1) C.1 C.2.1 hK hP (wlE_D b N _) hS c 0 (cA := D.2 0) (n := len) (f := σ c) (by rw [wlE_get hN]; unfold zEE zEnt; rw [hk]) rfl hin hd (fun H1 locs1 hP1 hD1 hS1 => ?_)
  have e1 : (wl D b N kd γ σ τ).set c (b + c, .inl (D.2 0, len, .inl (upd (σ c) i.toNatClampNeg x))) = wl D b N kd γ (st2 σ c i.toNatClampNeg x) τ := by
    rw [wlE_set, show (.inl (D.2 0, len, .inl (upd (σ c) i.toNatClampNeg x)) : va_E) = zEnt D b (kd c) (γ c) (va_up (σ c) i.toNatClampNeg x) (τ c) by unfold zEnt; rw [hk]; rfl, zEE_σ]
    rfl
  rw [e1] at hP1
  exact a p e R s m args below meth c0 C H1 locs1 ls hl ⟨hP1, hK, Or.inl rfl⟩ hS1
theorem r_zast {c len : Nat} {i : Int32} {x : Int32} (hN : c < N) (hk : kd c = (1, len)) (hd : decode M.2.1 pc = .ok (.bastore, 1)) (hin : vp_in i len) (a : zA l D b M h 0 kc ks Z (pc + 1) lv stk k n N kd γ (st2 σ c i.toNatClampNeg (vp_nar .boolean x)) τ) : zA l D b M h 0 kc ks Z pc lv (.int x :: .int i :: .ref (b + c) :: stk) k n N kd γ σ τ := by
  intro p e R s m args below meth c0 C H locs ls hl hW hS
  obtain ⟨hP, hK, hz⟩ := hW
  refine va_zast (D := D.1) C.1 C.2.1 hK hP (wlE_D b N _) hS c 1 (cA := D.2 1) (n := len) (f := σ c) (by rw [wlE_get hN]; unfold zEE zEnt; rw [hk]) rfl hin hd (fun H1 locs1 hP1 hD1 hS1 => ?_)
  have e1 : (wl D b N kd γ σ τ).set c (b + c, .inl (D.2 1, len, .inl (upd (σ c) i.toNatClampNeg (vp_nar .boolean x)))) = wl D b N kd γ (st2 σ c i.toNatClampNeg (vp_nar .boolean x)) τ := by
    rw [wlE_set, show (.inl (D.2 1, len, .inl (upd (σ c) i.toNatClampNeg (vp_nar .boolean x))) : va_E) = zEnt D b (kd c) (γ c) (va_up (σ c) i.toNatClampNeg (vp_nar .boolean x)) (τ c) by unfold zEnt; rw [hk]; rfl, zEE_σ]
    rfl
  rw [e1] at hP1
  exact a p e R s m args below meth c0 C H1 locs1 ls hl ⟨hP1, hK, Or.inl rfl⟩ hS1
theorem r_last {c len : Nat} {i : Int32} {x : Int64} (hN : c < N) (hk : kd c = (2, len)) (hd : decode M.2.1 pc = .ok (.lastore, 1)) (hin : vp_in i len) (a : zA l D b M h 0 kc ks Z (pc + 1) lv stk k n N kd γ σ (st2 τ c i.toNatClampNeg x)) : zA l D b M h 0 kc ks Z pc lv (.long x :: .int i :: .ref (b + c) :: stk) k n N kd γ σ τ := by
  intro p e R s m args below meth c0 C H locs ls hl hW hS
  obtain ⟨hP, hK, hz⟩ := hW
  refine va_last (D := D.1) C.1 C.2.1 hK hP (wlE_D b N _) hS c 2 (cA := D.2 2) (n := len) (f := τ c) (by rw [wlE_get hN]; unfold zEE zEnt; rw [hk]) rfl hin hd (fun H1 locs1 hP1 hD1 hS1 => ?_)
  have e1 : (wl D b N kd γ σ τ).set c (b + c, .inl (D.2 2, len, .inr (.inl (vp_updL (τ c) i.toNatClampNeg x)))) = wl D b N kd γ σ (st2 τ c i.toNatClampNeg x) := by
    rw [wlE_set, show (.inl (D.2 2, len, .inr (.inl (vp_updL (τ c) i.toNatClampNeg x))) : va_E) = zEnt D b (kd c) (γ c) (σ c) (va_up (τ c) i.toNatClampNeg x) by unfold zEnt; rw [hk]; rfl, zEE_τ]
    rfl
  rw [e1] at hP1
  exact a p e R s m args below meth c0 C H1 locs1 ls hl ⟨hP1, hK, Or.inl rfl⟩ hS1
end ROWS2
end
section
/-! CONTRACTS (zS), ends of methods, calls, makers. -/
abbrev zPost : Type := Option Value → Nat → zKd → zGm → zSg → zLm → Prop
def zQc (D : zDD) (b fz : Nat) (Q : zPost) : Array Value → State → Outcome → State → Prop := fun _ st oc t => (∃ (r : Option Value) (N : Nat) (kd : zKd) (γ : zGm) (σ : zSg) (τ : zLm), oc = .returned r ∧ Q r N kd γ σ τ ∧ zWd D b fz N kd γ σ τ t t.heap) ∧ va_F (fun q => b ≤ q) st t
def zZm (D : zDD) (b fz mc ms : Nat) (Q : zPost) : zZZ := fun args s below => MQ below (zQc D b fz Q) args s mc ms (fun q => b ≤ q)
def wsM (M : zMI) : List Cond := .code M.1 M.2.1 M.2.2.1 M.2.2.2 :: lw_g
def rmM (h mc ms : Nat) : Room := { frames := h, cells := mc, slots := ms, locals := 40 * h }
def zPc (D : zDD) (b fz : Nat) (av : List Value) (N : Nat) (kd : zKd) (γ : zGm) (σ : zSg) (τ : zLm) : Array Value → State → Prop := va_Pc av (fun U => zWd D b fz N kd γ σ τ U U.heap ∧ b ≤ U.heap.size ∧ zNW U)
def zS (l : Launch) (D : zDD) (b : Nat) (M : zMI) (h fz mc ms : Nat) (av : List Value) (N : Nat) (kd : zKd) (γ : zGm) (σ : zSg) (τ : zLm) (Q : zPost) : Prop := Met l M.1 (wsM M) (rmM h mc ms) (zPc D b fz av N kd γ σ τ) (zQc D b fz Q) mc ms (fun q => b ≤ q)
theorem zPc_blind {D : zDD} {b fz : Nat} {av : List Value} {N : Nat} {kd : zKd} {γ : zGm} {σ : zSg} {τ : zLm} : FrameBlind (zPc D b fz av N kd γ σ τ) := fun a U g mk q => ⟨q.1, zWd.moved (u := U) (U := U.calling g mk a) (Vm.Alike.refl U.vm) q.2.1, q.2.2.1, zNW.same (u := U) (U := U.calling g mk a) rfl q.2.2.2⟩
theorem zS.of {l : Launch} {D : zDD} {b : Nat} {M : zMI} {h fz mc ms : Nat} {av : List Value} {N : Nat} {kd : zKd} {γ : zGm} {σ : zSg} {τ : zLm} {Q : zPost} (hy : plainName M.1.cls = true) (hn : (lg_sl av).length ≤ M.2.2.1) {lv : List (Nat × Value)} (hlv : lv_args 0 av = lv) (a : zA l D b M h fz mc ms (zZm D b fz mc ms Q) 0 lv [] 0 0 N kd γ σ τ) : zS l D b M h fz mc ms av N kd γ σ τ Q := by
  subst hlv
  refine Met.ofW (cc := M.2.1) (maxL := M.2.2.1) (ret := M.2.2.2) hy rfl ?_
  intro p e s m args below meth c s₁ B hml hv
  obtain ⟨rfl, hW, hbs, hNW⟩ := hv
  have hl := lv_entry av hn
  rw [lg_entry_eq]
  exact a p e _ s m _ below meth c ⟨B.exec, B.bytes, B.returns, hml, findClass_of_methodNamed B.named, fun w hw => atoms_spec (ws := wsM M) B.pre w (List.mem_cons_of_mem _ hw), B.notSynchronized, (name_of_methodNamed B.named B.method).1, hbs, Nat.le_refl _, Nat.le_refl _, Nat.le_refl _, Nat.le_refl _, hNW⟩ s.heap [] _ hl hW va_S.rf
section CALLS
variable {l : Launch} {D : zDD} {b : Nat} {M : zMI} {h fz kc ks : Nat} {Z : zZZ} {pc : Nat} {lv lv' : List (Nat × Value)} {stk st0 : List Value} {k n N : Nat} {kd : zKd} {γ : zGm} {σ : zSg} {τ : zLm} {Q : zPost} {mc ms : Nat}
theorem r_iret {v : Int32} (hr : M.2.2.2 = some .int) (hk : k ≤ mc) (hn : n ≤ ms) (hd : decode M.2.1 pc = .ok (.ireturn, 1)) (q : Q (some (.int v)) N kd γ σ τ) : zA l D b M h fz kc ks (zZm D b fz mc ms Q) pc lv [.int v] k n N kd γ σ τ := by
  intro p e R s m args below meth c C H locs ls hl hW hS
  refine W.widen hk hn ?_
  exact W.iret C.1 C.2.1 (C.2.2.1.trans hr) (fun t ht hWm => ⟨⟨some (.int v), N, kd, γ, σ, τ, rfl, q, by rw [ht]; exact hW.moved hWm.alike⟩, hS.F ht⟩) (fun q hq => hS.2.2 q hq) hd C.2.2.2.2.2.2.1
theorem r_zret {v : Int32} (hr : M.2.2.2 = some .boolean) (hk : k ≤ mc) (hn : n ≤ ms) (hd : decode M.2.1 pc = .ok (.ireturn, 1)) (hv : v = 0 ∨ v = 1) (q : Q (some (.int v)) N kd γ σ τ) : zA l D b M h fz kc ks (zZm D b fz mc ms Q) pc lv [.int v] k n N kd γ σ τ := by
  intro p e R s m args below meth c C H locs ls hl hW hS
  refine W.widen hk hn ?_
  have hnar : narrow .boolean (.int v) = .int v := by rcases hv with rfl | rfl <;> decide
  exact W.zret C.1 C.2.1 (C.2.2.1.trans hr) hnar (fun t ht hWm => ⟨⟨some (.int v), N, kd, γ, σ, τ, rfl, q, by rw [ht]; exact hW.moved hWm.alike⟩, hS.F ht⟩) (fun q hq => hS.2.2 q hq) hd C.2.2.2.2.2.2.1
theorem r_vret (hr : M.2.2.2 = none) (hk : k ≤ mc) (hn : n ≤ ms) (hd : decode M.2.1 pc = .ok (.return_, 1)) (q : Q none N kd γ σ τ) : zA l D b M h fz kc ks (zZm D b fz mc ms Q) pc lv [] k n N kd γ σ τ := by
  intro p e R s m args below meth c C H locs ls hl hW hS
  refine W.widen hk hn ?_
  exact W.vret C.1 C.2.1 (C.2.2.1.trans hr) (fun t ht hWm => ⟨⟨none, N, kd, γ, σ, τ, rfl, q, by rw [ht]; exact hW.moved hWm.alike⟩, hS.F ht⟩) (fun q hq => hS.2.2 q hq) hd C.2.2.2.2.2.2.1
/-- what the tables say of a method that is called -/
def okM (K : zMI) (np : Nat) : Prop := (K.1.cls ≠ "java/lang/invoke/MethodHandle" ∧ K.1.cls ≠ "java/lang/invoke/VarHandle" ∧ (parseMethodDescriptor K.1.desc).map (fun d => d.parameters.length) = some np) ∧ Cond.code K.1 K.2.1 K.2.2.1 K.2.2.2 ∈ lw_tbl ∧ Cond.initialized K.1.cls ∈ lw_tbl ∧ K.2.2.1 ≤ 21
theorem good_wsM {K : zMI} (h : Cond.code K.1 K.2.1 K.2.2.1 K.2.2.2 ∈ lw_tbl) : GoodIn lw_g (wsM K) := by
  intro w hw
  rcases List.mem_cons.mp hw with rfl | hw
  · have h1 := lw_gIn h rfl
    exact ⟨h1, lw_gGood h1⟩
  · exact ⟨hw, lw_gGood hw⟩
theorem callB4 {K : zMI} {h' mc' ms' np index : Nat} {p : Program} {R : Room} {s : State} {m : MethodId} {args : Array Value} {meth : Method} {c : Code} (C : zCx b M h kc ks p R s m args meth c) (hok : okM K np) (hw : Cond.methodLink M.1.cls index K.1 ∈ lw_tbl) (hh : h' < h) : CallB R s args M.1.cls index K.1 K.2.1 K.2.2.1 K.2.2.2 (wsM K) (rmM h' mc' ms') mc' ms' np := by
  obtain ⟨-, -, -, -, hown, hts, -, -, -, hf, hlo, -, -, -⟩ := C
  obtain ⟨hd, hc, hi, hL⟩ := hok
  refine callB_of np hts (good_wsM hc) rfl rfl rfl (hts _ (lw_gIn hi rfl)) (hts _ (lw_gIn hw rfl)) hd ⟨?_, ?_⟩
  · show h' + 1 ≤ R.frames
    omega
  · show 8 + (K.2.2.1 + 11) + 40 * h' ≤ R.locals
    omega
theorem go_call {p : Program} {e : Env} {R : Room} {s : State} {m : MethodId} {args a : Array Value} {below : List Frame} {meth : Method} {c : Code} {H : Heap} {locs : List Loc} {ls : Array Slot} {Qf : State → Prop} {mc' ms' : Nat}
    (hr : va_Run p l e R s m args below meth c H locs k n mc' ms' (F0 m pc ls st0) stk (zQc D b fz Q a) (fun q => b ≤ q)) (hS : va_S (fun q => b ≤ q) s.heap H locs)
    (kk : ∀ (r : Option Value) (N : Nat) (kd : zKd) (γ : zGm) (σ : zSg) (τ : zLm), Q r N kd γ σ τ → ∀ (H1 : Heap) (locs1 : List Loc), zWd D b fz N kd γ σ τ s H1 → va_S (fun q => b ≤ q) s.heap H1 locs1 → W p l e R s m args below meth c H1 locs1 (k + mc') (n + ms') Qf (F0 m (pc + 3) ls (r.toList ++ stk))) : W p l e R s m args below meth c H locs k n Qf (F0 m pc ls st0) := by
  intro T hT X
  obtain ⟨v, st₀, t, T', L, h0, X', hL, e1, e2, ⟨⟨r, N', kd', γ', σ', τ', hv, hq, hb⟩, hz, hk⟩, st⟩ := hr T hT X
  cases hv
  rw [h0] at hz hk
  have hvm : s.vm.Alike t.vm := by rw [← e2]; exact X'.warmed.alike
  obtain ⟨t2, a1, b1⟩ := kk _ N' kd' γ' σ' τ' hq T'.heap (locs ++ L) (by rw [e1]; exact hb.moved hvm.symm)
    ⟨Nat.le_trans hS.1 (by rw [e1]; exact hz), fun q h1 h2 => by rw [e1, hk q (Nat.lt_of_lt_of_le h1 hS.1) h2]; exact hS.2.1 q h1 h2, fun q hq => by
      rcases List.mem_append.mp hq with h | h
      · exact hS.2.2 q h
      · exact hL q h⟩ T' rfl X'
  exact ⟨t2, st t2 a1, b1⟩
theorem pre4 {av : List Value} {s : State} {H : Heap} {locs : List Loc} (hW : zWd D b fz N kd γ σ τ s H) (hbs : b ≤ s.heap.size) (hS : va_S (fun q => b ≤ q) s.heap H locs) (hNW : zNW s) : ∀ U : State, U.heap = H → s.WarmedH U.vm → zPc D b fz av N kd γ σ τ av.toArray U := by
  intro U hU hWm
  exact ⟨rfl, by rw [hU]; exact hW.moved hWm.alike, by rw [hU]; exact Nat.le_trans hbs hS.1, hNW.warm hWm⟩
theorem r_callV {K : zMI} {h' mc' ms' ci c0 : Nat} {C : String} {T : u_T} {nf index np : Nat} (As : List Value) (hok : okM K np) (hC : K.1.cls = C) (hin : Cond.instanceMethod K.1 ∈ lw_tbl) (hse : Cond.selects C K.1 K.1 ∈ lw_tbl) (hci : cls12[ci]? = some (C, T, nf)) (hN : c0 < N) (hk : (kd c0).1 = ci + 4) (hw : Cond.methodLink M.1.cls index K.1 ∈ lw_tbl) (hn : As.length = np) (hst : st0 = As.reverse ++ .ref (b + c0) :: stk) (hroom : (stk.map fun v => v.category).sum ≤ 8) (hd : decode M.2.1 pc = .ok (.invokevirtual index, 3)) (hh : h' < h) (hkc : k + mc' ≤ kc) (hks : n + ms' ≤ ks)
    (sp : zS l D b K h' fz mc' ms' (.ref (b + c0) :: As) N kd γ σ τ (fun r N' kd' γ' σ' τ' => zA l D b M h fz kc ks Z (pc + 3) lv (r.toList ++ stk) (k + mc') (n + ms') N' kd' γ' σ' τ')) : zA l D b M h fz kc ks Z pc lv st0 k n N kd γ σ τ := by
  intro p e R s m args below meth c Cc H locs ls hl hW hS
  have cb := callB4 (mc' := mc') (ms' := ms') Cc hok hw hh
  obtain ⟨hx, hbb, hr, hml, hown, hts, hlk, hnm, hbs, hf, hlo, hkc2, hks2, hNW⟩ := id Cc
  have hget : (wl D b N kd γ σ τ)[c0]? = some (b + c0, .inr (ci, fldsOf b ci (γ c0) (σ c0) (τ c0))) := by rw [wlE_get hN]; unfold zEE zEnt; rw [hk]
  refine go_call (va_runV (As := As) (rest := stk) (C := C) ⟨hx, hbb, hml, hown, hts⟩ sp ⟨cb, hts _ (lw_gIn hin rfl), hts _ (lw_gIn hse rfl)⟩ ⟨zPc_blind, va_recv hW.2.1 hW.1 hci hget, pre4 hW hbs hS hNW⟩ rfl hn hl.1 hst (lv_room hroom) hd ⟨Nat.le_trans hkc hkc2, Nat.le_trans hks hks2⟩) hS (fun r N' kd' γ' σ' τ' hq H1 locs1 hW1 hS1 => ?_)
  exact hq p e R s m args below meth c Cc H1 locs1 ls hl hW1 hS1
theorem r_callS {K : zMI} {h' mc' ms' : Nat} {index np : Nat} (As : List Value) (hok : okM K np) (hin : Cond.static K.1 ∈ lw_tbl) (hw : Cond.methodLink M.1.cls index K.1 ∈ lw_tbl) (hn : As.length = np) (hst : st0 = As.reverse ++ stk) (hroom : (stk.map fun v => v.category).sum ≤ 8) (hd : decode M.2.1 pc = .ok (.invokestatic index, 3)) (hh : h' < h) (hkc : k + mc' ≤ kc) (hks : n + ms' ≤ ks)
    (sp : zS l D b K h' fz mc' ms' As N kd γ σ τ (fun r N' kd' γ' σ' τ' => zA l D b M h fz kc ks Z (pc + 3) lv (r.toList ++ stk) (k + mc') (n + ms') N' kd' γ' σ' τ')) : zA l D b M h fz kc ks Z pc lv st0 k n N kd γ σ τ := by
  intro p e R s m args below meth c Cc H locs ls hl hW hS
  have cb := callB4 (mc' := mc') (ms' := ms') Cc hok hw hh
  obtain ⟨hx, hbb, hr, hml, hown, hts, hlk, hnm, hbs, hf, hlo, hkc2, hks2, hNW⟩ := id Cc
  refine go_call (va_runS (As := As) (rest := stk) ⟨hx, hbb, hml, hown, hts⟩ sp ⟨cb, hts _ (lw_gIn hin rfl)⟩ ⟨zPc_blind, pre4 hW hbs hS hNW⟩ rfl hn hl.1 hst (lv_room hroom) hd ⟨Nat.le_trans hkc hkc2, Nat.le_trans hks hks2⟩) hS (fun r N' kd' γ' σ' τ' hq H1 locs1 hW1 hS1 => ?_)
  exact hq p e R s m args below meth c Cc H1 locs1 ls hl hW1 hS1
theorem r_callI {K : zMI} {h' mc' ms' c0 : Nat} {index np : Nat} (As : List Value) (hok : okM K np) (hvo : K.2.2.2 = none) (hnm : K.1.name = "<init>") (hin : Cond.instanceMethod K.1 ∈ lw_tbl) (hw : Cond.methodLink M.1.cls index K.1 ∈ lw_tbl) (hn : As.length = np) (hst : st0 = As.reverse ++ .ref (b + c0) :: stk) (hroom : (stk.map fun v => v.category).sum ≤ 8) (hd : decode M.2.1 pc = .ok (.invokespecial index, 3)) (hh : h' < h) (hkc : k + mc' ≤ kc) (hks : n + ms' ≤ ks)
    (sp : zS l D b K h' fz mc' ms' (.ref (b + c0) :: As) N kd γ σ τ (fun r N' kd' γ' σ' τ' => zA l D b M h fz kc ks Z (pc + 3) lv (r.toList ++ stk) (k + mc') (n + ms') N' kd' γ' σ' τ')) : zA l D b M h fz kc ks Z pc lv st0 k n N kd γ σ τ := by
  intro p e R s m args below meth c Cc H locs ls hl hW hS
  have cb := callB4 (mc' := mc') (ms' := ms') Cc hok hw hh
  rw [hvo] at cb
  obtain ⟨hx, hbb, hr, hml, hown, hts, hlk, hnm2, hbs, hf, hlo, hkc2, hks2, hNW⟩ := id Cc
  refine go_call (va_runI (As := As) (rest := stk) ⟨hx, hbb, hml, hown, hts⟩ sp ⟨cb, hnm, hts _ (lw_gIn hin rfl)⟩ ⟨zPc_blind, pre4 hW hbs hS hNW⟩ rfl hn hl.1 hst (lv_room hroom) hd ⟨Nat.le_trans hkc hkc2, Nat.le_trans hks hks2⟩) hS (fun r N' kd' γ' σ' τ' hq H1 locs1 hW1 hS1 => ?_)
  exact hq p e R s m args below meth c Cc H1 locs1 ls hl hW1 hS1
theorem r_callIN {K : zMI} {h' mc' ms' c0 : Nat} {index np : Nat} {host : String} (As : List Value) (hok : okM K np) (hvo : K.2.2.2 = none) (hnm : K.1.name = "<init>") (hin : Cond.instanceMethod K.1 ∈ lw_tbl) (hw : Cond.methodLinkNest M.1.cls index K.1 host ∈ nestL) (hn : As.length = np) (hst : st0 = As.reverse ++ .ref (b + c0) :: stk) (hroom : (stk.map fun v => v.category).sum ≤ 8) (hd : decode M.2.1 pc = .ok (.invokespecial index, 3)) (hh : h' < h) (hkc : k + mc' ≤ kc) (hks : n + ms' ≤ ks)
    (sp : zS l D b K h' fz mc' ms' (.ref (b + c0) :: As) N kd γ σ τ (fun r N' kd' γ' σ' τ' => zA l D b M h fz kc ks Z (pc + 3) lv (r.toList ++ stk) (k + mc') (n + ms') N' kd' γ' σ' τ')) : zA l D b M h fz kc ks Z pc lv st0 k n N kd γ σ τ := by
  intro p e R s m args below meth c Cc H locs ls hl hW hS
  obtain ⟨hx, hbb, hr, hml, hown, hts, hlk, hnm2, hbs, hf, hlo, hkc2, hks2, hNW⟩ := id Cc
  obtain ⟨hd2, hcd, hi, hL⟩ := hok
  have cb : va_CN R s args M.1.cls index K.1 host K.2.1 K.2.2.1 none (wsM K) (rmM h' mc' ms') mc' ms' np := by
    refine va_cnB (ws' := lw_g) np hts (good_wsM hcd) (by rw [← hvo]; rfl) rfl rfl (hNW.1 _ hw) (hts _ (lw_gIn hi rfl)) hd2 ⟨?_, ?_⟩
    · show h' + 1 ≤ R.frames
      omega
    · show 8 + (K.2.2.1 + 11) + 40 * h' ≤ R.locals
      omega
  refine go_call (va_runIN (As := As) (rest := stk) ⟨hx, hbb, hml, hown, hts⟩ sp ⟨cb, hnm, hts _ (lw_gIn hin rfl)⟩ ⟨zPc_blind, pre4 hW hbs hS hNW⟩ rfl hn hl.1 hst (lv_room hroom) hd ⟨Nat.le_trans hkc hkc2, Nat.le_trans hks hks2⟩) hS (fun r N' kd' γ' σ' τ' hq H1 locs1 hW1 hS1 => ?_)
  exact hq p e R s m args below meth c Cc H1 locs1 ls hl hW1 hS1
end CALLS
end
section
/-! MAKERS: new objects and arrays; stores of references; Object's constructor; System.arraycopy. -/
def tyk (t : FieldType) : Bool := match t with
  | .int => true | .long => true | .object _ => true | .array _ => true | _ => false
theorem cTy_ok {t : Nat} : ∀ j, j < cN t → tyk (cTy t j) = true := by
  match t with
  | 0 => decide +kernel
  | 1 => decide +kernel
  | 2 => decide +kernel
  | 3 => decide +kernel
  | 4 => decide +kernel
  | 5 => decide +kernel
  | 6 => decide +kernel
  | 7 => decide +kernel
  | 8 => decide +kernel
  | 9 => decide +kernel
  | 10 => decide +kernel
  | 11 => decide +kernel
  | t + 12 => intro j hj; exact absurd hj (Nat.not_lt_zero j)
theorem flds_dflt {b t j : Nat} (hj : j < cN t) : defaultValue (cTy t j) = vp_V (fldsOf b t (fun _ => none) (fun _ => 0) (fun _ => 0)) j := by
  have h := cTy_ok (t := t) j hj
  unfold vp_V
  rw [List.getD_eq_getElem?_getD, flds_get hj, Option.getD_some]
  cases hx : cTy t j <;> rw [hx] at h <;> first | rfl | cases h
section MAKERS
variable {l : Launch} {D : zDD} {b : Nat} {M : zMI} {h fz kc ks : Nat} {Z : zZZ} {pc : Nat} {lv lv' : List (Nat × Value)} {stk st0 : List Value} {k n N : Nat} {kd : zKd} {γ : zGm} {σ : zSg} {τ : zLm} {Q : zPost} {mc ms : Nat}
theorem wl_pushed {H H1 : Heap} {ky : Nat × Nat} {g : Nat → Option Nat} {x : Nat → Int32} {y : Nat → Int64} (hP : va_P D.1 cls12 (wl D b N kd γ σ τ) H) (hz : H.size = b + N) (o1 : ∀ q, q < b + N → H1[q]? = H[q]?) (hat : va_at D.1 cls12 (b + N, zEnt D b ky g x y) H1) : va_P D.1 cls12 (wl D b (N + 1) (va_up kd N ky) (va_up γ N g) (va_up σ N x) (va_up τ N y)) H1 := by
  have hk : ∀ (k : Nat) (x : Nat × va_E), (wl D b N kd γ σ τ)[k]? = some x → H1[x.1]? = H[x.1]? := fun k x hx => o1 x.1 (by rw [← hz]; exact (hP k x hx).lt)
  have h1 := (hP.kept hk).app (w2 := [(b + N, zEnt D b ky g x y)]) (fun k x hx => by
    have hz : k < 1 := (List.getElem?_eq_some_iff.mp hx).1
    rw [show k = 0 by omega] at hx
    cases hx
    exact hat)
  rw [wlE_push, zEE_new] at h1
  exact h1
theorem r_new {ci : Nat} {C : String} {T : u_T} {nf index : Nat} (hci : cls12[ci]? = some (C, T, nf)) (hw : Cond.classLink M.1.cls index C ∈ lw_tbl) (hi : Cond.instantiable C nf ∈ lw_tbl) (hini : Cond.initialized C ∈ lw_tbl) (hd : decode M.2.1 pc = .ok (.new index, 3)) (hkc : k + 1 ≤ kc) (hks : n + nf ≤ ks)
    (a : zA l D b M h 1 kc ks Z (pc + 3) lv (.ref (b + N) :: stk) (k + 1) (n + nf) (N + 1) (va_up kd N (ci + 4, 0)) (va_up γ N (fun _ => none)) (va_up σ N (fun _ => 0)) (va_up τ N (fun _ => 0))) : zA l D b M h 1 kc ks Z pc lv stk k n N kd γ σ τ := by
  intro p e R s m args below meth c Cc H locs ls hl hW hS
  obtain ⟨hx, hbb, hr, hml, hown, hts, hlk, hnm, hbs, hf, hlo, hkc2, hks2, hNW⟩ := id Cc
  obtain ⟨hcn, hci2, hpt, hnm2⟩ := cls_N hci
  obtain ⟨hP, hK, hz⟩ := hW
  have hz : H.size = b + N := hz.resolve_left (by decide)
  have hKn := hK.1 ci _ hci
  refine W.newcK hx hbb hown (hts _ (lw_gIn hw rfl)) (hts _ (lw_gIn hi rfl)) (hts _ (lw_gIn hini rfl)) rfl hd (Nat.le_trans hkc hkc2) (Nat.le_trans hks hks2) hKn.2.1 hz fun H1 kC hkC e1 z1 o1 => ?_
  refine a p e R s m args below meth c Cc H1 locs ls hl ⟨wl_pushed hP hz o1 ?_, hK, Or.inr (by rw [z1]; omega)⟩ ⟨Nat.le_trans hS.1 (by omega), fun x h1 h2 => (o1 x (by have := hS.1; omega)).trans (hS.2.1 x h1 h2), hS.2.2⟩
  exact ⟨_, hci, (u_born (cTy ci) hts hci2 hKn hkC e1 hpt).to (fun j hj => flds_dflt (by rw [hcn]; exact hj))⟩
theorem r_newarr {atype : ArrayType} {ty : FieldType} {tag len : Nat} {v : Int32} (hty : newarray.typeOf atype = ty) (htag : (tag = 0 ∧ ty = .int) ∨ (tag = 1 ∧ ty = .boolean) ∨ (tag = 2 ∧ ty = .long)) (hw : Cond.arrayClass ty ∈ lw_tbl) (hv : ¬ v < 0) (hlen : v.toNatClampNeg = len) (hb8 : len ≤ 1000) (hd : decode M.2.1 pc = .ok (.newarray atype, 2)) (hkc : k + 1 ≤ kc) (hks : n + len ≤ ks)
    (a : zA l D b M h 1 kc ks Z (pc + 2) lv (.ref (b + N) :: stk) (k + 1) (n + len) (N + 1) (va_up kd N (tag, len)) (va_up γ N (fun _ => none)) (va_up σ N (fun _ => 0)) (va_up τ N (fun _ => 0))) : zA l D b M h 1 kc ks Z pc lv (.int v :: stk) k n N kd γ σ τ := by
  intro p e R s m args below meth c Cc H locs ls hl hW hS
  obtain ⟨hx, hbb, hr, hml, hown, hts, hlk, hnm, hbs, hf, hlo, hkc2, hks2, hNW⟩ := id Cc
  obtain ⟨hP, hK, hz⟩ := hW
  have hz : H.size = b + N := hz.resolve_left (by decide)
  subst hty
  have hcb : len * componentBytes (newarray.typeOf atype) ≤ 536870912 := by
    have : componentBytes (newarray.typeOf atype) ≤ 8 := by cases atype <;> decide
    have h2 := Nat.mul_le_mul hb8 this
    omega
  refine va_newaK hx hbb (hts _ (lw_gIn hw rfl)) rfl hd rfl hv hlen hcb (Nat.le_trans hkc hkc2) (Nat.le_trans hks hks2) hz fun H1 cA e1 z1 o1 hAr hNm => ?_
  refine a p e R s m args below meth c Cc H1 locs ls hl ⟨wl_pushed hP hz o1 ?_, hK, Or.inr (by rw [z1]; omega)⟩ ⟨Nat.le_trans hS.1 (by omega), fun x h1 h2 => (o1 x (by have := hS.1; omega)).trans (hS.2.1 x h1 h2), hS.2.2⟩
  rcases htag with ⟨rfl, ht⟩ | ⟨rfl, ht⟩ | ⟨rfl, ht⟩
  · have hA : cA = D.2 0 := by
      have h2 := (hK.2 0 _ rfl).2
      rw [ht] at hNm
      exact Option.some.inj (hNm.symm.trans h2)
    show H1[b + N]? = some (vp_cell (D.2 0) (len, .inl (fun _ => 0)))
    rw [e1, ht, hA]; rfl
  · have hA : cA = D.2 1 := by
      have h2 := (hK.2 1 _ rfl).2
      rw [ht] at hNm
      exact Option.some.inj (hNm.symm.trans h2)
    show H1[b + N]? = some (vp_cell (D.2 1) (len, .inl (fun _ => 0)))
    rw [e1, ht, hA]; rfl
  · have hA : cA = D.2 2 := by
      have h2 := (hK.2 2 _ rfl).2
      rw [ht] at hNm
      exact Option.some.inj (hNm.symm.trans h2)
    show H1[b + N]? = some (vp_cell (D.2 2) (len, .inr (.inl (fun _ => 0))))
    rw [e1, ht, hA]; rfl
theorem r_anew {index len : Nat} {v : Int32} (hw : Cond.classLink M.1.cls index RX8 ∈ lw_tbl) (hv : ¬ v < 0) (hlen : v.toNatClampNeg = len) (hb8 : len ≤ 1000) (hd : decode M.2.1 pc = .ok (.anewarray index, 3)) (hkc : k + 1 ≤ kc) (hks : n + len ≤ ks)
    (a : zA l D b M h 1 kc ks Z (pc + 3) lv (.ref (b + N) :: stk) (k + 1) (n + len) (N + 1) (va_up kd N (3, len)) (va_up γ N (fun _ => none)) (va_up σ N (fun _ => 0)) (va_up τ N (fun _ => 0))) : zA l D b M h 1 kc ks Z pc lv (.int v :: stk) k n N kd γ σ τ := by
  intro p e R s m args below meth c Cc H locs ls hl hW hS
  obtain ⟨hx, hbb, hr, hml, hown, hts, hlk, hnm, hbs, hf, hlo, hkc2, hks2, hNW⟩ := id Cc
  obtain ⟨hP, hK, hz⟩ := hW
  have hz : H.size = b + N := hz.resolve_left (by decide)
  subst hlen
  refine W.anew hx hbb hown (hts _ (lw_gIn hw rfl)) hNW.2.use rfl hd rfl hv (by omega) (Nat.le_trans hkc hkc2) (Nat.le_trans hks hks2) fun cA kA comp f1 f2 f3 f4 => ?_
  generalize hH1 : H.push ({ cls := cA, slots := Array.replicate v.toNatClampNeg .null, vm := .none } : Cell) = H1
  have z1 : H1.size = H.size + 1 := by rw [← hH1, Array.size_push]
  have e1 : H1[b + N]? = some (arrV cA v.toNatClampNeg (fun _ => .null)) := by rw [← hH1, ← hz, Array.getElem?_push_size, ← arrV_new]
  have o1 : ∀ q : Nat, q < b + N → H1[q]? = H[q]? := fun q hq => by rw [← hH1, Array.getElem?_push, if_neg (by omega)]
  have hA : cA = D.2 3 := by
    obtain ⟨kB, comp2, g1, g2, g3, g4⟩ := (hK.2 3 _ rfl).2
    exact Option.some.inj (f1.symm.trans g4)
  have hst : (F0 m (pc + 3) ls (.ref H.size :: stk)) = F0 m (pc + 3) ls (.ref (b + N) :: stk) := by rw [hz]
  show W p l e R s m args below meth c H1 locs (k + 1) (n + v.toNatClampNeg) (Z args s below) (F0 m (pc + 3) ls (.ref H.size :: stk))
  rw [hst]
  refine a p e R s m args below meth c Cc H1 locs ls hl ⟨wl_pushed hP hz o1 ?_, hK, Or.inr (by rw [z1]; omega)⟩ ⟨Nat.le_trans hS.1 (by omega), fun x h1 h2 => (o1 x (by have := hS.1; omega)).trans (hS.2.1 x h1 h2), hS.2.2⟩
  show H1[b + N]? = some (vp_cell (D.2 3) (v.toNatClampNeg, .inr (.inr (.inr (.inr (fun j => Option.map (fun c => b + c) none))))))
  rw [e1, hA]; rfl
theorem r_aast {c len c2 : Nat} {i : Int32} (hN : c < N) (hk : kd c = (3, len)) (hN2 : c2 < N) (hk2 : (kd c2).1 = 12) (hd : decode M.2.1 pc = .ok (.aastore, 1)) (hin : vp_in i len) (a : zA l D b M h fz kc ks Z (pc + 1) lv stk k n N kd (st2 γ c i.toNatClampNeg (some c2)) σ τ) : zA l D b M h fz kc ks Z pc lv (.ref (b + c2) :: .int i :: .ref (b + c) :: stk) k n N kd γ σ τ := by
  intro p e R s m args below meth c0 C H locs ls hl hW hS
  obtain ⟨hP, hK, hz⟩ := hW
  have hlt : i.toNatClampNeg < len := Nat.not_le.mp fun q => hin (Or.inr q)
  have h0 : ¬ i < 0 := fun q => hin (Or.inl q)
  have ha : (wl D b N kd γ σ τ)[c]? = some (b + c, .inl (D.2 3, len, .inr (.inr (.inr (.inr (fun j => (γ c j).map (fun q => b + q))))))) := by rw [wlE_get hN]; unfold zEE zEnt; rw [hk]
  have hv : (wl D b N kd γ σ τ)[c2]? = some (b + c2, .inr (8, fldsOf b 8 (γ c2) (σ c2) (τ c2))) := by rw [wlE_get hN2]; unfold zEE zEnt; rw [hk2]
  obtain ⟨r', hr', cellV, g1, g2, g3, -⟩ := hP c2 _ hv
  have hcls := (hK.1 8 _ rfl).2
  obtain ⟨kA, comp, k1, k2, k3, -⟩ := (hK.2 3 _ rfl).2
  have hcomp : comp = D.1.1 8 := Option.some.inj (k3.symm.trans hcls.1)
  subst hcomp
  obtain ⟨kC, hkC, -⟩ := hcls.2
  refine W.aast C.1 C.2.1 (hP c _ ha) (fun q h => by cases h) (fun h => by cases h) k1 k2 rfl hkC ⟨h0, by show _ < (arrV _ _ _).slots.size; rw [arrV_size]; exact hlt⟩ g1 (fun q h => by rw [g3] at h; cases h) (by rw [g2]; exact hkC) (by rw [g2]; exact va_assign hcls) rfl rfl hd fun H1 e1 z oq => ?_
  have hP1 : va_P D.1 cls12 ((wl D b N kd γ σ τ).set c (b + c, zEnt D b (kd c) (va_up (γ c) i.toNatClampNeg (some c2)) (σ c) (τ c))) H1 := by
    refine hP.set (wlE_D b N _) ha ?_ oq
    unfold zEnt
    rw [hk]
    show H1[b + c]? = some (vp_cell _ _)
    rw [e1]
    rw [vp_cell_q, vp_cell_q, arrV_store]
    congr 2
    funext q
    by_cases hq : q = i.toNatClampNeg
    · subst hq
      simp [updV, va_up, va_rf]
    · simp [updV, va_up, hq]
  rw [wlE_set, zEE_γ] at hP1
  exact a p e R s m args below meth c0 C H1 _ ls hl ⟨hP1, hK, hz.imp id (fun q => z.trans q)⟩ (hS.put z oq (by show b ≤ b + c; omega))
theorem r_oinit {c0 index : Nat} (hw : Cond.methodLink M.1.cls index objectInit ∈ lw_tbl) (hin : Cond.instanceMethod objectInit ∈ lw_tbl) (hcd : Cond.code objectInit ⟨#[0xb1]⟩ 1 none ∈ lw_tbl) (hd : decode M.2.1 pc = .ok (.invokespecial index, 3)) (hh : 1 ≤ h) (hroom : (stk.map fun v => v.category).sum ≤ 8) (a : zA l D b M h fz kc ks Z (pc + 3) lv stk k n N kd γ σ τ) : zA l D b M h fz kc ks Z pc lv (.ref c0 :: stk) k n N kd γ σ τ := by
  intro p e R s m args below meth c Cc H locs ls hl hW hS
  obtain ⟨hx, hbb, hr, hml, hown, hts, hlk, hnm, hbs, hf, hlo, hkc2, hks2, hNW⟩ := id Cc
  refine W.objInit hx hbb hown (hts _ (lw_gIn hw rfl)) (hts _ (lw_gIn hin rfl)) (hts _ (lw_gIn hcd rfl)) rfl (by rw [hml]; exact hl.1) rfl hd (by omega) ?_ ?_
  · show 2 * 0 + (stk.map fun v => v.category).sum + 12 ≤ R.locals
    omega
  · exact a p e R s m args below meth c Cc H locs ls hl hW hS
theorem r_copy {index c1 c2 n1 n2 : Nat} {sp dp cnt : Int32} (hw : Cond.methodLink M.1.cls index arraycopyName ∈ lw_tbl) (hnat : Cond.native arraycopyName ∈ lw_tbl) (hstat : Cond.static arraycopyName ∈ lw_tbl) (hini : Cond.initialized "java/lang/System" ∈ lw_tbl) (hN1 : c1 < N) (hN2 : c2 < N) (hk1 : kd c1 = (0, n1)) (hk2 : kd c2 = (0, n2)) (h1 : ¬ sp < 0) (h2 : ¬ dp < 0) (h3 : ¬ cnt < 0) (h4 : sp.toNatClampNeg + cnt.toNatClampNeg ≤ n1) (h5 : dp.toNatClampNeg + cnt.toNatClampNeg ≤ n2) (hh : 1 ≤ h) (hroom : (stk.map fun v => v.category).sum ≤ 8) (hd : decode M.2.1 pc = .ok (.invokestatic index, 3))
    (a : zA l D b M h 0 kc ks Z (pc + 3) lv stk k n N kd γ (va_up σ c2 (va_cpy (σ c1) (σ c2) sp.toNatClampNeg dp.toNatClampNeg cnt.toNatClampNeg)) τ) : zA l D b M h 0 kc ks Z pc lv (.int cnt :: .int dp :: .ref (b + c2) :: .int sp :: .ref (b + c1) :: stk) k n N kd γ σ τ := by
  intro p e R s m args below meth c Cc H locs ls hl hW hS
  obtain ⟨hx, hbb, hr, hml, hown, hts, hlk, hnm, hbs, hf, hlo, hkc2, hks2, hNW⟩ := id Cc
  obtain ⟨hP, hK, hz⟩ := hW
  refine va_copyi (D := D.1) (ty := .int) hx hbb (by rw [hml]; exact hl.1.symm) hown (hts _ (lw_gIn hw rfl)) (hts _ (lw_gIn hnat rfl)) (hts _ (lw_gIn hstat rfl)) (hts _ (lw_gIn hini rfl)) hK hP (wlE_D b N _) hS c1 c2 0 0 (c0 := D.2 0) (c1 := D.2 0) (n0 := n1) (n1 := n2) (f := σ c1) (g := σ c2) (by rw [wlE_get hN1]; unfold zEE zEnt; rw [hk1]) (by rw [wlE_get hN2]; unfold zEE zEnt; rw [hk2]) rfl rfl rfl h1 h2 h3 h4 h5 (fun i hi => rfl) (by omega) ?_ hd (fun H1 locs1 hP1 hD1 hS1 => ?_)
  · have : nativeFrameWords "java/lang/System" "arraycopy" 5 ≤ 20 := by decide
    omega
  · rw [wlE_set, show (Sum.inl (D.2 0, n2, Sum.inl (va_cpy (σ c1) (σ c2) sp.toNatClampNeg dp.toNatClampNeg cnt.toNatClampNeg)) : va_E) = zEnt D b (kd c2) (γ c2) (va_cpy (σ c1) (σ c2) sp.toNatClampNeg dp.toNatClampNeg cnt.toNatClampNeg) (τ c2) by unfold zEnt; rw [hk2], zEE_σ] at hP1
    exact a p e R s m args below meth c Cc H1 locs1 ls hl ⟨hP1, hK, Or.inl rfl⟩ hS1
end MAKERS
end
section
/-! THE GRAPH of the cells once all constructors have run; contracts and calls in it. -/
abbrev N0 : Nat := 144
def K0t (c : Nat) : Nat × Nat := match c with
  | 0 => (14, 0)
  | 1 => (11, 0)
  | 2 => (0, 240)
  | 3 => (10, 0)
  | 4 => (0, 6)
  | 5 => (0, 6)
  | 6 => (0, 6)
  | 7 => (0, 6)
  | 8 => (10, 0)
  | 9 => (0, 6)
  | 10 => (0, 6)
  | 11 => (0, 6)
  | 12 => (0, 6)
  | 13 => (12, 0)
  | 14 => (0, 6)
  | 15 => (0, 6)
  | 16 => (0, 6)
  | 17 => (0, 6)
  | 18 => (13, 0)
  | 19 => (0, 16)
  | 20 => (0, 16)
  | 21 => (7, 0)
  | 22 => (6, 0)
  | 23 => (9, 0)
  | 24 => (3, 16)
  | 25 => (3, 2)
  | 26 => (0, 2)
  | 27 => (1, 2)
  | 118 => (8, 0)
  | 119 => (0, 12)
  | 120 => (5, 0)
  | 121 => (0, 25)
  | 122 => (4, 0)
  | 123 => (0, 15)
  | 124 => (0, 15)
  | 125 => (15, 0)
  | 126 => (0, 240)
  | 127 => (0, 6)
  | 128 => (0, 6)
  | 129 => (0, 6)
  | 130 => (0, 6)
  | 131 => (0, 6)
  | 132 => (0, 6)
  | 133 => (0, 26)
  | 134 => (0, 416)
  | 135 => (0, 16)
  | 136 => (0, 6)
  | 137 => (1, 6)
  | 138 => (0, 25)
  | 139 => (0, 15)
  | 140 => (0, 15)
  | 141 => (1, 2)
  | 142 => (0, 52)
  | 143 => (2, 2)
  | _ => (0, 0)
def K0 : zKd := fun c => if 28 ≤ c ∧ c < 118 then (if (c - 28) % 5 = 0 then (12, 0) else (0, 6)) else K0t c
def scF (c j : Nat) : Option Nat := if 2 ≤ j ∧ j ≤ 5 then some (c + (j - 1)) else none
def G0t (c : Nat) : Nat → Option Nat := match c with
  | 0 => (fun j => match j with | 0 => some 1 | 1 => some 3 | 2 => some 8 | 3 => some 13 | 4 => some 18 | 5 => some 21 | 6 => some 22 | 7 => some 23 | 8 => some 118 | 9 => some 120 | 10 => some 122 | _ => none)
  | 1 => (fun j => match j with | 0 => some 2 | _ => none)
  | 3 => (fun j => match j with | 4 => some 4 | 5 => some 5 | 6 => some 6 | 7 => some 7 | _ => none)
  | 8 => (fun j => match j with | 4 => some 9 | 5 => some 10 | 6 => some 11 | 7 => some 12 | _ => none)
  | 18 => (fun j => match j with | 0 => some 19 | 1 => some 20 | _ => none)
  | 22 => (fun j => match j with | 0 => some 8 | 1 => some 13 | 2 => some 18 | 3 => some 21 | _ => none)
  | 23 => (fun j => match j with | 0 => some 24 | 1 => some 25 | 2 => some 26 | 3 => some 27 | _ => none)
  | 118 => (fun j => match j with | 0 => some 119 | _ => none)
  | 120 => (fun j => match j with | 5 => some 121 | _ => none)
  | 122 => (fun j => match j with | 1 => some 123 | 2 => some 124 | _ => none)
  | 125 => (fun j => match j with | 1 => some 126 | 10 => some 127 | 11 => some 128 | 12 => some 129 | 13 => some 130 | 18 => some 131 | 19 => some 132 | 20 => some 133 | 23 => some 134 | 25 => some 135 | 27 => some 136 | 28 => some 137 | 29 => some 138 | 31 => some 139 | 32 => some 140 | 33 => some 141 | 34 => some 142 | 35 => some 143 | _ => none)
  | 13 => scF 13
  | 24 => (fun j => if j < 16 then some (28 + 5 * j) else none)
  | 25 => (fun j => if j < 2 then some (108 + 5 * j) else none)
  | _ => (fun _ => none)
def G0 : zGm := fun c => if 28 ≤ c ∧ c < 118 then (if (c - 28) % 5 = 0 then scF c else (fun _ => none)) else G0t c
def isSc (c : Nat) : Prop := c = 13 ∨ (28 ≤ c ∧ c < 118 ∧ (c - 28) % 5 = 0)
theorem isSc_K {c : Nat} (h : isSc c) : K0 c = (12, 0) := by
  rcases h with rfl | ⟨h1, h2, h3⟩
  · rfl
  · unfold K0; rw [if_pos ⟨h1, h2⟩, if_pos h3]
theorem isSc_lt {c : Nat} (h : isSc c) : c + 4 < N0 := by
  rcases h with rfl | ⟨h1, h2, h3⟩
  · decide
  · show c + 4 < 144; omega
theorem isSc_A {c k : Nat} (h : isSc c) (h1 : 1 ≤ k) (h2 : k ≤ 4) : K0 (c + k) = (0, 6) := by
  rcases h with rfl | ⟨h3, h4, h5⟩
  · rcases (show k = 1 ∨ k = 2 ∨ k = 3 ∨ k = 4 by omega) with rfl | rfl | rfl | rfl <;> rfl
  · unfold K0; rw [if_pos (by omega), if_neg (by omega)]
theorem isSc_G {c j : Nat} (h : isSc c) (h1 : 2 ≤ j) (h2 : j ≤ 5) : G0 c j = some (c + (j - 1)) := by
  rcases h with rfl | ⟨h3, h4, h5⟩
  · show G0t 13 j = _
    show scF 13 j = _
    unfold scF; rw [if_pos ⟨h1, h2⟩]
  · unfold G0; rw [if_pos ⟨h3, h4⟩, if_pos h5]
    unfold scF; rw [if_pos ⟨h1, h2⟩]
theorem isSc_un {j : Nat} (h : j < 16) : isSc (28 + 5 * j) := Or.inr ⟨by omega, by omega, by omega⟩
theorem isSc_im {j : Nat} (h : j < 2) : isSc (108 + 5 * j) := Or.inr ⟨by omega, by omega, by omega⟩
theorem G0_24 {j : Nat} (h : j < 16) : G0 24 j = some (28 + 5 * j) := by
  show (if j < 16 then some (28 + 5 * j) else none) = _
  rw [if_pos h]
theorem G0_25 {j : Nat} (h : j < 2) : G0 25 j = some (108 + 5 * j) := by
  show (if j < 2 then some (108 + 5 * j) else none) = _
  rw [if_pos h]
theorem vp_lt {i : Int32} {n : Nat} (h : vp_in i n) : i.toNatClampNeg < n := Nat.not_le.mp fun q => h (Or.inr q)
theorem zS.mono {l : Launch} {D : zDD} {b : Nat} {M : zMI} {h fz mc ms : Nat} {av : List Value} {N : Nat} {kd : zKd} {γ : zGm} {σ : zSg} {τ : zLm} {Q Q' : zPost} (a : zS l D b M h fz mc ms av N kd γ σ τ Q) (hq : ∀ r N kd γ σ τ, Q r N kd γ σ τ → Q' r N kd γ σ τ) : zS l D b M h fz mc ms av N kd γ σ τ Q' := by
  intro p e ha hc hk s m args below hf happ hP hK
  obtain ⟨n, o, h1, h2, h3, ⟨⟨r, N', kd', γ', σ', τ', e1, e2, e3⟩, hF⟩, L⟩ := a p e ha hc hk s m args below hf happ hP hK
  exact ⟨n, o, h1, h2, h3, ⟨⟨r, N', kd', γ', σ', τ', e1, hq _ _ _ _ _ _ e2, e3⟩, hF⟩, L⟩
abbrev QI (γe : zGm) (Q : Int32 → zSg → zLm → Prop) : zPost := fun r N kd γ σ τ => N = N0 ∧ kd = K0 ∧ γ = γe ∧ ∃ x : Int32, r = some (.int x) ∧ Q x σ τ
abbrev QV (γe : zGm) (Q : zSg → zLm → Prop) : zPost := fun r N kd γ σ τ => N = N0 ∧ kd = K0 ∧ γ = γe ∧ r = none ∧ Q σ τ
abbrev AI (l : Launch) (D : zDD) (b : Nat) (M : zMI) (h : Nat) (γe : zGm) (Q : Int32 → zSg → zLm → Prop) (pc : Nat) (lv : List (Nat × Value)) (stk : List Value) (γ : zGm) (σ : zSg) (τ : zLm) : Prop := zA l D b M h 0 0 0 (zZm D b 0 0 0 (QI γe Q)) pc lv stk 0 0 N0 K0 γ σ τ
abbrev AV (l : Launch) (D : zDD) (b : Nat) (M : zMI) (h : Nat) (γe : zGm) (Q : zSg → zLm → Prop) (pc : Nat) (lv : List (Nat × Value)) (stk : List Value) (γ : zGm) (σ : zSg) (τ : zLm) : Prop := zA l D b M h 0 0 0 (zZm D b 0 0 0 (QV γe Q)) pc lv stk 0 0 N0 K0 γ σ τ
abbrev SI (l : Launch) (D : zDD) (b : Nat) (M : zMI) (h : Nat) (γ : zGm) (av : List Value) (σ : zSg) (τ : zLm) (Q : Int32 → zSg → zLm → Prop) : Prop := zS l D b M h 0 0 0 av N0 K0 γ σ τ (QI γ Q)
abbrev SV (l : Launch) (D : zDD) (b : Nat) (M : zMI) (h : Nat) (γ : zGm) (av : List Value) (σ : zSg) (τ : zLm) (Q : zSg → zLm → Prop) : Prop := zS l D b M h 0 0 0 av N0 K0 γ σ τ (QV γ Q)
def okV (K : zMI) (np ci : Nat) : Prop := ∃ (C : String) (T : u_T) (nf : Nat), okM K np ∧ K.1.cls = C ∧ Cond.instanceMethod K.1 ∈ lw_tbl ∧ Cond.selects C K.1 K.1 ∈ lw_tbl ∧ cls12[ci]? = some (C, T, nf)
def okS (K : zMI) (np : Nat) : Prop := okM K np ∧ Cond.static K.1 ∈ lw_tbl
section RUN
variable {l : Launch} {D : zDD} {b : Nat} {M : zMI} {h kc ks : Nat} {Z : zZZ} {pc : Nat} {lv lv' : List (Nat × Value)} {stk st0 : List Value} {γ : zGm} {σ : zSg} {τ : zLm}
variable {K : zMI} {h' ci c0 index np : Nat} {F : Int32 → zSg → zLm → Prop} {G : zSg → zLm → Prop}
theorem rc_VI (As : List Value) (hok : okV K np ci) (hN : c0 < N0) (hk : (K0 c0).1 = ci + 4) (hw : Cond.methodLink M.1.cls index K.1 ∈ lw_tbl) (hn : As.length = np) (hst : st0 = As.reverse ++ .ref (b + c0) :: stk) (hroom : (stk.map fun v => v.category).sum ≤ 8) (hd : decode M.2.1 pc = .ok (.invokevirtual index, 3)) (hh : h' < h)
    (sp : SI l D b K h' γ (.ref (b + c0) :: As) σ τ F) (kk : ∀ x σ' τ', F x σ' τ' → zA l D b M h 0 kc ks Z (pc + 3) lv (.int x :: stk) 0 0 N0 K0 γ σ' τ') : zA l D b M h 0 kc ks Z pc lv st0 0 0 N0 K0 γ σ τ := by
  obtain ⟨C, T, nf, hok1, hC, hin, hse, hci⟩ := hok
  refine r_callV (mc' := 0) (ms' := 0) As hok1 hC hin hse hci hN hk hw hn hst hroom hd hh (Nat.zero_le _) (Nat.zero_le _) (zS.mono sp ?_)
  rintro r N kd γ' σ' τ' ⟨rfl, rfl, rfl, x, rfl, hF⟩
  exact kk x σ' τ' hF
theorem rc_VV (As : List Value) (hok : okV K np ci) (hN : c0 < N0) (hk : (K0 c0).1 = ci + 4) (hw : Cond.methodLink M.1.cls index K.1 ∈ lw_tbl) (hn : As.length = np) (hst : st0 = As.reverse ++ .ref (b + c0) :: stk) (hroom : (stk.map fun v => v.category).sum ≤ 8) (hd : decode M.2.1 pc = .ok (.invokevirtual index, 3)) (hh : h' < h)
    (sp : SV l D b K h' γ (.ref (b + c0) :: As) σ τ G) (kk : ∀ σ' τ', G σ' τ' → zA l D b M h 0 kc ks Z (pc + 3) lv stk 0 0 N0 K0 γ σ' τ') : zA l D b M h 0 kc ks Z pc lv st0 0 0 N0 K0 γ σ τ := by
  obtain ⟨C, T, nf, hok1, hC, hin, hse, hci⟩ := hok
  refine r_callV (mc' := 0) (ms' := 0) As hok1 hC hin hse hci hN hk hw hn hst hroom hd hh (Nat.zero_le _) (Nat.zero_le _) (zS.mono sp ?_)
  rintro r N kd γ' σ' τ' ⟨rfl, rfl, rfl, rfl, hF⟩
  exact kk σ' τ' hF
theorem rc_SI (As : List Value) (hok : okS K np) (hw : Cond.methodLink M.1.cls index K.1 ∈ lw_tbl) (hn : As.length = np) (hst : st0 = As.reverse ++ stk) (hroom : (stk.map fun v => v.category).sum ≤ 8) (hd : decode M.2.1 pc = .ok (.invokestatic index, 3)) (hh : h' < h)
    (sp : SI l D b K h' γ As σ τ F) (kk : ∀ x σ' τ', F x σ' τ' → zA l D b M h 0 kc ks Z (pc + 3) lv (.int x :: stk) 0 0 N0 K0 γ σ' τ') : zA l D b M h 0 kc ks Z pc lv st0 0 0 N0 K0 γ σ τ := by
  refine r_callS (mc' := 0) (ms' := 0) As hok.1 hok.2 hw hn hst hroom hd hh (Nat.zero_le _) (Nat.zero_le _) (zS.mono sp ?_)
  rintro r N kd γ' σ' τ' ⟨rfl, rfl, rfl, x, rfl, hF⟩
  exact kk x σ' τ' hF
theorem r_nmI {fz k n N : Nat} {kd : zKd} {x : Int32} (a : ∀ y : Int32, y = x → zA l D b M h fz kc ks Z pc lv (.int y :: stk) k n N kd γ σ τ) : zA l D b M h fz kc ks Z pc lv (.int x :: stk) k n N kd γ σ τ := a x rfl
theorem r_nmL {fz k n N : Nat} {kd : zKd} {x : Int64} (a : ∀ y : Int64, y = x → zA l D b M h fz kc ks Z pc lv (.long y :: stk) k n N kd γ σ τ) : zA l D b M h fz kc ks Z pc lv (.long x :: stk) k n N kd γ σ τ := a x rfl
theorem r_nmS {fz k n N : Nat} {kd : zKd} (a : ∀ σ' : zSg, σ' = σ → zA l D b M h fz kc ks Z pc lv stk k n N kd γ σ' τ) : zA l D b M h fz kc ks Z pc lv stk k n N kd γ σ τ := a σ rfl
theorem r_inc {fz k n N : Nat} {kd : zKd} (q : Nat) {i : Nat} {z : Int} {x w : Int32} (hd : decode M.2.1 pc = .ok (.iinc i z, 3)) (hq : lv[q]? = some (i, .int x)) (hz : Int32.ofInt z = w) (hn : i < M.2.2.1) (hl0 : (i, Value.int (x + w)) :: lv.filter (fun q => !(q.1 == i) && !(q.1 + 1 == i && q.2.category == 2)) = lv') (a : zA l D b M h fz kc ks Z (pc + 3) lv' stk k n N kd γ σ τ) : zA l D b M h fz kc ks Z pc lv stk k n N kd γ σ τ := r_iinc q hd hq (by rw [hz]) hn hl0 a
end RUN
theorem sw_fin {hi : Nat} {x : Int32} (h : ¬ (x.toInt < 0 ∨ (hi : Int) < x.toInt)) : ∃ j : Nat, j ≤ hi ∧ x = nI j := by
  refine ⟨x.toInt.toNat, by omega, ?_⟩
  apply Int32.toInt_inj.mp
  have h1 : x.toInt.toNat < 2 ^ 31 := by
    have := x.toInt_lt
    omega
  rw [nI_toInt h1]
  omega
theorem sw_2 {x : Int32} (h : ¬ (x.toInt < 0 ∨ (2 : Int) < x.toInt)) : x = 0 ∨ x = 1 ∨ x = 2 := by
  obtain ⟨j, hj, rfl⟩ := sw_fin (hi := 2) h
  exact (by decide : ∀ j : Fin 3, nI j.1 = 0 ∨ nI j.1 = 1 ∨ nI j.1 = 2) ⟨j, by omega⟩
theorem sw_8 {x : Int32} (h : ¬ (x.toInt < 0 ∨ (8 : Int) < x.toInt)) : x = 0 ∨ x = 1 ∨ x = 2 ∨ x = 3 ∨ x = 4 ∨ x = 5 ∨ x = 6 ∨ x = 7 ∨ x = 8 := by
  obtain ⟨j, hj, rfl⟩ := sw_fin (hi := 8) h
  exact (by decide : ∀ j : Fin 9, nI j.1 = 0 ∨ nI j.1 = 1 ∨ nI j.1 = 2 ∨ nI j.1 = 3 ∨ nI j.1 = 4 ∨ nI j.1 = 5 ∨ nI j.1 = 6 ∨ nI j.1 = 7 ∨ nI j.1 = 8) ⟨j, by omega⟩
theorem sw_18 {x : Int32} (h : ¬ (x.toInt < 0 ∨ (18 : Int) < x.toInt)) : x = 0 ∨ x = 1 ∨ x = 2 ∨ x = 3 ∨ x = 4 ∨ x = 5 ∨ x = 6 ∨ x = 7 ∨ x = 8 ∨ x = 9 ∨ x = 10 ∨ x = 11 ∨ x = 12 ∨ x = 13 ∨ x = 14 ∨ x = 15 ∨ x = 16 ∨ x = 17 ∨ x = 18 := by
  obtain ⟨j, hj, rfl⟩ := sw_fin (hi := 18) h
  exact (by decide : ∀ j : Fin 19, nI j.1 = 0 ∨ nI j.1 = 1 ∨ nI j.1 = 2 ∨ nI j.1 = 3 ∨ nI j.1 = 4 ∨ nI j.1 = 5 ∨ nI j.1 = 6 ∨ nI j.1 = 7 ∨ nI j.1 = 8 ∨ nI j.1 = 9 ∨ nI j.1 = 10 ∨ nI j.1 = 11 ∨ nI j.1 = 12 ∨ nI j.1 = 13 ∨ nI j.1 = 14 ∨ nI j.1 = 15 ∨ nI j.1 = 16 ∨ nI j.1 = 17 ∨ nI j.1 = 18) ⟨j, by omega⟩
theorem sw_27 {x : Int32} (h : ¬ (x.toInt < 0 ∨ (27 : Int) < x.toInt)) : x = 0 ∨ x = 1 ∨ x = 2 ∨ x = 3 ∨ x = 4 ∨ x = 5 ∨ x = 6 ∨ x = 7 ∨ x = 8 ∨ x = 9 ∨ x = 10 ∨ x = 11 ∨ x = 12 ∨ x = 13 ∨ x = 14 ∨ x = 15 ∨ x = 16 ∨ x = 17 ∨ x = 18 ∨ x = 19 ∨ x = 20 ∨ x = 21 ∨ x = 22 ∨ x = 23 ∨ x = 24 ∨ x = 25 ∨ x = 26 ∨ x = 27 := by
  obtain ⟨j, hj, rfl⟩ := sw_fin (hi := 27) h
  exact (by decide : ∀ j : Fin 28, nI j.1 = 0 ∨ nI j.1 = 1 ∨ nI j.1 = 2 ∨ nI j.1 = 3 ∨ nI j.1 = 4 ∨ nI j.1 = 5 ∨ nI j.1 = 6 ∨ nI j.1 = 7 ∨ nI j.1 = 8 ∨ nI j.1 = 9 ∨ nI j.1 = 10 ∨ nI j.1 = 11 ∨ nI j.1 = 12 ∨ nI j.1 = 13 ∨ nI j.1 = 14 ∨ nI j.1 = 15 ∨ nI j.1 = 16 ∨ nI j.1 = 17 ∨ nI j.1 = 18 ∨ nI j.1 = 19 ∨ nI j.1 = 20 ∨ nI j.1 = 21 ∨ nI j.1 = 22 ∨ nI j.1 = 23 ∨ nI j.1 = 24 ∨ nI j.1 = 25 ∨ nI j.1 = 26 ∨ nI j.1 = 27) ⟨j, by omega⟩
end
section
/-! WORDS: methods, what the tables say of them, constants. -/
theorem tb_in {w : Cond} (h : w ∈ tables_1) : w ∈ lw_tbl := List.mem_append_right _ h
theorem tw_31 : (Jvm.Cond.fieldLink "SuetTroubles$Reader" (9 : Nat) "SuetTroubles$Reader" "letters" "[I") ∈ lw_tbl := tb_in (List.mem_of_getElem? (i := 31) (by decide +kernel))
theorem tw_32 : (Jvm.Cond.fieldLink "SuetTroubles$Reader" (15 : Nat) "SuetTroubles$Reader" "length" "I") ∈ lw_tbl := tb_in (List.mem_of_getElem? (i := 32) (by decide +kernel))
theorem tw_33 : (Jvm.Cond.fieldLink "SuetTroubles" (89 : Nat) "SuetTroubles$Reader" "length" "I") ∈ lw_tbl := tb_in (List.mem_of_getElem? (i := 33) (by decide +kernel))
theorem tw_34 : (Jvm.Cond.fieldLink "SuetTroubles$Reader" (25 : Nat) "SuetTroubles$Reader" "faultAt" "I") ∈ lw_tbl := tb_in (List.mem_of_getElem? (i := 34) (by decide +kernel))
theorem tw_35 : (Jvm.Cond.fieldLink "SuetTroubles" (101 : Nat) "SuetTroubles$Reader" "faultAt" "I") ∈ lw_tbl := tb_in (List.mem_of_getElem? (i := 35) (by decide +kernel))
theorem tw_36 : (Jvm.Cond.fieldLink "SuetTroubles$Reader" (19 : Nat) "SuetTroubles$Reader" "at" "I") ∈ lw_tbl := tb_in (List.mem_of_getElem? (i := 36) (by decide +kernel))
theorem tw_37 : (Jvm.Cond.fieldLink "SuetTroubles$Reader" (22 : Nat) "SuetTroubles$Reader" "fault" "I") ∈ lw_tbl := tb_in (List.mem_of_getElem? (i := 37) (by decide +kernel))
theorem tw_56 : (Jvm.Cond.fieldLink "SuetTroubles$Plan" (24 : Nat) "SuetTroubles$Plan" "fire" "I") ∈ lw_tbl := tb_in (List.mem_of_getElem? (i := 56) (by decide +kernel))
theorem tw_57 : (Jvm.Cond.fieldLink "SuetTroubles$Reader" (69 : Nat) "SuetTroubles$Plan" "fire" "I") ∈ lw_tbl := tb_in (List.mem_of_getElem? (i := 57) (by decide +kernel))
theorem tw_58 : (Jvm.Cond.fieldLink "SuetTroubles" (119 : Nat) "SuetTroubles$Plan" "fire" "I") ∈ lw_tbl := tb_in (List.mem_of_getElem? (i := 58) (by decide +kernel))
theorem tw_59 : (Jvm.Cond.fieldLink "SuetTroubles$Deeds" (106 : Nat) "SuetTroubles$Plan" "fire" "I") ∈ lw_tbl := tb_in (List.mem_of_getElem? (i := 59) (by decide +kernel))
theorem tw_60 : (Jvm.Cond.fieldLink "SuetTroubles$Reader" (72 : Nat) "SuetTroubles$Plan" "pots" "I") ∈ lw_tbl := tb_in (List.mem_of_getElem? (i := 60) (by decide +kernel))
theorem tw_61 : (Jvm.Cond.fieldLink "SuetTroubles" (122 : Nat) "SuetTroubles$Plan" "pots" "I") ∈ lw_tbl := tb_in (List.mem_of_getElem? (i := 61) (by decide +kernel))
theorem tw_62 : (Jvm.Cond.fieldLink "SuetTroubles$Plan" (34 : Nat) "SuetTroubles$Plan" "pots" "I") ∈ lw_tbl := tb_in (List.mem_of_getElem? (i := 62) (by decide +kernel))
theorem tw_63 : (Jvm.Cond.fieldLink "SuetTroubles$Deeds" (64 : Nat) "SuetTroubles$Plan" "pots" "I") ∈ lw_tbl := tb_in (List.mem_of_getElem? (i := 63) (by decide +kernel))
theorem tw_64 : (Jvm.Cond.fieldLink "SuetTroubles$Deeds" (27 : Nat) "SuetTroubles$Plan" "troubles" "I") ∈ lw_tbl := tb_in (List.mem_of_getElem? (i := 64) (by decide +kernel))
theorem tw_65 : (Jvm.Cond.fieldLink "SuetTroubles$Plan" (28 : Nat) "SuetTroubles$Plan" "troubles" "I") ∈ lw_tbl := tb_in (List.mem_of_getElem? (i := 65) (by decide +kernel))
theorem tw_66 : (Jvm.Cond.fieldLink "SuetTroubles" (116 : Nat) "SuetTroubles$Plan" "troubles" "I") ∈ lw_tbl := tb_in (List.mem_of_getElem? (i := 66) (by decide +kernel))
theorem tw_67 : (Jvm.Cond.fieldLink "SuetTroubles$Reader" (75 : Nat) "SuetTroubles$Plan" "troubles" "I") ∈ lw_tbl := tb_in (List.mem_of_getElem? (i := 67) (by decide +kernel))
theorem tw_68 : (Jvm.Cond.fieldLink "SuetTroubles$Cloth" (41 : Nat) "SuetTroubles$Plan" "troubles" "I") ∈ lw_tbl := tb_in (List.mem_of_getElem? (i := 68) (by decide +kernel))
theorem tw_69 : (Jvm.Cond.fieldLink "SuetTroubles$Plan" (31 : Nat) "SuetTroubles$Plan" "eaters" "I") ∈ lw_tbl := tb_in (List.mem_of_getElem? (i := 69) (by decide +kernel))
theorem tw_70 : (Jvm.Cond.fieldLink "SuetTroubles" (125 : Nat) "SuetTroubles$Plan" "eaters" "I") ∈ lw_tbl := tb_in (List.mem_of_getElem? (i := 70) (by decide +kernel))
theorem tw_71 : (Jvm.Cond.fieldLink "SuetTroubles$Reader" (82 : Nat) "SuetTroubles$Plan" "eaters" "I") ∈ lw_tbl := tb_in (List.mem_of_getElem? (i := 71) (by decide +kernel))
theorem tw_72 : (Jvm.Cond.fieldLink "SuetTroubles$Deeds" (81 : Nat) "SuetTroubles$Plan" "eaters" "I") ∈ lw_tbl := tb_in (List.mem_of_getElem? (i := 72) (by decide +kernel))
theorem tw_73 : (Jvm.Cond.fieldLink "SuetTroubles$Plan" (9 : Nat) "SuetTroubles$Plan" "kind" "[I") ∈ lw_tbl := tb_in (List.mem_of_getElem? (i := 73) (by decide +kernel))
theorem tw_74 : (Jvm.Cond.fieldLink "SuetTroubles" (174 : Nat) "SuetTroubles$Plan" "kind" "[I") ∈ lw_tbl := tb_in (List.mem_of_getElem? (i := 74) (by decide +kernel))
theorem tw_75 : (Jvm.Cond.fieldLink "SuetTroubles$Deeds" (103 : Nat) "SuetTroubles$Plan" "kind" "[I") ∈ lw_tbl := tb_in (List.mem_of_getElem? (i := 75) (by decide +kernel))
theorem tw_76 : (Jvm.Cond.fieldLink "SuetTroubles$Plan" (15 : Nat) "SuetTroubles$Plan" "hard" "[I") ∈ lw_tbl := tb_in (List.mem_of_getElem? (i := 76) (by decide +kernel))
theorem tw_77 : (Jvm.Cond.fieldLink "SuetTroubles$Scene" (31 : Nat) "SuetTroubles$Plan" "hard" "[I") ∈ lw_tbl := tb_in (List.mem_of_getElem? (i := 77) (by decide +kernel))
theorem tw_78 : (Jvm.Cond.fieldLink "SuetTroubles$Plan" (18 : Nat) "SuetTroubles$Plan" "shape" "[I") ∈ lw_tbl := tb_in (List.mem_of_getElem? (i := 78) (by decide +kernel))
theorem tw_79 : (Jvm.Cond.fieldLink "SuetTroubles$Scene" (40 : Nat) "SuetTroubles$Plan" "shape" "[I") ∈ lw_tbl := tb_in (List.mem_of_getElem? (i := 79) (by decide +kernel))
theorem tw_80 : (Jvm.Cond.fieldLink "SuetTroubles$Plan" (21 : Nat) "SuetTroubles$Plan" "strength" "[I") ∈ lw_tbl := tb_in (List.mem_of_getElem? (i := 80) (by decide +kernel))
theorem tw_81 : (Jvm.Cond.fieldLink "SuetTroubles" (203 : Nat) "SuetTroubles$Plan" "strength" "[I") ∈ lw_tbl := tb_in (List.mem_of_getElem? (i := 81) (by decide +kernel))
theorem tw_82 : (Jvm.Cond.fieldLink "SuetTroubles$Deeds" (75 : Nat) "SuetTroubles$Plan" "strength" "[I") ∈ lw_tbl := tb_in (List.mem_of_getElem? (i := 82) (by decide +kernel))
theorem tw_106 : (Jvm.Cond.fieldLink "SuetTroubles$Scene" (24 : Nat) "SuetTroubles$Scene" "hours" "I") ∈ lw_tbl := tb_in (List.mem_of_getElem? (i := 106) (by decide +kernel))
theorem tw_107 : (Jvm.Cond.fieldLink "SuetTroubles" (128 : Nat) "SuetTroubles$Scene" "hours" "I") ∈ lw_tbl := tb_in (List.mem_of_getElem? (i := 107) (by decide +kernel))
theorem tw_108 : (Jvm.Cond.fieldLink "SuetTroubles$Deeds" (109 : Nat) "SuetTroubles$Scene" "hours" "I") ∈ lw_tbl := tb_in (List.mem_of_getElem? (i := 108) (by decide +kernel))
theorem tw_109 : (Jvm.Cond.fieldLink "SuetTroubles$Scene" (28 : Nat) "SuetTroubles$Scene" "sheets" "I") ∈ lw_tbl := tb_in (List.mem_of_getElem? (i := 109) (by decide +kernel))
theorem tw_110 : (Jvm.Cond.fieldLink "SuetTroubles" (138 : Nat) "SuetTroubles$Scene" "sheets" "I") ∈ lw_tbl := tb_in (List.mem_of_getElem? (i := 110) (by decide +kernel))
theorem tw_111 : (Jvm.Cond.fieldLink "SuetTroubles$Deeds" (55 : Nat) "SuetTroubles$Scene" "sheets" "I") ∈ lw_tbl := tb_in (List.mem_of_getElem? (i := 111) (by decide +kernel))
theorem tw_112 : (Jvm.Cond.fieldLink "SuetTroubles$Scene" (9 : Nat) "SuetTroubles$Scene" "stage" "[I") ∈ lw_tbl := tb_in (List.mem_of_getElem? (i := 112) (by decide +kernel))
theorem tw_113 : (Jvm.Cond.fieldLink "SuetTroubles$Deeds" (33 : Nat) "SuetTroubles$Scene" "stage" "[I") ∈ lw_tbl := tb_in (List.mem_of_getElem? (i := 113) (by decide +kernel))
theorem tw_114 : (Jvm.Cond.fieldLink "SuetTroubles" (180 : Nat) "SuetTroubles$Scene" "stage" "[I") ∈ lw_tbl := tb_in (List.mem_of_getElem? (i := 114) (by decide +kernel))
theorem tw_115 : (Jvm.Cond.fieldLink "SuetTroubles$Scene" (15 : Nat) "SuetTroubles$Scene" "hard" "[I") ∈ lw_tbl := tb_in (List.mem_of_getElem? (i := 115) (by decide +kernel))
theorem tw_116 : (Jvm.Cond.fieldLink "SuetTroubles$Deeds" (39 : Nat) "SuetTroubles$Scene" "hard" "[I") ∈ lw_tbl := tb_in (List.mem_of_getElem? (i := 116) (by decide +kernel))
theorem tw_117 : (Jvm.Cond.fieldLink "SuetTroubles$Book" (22 : Nat) "SuetTroubles$Scene" "hard" "[I") ∈ lw_tbl := tb_in (List.mem_of_getElem? (i := 117) (by decide +kernel))
theorem tw_118 : (Jvm.Cond.fieldLink "SuetTroubles" (177 : Nat) "SuetTroubles$Scene" "hard" "[I") ∈ lw_tbl := tb_in (List.mem_of_getElem? (i := 118) (by decide +kernel))
theorem tw_119 : (Jvm.Cond.fieldLink "SuetTroubles$Scene" (18 : Nat) "SuetTroubles$Scene" "shape" "[I") ∈ lw_tbl := tb_in (List.mem_of_getElem? (i := 119) (by decide +kernel))
theorem tw_120 : (Jvm.Cond.fieldLink "SuetTroubles$Deeds" (46 : Nat) "SuetTroubles$Scene" "shape" "[I") ∈ lw_tbl := tb_in (List.mem_of_getElem? (i := 120) (by decide +kernel))
theorem tw_121 : (Jvm.Cond.fieldLink "SuetTroubles" (170 : Nat) "SuetTroubles$Scene" "shape" "[I") ∈ lw_tbl := tb_in (List.mem_of_getElem? (i := 121) (by decide +kernel))
theorem tw_122 : (Jvm.Cond.fieldLink "SuetTroubles$Cloth" (46 : Nat) "SuetTroubles$Scene" "shape" "[I") ∈ lw_tbl := tb_in (List.mem_of_getElem? (i := 122) (by decide +kernel))
theorem tw_123 : (Jvm.Cond.fieldLink "SuetTroubles$Scene" (21 : Nat) "SuetTroubles$Scene" "load" "[I") ∈ lw_tbl := tb_in (List.mem_of_getElem? (i := 123) (by decide +kernel))
theorem tw_124 : (Jvm.Cond.fieldLink "SuetTroubles" (206 : Nat) "SuetTroubles$Scene" "load" "[I") ∈ lw_tbl := tb_in (List.mem_of_getElem? (i := 124) (by decide +kernel))
theorem tw_125 : (Jvm.Cond.fieldLink "SuetTroubles$Deeds" (78 : Nat) "SuetTroubles$Scene" "load" "[I") ∈ lw_tbl := tb_in (List.mem_of_getElem? (i := 125) (by decide +kernel))
theorem tw_145 : (Jvm.Cond.fieldLink "SuetTroubles$Sheets" (11 : Nat) "SuetTroubles$Sheets" "cost" "[I") ∈ lw_tbl := tb_in (List.mem_of_getElem? (i := 145) (by decide +kernel))
theorem tw_146 : (Jvm.Cond.fieldLink "SuetTroubles$Sheets" (15 : Nat) "SuetTroubles$Sheets" "nextCost" "[I") ∈ lw_tbl := tb_in (List.mem_of_getElem? (i := 146) (by decide +kernel))
theorem tw_158 : (Jvm.Cond.fieldLink "SuetTroubles$Draws" (7 : Nat) "SuetTroubles$Draws" "value" "I") ∈ lw_tbl := tb_in (List.mem_of_getElem? (i := 158) (by decide +kernel))
theorem tw_159 : (Jvm.Cond.fieldLink "SuetTroubles$Past" (40 : Nat) "SuetTroubles$Draws" "value" "I") ∈ lw_tbl := tb_in (List.mem_of_getElem? (i := 159) (by decide +kernel))
theorem tw_160 : (Jvm.Cond.fieldLink "SuetTroubles" (306 : Nat) "SuetTroubles$Draws" "value" "I") ∈ lw_tbl := tb_in (List.mem_of_getElem? (i := 160) (by decide +kernel))
theorem tw_170 : (Jvm.Cond.fieldLink "SuetTroubles$Deeds" (9 : Nat) "SuetTroubles$Deeds" "plan" "LSuetTroubles$Plan;") ∈ lw_tbl := tb_in (List.mem_of_getElem? (i := 170) (by decide +kernel))
theorem tw_171 : (Jvm.Cond.fieldLink "SuetTroubles$Deeds" (15 : Nat) "SuetTroubles$Deeds" "scene" "LSuetTroubles$Scene;") ∈ lw_tbl := tb_in (List.mem_of_getElem? (i := 171) (by decide +kernel))
theorem tw_172 : (Jvm.Cond.fieldLink "SuetTroubles$Deeds" (19 : Nat) "SuetTroubles$Deeds" "sheets" "LSuetTroubles$Sheets;") ∈ lw_tbl := tb_in (List.mem_of_getElem? (i := 172) (by decide +kernel))
theorem tw_173 : (Jvm.Cond.fieldLink "SuetTroubles$Deeds" (23 : Nat) "SuetTroubles$Deeds" "draws" "LSuetTroubles$Draws;") ∈ lw_tbl := tb_in (List.mem_of_getElem? (i := 173) (by decide +kernel))
theorem tw_192 : (Jvm.Cond.fieldLink "SuetTroubles$Past" (11 : Nat) "SuetTroubles$Past" "undone" "[LSuetTroubles$Scene;") ∈ lw_tbl := tb_in (List.mem_of_getElem? (i := 192) (by decide +kernel))
theorem tw_193 : (Jvm.Cond.fieldLink "SuetTroubles$Past" (17 : Nat) "SuetTroubles$Past" "image" "[LSuetTroubles$Scene;") ∈ lw_tbl := tb_in (List.mem_of_getElem? (i := 193) (by decide +kernel))
theorem tw_194 : (Jvm.Cond.fieldLink "SuetTroubles$Past" (20 : Nat) "SuetTroubles$Past" "imageSeed" "[I") ∈ lw_tbl := tb_in (List.mem_of_getElem? (i := 194) (by decide +kernel))
theorem tw_195 : (Jvm.Cond.fieldLink "SuetTroubles$Past" (24 : Nat) "SuetTroubles$Past" "kept" "[Z") ∈ lw_tbl := tb_in (List.mem_of_getElem? (i := 195) (by decide +kernel))
theorem tw_196 : (Jvm.Cond.fieldLink "SuetTroubles" (313 : Nat) "SuetTroubles$Past" "kept" "[Z") ∈ lw_tbl := tb_in (List.mem_of_getElem? (i := 196) (by decide +kernel))
theorem tw_197 : (Jvm.Cond.fieldLink "SuetTroubles$Past" (29 : Nat) "SuetTroubles$Past" "oldest" "I") ∈ lw_tbl := tb_in (List.mem_of_getElem? (i := 197) (by decide +kernel))
theorem tw_198 : (Jvm.Cond.fieldLink "SuetTroubles$Past" (33 : Nat) "SuetTroubles$Past" "size" "I") ∈ lw_tbl := tb_in (List.mem_of_getElem? (i := 198) (by decide +kernel))
theorem tw_199 : (Jvm.Cond.fieldLink "SuetTroubles" (162 : Nat) "SuetTroubles$Past" "size" "I") ∈ lw_tbl := tb_in (List.mem_of_getElem? (i := 199) (by decide +kernel))
theorem tw_220 : (Jvm.Cond.fieldLink "SuetTroubles$Orders" (9 : Nat) "SuetTroubles$Orders" "time" "[I") ∈ lw_tbl := tb_in (List.mem_of_getElem? (i := 220) (by decide +kernel))
theorem tw_221 : (Jvm.Cond.fieldLink "SuetTroubles$Orders" (15 : Nat) "SuetTroubles$Orders" "sum" "I") ∈ lw_tbl := tb_in (List.mem_of_getElem? (i := 221) (by decide +kernel))
theorem tw_222 : (Jvm.Cond.fieldLink "SuetTroubles" (281 : Nat) "SuetTroubles$Orders" "sum" "I") ∈ lw_tbl := tb_in (List.mem_of_getElem? (i := 222) (by decide +kernel))
theorem tw_223 : (Jvm.Cond.fieldLink "SuetTroubles$Orders" (19 : Nat) "SuetTroubles$Orders" "figures" "I") ∈ lw_tbl := tb_in (List.mem_of_getElem? (i := 223) (by decide +kernel))
theorem tw_224 : (Jvm.Cond.fieldLink "SuetTroubles" (284 : Nat) "SuetTroubles$Orders" "figures" "I") ∈ lw_tbl := tb_in (List.mem_of_getElem? (i := 224) (by decide +kernel))
theorem tw_225 : (Jvm.Cond.fieldLink "SuetTroubles$Orders" (22 : Nat) "SuetTroubles$Orders" "startHour" "I") ∈ lw_tbl := tb_in (List.mem_of_getElem? (i := 225) (by decide +kernel))
theorem tw_241 : (Jvm.Cond.fieldLink "SuetTroubles$Cloth" (22 : Nat) "SuetTroubles$Cloth" "bumps" "I") ∈ lw_tbl := tb_in (List.mem_of_getElem? (i := 241) (by decide +kernel))
theorem tw_242 : (Jvm.Cond.fieldLink "SuetTroubles" (146 : Nat) "SuetTroubles$Cloth" "bumps" "I") ∈ lw_tbl := tb_in (List.mem_of_getElem? (i := 242) (by decide +kernel))
theorem tw_243 : (Jvm.Cond.fieldLink "SuetTroubles$Cloth" (15 : Nat) "SuetTroubles$Cloth" "full" "I") ∈ lw_tbl := tb_in (List.mem_of_getElem? (i := 243) (by decide +kernel))
theorem tw_244 : (Jvm.Cond.fieldLink "SuetTroubles$Cloth" (19 : Nat) "SuetTroubles$Cloth" "notFull" "I") ∈ lw_tbl := tb_in (List.mem_of_getElem? (i := 244) (by decide +kernel))
theorem tw_245 : (Jvm.Cond.fieldLink "SuetTroubles$Cloth" (29 : Nat) "SuetTroubles$Cloth" "withinSet" "I") ∈ lw_tbl := tb_in (List.mem_of_getElem? (i := 245) (by decide +kernel))
theorem tw_246 : (Jvm.Cond.fieldLink "SuetTroubles$Cloth" (32 : Nat) "SuetTroubles$Cloth" "pairCount" "I") ∈ lw_tbl := tb_in (List.mem_of_getElem? (i := 246) (by decide +kernel))
theorem tw_247 : (Jvm.Cond.fieldLink "SuetTroubles$Cloth" (9 : Nat) "SuetTroubles$Cloth" "fullPairs" "[I") ∈ lw_tbl := tb_in (List.mem_of_getElem? (i := 247) (by decide +kernel))
theorem tw_267 : (Jvm.Cond.fieldLink "SuetTroubles$Book" (18 : Nat) "SuetTroubles$Book" "entries" "I") ∈ lw_tbl := tb_in (List.mem_of_getElem? (i := 267) (by decide +kernel))
theorem tw_268 : (Jvm.Cond.fieldLink "SuetTroubles" (159 : Nat) "SuetTroubles$Book" "entries" "I") ∈ lw_tbl := tb_in (List.mem_of_getElem? (i := 268) (by decide +kernel))
theorem tw_269 : (Jvm.Cond.fieldLink "SuetTroubles$Book" (9 : Nat) "SuetTroubles$Book" "who" "[I") ∈ lw_tbl := tb_in (List.mem_of_getElem? (i := 269) (by decide +kernel))
theorem tw_270 : (Jvm.Cond.fieldLink "SuetTroubles$Book" (15 : Nat) "SuetTroubles$Book" "said" "[I") ∈ lw_tbl := tb_in (List.mem_of_getElem? (i := 270) (by decide +kernel))
theorem tw_278 : (Jvm.Cond.fieldLink "SuetTroubles" (10 : Nat) "SuetTroubles" "reader" "LSuetTroubles$Reader;") ∈ lw_tbl := tb_in (List.mem_of_getElem? (i := 278) (by decide +kernel))
theorem tw_279 : (Jvm.Cond.fieldLink "SuetTroubles" (19 : Nat) "SuetTroubles" "draft" "LSuetTroubles$Plan;") ∈ lw_tbl := tb_in (List.mem_of_getElem? (i := 279) (by decide +kernel))
theorem tw_280 : (Jvm.Cond.fieldLink "SuetTroubles" (23 : Nat) "SuetTroubles" "plan" "LSuetTroubles$Plan;") ∈ lw_tbl := tb_in (List.mem_of_getElem? (i := 280) (by decide +kernel))
theorem tw_281 : (Jvm.Cond.fieldLink "SuetTroubles" (29 : Nat) "SuetTroubles" "scene" "LSuetTroubles$Scene;") ∈ lw_tbl := tb_in (List.mem_of_getElem? (i := 281) (by decide +kernel))
theorem tw_282 : (Jvm.Cond.fieldLink "SuetTroubles" (36 : Nat) "SuetTroubles" "sheets" "LSuetTroubles$Sheets;") ∈ lw_tbl := tb_in (List.mem_of_getElem? (i := 282) (by decide +kernel))
theorem tw_283 : (Jvm.Cond.fieldLink "SuetTroubles" (43 : Nat) "SuetTroubles" "draws" "LSuetTroubles$Draws;") ∈ lw_tbl := tb_in (List.mem_of_getElem? (i := 283) (by decide +kernel))
theorem tw_284 : (Jvm.Cond.fieldLink "SuetTroubles" (52 : Nat) "SuetTroubles" "deeds" "LSuetTroubles$Deeds;") ∈ lw_tbl := tb_in (List.mem_of_getElem? (i := 284) (by decide +kernel))
theorem tw_285 : (Jvm.Cond.fieldLink "SuetTroubles" (59 : Nat) "SuetTroubles" "past" "LSuetTroubles$Past;") ∈ lw_tbl := tb_in (List.mem_of_getElem? (i := 285) (by decide +kernel))
theorem tw_286 : (Jvm.Cond.fieldLink "SuetTroubles" (66 : Nat) "SuetTroubles" "orders" "LSuetTroubles$Orders;") ∈ lw_tbl := tb_in (List.mem_of_getElem? (i := 286) (by decide +kernel))
theorem tw_287 : (Jvm.Cond.fieldLink "SuetTroubles" (73 : Nat) "SuetTroubles" "cloth" "LSuetTroubles$Cloth;") ∈ lw_tbl := tb_in (List.mem_of_getElem? (i := 287) (by decide +kernel))
theorem tw_288 : (Jvm.Cond.fieldLink "SuetTroubles" (80 : Nat) "SuetTroubles" "book" "LSuetTroubles$Book;") ∈ lw_tbl := tb_in (List.mem_of_getElem? (i := 288) (by decide +kernel))
theorem tw_289 : (Jvm.Cond.fieldLink "SuetTroubles" (84 : Nat) "SuetTroubles" "faultAt" "I") ∈ lw_tbl := tb_in (List.mem_of_getElem? (i := 289) (by decide +kernel))
theorem tw_319 : (Jvm.Cond.constant "SuetTroubles" (88 : Nat) (-1000000002 : Int32)) ∈ lw_tbl := tb_in (List.mem_of_getElem? (i := 319) (by decide +kernel))
theorem tw_320 : (Jvm.Cond.constant "SuetTroubles" (92 : Nat) (-1000000004 : Int32)) ∈ lw_tbl := tb_in (List.mem_of_getElem? (i := 320) (by decide +kernel))
theorem tw_321 : (Jvm.Cond.methodLink "SuetTroubles" (93 : Nat) ({ cls := "SuetTroubles$Reader", name := "add", desc := "(I)I" } : Jvm.MethodName)) ∈ lw_tbl := tb_in (List.mem_of_getElem? (i := 321) (by decide +kernel))
theorem tw_329 : (Jvm.Cond.methodLink "SuetTroubles" (97 : Nat) ({ cls := "SuetTroubles$Reader", name := "read", desc := "(LSuetTroubles$Plan;)I" } : Jvm.MethodName)) ∈ lw_tbl := tb_in (List.mem_of_getElem? (i := 329) (by decide +kernel))
theorem tw_333 : (Jvm.Cond.methodLink "SuetTroubles$Reader" (28 : Nat) ({ cls := "SuetTroubles$Plan", name := "clear", desc := "()V" } : Jvm.MethodName)) ∈ lw_tbl := tb_in (List.mem_of_getElem? (i := 333) (by decide +kernel))
theorem tw_337 : (Jvm.Cond.methodLink "SuetTroubles$Reader" (33 : Nat) ({ cls := "SuetTroubles$Reader", name := "skipBlanks", desc := "()V" } : Jvm.MethodName)) ∈ lw_tbl := tb_in (List.mem_of_getElem? (i := 337) (by decide +kernel))
theorem tw_341 : (Jvm.Cond.methodLink "SuetTroubles$Reader" (40 : Nat) ({ cls := "SuetTroubles$Reader", name := "here", desc := "()I" } : Jvm.MethodName)) ∈ lw_tbl := tb_in (List.mem_of_getElem? (i := 341) (by decide +kernel))
theorem tw_345 : (Jvm.Cond.methodLink "SuetTroubles$Reader" (36 : Nat) ({ cls := "SuetTroubles$Reader", name := "readClause", desc := "(LSuetTroubles$Plan;)V" } : Jvm.MethodName)) ∈ lw_tbl := tb_in (List.mem_of_getElem? (i := 345) (by decide +kernel))
theorem tw_349 : (Jvm.Cond.methodLink "SuetTroubles$Reader" (44 : Nat) ({ cls := "SuetTroubles$Reader", name := "readFire", desc := "(LSuetTroubles$Plan;)V" } : Jvm.MethodName)) ∈ lw_tbl := tb_in (List.mem_of_getElem? (i := 349) (by decide +kernel))
theorem tw_353 : (Jvm.Cond.methodLink "SuetTroubles$Reader" (47 : Nat) ({ cls := "SuetTroubles$Plan", name := "isThere", desc := "()Z" } : Jvm.MethodName)) ∈ lw_tbl := tb_in (List.mem_of_getElem? (i := 353) (by decide +kernel))
theorem tw_357 : (Jvm.Cond.methodLink "SuetTroubles$Reader" (57 : Nat) ({ cls := "SuetTroubles$Reader", name := "blame", desc := "(II)V" } : Jvm.MethodName)) ∈ lw_tbl := tb_in (List.mem_of_getElem? (i := 357) (by decide +kernel))
theorem tw_361 : (Jvm.Cond.methodLink "SuetTroubles$Reader" (61 : Nat) ({ cls := "SuetTroubles$Reader", name := "readNumber", desc := "(II)I" } : Jvm.MethodName)) ∈ lw_tbl := tb_in (List.mem_of_getElem? (i := 361) (by decide +kernel))
theorem tw_365 : (Jvm.Cond.methodLink "SuetTroubles$Reader" (88 : Nat) ({ cls := "SuetTroubles$Reader", name := "isFigure", desc := "(I)Z" } : Jvm.MethodName)) ∈ lw_tbl := tb_in (List.mem_of_getElem? (i := 365) (by decide +kernel))
theorem tw_368 : (Jvm.Cond.methodLink "SuetTroubles$Reader" (92 : Nat) ({ cls := "java/lang/Math", name := "min", desc := "(II)I" } : Jvm.MethodName)) ∈ lw_tbl := tb_in (List.mem_of_getElem? (i := 368) (by decide +kernel))
theorem tw_371 : (Jvm.Cond.methodLink "SuetTroubles$Reader" (65 : Nat) ({ cls := "SuetTroubles$Reader", name := "readSign", desc := "(I)V" } : Jvm.MethodName)) ∈ lw_tbl := tb_in (List.mem_of_getElem? (i := 371) (by decide +kernel))
theorem tw_375 : (Jvm.Cond.methodLink "SuetTroubles$Reader" (51 : Nat) ({ cls := "SuetTroubles$Reader", name := "readTrouble", desc := "(LSuetTroubles$Plan;)V" } : Jvm.MethodName)) ∈ lw_tbl := tb_in (List.mem_of_getElem? (i := 375) (by decide +kernel))
theorem tw_379 : (Jvm.Cond.methodLink "SuetTroubles$Reader" (78 : Nat) ({ cls := "SuetTroubles$Plan", name := "addTrouble", desc := "(III)V" } : Jvm.MethodName)) ∈ lw_tbl := tb_in (List.mem_of_getElem? (i := 379) (by decide +kernel))
theorem tw_383 : (Jvm.Cond.methodLink "SuetTroubles$Reader" (54 : Nat) ({ cls := "SuetTroubles$Reader", name := "readEater", desc := "(LSuetTroubles$Plan;)V" } : Jvm.MethodName)) ∈ lw_tbl := tb_in (List.mem_of_getElem? (i := 383) (by decide +kernel))
theorem tw_387 : (Jvm.Cond.methodLink "SuetTroubles$Reader" (85 : Nat) ({ cls := "SuetTroubles$Plan", name := "addEater", desc := "(I)V" } : Jvm.MethodName)) ∈ lw_tbl := tb_in (List.mem_of_getElem? (i := 387) (by decide +kernel))
theorem tw_391 : (Jvm.Cond.methodLink "SuetTroubles" (102 : Nat) ({ cls := "SuetTroubles$Plan", name := "become", desc := "(LSuetTroubles$Plan;)V" } : Jvm.MethodName)) ∈ lw_tbl := tb_in (List.mem_of_getElem? (i := 391) (by decide +kernel))
theorem tw_395 : (Jvm.Cond.methodLink "SuetTroubles$Plan" (37 : Nat) ({ cls := "java/lang/System", name := "arraycopy", desc := "(Ljava/lang/Object;ILjava/lang/Object;II)V" } : Jvm.MethodName)) ∈ lw_tbl := tb_in (List.mem_of_getElem? (i := 395) (by decide +kernel))
theorem tw_398 : (Jvm.Cond.methodLink "SuetTroubles" (106 : Nat) ({ cls := "SuetTroubles$Scene", name := "begin", desc := "(LSuetTroubles$Plan;)V" } : Jvm.MethodName)) ∈ lw_tbl := tb_in (List.mem_of_getElem? (i := 398) (by decide +kernel))
theorem tw_402 : (Jvm.Cond.methodLink "SuetTroubles$Scene" (34 : Nat) ({ cls := "java/lang/System", name := "arraycopy", desc := "(Ljava/lang/Object;ILjava/lang/Object;II)V" } : Jvm.MethodName)) ∈ lw_tbl := tb_in (List.mem_of_getElem? (i := 402) (by decide +kernel))
theorem tw_403 : (Jvm.Cond.methodLink "SuetTroubles" (109 : Nat) ({ cls := "SuetTroubles$Past", name := "forgetAll", desc := "()V" } : Jvm.MethodName)) ∈ lw_tbl := tb_in (List.mem_of_getElem? (i := 403) (by decide +kernel))
theorem tw_407 : (Jvm.Cond.methodLink "SuetTroubles$Past" (45 : Nat) ({ cls := "SuetTroubles$Past", name := "forgetUndone", desc := "()V" } : Jvm.MethodName)) ∈ lw_tbl := tb_in (List.mem_of_getElem? (i := 407) (by decide +kernel))
theorem tw_411 : (Jvm.Cond.methodLink "SuetTroubles" (112 : Nat) ({ cls := "SuetTroubles$Cloth", name := "clear", desc := "()V" } : Jvm.MethodName)) ∈ lw_tbl := tb_in (List.mem_of_getElem? (i := 411) (by decide +kernel))
theorem tw_415 : (Jvm.Cond.methodLink "SuetTroubles" (115 : Nat) ({ cls := "SuetTroubles$Book", name := "clear", desc := "()V" } : Jvm.MethodName)) ∈ lw_tbl := tb_in (List.mem_of_getElem? (i := 415) (by decide +kernel))
theorem tw_427 : (Jvm.Cond.methodLink "SuetTroubles" (131 : Nat) ({ cls := "SuetTroubles$Deeds", name := "allThatAre", desc := "(I)I" } : Jvm.MethodName)) ∈ lw_tbl := tb_in (List.mem_of_getElem? (i := 427) (by decide +kernel))
theorem tw_431 : (Jvm.Cond.methodLink "SuetTroubles" (134 : Nat) ({ cls := "SuetTroubles$Deeds", name := "allGood", desc := "()I" } : Jvm.MethodName)) ∈ lw_tbl := tb_in (List.mem_of_getElem? (i := 431) (by decide +kernel))
theorem tw_435 : (Jvm.Cond.methodLink "SuetTroubles$Deeds" (42 : Nat) ({ cls := "SuetTroubles$Deeds", name := "isGood", desc := "(I)Z" } : Jvm.MethodName)) ∈ lw_tbl := tb_in (List.mem_of_getElem? (i := 435) (by decide +kernel))
theorem tw_439 : (Jvm.Cond.methodLink "SuetTroubles" (140 : Nat) ({ cls := "SuetTroubles$Deeds", name := "leftTogether", desc := "()I" } : Jvm.MethodName)) ∈ lw_tbl := tb_in (List.mem_of_getElem? (i := 439) (by decide +kernel))
theorem tw_443 : (Jvm.Cond.methodLink "SuetTroubles$Deeds" (84 : Nat) ({ cls := "SuetTroubles$Deeds", name := "leftOf", desc := "(I)I" } : Jvm.MethodName)) ∈ lw_tbl := tb_in (List.mem_of_getElem? (i := 443) (by decide +kernel))
theorem tw_447 : (Jvm.Cond.methodLink "SuetTroubles" (143 : Nat) ({ cls := "SuetTroubles$Deeds", name := "strongest", desc := "()I" } : Jvm.MethodName)) ∈ lw_tbl := tb_in (List.mem_of_getElem? (i := 447) (by decide +kernel))
theorem tw_451 : (Jvm.Cond.methodLink "SuetTroubles" (149 : Nat) ({ cls := "SuetTroubles$Cloth", name := "within", desc := "(LSuetTroubles$Plan;LSuetTroubles$Scene;)I" } : Jvm.MethodName)) ∈ lw_tbl := tb_in (List.mem_of_getElem? (i := 451) (by decide +kernel))
theorem tw_455 : (Jvm.Cond.methodLink "SuetTroubles$Cloth" (25 : Nat) ({ cls := "SuetTroubles$Cloth", name := "feelAll", desc := "(LSuetTroubles$Plan;LSuetTroubles$Scene;)V" } : Jvm.MethodName)) ∈ lw_tbl := tb_in (List.mem_of_getElem? (i := 455) (by decide +kernel))
theorem tw_459 : (Jvm.Cond.methodLink "SuetTroubles$Cloth" (51 : Nat) ({ cls := "SuetTroubles$Cloth", name := "feelMoves", desc := "(I)V" } : Jvm.MethodName)) ∈ lw_tbl := tb_in (List.mem_of_getElem? (i := 459) (by decide +kernel))
theorem tw_463 : (Jvm.Cond.methodLink "SuetTroubles$Cloth" (55 : Nat) ({ cls := "SuetTroubles$Shapes", name := "movesDown", desc := "(I)I" } : Jvm.MethodName)) ∈ lw_tbl := tb_in (List.mem_of_getElem? (i := 463) (by decide +kernel))
theorem tw_466 : (Jvm.Cond.methodLink "SuetTroubles$Shapes" (42 : Nat) ({ cls := "SuetTroubles$Shapes", name := "rowsUsed", desc := "(I)I" } : Jvm.MethodName)) ∈ lw_tbl := tb_in (List.mem_of_getElem? (i := 466) (by decide +kernel))
theorem tw_469 : (Jvm.Cond.methodLink "SuetTroubles$Shapes" (39 : Nat) ({ cls := "SuetTroubles$Shapes", name := "rowOf", desc := "(II)I" } : Jvm.MethodName)) ∈ lw_tbl := tb_in (List.mem_of_getElem? (i := 469) (by decide +kernel))
theorem tw_472 : (Jvm.Cond.methodLink "SuetTroubles$Shapes" (48 : Nat) ({ cls := "SuetTroubles$Shapes", name := "lastOf", desc := "(I)I" } : Jvm.MethodName)) ∈ lw_tbl := tb_in (List.mem_of_getElem? (i := 472) (by decide +kernel))
theorem tw_475 : (Jvm.Cond.methodLink "SuetTroubles$Shapes" (32 : Nat) ({ cls := "SuetTroubles$Shapes", name := "has", desc := "(II)Z" } : Jvm.MethodName)) ∈ lw_tbl := tb_in (List.mem_of_getElem? (i := 475) (by decide +kernel))
theorem tw_478 : (Jvm.Cond.methodLink "SuetTroubles$Cloth" (61 : Nat) ({ cls := "SuetTroubles$Shapes", name := "movesRight", desc := "(I)I" } : Jvm.MethodName)) ∈ lw_tbl := tb_in (List.mem_of_getElem? (i := 478) (by decide +kernel))
theorem tw_481 : (Jvm.Cond.methodLink "SuetTroubles$Shapes" (45 : Nat) ({ cls := "SuetTroubles$Shapes", name := "columnsUsed", desc := "(I)I" } : Jvm.MethodName)) ∈ lw_tbl := tb_in (List.mem_of_getElem? (i := 481) (by decide +kernel))
theorem tw_484 : (Jvm.Cond.methodLink "SuetTroubles$Cloth" (64 : Nat) ({ cls := "SuetTroubles$Cloth", name := "countPair", desc := "(I)V" } : Jvm.MethodName)) ∈ lw_tbl := tb_in (List.mem_of_getElem? (i := 484) (by decide +kernel))
theorem tw_488 : (Jvm.Cond.methodLink "SuetTroubles" (153 : Nat) ({ cls := "SuetTroubles$Cloth", name := "pairs", desc := "(LSuetTroubles$Plan;LSuetTroubles$Scene;)I" } : Jvm.MethodName)) ∈ lw_tbl := tb_in (List.mem_of_getElem? (i := 488) (by decide +kernel))
theorem tw_492 : (Jvm.Cond.methodLink "SuetTroubles" (156 : Nat) ({ cls := "SuetTroubles$Cloth", name := "weave", desc := "(LSuetTroubles$Plan;LSuetTroubles$Scene;)I" } : Jvm.MethodName)) ∈ lw_tbl := tb_in (List.mem_of_getElem? (i := 492) (by decide +kernel))
theorem tw_496 : (Jvm.Cond.methodLink "SuetTroubles$Cloth" (35 : Nat) ({ cls := "java/lang/Math", name := "max", desc := "(II)I" } : Jvm.MethodName)) ∈ lw_tbl := tb_in (List.mem_of_getElem? (i := 496) (by decide +kernel))
theorem tw_503 : (Jvm.Cond.methodLink "SuetTroubles" (165 : Nat) ({ cls := "SuetTroubles$Plan", name := "hasTrouble", desc := "(I)Z" } : Jvm.MethodName)) ∈ lw_tbl := tb_in (List.mem_of_getElem? (i := 503) (by decide +kernel))
theorem tw_507 : (Jvm.Cond.constant "SuetTroubles" (169 : Nat) (-1000000001 : Int32)) ∈ lw_tbl := tb_in (List.mem_of_getElem? (i := 507) (by decide +kernel))
theorem tw_508 : (Jvm.Cond.methodLink "SuetTroubles" (183 : Nat) ({ cls := "SuetTroubles$Shapes", name := "parts", desc := "(I)I" } : Jvm.MethodName)) ∈ lw_tbl := tb_in (List.mem_of_getElem? (i := 508) (by decide +kernel))
theorem tw_511 : (Jvm.Cond.methodLink "SuetTroubles$Shapes" (18 : Nat) ({ cls := "SuetTroubles$Shapes", name := "partFrom", desc := "(II)I" } : Jvm.MethodName)) ∈ lw_tbl := tb_in (List.mem_of_getElem? (i := 511) (by decide +kernel))
theorem tw_514 : (Jvm.Cond.methodLink "SuetTroubles$Shapes" (14 : Nat) ({ cls := "SuetTroubles$Shapes", name := "besideIt", desc := "(II)I" } : Jvm.MethodName)) ∈ lw_tbl := tb_in (List.mem_of_getElem? (i := 514) (by decide +kernel))
theorem tw_517 : (Jvm.Cond.constant "SuetTroubles$Shapes" (11 : Nat) (33554431 : Int32)) ∈ lw_tbl := tb_in (List.mem_of_getElem? (i := 517) (by decide +kernel))
theorem tw_518 : (Jvm.Cond.constant "SuetTroubles$Shapes" (12 : Nat) (-17318417 : Int32)) ∈ lw_tbl := tb_in (List.mem_of_getElem? (i := 518) (by decide +kernel))
theorem tw_519 : (Jvm.Cond.constant "SuetTroubles$Shapes" (13 : Nat) (-1082402 : Int32)) ∈ lw_tbl := tb_in (List.mem_of_getElem? (i := 519) (by decide +kernel))
theorem tw_520 : (Jvm.Cond.methodLink "SuetTroubles" (188 : Nat) ({ cls := "SuetTroubles$Shapes", name := "greatestPart", desc := "(I)I" } : Jvm.MethodName)) ∈ lw_tbl := tb_in (List.mem_of_getElem? (i := 520) (by decide +kernel))
theorem tw_523 : (Jvm.Cond.methodLink "SuetTroubles$Shapes" (21 : Nat) ({ cls := "java/lang/Integer", name := "bitCount", desc := "(I)I" } : Jvm.MethodName)) ∈ lw_tbl := tb_in (List.mem_of_getElem? (i := 523) (by decide +kernel))
theorem tw_526 : (Jvm.Cond.constant "java/lang/Integer" (265 : Nat) (1431655765 : Int32)) ∈ lw_tbl := tb_in (List.mem_of_getElem? (i := 526) (by decide +kernel))
theorem tw_527 : (Jvm.Cond.constant "java/lang/Integer" (266 : Nat) (858993459 : Int32)) ∈ lw_tbl := tb_in (List.mem_of_getElem? (i := 527) (by decide +kernel))
theorem tw_528 : (Jvm.Cond.constant "java/lang/Integer" (267 : Nat) (252645135 : Int32)) ∈ lw_tbl := tb_in (List.mem_of_getElem? (i := 528) (by decide +kernel))
theorem tw_529 : (Jvm.Cond.methodLink "SuetTroubles$Shapes" (27 : Nat) ({ cls := "java/lang/Math", name := "max", desc := "(II)I" } : Jvm.MethodName)) ∈ lw_tbl := tb_in (List.mem_of_getElem? (i := 529) (by decide +kernel))
theorem tw_530 : (Jvm.Cond.methodLink "SuetTroubles" (191 : Nat) ({ cls := "SuetTroubles$Shapes", name := "edge", desc := "(I)I" } : Jvm.MethodName)) ∈ lw_tbl := tb_in (List.mem_of_getElem? (i := 530) (by decide +kernel))
theorem tw_533 : (Jvm.Cond.methodLink "SuetTroubles" (194 : Nat) ({ cls := "SuetTroubles$Shapes", name := "hold", desc := "(I)I" } : Jvm.MethodName)) ∈ lw_tbl := tb_in (List.mem_of_getElem? (i := 533) (by decide +kernel))
theorem tw_536 : (Jvm.Cond.methodLink "SuetTroubles$Shapes" (36 : Nat) ({ cls := "SuetTroubles$Shapes", name := "openSides", desc := "(II)I" } : Jvm.MethodName)) ∈ lw_tbl := tb_in (List.mem_of_getElem? (i := 536) (by decide +kernel))
theorem tw_539 : (Jvm.Cond.methodLink "SuetTroubles" (197 : Nat) ({ cls := "SuetTroubles$Deeds", name := "isBearable", desc := "(I)Z" } : Jvm.MethodName)) ∈ lw_tbl := tb_in (List.mem_of_getElem? (i := 539) (by decide +kernel))
theorem tw_543 : (Jvm.Cond.methodLink "SuetTroubles$Deeds" (90 : Nat) ({ cls := "SuetTroubles$Deeds", name := "weight", desc := "(I)I" } : Jvm.MethodName)) ∈ lw_tbl := tb_in (List.mem_of_getElem? (i := 543) (by decide +kernel))
theorem tw_547 : (Jvm.Cond.methodLink "SuetTroubles$Deeds" (70 : Nat) ({ cls := "java/lang/Integer", name := "bitCount", desc := "(I)I" } : Jvm.MethodName)) ∈ lw_tbl := tb_in (List.mem_of_getElem? (i := 547) (by decide +kernel))
theorem tw_548 : (Jvm.Cond.methodLink "SuetTroubles$Deeds" (87 : Nat) ({ cls := "java/lang/Math", name := "max", desc := "(II)I" } : Jvm.MethodName)) ∈ lw_tbl := tb_in (List.mem_of_getElem? (i := 548) (by decide +kernel))
theorem tw_549 : (Jvm.Cond.methodLink "SuetTroubles$Deeds" (93 : Nat) ({ cls := "SuetTroubles$Deeds", name := "leftTogether", desc := "()I" } : Jvm.MethodName)) ∈ lw_tbl := tb_in (List.mem_of_getElem? (i := 549) (by decide +kernel))
theorem tw_554 : (Jvm.Cond.methodLink "SuetTroubles" (200 : Nat) ({ cls := "SuetTroubles$Plan", name := "hasEater", desc := "(I)Z" } : Jvm.MethodName)) ∈ lw_tbl := tb_in (List.mem_of_getElem? (i := 554) (by decide +kernel))
theorem tw_562 : (Jvm.Cond.methodLink "SuetTroubles" (209 : Nat) ({ cls := "SuetTroubles$Deeds", name := "canBeWrapped", desc := "(I)Z" } : Jvm.MethodName)) ∈ lw_tbl := tb_in (List.mem_of_getElem? (i := 562) (by decide +kernel))
theorem tw_566 : (Jvm.Cond.constant "SuetTroubles" (212 : Nat) (-1000000003 : Int32)) ∈ lw_tbl := tb_in (List.mem_of_getElem? (i := 566) (by decide +kernel))
theorem tw_567 : (Jvm.Cond.methodLink "SuetTroubles" (213 : Nat) ({ cls := "SuetTroubles$Past", name := "remember", desc := "(LSuetTroubles$Scene;)V" } : Jvm.MethodName)) ∈ lw_tbl := tb_in (List.mem_of_getElem? (i := 567) (by decide +kernel))
theorem tw_571 : (Jvm.Cond.methodLink "SuetTroubles$Past" (36 : Nat) ({ cls := "SuetTroubles$Scene", name := "become", desc := "(LSuetTroubles$Scene;)V" } : Jvm.MethodName)) ∈ lw_tbl := tb_in (List.mem_of_getElem? (i := 571) (by decide +kernel))
theorem tw_575 : (Jvm.Cond.methodLink "SuetTroubles" (217 : Nat) ({ cls := "SuetTroubles$Deeds", name := "putInSuet", desc := "(I)I" } : Jvm.MethodName)) ∈ lw_tbl := tb_in (List.mem_of_getElem? (i := 575) (by decide +kernel))
theorem tw_579 : (Jvm.Cond.methodLink "SuetTroubles$Deeds" (49 : Nat) ({ cls := "SuetTroubles$Sheets", name := "fewest", desc := "(I)I" } : Jvm.MethodName)) ∈ lw_tbl := tb_in (List.mem_of_getElem? (i := 579) (by decide +kernel))
theorem tw_583 : (Jvm.Cond.methodLink "SuetTroubles$Sheets" (18 : Nat) ({ cls := "SuetTroubles$Shapes", name := "rowOf", desc := "(II)I" } : Jvm.MethodName)) ∈ lw_tbl := tb_in (List.mem_of_getElem? (i := 583) (by decide +kernel))
theorem tw_584 : (Jvm.Cond.methodLink "SuetTroubles$Sheets" (24 : Nat) ({ cls := "SuetTroubles$Sheets", name := "addRow", desc := "(I)V" } : Jvm.MethodName)) ∈ lw_tbl := tb_in (List.mem_of_getElem? (i := 584) (by decide +kernel))
theorem tw_588 : (Jvm.Cond.methodLink "SuetTroubles$Sheets" (28 : Nat) ({ cls := "SuetTroubles$Sheets", name := "covered", desc := "(I)I" } : Jvm.MethodName)) ∈ lw_tbl := tb_in (List.mem_of_getElem? (i := 588) (by decide +kernel))
theorem tw_591 : (Jvm.Cond.methodLink "SuetTroubles$Sheets" (32 : Nat) ({ cls := "java/lang/Math", name := "min", desc := "(II)I" } : Jvm.MethodName)) ∈ lw_tbl := tb_in (List.mem_of_getElem? (i := 591) (by decide +kernel))
theorem tw_592 : (Jvm.Cond.methodLink "SuetTroubles$Sheets" (37 : Nat) ({ cls := "java/lang/Integer", name := "bitCount", desc := "(I)I" } : Jvm.MethodName)) ∈ lw_tbl := tb_in (List.mem_of_getElem? (i := 592) (by decide +kernel))
theorem tw_593 : (Jvm.Cond.constant "SuetTroubles$Deeds" (57 : Nat) (999999 : Int32)) ∈ lw_tbl := tb_in (List.mem_of_getElem? (i := 593) (by decide +kernel))
theorem tw_594 : (Jvm.Cond.methodLink "SuetTroubles$Deeds" (58 : Nat) ({ cls := "java/lang/Math", name := "min", desc := "(II)I" } : Jvm.MethodName)) ∈ lw_tbl := tb_in (List.mem_of_getElem? (i := 594) (by decide +kernel))
theorem tw_599 : (Jvm.Cond.methodLink "SuetTroubles" (220 : Nat) ({ cls := "SuetTroubles$Deeds", name := "freePots", desc := "()I" } : Jvm.MethodName)) ∈ lw_tbl := tb_in (List.mem_of_getElem? (i := 599) (by decide +kernel))
theorem tw_603 : (Jvm.Cond.methodLink "SuetTroubles$Deeds" (67 : Nat) ({ cls := "SuetTroubles$Deeds", name := "allThatAre", desc := "(I)I" } : Jvm.MethodName)) ∈ lw_tbl := tb_in (List.mem_of_getElem? (i := 603) (by decide +kernel))
theorem tw_612 : (Jvm.Cond.methodLink "SuetTroubles" (223 : Nat) ({ cls := "SuetTroubles", name := "refusalOfHours", desc := "(I)I" } : Jvm.MethodName)) ∈ lw_tbl := tb_in (List.mem_of_getElem? (i := 612) (by decide +kernel))
theorem tw_616 : (Jvm.Cond.methodLink "SuetTroubles" (236 : Nat) ({ cls := "SuetTroubles$Plan", name := "isThere", desc := "()Z" } : Jvm.MethodName)) ∈ lw_tbl := tb_in (List.mem_of_getElem? (i := 616) (by decide +kernel))
theorem tw_617 : (Jvm.Cond.methodLink "SuetTroubles" (226 : Nat) ({ cls := "SuetTroubles$Deeds", name := "boil", desc := "()V" } : Jvm.MethodName)) ∈ lw_tbl := tb_in (List.mem_of_getElem? (i := 617) (by decide +kernel))
theorem tw_621 : (Jvm.Cond.methodLink "SuetTroubles$Deeds" (115 : Nat) ({ cls := "SuetTroubles$Deeds", name := "hardBehind", desc := "(II)I" } : Jvm.MethodName)) ∈ lw_tbl := tb_in (List.mem_of_getElem? (i := 621) (by decide +kernel))
theorem tw_625 : (Jvm.Cond.methodLink "SuetTroubles$Deeds" (112 : Nat) ({ cls := "SuetTroubles$Deeds", name := "softenedBy", desc := "(I)I" } : Jvm.MethodName)) ∈ lw_tbl := tb_in (List.mem_of_getElem? (i := 625) (by decide +kernel))
theorem tw_633 : (Jvm.Cond.methodLink "SuetTroubles" (229 : Nat) ({ cls := "SuetTroubles$Deeds", name := "canBeBorne", desc := "(I)Z" } : Jvm.MethodName)) ∈ lw_tbl := tb_in (List.mem_of_getElem? (i := 633) (by decide +kernel))
theorem tw_637 : (Jvm.Cond.methodLink "SuetTroubles$Deeds" (97 : Nat) ({ cls := "SuetTroubles$Deeds", name := "isBearable", desc := "(I)Z" } : Jvm.MethodName)) ∈ lw_tbl := tb_in (List.mem_of_getElem? (i := 637) (by decide +kernel))
theorem tw_638 : (Jvm.Cond.methodLink "SuetTroubles" (232 : Nat) ({ cls := "SuetTroubles$Deeds", name := "shareOut", desc := "(I)V" } : Jvm.MethodName)) ∈ lw_tbl := tb_in (List.mem_of_getElem? (i := 638) (by decide +kernel))
theorem tw_642 : (Jvm.Cond.methodLink "SuetTroubles$Deeds" (100 : Nat) ({ cls := "SuetTroubles$Deeds", name := "strongest", desc := "()I" } : Jvm.MethodName)) ∈ lw_tbl := tb_in (List.mem_of_getElem? (i := 642) (by decide +kernel))
theorem tw_647 : (Jvm.Cond.methodLink "SuetTroubles" (240 : Nat) ({ cls := "SuetTroubles$Deeds", name := "unload", desc := "()I" } : Jvm.MethodName)) ∈ lw_tbl := tb_in (List.mem_of_getElem? (i := 647) (by decide +kernel))
theorem tw_655 : (Jvm.Cond.methodLink "SuetTroubles" (243 : Nat) ({ cls := "SuetTroubles$Shapes", name := "has", desc := "(II)Z" } : Jvm.MethodName)) ∈ lw_tbl := tb_in (List.mem_of_getElem? (i := 655) (by decide +kernel))
theorem tw_656 : (Jvm.Cond.methodLink "SuetTroubles" (247 : Nat) ({ cls := "java/lang/Integer", name := "bitCount", desc := "(I)I" } : Jvm.MethodName)) ∈ lw_tbl := tb_in (List.mem_of_getElem? (i := 656) (by decide +kernel))
theorem tw_661 : (Jvm.Cond.methodLink "SuetTroubles" (252 : Nat) ({ cls := "SuetTroubles$Deeds", name := "actByDraws", desc := "()V" } : Jvm.MethodName)) ∈ lw_tbl := tb_in (List.mem_of_getElem? (i := 661) (by decide +kernel))
theorem tw_665 : (Jvm.Cond.methodLink "SuetTroubles$Deeds" (118 : Nat) ({ cls := "SuetTroubles$Draws", name := "draw", desc := "(I)I" } : Jvm.MethodName)) ∈ lw_tbl := tb_in (List.mem_of_getElem? (i := 665) (by decide +kernel))
theorem tw_669 : (Jvm.Cond.constant "SuetTroubles$Draws" (13 : Nat) (1103515245 : Int32)) ∈ lw_tbl := tb_in (List.mem_of_getElem? (i := 669) (by decide +kernel))
theorem tw_670 : (Jvm.Cond.constant "SuetTroubles$Draws" (14 : Nat) (2147483647 : Int32)) ∈ lw_tbl := tb_in (List.mem_of_getElem? (i := 670) (by decide +kernel))
theorem tw_671 : (Jvm.Cond.constant "SuetTroubles$Draws" (15 : Nat) (65536 : Int32)) ∈ lw_tbl := tb_in (List.mem_of_getElem? (i := 671) (by decide +kernel))
theorem tw_672 : (Jvm.Cond.methodLink "SuetTroubles$Deeds" (123 : Nat) ({ cls := "SuetTroubles$Deeds", name := "canBeWrapped", desc := "(I)Z" } : Jvm.MethodName)) ∈ lw_tbl := tb_in (List.mem_of_getElem? (i := 672) (by decide +kernel))
theorem tw_673 : (Jvm.Cond.methodLink "SuetTroubles$Deeds" (126 : Nat) ({ cls := "SuetTroubles$Deeds", name := "putInSuet", desc := "(I)I" } : Jvm.MethodName)) ∈ lw_tbl := tb_in (List.mem_of_getElem? (i := 673) (by decide +kernel))
theorem tw_674 : (Jvm.Cond.methodLink "SuetTroubles$Deeds" (129 : Nat) ({ cls := "SuetTroubles$Deeds", name := "freePots", desc := "()I" } : Jvm.MethodName)) ∈ lw_tbl := tb_in (List.mem_of_getElem? (i := 674) (by decide +kernel))
theorem tw_675 : (Jvm.Cond.methodLink "SuetTroubles$Deeds" (132 : Nat) ({ cls := "SuetTroubles$Deeds", name := "canBeBorne", desc := "(I)Z" } : Jvm.MethodName)) ∈ lw_tbl := tb_in (List.mem_of_getElem? (i := 675) (by decide +kernel))
theorem tw_676 : (Jvm.Cond.methodLink "SuetTroubles$Deeds" (135 : Nat) ({ cls := "SuetTroubles$Deeds", name := "shareOut", desc := "(I)V" } : Jvm.MethodName)) ∈ lw_tbl := tb_in (List.mem_of_getElem? (i := 676) (by decide +kernel))
theorem tw_677 : (Jvm.Cond.methodLink "SuetTroubles$Deeds" (139 : Nat) ({ cls := "SuetTroubles$Deeds", name := "unload", desc := "()I" } : Jvm.MethodName)) ∈ lw_tbl := tb_in (List.mem_of_getElem? (i := 677) (by decide +kernel))
theorem tw_682 : (Jvm.Cond.methodLink "SuetTroubles" (255 : Nat) ({ cls := "SuetTroubles$Past", name := "stepBack", desc := "(LSuetTroubles$Scene;)V" } : Jvm.MethodName)) ∈ lw_tbl := tb_in (List.mem_of_getElem? (i := 682) (by decide +kernel))
theorem tw_690 : (Jvm.Cond.methodLink "SuetTroubles" (258 : Nat) ({ cls := "SuetTroubles$Sheets", name := "fewest", desc := "(I)I" } : Jvm.MethodName)) ∈ lw_tbl := tb_in (List.mem_of_getElem? (i := 690) (by decide +kernel))
theorem tw_691 : (Jvm.Cond.methodLink "SuetTroubles" (261 : Nat) ({ cls := "SuetTroubles$Sheets", name := "first", desc := "(I)I" } : Jvm.MethodName)) ∈ lw_tbl := tb_in (List.mem_of_getElem? (i := 691) (by decide +kernel))
theorem tw_695 : (Jvm.Cond.methodLink "SuetTroubles$Sheets" (42 : Nat) ({ cls := "SuetTroubles$Sheets", name := "fewest", desc := "(I)I" } : Jvm.MethodName)) ∈ lw_tbl := tb_in (List.mem_of_getElem? (i := 695) (by decide +kernel))
theorem tw_696 : (Jvm.Cond.methodLink "SuetTroubles" (264 : Nat) ({ cls := "SuetTroubles$Shapes", name := "squareSide", desc := "(I)I" } : Jvm.MethodName)) ∈ lw_tbl := tb_in (List.mem_of_getElem? (i := 696) (by decide +kernel))
theorem tw_699 : (Jvm.Cond.methodLink "SuetTroubles$Shapes" (51 : Nat) ({ cls := "SuetTroubles$Shapes", name := "firstOf", desc := "(I)I" } : Jvm.MethodName)) ∈ lw_tbl := tb_in (List.mem_of_getElem? (i := 699) (by decide +kernel))
theorem tw_706 : (Jvm.Cond.methodLink "SuetTroubles" (267 : Nat) ({ cls := "SuetTroubles$Deeds", name := "hardBehind", desc := "(II)I" } : Jvm.MethodName)) ∈ lw_tbl := tb_in (List.mem_of_getElem? (i := 706) (by decide +kernel))
theorem tw_711 : (Jvm.Cond.methodLink "SuetTroubles" (271 : Nat) ({ cls := "SuetTroubles$Deeds", name := "hoursTillGood", desc := "(II)I" } : Jvm.MethodName)) ∈ lw_tbl := tb_in (List.mem_of_getElem? (i := 711) (by decide +kernel))
theorem tw_719 : (Jvm.Cond.methodLink "SuetTroubles" (274 : Nat) ({ cls := "SuetTroubles$Plan", name := "allTroubles", desc := "()I" } : Jvm.MethodName)) ∈ lw_tbl := tb_in (List.mem_of_getElem? (i := 719) (by decide +kernel))
theorem tw_723 : (Jvm.Cond.methodLink "SuetTroubles" (277 : Nat) ({ cls := "SuetTroubles$Orders", name := "find", desc := "(ILSuetTroubles$Deeds;I)V" } : Jvm.MethodName)) ∈ lw_tbl := tb_in (List.mem_of_getElem? (i := 723) (by decide +kernel))
theorem tw_727 : (Jvm.Cond.methodLink "SuetTroubles$Orders" (25 : Nat) ({ cls := "SuetTroubles$Shapes", name := "has", desc := "(II)Z" } : Jvm.MethodName)) ∈ lw_tbl := tb_in (List.mem_of_getElem? (i := 727) (by decide +kernel))
theorem tw_728 : (Jvm.Cond.methodLink "SuetTroubles$Orders" (31 : Nat) ({ cls := "SuetTroubles$Deeds", name := "hoursTillGood", desc := "(II)I" } : Jvm.MethodName)) ∈ lw_tbl := tb_in (List.mem_of_getElem? (i := 728) (by decide +kernel))
theorem tw_729 : (Jvm.Cond.methodLink "SuetTroubles$Orders" (37 : Nat) ({ cls := "SuetTroubles$Orders", name := "tryNext", desc := "(IIIII)V" } : Jvm.MethodName)) ∈ lw_tbl := tb_in (List.mem_of_getElem? (i := 729) (by decide +kernel))
theorem tw_737 : (Jvm.Cond.methodLink "SuetTroubles" (287 : Nat) ({ cls := "SuetTroubles$Shapes", name := "halvingLine", desc := "(I)I" } : Jvm.MethodName)) ∈ lw_tbl := tb_in (List.mem_of_getElem? (i := 737) (by decide +kernel))
theorem tw_740 : (Jvm.Cond.methodLink "SuetTroubles$Shapes" (55 : Nat) ({ cls := "SuetTroubles$Shapes", name := "greaterHalf", desc := "(II)I" } : Jvm.MethodName)) ∈ lw_tbl := tb_in (List.mem_of_getElem? (i := 740) (by decide +kernel))
theorem tw_743 : (Jvm.Cond.constant "SuetTroubles$Shapes" (54 : Nat) (1082401 : Int32)) ∈ lw_tbl := tb_in (List.mem_of_getElem? (i := 743) (by decide +kernel))
theorem tw_744 : (Jvm.Cond.methodLink "SuetTroubles" (290 : Nat) ({ cls := "SuetTroubles$Shapes", name := "greaterHalf", desc := "(II)I" } : Jvm.MethodName)) ∈ lw_tbl := tb_in (List.mem_of_getElem? (i := 744) (by decide +kernel))
theorem tw_749 : (Jvm.Cond.constantLong "SuetTroubles" (293 : Nat) (1000000000 : Int64)) ∈ lw_tbl := tb_in (List.mem_of_getElem? (i := 749) (by decide +kernel))
theorem tw_750 : (Jvm.Cond.constantLong "SuetTroubles" (295 : Nat) (100 : Int64)) ∈ lw_tbl := tb_in (List.mem_of_getElem? (i := 750) (by decide +kernel))
theorem tw_755 : (Jvm.Cond.methodLink "SuetTroubles" (297 : Nat) ({ cls := "SuetTroubles$Cloth", name := "add", desc := "(IZ)I" } : Jvm.MethodName)) ∈ lw_tbl := tb_in (List.mem_of_getElem? (i := 755) (by decide +kernel))
theorem tw_763 : (Jvm.Cond.methodLink "SuetTroubles" (300 : Nat) ({ cls := "SuetTroubles$Book", name := "add", desc := "(II)I" } : Jvm.MethodName)) ∈ lw_tbl := tb_in (List.mem_of_getElem? (i := 763) (by decide +kernel))
theorem tw_775 : (Jvm.Cond.methodLink "SuetTroubles" (302 : Nat) ({ cls := "SuetTroubles$Book", name := "firstWrong", desc := "(LSuetTroubles$Scene;)I" } : Jvm.MethodName)) ∈ lw_tbl := tb_in (List.mem_of_getElem? (i := 775) (by decide +kernel))
theorem tw_787 : (Jvm.Cond.methodLink "SuetTroubles" (309 : Nat) ({ cls := "SuetTroubles$Past", name := "keepImage", desc := "(ILSuetTroubles$Scene;LSuetTroubles$Draws;)V" } : Jvm.MethodName)) ∈ lw_tbl := tb_in (List.mem_of_getElem? (i := 787) (by decide +kernel))
theorem tw_795 : (Jvm.Cond.methodLink "SuetTroubles" (317 : Nat) ({ cls := "SuetTroubles$Past", name := "showImage", desc := "(ILSuetTroubles$Scene;LSuetTroubles$Draws;)V" } : Jvm.MethodName)) ∈ lw_tbl := tb_in (List.mem_of_getElem? (i := 795) (by decide +kernel))
theorem tw_805 : (Jvm.Cond.fieldLink "SuetTroublesModel" (75 : Nat) "SuetTroublesModel" "letterMany" "I") ∈ lw_tbl := tb_in (List.mem_of_getElem? (i := 805) (by decide +kernel))
theorem tw_806 : (Jvm.Cond.fieldLink "SuetTroublesModel" (7 : Nat) "SuetTroublesModel" "text" "[I") ∈ lw_tbl := tb_in (List.mem_of_getElem? (i := 806) (by decide +kernel))
theorem tw_807 : (Jvm.Cond.fieldLink "SuetTroublesModel" (79 : Nat) "SuetTroublesModel" "readAt" "I") ∈ lw_tbl := tb_in (List.mem_of_getElem? (i := 807) (by decide +kernel))
theorem tw_808 : (Jvm.Cond.fieldLink "SuetTroublesModel" (97 : Nat) "SuetTroublesModel" "numberAt" "I") ∈ lw_tbl := tb_in (List.mem_of_getElem? (i := 808) (by decide +kernel))
theorem tw_809 : (Jvm.Cond.fieldLink "SuetTroublesModel" (86 : Nat) "SuetTroublesModel" "readFault" "I") ∈ lw_tbl := tb_in (List.mem_of_getElem? (i := 809) (by decide +kernel))
theorem tw_810 : (Jvm.Cond.fieldLink "SuetTroublesModel" (13 : Nat) "SuetTroublesModel" "faultAt" "I") ∈ lw_tbl := tb_in (List.mem_of_getElem? (i := 810) (by decide +kernel))
theorem tw_811 : (Jvm.Cond.fieldLink "SuetTroublesModel" (103 : Nat) "SuetTroublesModel" "readHeat" "I") ∈ lw_tbl := tb_in (List.mem_of_getElem? (i := 811) (by decide +kernel))
theorem tw_812 : (Jvm.Cond.fieldLink "SuetTroublesModel" (106 : Nat) "SuetTroublesModel" "readPots" "I") ∈ lw_tbl := tb_in (List.mem_of_getElem? (i := 812) (by decide +kernel))
theorem tw_813 : (Jvm.Cond.fieldLink "SuetTroublesModel" (113 : Nat) "SuetTroublesModel" "readTroubles" "I") ∈ lw_tbl := tb_in (List.mem_of_getElem? (i := 813) (by decide +kernel))
theorem tw_814 : (Jvm.Cond.fieldLink "SuetTroublesModel" (116 : Nat) "SuetTroublesModel" "readEaters" "I") ∈ lw_tbl := tb_in (List.mem_of_getElem? (i := 814) (by decide +kernel))
theorem tw_815 : (Jvm.Cond.fieldLink "SuetTroublesModel" (17 : Nat) "SuetTroublesModel" "readKind" "[I") ∈ lw_tbl := tb_in (List.mem_of_getElem? (i := 815) (by decide +kernel))
theorem tw_816 : (Jvm.Cond.fieldLink "SuetTroublesModel" (20 : Nat) "SuetTroublesModel" "readHard" "[I") ∈ lw_tbl := tb_in (List.mem_of_getElem? (i := 816) (by decide +kernel))
theorem tw_817 : (Jvm.Cond.fieldLink "SuetTroublesModel" (23 : Nat) "SuetTroublesModel" "readShape" "[I") ∈ lw_tbl := tb_in (List.mem_of_getElem? (i := 817) (by decide +kernel))
theorem tw_818 : (Jvm.Cond.fieldLink "SuetTroublesModel" (26 : Nat) "SuetTroublesModel" "readStrength" "[I") ∈ lw_tbl := tb_in (List.mem_of_getElem? (i := 818) (by decide +kernel))
theorem tw_819 : (Jvm.Cond.fieldLink "SuetTroublesModel" (135 : Nat) "SuetTroublesModel" "heat" "I") ∈ lw_tbl := tb_in (List.mem_of_getElem? (i := 819) (by decide +kernel))
theorem tw_820 : (Jvm.Cond.fieldLink "SuetTroublesModel" (138 : Nat) "SuetTroublesModel" "pots" "I") ∈ lw_tbl := tb_in (List.mem_of_getElem? (i := 820) (by decide +kernel))
theorem tw_821 : (Jvm.Cond.fieldLink "SuetTroublesModel" (141 : Nat) "SuetTroublesModel" "m" "I") ∈ lw_tbl := tb_in (List.mem_of_getElem? (i := 821) (by decide +kernel))
theorem tw_822 : (Jvm.Cond.fieldLink "SuetTroublesModel" (144 : Nat) "SuetTroublesModel" "n" "I") ∈ lw_tbl := tb_in (List.mem_of_getElem? (i := 822) (by decide +kernel))
theorem tw_823 : (Jvm.Cond.fieldLink "SuetTroublesModel" (29 : Nat) "SuetTroublesModel" "kinds" "[I") ∈ lw_tbl := tb_in (List.mem_of_getElem? (i := 823) (by decide +kernel))
theorem tw_824 : (Jvm.Cond.fieldLink "SuetTroublesModel" (32 : Nat) "SuetTroublesModel" "strengths" "[I") ∈ lw_tbl := tb_in (List.mem_of_getElem? (i := 824) (by decide +kernel))
theorem tw_825 : (Jvm.Cond.fieldLink "SuetTroublesModel" (35 : Nat) "SuetTroublesModel" "now" "[I") ∈ lw_tbl := tb_in (List.mem_of_getElem? (i := 825) (by decide +kernel))
theorem tw_826 : (Jvm.Cond.fieldLink "SuetTroublesModel" (147 : Nat) "SuetTroublesModel" "undoMany" "I") ∈ lw_tbl := tb_in (List.mem_of_getElem? (i := 826) (by decide +kernel))
theorem tw_827 : (Jvm.Cond.fieldLink "SuetTroublesModel" (223 : Nat) "SuetTroublesModel" "undoAt" "I") ∈ lw_tbl := tb_in (List.mem_of_getElem? (i := 827) (by decide +kernel))
theorem tw_828 : (Jvm.Cond.fieldLink "SuetTroublesModel" (38 : Nat) "SuetTroublesModel" "undos" "[I") ∈ lw_tbl := tb_in (List.mem_of_getElem? (i := 828) (by decide +kernel))
theorem tw_829 : (Jvm.Cond.fieldLink "SuetTroublesModel" (268 : Nat) "SuetTroublesModel" "seeded" "J") ∈ lw_tbl := tb_in (List.mem_of_getElem? (i := 829) (by decide +kernel))
theorem tw_830 : (Jvm.Cond.fieldLink "SuetTroublesModel" (41 : Nat) "SuetTroublesModel" "covers" "[I") ∈ lw_tbl := tb_in (List.mem_of_getElem? (i := 830) (by decide +kernel))
theorem tw_831 : (Jvm.Cond.fieldLink "SuetTroublesModel" (150 : Nat) "SuetTroublesModel" "bumpMany" "I") ∈ lw_tbl := tb_in (List.mem_of_getElem? (i := 831) (by decide +kernel))
theorem tw_832 : (Jvm.Cond.fieldLink "SuetTroublesModel" (44 : Nat) "SuetTroublesModel" "bumpCell" "[I") ∈ lw_tbl := tb_in (List.mem_of_getElem? (i := 832) (by decide +kernel))
theorem tw_833 : (Jvm.Cond.fieldLink "SuetTroublesModel" (47 : Nat) "SuetTroublesModel" "bumpIs" "[Z") ∈ lw_tbl := tb_in (List.mem_of_getElem? (i := 833) (by decide +kernel))
theorem tw_834 : (Jvm.Cond.fieldLink "SuetTroublesModel" (51 : Nat) "SuetTroublesModel" "fulls" "[I") ∈ lw_tbl := tb_in (List.mem_of_getElem? (i := 834) (by decide +kernel))
theorem tw_835 : (Jvm.Cond.fieldLink "SuetTroublesModel" (153 : Nat) "SuetTroublesModel" "bookMany" "I") ∈ lw_tbl := tb_in (List.mem_of_getElem? (i := 835) (by decide +kernel))
theorem tw_836 : (Jvm.Cond.fieldLink "SuetTroublesModel" (54 : Nat) "SuetTroublesModel" "bookTrouble" "[I") ∈ lw_tbl := tb_in (List.mem_of_getElem? (i := 836) (by decide +kernel))
theorem tw_837 : (Jvm.Cond.fieldLink "SuetTroublesModel" (57 : Nat) "SuetTroublesModel" "bookHard" "[I") ∈ lw_tbl := tb_in (List.mem_of_getElem? (i := 837) (by decide +kernel))
theorem tw_838 : (Jvm.Cond.fieldLink "SuetTroublesModel" (60 : Nat) "SuetTroublesModel" "isKept" "[Z") ∈ lw_tbl := tb_in (List.mem_of_getElem? (i := 838) (by decide +kernel))
theorem tw_839 : (Jvm.Cond.fieldLink "SuetTroublesModel" (63 : Nat) "SuetTroublesModel" "kept" "[I") ∈ lw_tbl := tb_in (List.mem_of_getElem? (i := 839) (by decide +kernel))
theorem tw_840 : (Jvm.Cond.fieldLink "SuetTroublesModel" (66 : Nat) "SuetTroublesModel" "keptSeed" "[J") ∈ lw_tbl := tb_in (List.mem_of_getElem? (i := 840) (by decide +kernel))
theorem tw_919 : (Jvm.Cond.methodLink "SuetTroublesModel" (70 : Nat) ({ cls := "SuetTroublesModel", name := "in", desc := "(III)Z" } : Jvm.MethodName)) ∈ lw_tbl := tb_in (List.mem_of_getElem? (i := 919) (by decide +kernel))
theorem tw_922 : (Jvm.Cond.constant "SuetTroublesModel" (74 : Nat) (-1000000002 : Int32)) ∈ lw_tbl := tb_in (List.mem_of_getElem? (i := 922) (by decide +kernel))
theorem tw_923 : (Jvm.Cond.constant "SuetTroublesModel" (78 : Nat) (-1000000004 : Int32)) ∈ lw_tbl := tb_in (List.mem_of_getElem? (i := 923) (by decide +kernel))
theorem tw_928 : (Jvm.Cond.methodLink "SuetTroublesModel" (132 : Nat) ({ cls := "SuetTroublesModel", name := "readsKitchen", desc := "()Z" } : Jvm.MethodName)) ∈ lw_tbl := tb_in (List.mem_of_getElem? (i := 928) (by decide +kernel))
theorem tw_932 : (Jvm.Cond.methodLink "SuetTroublesModel" (89 : Nat) ({ cls := "SuetTroublesModel", name := "nextLetter", desc := "()I" } : Jvm.MethodName)) ∈ lw_tbl := tb_in (List.mem_of_getElem? (i := 932) (by decide +kernel))
theorem tw_936 : (Jvm.Cond.methodLink "SuetTroublesModel" (82 : Nat) ({ cls := "SuetTroublesModel", name := "letterAt", desc := "(I)I" } : Jvm.MethodName)) ∈ lw_tbl := tb_in (List.mem_of_getElem? (i := 936) (by decide +kernel))
theorem tw_940 : (Jvm.Cond.methodLink "SuetTroublesModel" (129 : Nat) ({ cls := "SuetTroublesModel", name := "readsClause", desc := "()Z" } : Jvm.MethodName)) ∈ lw_tbl := tb_in (List.mem_of_getElem? (i := 940) (by decide +kernel))
theorem tw_944 : (Jvm.Cond.methodLink "SuetTroublesModel" (119 : Nat) ({ cls := "SuetTroublesModel", name := "readsHead", desc := "()Z" } : Jvm.MethodName)) ∈ lw_tbl := tb_in (List.mem_of_getElem? (i := 944) (by decide +kernel))
theorem tw_948 : (Jvm.Cond.methodLink "SuetTroublesModel" (100 : Nat) ({ cls := "SuetTroublesModel", name := "readsNumber", desc := "(II)I" } : Jvm.MethodName)) ∈ lw_tbl := tb_in (List.mem_of_getElem? (i := 948) (by decide +kernel))
theorem tw_952 : (Jvm.Cond.methodLink "SuetTroublesModel" (93 : Nat) ({ cls := "SuetTroublesModel", name := "fails", desc := "(II)I" } : Jvm.MethodName)) ∈ lw_tbl := tb_in (List.mem_of_getElem? (i := 952) (by decide +kernel))
theorem tw_956 : (Jvm.Cond.methodLink "SuetTroublesModel" (109 : Nat) ({ cls := "SuetTroublesModel", name := "readsSign", desc := "(I)Z" } : Jvm.MethodName)) ∈ lw_tbl := tb_in (List.mem_of_getElem? (i := 956) (by decide +kernel))
theorem tw_960 : (Jvm.Cond.methodLink "SuetTroublesModel" (123 : Nat) ({ cls := "SuetTroublesModel", name := "readsTrouble", desc := "()Z" } : Jvm.MethodName)) ∈ lw_tbl := tb_in (List.mem_of_getElem? (i := 960) (by decide +kernel))
theorem tw_964 : (Jvm.Cond.methodLink "SuetTroublesModel" (126 : Nat) ({ cls := "SuetTroublesModel", name := "readsEater", desc := "()Z" } : Jvm.MethodName)) ∈ lw_tbl := tb_in (List.mem_of_getElem? (i := 964) (by decide +kernel))
theorem tw_976 : (Jvm.Cond.methodLink "SuetTroublesModel" (171 : Nat) ({ cls := "SuetTroublesModel", name := "are", desc := "(I)I" } : Jvm.MethodName)) ∈ lw_tbl := tb_in (List.mem_of_getElem? (i := 976) (by decide +kernel))
theorem tw_980 : (Jvm.Cond.methodLink "SuetTroublesModel" (174 : Nat) ({ cls := "SuetTroublesModel", name := "good", desc := "()I" } : Jvm.MethodName)) ∈ lw_tbl := tb_in (List.mem_of_getElem? (i := 980) (by decide +kernel))
theorem tw_984 : (Jvm.Cond.methodLink "SuetTroublesModel" (156 : Nat) ({ cls := "SuetTroublesModel", name := "isGood", desc := "(I)Z" } : Jvm.MethodName)) ∈ lw_tbl := tb_in (List.mem_of_getElem? (i := 984) (by decide +kernel))
theorem tw_988 : (Jvm.Cond.methodLink "SuetTroublesModel" (168 : Nat) ({ cls := "SuetTroublesModel", name := "leftAll", desc := "()I" } : Jvm.MethodName)) ∈ lw_tbl := tb_in (List.mem_of_getElem? (i := 988) (by decide +kernel))
theorem tw_992 : (Jvm.Cond.methodLink "SuetTroublesModel" (159 : Nat) ({ cls := "SuetTroublesModel", name := "left", desc := "(I)I" } : Jvm.MethodName)) ∈ lw_tbl := tb_in (List.mem_of_getElem? (i := 992) (by decide +kernel))
theorem tw_996 : (Jvm.Cond.methodLink "SuetTroublesModel" (177 : Nat) ({ cls := "SuetTroublesModel", name := "strongest", desc := "()I" } : Jvm.MethodName)) ∈ lw_tbl := tb_in (List.mem_of_getElem? (i := 996) (by decide +kernel))
theorem tw_1000 : (Jvm.Cond.methodLink "SuetTroublesModel" (180 : Nat) ({ cls := "SuetTroublesModel", name := "within", desc := "()I" } : Jvm.MethodName)) ∈ lw_tbl := tb_in (List.mem_of_getElem? (i := 1000) (by decide +kernel))
theorem tw_1004 : (Jvm.Cond.methodLink "SuetTroublesModel" (321 : Nat) ({ cls := "SuetTroublesModel", name := "fit", desc := "(I)I" } : Jvm.MethodName)) ∈ lw_tbl := tb_in (List.mem_of_getElem? (i := 1004) (by decide +kernel))
theorem tw_1008 : (Jvm.Cond.methodLink "SuetTroublesModel" (317 : Nat) ({ cls := "SuetTroublesModel", name := "moved", desc := "(III)I" } : Jvm.MethodName)) ∈ lw_tbl := tb_in (List.mem_of_getElem? (i := 1008) (by decide +kernel))
theorem tw_1011 : (Jvm.Cond.methodLink "SuetTroublesModel" (193 : Nat) ({ cls := "SuetTroublesModel", name := "has", desc := "(II)Z" } : Jvm.MethodName)) ∈ lw_tbl := tb_in (List.mem_of_getElem? (i := 1011) (by decide +kernel))
theorem tw_1014 : (Jvm.Cond.methodLink "SuetTroublesModel" (183 : Nat) ({ cls := "SuetTroublesModel", name := "fitMany", desc := "()I" } : Jvm.MethodName)) ∈ lw_tbl := tb_in (List.mem_of_getElem? (i := 1014) (by decide +kernel))
theorem tw_1018 : (Jvm.Cond.methodLink "SuetTroublesModel" (186 : Nat) ({ cls := "SuetTroublesModel", name := "weave", desc := "()I" } : Jvm.MethodName)) ∈ lw_tbl := tb_in (List.mem_of_getElem? (i := 1018) (by decide +kernel))
theorem tw_1026 : (Jvm.Cond.methodLink "SuetTroublesModel" (203 : Nat) ({ cls := "SuetTroublesModel", name := "isTrouble", desc := "(I)Z" } : Jvm.MethodName)) ∈ lw_tbl := tb_in (List.mem_of_getElem? (i := 1026) (by decide +kernel))
theorem tw_1030 : (Jvm.Cond.constant "SuetTroublesModel" (206 : Nat) (-1000000001 : Int32)) ∈ lw_tbl := tb_in (List.mem_of_getElem? (i := 1030) (by decide +kernel))
theorem tw_1031 : (Jvm.Cond.methodLink "SuetTroublesModel" (207 : Nat) ({ cls := "SuetTroublesModel", name := "parts", desc := "(IZ)I" } : Jvm.MethodName)) ∈ lw_tbl := tb_in (List.mem_of_getElem? (i := 1031) (by decide +kernel))
theorem tw_1034 : (Jvm.Cond.methodLink "SuetTroublesModel" (197 : Nat) ({ cls := "SuetTroublesModel", name := "partOf", desc := "(II)I" } : Jvm.MethodName)) ∈ lw_tbl := tb_in (List.mem_of_getElem? (i := 1034) (by decide +kernel))
theorem tw_1037 : (Jvm.Cond.methodLink "SuetTroublesModel" (190 : Nat) ({ cls := "SuetTroublesModel", name := "grown", desc := "(I)I" } : Jvm.MethodName)) ∈ lw_tbl := tb_in (List.mem_of_getElem? (i := 1037) (by decide +kernel))
theorem tw_1040 : (Jvm.Cond.constant "SuetTroublesModel" (189 : Nat) (33554431 : Int32)) ∈ lw_tbl := tb_in (List.mem_of_getElem? (i := 1040) (by decide +kernel))
theorem tw_1041 : (Jvm.Cond.methodLink "SuetTroublesModel" (162 : Nat) ({ cls := "SuetTroublesModel", name := "bits", desc := "(I)I" } : Jvm.MethodName)) ∈ lw_tbl := tb_in (List.mem_of_getElem? (i := 1041) (by decide +kernel))
theorem tw_1044 : (Jvm.Cond.methodLink "SuetTroublesModel" (211 : Nat) ({ cls := "SuetTroublesModel", name := "edge", desc := "(I)I" } : Jvm.MethodName)) ∈ lw_tbl := tb_in (List.mem_of_getElem? (i := 1044) (by decide +kernel))
theorem tw_1047 : (Jvm.Cond.methodLink "SuetTroublesModel" (200 : Nat) ({ cls := "SuetTroublesModel", name := "edgeOf", desc := "(II)I" } : Jvm.MethodName)) ∈ lw_tbl := tb_in (List.mem_of_getElem? (i := 1047) (by decide +kernel))
theorem tw_1050 : (Jvm.Cond.methodLink "SuetTroublesModel" (214 : Nat) ({ cls := "SuetTroublesModel", name := "hold", desc := "(I)I" } : Jvm.MethodName)) ∈ lw_tbl := tb_in (List.mem_of_getElem? (i := 1050) (by decide +kernel))
theorem tw_1053 : (Jvm.Cond.methodLink "SuetTroublesModel" (217 : Nat) ({ cls := "SuetTroublesModel", name := "isBearable", desc := "(I)Z" } : Jvm.MethodName)) ∈ lw_tbl := tb_in (List.mem_of_getElem? (i := 1053) (by decide +kernel))
theorem tw_1057 : (Jvm.Cond.methodLink "SuetTroublesModel" (165 : Nat) ({ cls := "SuetTroublesModel", name := "weight", desc := "(I)I" } : Jvm.MethodName)) ∈ lw_tbl := tb_in (List.mem_of_getElem? (i := 1057) (by decide +kernel))
theorem tw_1065 : (Jvm.Cond.methodLink "SuetTroublesModel" (220 : Nat) ({ cls := "SuetTroublesModel", name := "isEater", desc := "(I)Z" } : Jvm.MethodName)) ∈ lw_tbl := tb_in (List.mem_of_getElem? (i := 1065) (by decide +kernel))
theorem tw_1073 : (Jvm.Cond.constant "SuetTroublesModel" (233 : Nat) (-1000000003 : Int32)) ∈ lw_tbl := tb_in (List.mem_of_getElem? (i := 1073) (by decide +kernel))
theorem tw_1074 : (Jvm.Cond.methodLink "SuetTroublesModel" (234 : Nat) ({ cls := "SuetTroublesModel", name := "remember", desc := "()V" } : Jvm.MethodName)) ∈ lw_tbl := tb_in (List.mem_of_getElem? (i := 1074) (by decide +kernel))
theorem tw_1078 : (Jvm.Cond.methodLink "SuetTroublesModel" (237 : Nat) ({ cls := "SuetTroublesModel", name := "wraps", desc := "(I)I" } : Jvm.MethodName)) ∈ lw_tbl := tb_in (List.mem_of_getElem? (i := 1078) (by decide +kernel))
theorem tw_1082 : (Jvm.Cond.methodLink "SuetTroublesModel" (229 : Nat) ({ cls := "SuetTroublesModel", name := "sheetsFor", desc := "(I)I" } : Jvm.MethodName)) ∈ lw_tbl := tb_in (List.mem_of_getElem? (i := 1082) (by decide +kernel))
theorem tw_1086 : (Jvm.Cond.methodLink "SuetTroublesModel" (226 : Nat) ({ cls := "SuetTroublesModel", name := "fewestSheets", desc := "(IZ)I" } : Jvm.MethodName)) ∈ lw_tbl := tb_in (List.mem_of_getElem? (i := 1086) (by decide +kernel))
theorem tw_1090 : (Jvm.Cond.methodLink "SuetTroublesModel" (287 : Nat) ({ cls := "SuetTroublesModel", name := "sheet", desc := "(I)I" } : Jvm.MethodName)) ∈ lw_tbl := tb_in (List.mem_of_getElem? (i := 1090) (by decide +kernel))
theorem tw_1093 : (Jvm.Cond.constant "SuetTroublesModel" (290 : Nat) (65536 : Int32)) ∈ lw_tbl := tb_in (List.mem_of_getElem? (i := 1093) (by decide +kernel))
theorem tw_1094 : (Jvm.Cond.constant "SuetTroublesModel" (232 : Nat) (999999 : Int32)) ∈ lw_tbl := tb_in (List.mem_of_getElem? (i := 1094) (by decide +kernel))
theorem tw_1099 : (Jvm.Cond.methodLink "SuetTroublesModel" (240 : Nat) ({ cls := "SuetTroublesModel", name := "potsFree", desc := "()I" } : Jvm.MethodName)) ∈ lw_tbl := tb_in (List.mem_of_getElem? (i := 1099) (by decide +kernel))
theorem tw_1111 : (Jvm.Cond.methodLink "SuetTroublesModel" (252 : Nat) ({ cls := "SuetTroublesModel", name := "needHours", desc := "(I)I" } : Jvm.MethodName)) ∈ lw_tbl := tb_in (List.mem_of_getElem? (i := 1111) (by decide +kernel))
theorem tw_1115 : (Jvm.Cond.methodLink "SuetTroublesModel" (249 : Nat) ({ cls := "SuetTroublesModel", name := "isKitchen", desc := "()Z" } : Jvm.MethodName)) ∈ lw_tbl := tb_in (List.mem_of_getElem? (i := 1115) (by decide +kernel))
theorem tw_1119 : (Jvm.Cond.methodLink "SuetTroublesModel" (255 : Nat) ({ cls := "SuetTroublesModel", name := "passes", desc := "()V" } : Jvm.MethodName)) ∈ lw_tbl := tb_in (List.mem_of_getElem? (i := 1119) (by decide +kernel))
theorem tw_1123 : (Jvm.Cond.methodLink "SuetTroublesModel" (243 : Nat) ({ cls := "SuetTroublesModel", name := "softens", desc := "(II)I" } : Jvm.MethodName)) ∈ lw_tbl := tb_in (List.mem_of_getElem? (i := 1123) (by decide +kernel))
theorem tw_1127 : (Jvm.Cond.methodLink "SuetTroublesModel" (246 : Nat) ({ cls := "SuetTroublesModel", name := "less", desc := "(II)I" } : Jvm.MethodName)) ∈ lw_tbl := tb_in (List.mem_of_getElem? (i := 1127) (by decide +kernel))
theorem tw_1134 : (Jvm.Cond.methodLink "SuetTroublesModel" (258 : Nat) ({ cls := "SuetTroublesModel", name := "canBeBorne", desc := "(I)Z" } : Jvm.MethodName)) ∈ lw_tbl := tb_in (List.mem_of_getElem? (i := 1134) (by decide +kernel))
theorem tw_1138 : (Jvm.Cond.methodLink "SuetTroublesModel" (261 : Nat) ({ cls := "SuetTroublesModel", name := "bears", desc := "(I)V" } : Jvm.MethodName)) ∈ lw_tbl := tb_in (List.mem_of_getElem? (i := 1138) (by decide +kernel))
theorem tw_1146 : (Jvm.Cond.methodLink "SuetTroublesModel" (265 : Nat) ({ cls := "SuetTroublesModel", name := "rests", desc := "()I" } : Jvm.MethodName)) ∈ lw_tbl := tb_in (List.mem_of_getElem? (i := 1146) (by decide +kernel))
theorem tw_1158 : (Jvm.Cond.methodLink "SuetTroublesModel" (280 : Nat) ({ cls := "SuetTroublesModel", name := "draw", desc := "(I)I" } : Jvm.MethodName)) ∈ lw_tbl := tb_in (List.mem_of_getElem? (i := 1158) (by decide +kernel))
theorem tw_1162 : (Jvm.Cond.constantLong "SuetTroublesModel" (272 : Nat) (1103515245 : Int64)) ∈ lw_tbl := tb_in (List.mem_of_getElem? (i := 1162) (by decide +kernel))
theorem tw_1163 : (Jvm.Cond.constantLong "SuetTroublesModel" (274 : Nat) (12345 : Int64)) ∈ lw_tbl := tb_in (List.mem_of_getElem? (i := 1163) (by decide +kernel))
theorem tw_1164 : (Jvm.Cond.constantLong "SuetTroublesModel" (276 : Nat) (2147483648 : Int64)) ∈ lw_tbl := tb_in (List.mem_of_getElem? (i := 1164) (by decide +kernel))
theorem tw_1165 : (Jvm.Cond.constantLong "SuetTroublesModel" (278 : Nat) (65536 : Int64)) ∈ lw_tbl := tb_in (List.mem_of_getElem? (i := 1165) (by decide +kernel))
theorem tw_1166 : (Jvm.Cond.methodLink "SuetTroublesModel" (283 : Nat) ({ cls := "SuetTroublesModel", name := "does", desc := "(II)V" } : Jvm.MethodName)) ∈ lw_tbl := tb_in (List.mem_of_getElem? (i := 1166) (by decide +kernel))
theorem tw_1178 : (Jvm.Cond.methodLink "SuetTroublesModel" (294 : Nat) ({ cls := "SuetTroublesModel", name := "sideOf", desc := "(I)I" } : Jvm.MethodName)) ∈ lw_tbl := tb_in (List.mem_of_getElem? (i := 1178) (by decide +kernel))
theorem tw_1181 : (Jvm.Cond.methodLink "SuetTroublesModel" (291 : Nat) ({ cls := "SuetTroublesModel", name := "span", desc := "(I)I" } : Jvm.MethodName)) ∈ lw_tbl := tb_in (List.mem_of_getElem? (i := 1181) (by decide +kernel))
theorem tw_1188 : (Jvm.Cond.methodLink "SuetTroublesModel" (297 : Nat) ({ cls := "SuetTroublesModel", name := "softBehind", desc := "(II)I" } : Jvm.MethodName)) ∈ lw_tbl := tb_in (List.mem_of_getElem? (i := 1188) (by decide +kernel))
theorem tw_1196 : (Jvm.Cond.methodLink "SuetTroublesModel" (300 : Nat) ({ cls := "SuetTroublesModel", name := "softIn", desc := "(II)I" } : Jvm.MethodName)) ∈ lw_tbl := tb_in (List.mem_of_getElem? (i := 1196) (by decide +kernel))
theorem tw_1204 : (Jvm.Cond.constant "SuetTroublesModel" (303 : Nat) (1000000000 : Int32)) ∈ lw_tbl := tb_in (List.mem_of_getElem? (i := 1204) (by decide +kernel))
theorem tw_1205 : (Jvm.Cond.methodLink "SuetTroublesModel" (304 : Nat) ({ cls := "SuetTroublesModel", name := "sumOf", desc := "(II)I" } : Jvm.MethodName)) ∈ lw_tbl := tb_in (List.mem_of_getElem? (i := 1205) (by decide +kernel))
theorem tw_1209 : (Jvm.Cond.methodLink "SuetTroublesModel" (307 : Nat) ({ cls := "SuetTroublesModel", name := "nextFigures", desc := "(II)I" } : Jvm.MethodName)) ∈ lw_tbl := tb_in (List.mem_of_getElem? (i := 1209) (by decide +kernel))
theorem tw_1216 : (Jvm.Cond.methodLink "SuetTroublesModel" (310 : Nat) ({ cls := "SuetTroublesModel", name := "ahead", desc := "(II)I" } : Jvm.MethodName)) ∈ lw_tbl := tb_in (List.mem_of_getElem? (i := 1216) (by decide +kernel))
theorem tw_1223 : (Jvm.Cond.constantLong "SuetTroublesModel" (313 : Nat) (1000000000 : Int64)) ∈ lw_tbl := tb_in (List.mem_of_getElem? (i := 1223) (by decide +kernel))
theorem tw_1224 : (Jvm.Cond.constantLong "SuetTroublesModel" (315 : Nat) (100 : Int64)) ∈ lw_tbl := tb_in (List.mem_of_getElem? (i := 1224) (by decide +kernel))
theorem tw_nat : Cond.native arraycopyName ∈ lw_tbl := tb_in (List.mem_of_getElem? (i := 397) (by decide +kernel))
theorem tw_stat : Cond.static arraycopyName ∈ lw_tbl := tb_in (List.mem_of_getElem? (i := 396) (by decide +kernel))
theorem tw_ini : Cond.initialized "java/lang/System" ∈ lw_tbl := tb_in (List.mem_of_getElem? (i := 14) (by decide +kernel))
abbrev M_X0_init : zMI := (yX0_init, cX0_init, 1, none)
abbrev M_X0_add : zMI := (yX0_add, cX0_add, 3, (some .int))
abbrev M_X0_clear : zMI := (yX0_clear, cX0_clear, 1, none)
abbrev M_X0_firstWrong : zMI := (yX0_firstWrong, cX0_firstWrong, 3, (some .int))
abbrev M_X1_init : zMI := (yX1_init, cX1_init, 1, none)
abbrev M_X1_add : zMI := (yX1_add, cX1_add, 3, (some .int))
abbrev M_X1_clear : zMI := (yX1_clear, cX1_clear, 1, none)
abbrev M_X1_within : zMI := (yX1_within, cX1_within, 3, (some .int))
abbrev M_X1_pairs : zMI := (yX1_pairs, cX1_pairs, 3, (some .int))
abbrev M_X1_weave : zMI := (yX1_weave, cX1_weave, 7, (some .int))
abbrev M_X1_feelAll : zMI := (yX1_feelAll, cX1_feelAll, 5, none)
abbrev M_X1_feelMoves : zMI := (yX1_feelMoves, cX1_feelMoves, 7, none)
abbrev M_X1_countPair : zMI := (yX1_countPair, cX1_countPair, 3, none)
abbrev M_X2_init : zMI := (yX2_init, cX2_init, 5, none)
abbrev M_X2_allThatAre : zMI := (yX2_allThatAre, cX2_allThatAre, 4, (some .int))
abbrev M_X2_isGood : zMI := (yX2_isGood, cX2_isGood, 2, (some .boolean))
abbrev M_X2_allGood : zMI := (yX2_allGood, cX2_allGood, 3, (some .int))
abbrev M_X2_canBeWrapped : zMI := (yX2_canBeWrapped, cX2_canBeWrapped, 2, (some .boolean))
abbrev M_X2_putInSuet : zMI := (yX2_putInSuet, cX2_putInSuet, 3, (some .int))
abbrev M_X2_freePots : zMI := (yX2_freePots, cX2_freePots, 1, (some .int))
abbrev M_X2_leftOf : zMI := (yX2_leftOf, cX2_leftOf, 2, (some .int))
abbrev M_X2_leftTogether : zMI := (yX2_leftTogether, cX2_leftTogether, 3, (some .int))
abbrev M_X2_strongest : zMI := (yX2_strongest, cX2_strongest, 3, (some .int))
abbrev M_X2_weight : zMI := (yX2_weight, cX2_weight, 2, (some .int))
abbrev M_X2_isBearable : zMI := (yX2_isBearable, cX2_isBearable, 2, (some .boolean))
abbrev M_X2_canBeBorne : zMI := (yX2_canBeBorne, cX2_canBeBorne, 2, (some .boolean))
abbrev M_X2_shareOut : zMI := (yX2_shareOut, cX2_shareOut, 5, none)
abbrev M_X2_unload : zMI := (yX2_unload, cX2_unload, 3, (some .int))
abbrev M_X2_softenedBy : zMI := (yX2_softenedBy, cX2_softenedBy, 2, (some .int))
abbrev M_X2_hardBehind : zMI := (yX2_hardBehind, cX2_hardBehind, 4, (some .int))
abbrev M_X2_hoursTillGood : zMI := (yX2_hoursTillGood, cX2_hoursTillGood, 6, (some .int))
abbrev M_X2_boil : zMI := (yX2_boil, cX2_boil, 2, none)
abbrev M_X2_actByDraws : zMI := (yX2_actByDraws, cX2_actByDraws, 3, none)
abbrev M_X3_init : zMI := (yX3_init, cX3_init, 1, none)
abbrev M_X3_draw : zMI := (yX3_draw, cX3_draw, 2, (some .int))
abbrev M_X4_init : zMI := (yX4_init, cX4_init, 1, none)
abbrev M_X4_find : zMI := (yX4_find, cX4_find, 5, none)
abbrev M_X4_tryNext : zMI := (yX4_tryNext, cX4_tryNext, 8, none)
abbrev M_X5_init : zMI := (yX5_init, cX5_init, 2, none)
abbrev M_X5_remember : zMI := (yX5_remember, cX5_remember, 2, none)
abbrev M_X5_stepBack : zMI := (yX5_stepBack, cX5_stepBack, 2, none)
abbrev M_X5_keepImage : zMI := (yX5_keepImage, cX5_keepImage, 4, none)
abbrev M_X5_showImage : zMI := (yX5_showImage, cX5_showImage, 4, none)
abbrev M_X5_forgetAll : zMI := (yX5_forgetAll, cX5_forgetAll, 2, none)
abbrev M_X5_forgetUndone : zMI := (yX5_forgetUndone, cX5_forgetUndone, 1, none)
abbrev M_X6_init : zMI := (yX6_init, cX6_init, 1, none)
abbrev M_X6_isThere : zMI := (yX6_isThere, cX6_isThere, 1, (some .boolean))
abbrev M_X6_hasTrouble : zMI := (yX6_hasTrouble, cX6_hasTrouble, 2, (some .boolean))
abbrev M_X6_hasEater : zMI := (yX6_hasEater, cX6_hasEater, 2, (some .boolean))
abbrev M_X6_allTroubles : zMI := (yX6_allTroubles, cX6_allTroubles, 1, (some .int))
abbrev M_X6_clear : zMI := (yX6_clear, cX6_clear, 1, none)
abbrev M_X6_addTrouble : zMI := (yX6_addTrouble, cX6_addTrouble, 4, none)
abbrev M_X6_addEater : zMI := (yX6_addEater, cX6_addEater, 2, none)
abbrev M_X6_become : zMI := (yX6_become, cX6_become, 2, none)
abbrev M_X7_init : zMI := (yX7_init, cX7_init, 1, none)
abbrev M_X7_add : zMI := (yX7_add, cX7_add, 2, (some .int))
abbrev M_X7_read : zMI := (yX7_read, cX7_read, 3, (some .int))
abbrev M_X7_readClause : zMI := (yX7_readClause, cX7_readClause, 3, none)
abbrev M_X7_readFire : zMI := (yX7_readFire, cX7_readFire, 4, none)
abbrev M_X7_readTrouble : zMI := (yX7_readTrouble, cX7_readTrouble, 6, none)
abbrev M_X7_readEater : zMI := (yX7_readEater, cX7_readEater, 3, none)
abbrev M_X7_readNumber : zMI := (yX7_readNumber, cX7_readNumber, 6, (some .int))
abbrev M_X7_readSign : zMI := (yX7_readSign, cX7_readSign, 2, none)
abbrev M_X7_skipBlanks : zMI := (yX7_skipBlanks, cX7_skipBlanks, 2, none)
abbrev M_X7_here : zMI := (yX7_here, cX7_here, 1, (some .int))
abbrev M_X7_isFigure : zMI := (yX7_isFigure, cX7_isFigure, 1, (some .boolean))
abbrev M_X7_blame : zMI := (yX7_blame, cX7_blame, 3, none)
abbrev M_X8_init : zMI := (yX8_init, cX8_init, 1, none)
abbrev M_X8_begin : zMI := (yX8_begin, cX8_begin, 3, none)
abbrev M_X8_become : zMI := (yX8_become, cX8_become, 2, none)
abbrev M_X9_has : zMI := (yX9_has, cX9_has, 2, (some .boolean))
abbrev M_X9_besideIt : zMI := (yX9_besideIt, cX9_besideIt, 2, (some .int))
abbrev M_X9_partFrom : zMI := (yX9_partFrom, cX9_partFrom, 6, (some .int))
abbrev M_X9_parts : zMI := (yX9_parts, cX9_parts, 4, (some .int))
abbrev M_X9_greatestPart : zMI := (yX9_greatestPart, cX9_greatestPart, 5, (some .int))
abbrev M_X9_edge : zMI := (yX9_edge, cX9_edge, 3, (some .int))
abbrev M_X9_hold : zMI := (yX9_hold, cX9_hold, 3, (some .int))
abbrev M_X9_openSides : zMI := (yX9_openSides, cX9_openSides, 4, (some .int))
abbrev M_X9_rowOf : zMI := (yX9_rowOf, cX9_rowOf, 2, (some .int))
abbrev M_X9_columnsUsed : zMI := (yX9_columnsUsed, cX9_columnsUsed, 3, (some .int))
abbrev M_X9_rowsUsed : zMI := (yX9_rowsUsed, cX9_rowsUsed, 3, (some .int))
abbrev M_X9_firstOf : zMI := (yX9_firstOf, cX9_firstOf, 2, (some .int))
abbrev M_X9_lastOf : zMI := (yX9_lastOf, cX9_lastOf, 2, (some .int))
abbrev M_X9_squareSide : zMI := (yX9_squareSide, cX9_squareSide, 3, (some .int))
abbrev M_X9_movesDown : zMI := (yX9_movesDown, cX9_movesDown, 1, (some .int))
abbrev M_X9_movesRight : zMI := (yX9_movesRight, cX9_movesRight, 1, (some .int))
abbrev M_X9_greaterHalf : zMI := (yX9_greaterHalf, cX9_greaterHalf, 4, (some .int))
abbrev M_X9_halvingLine : zMI := (yX9_halvingLine, cX9_halvingLine, 4, (some .int))
abbrev M_X10_init : zMI := (yX10_init, cX10_init, 1, none)
abbrev M_X10_fewest : zMI := (yX10_fewest, cX10_fewest, 5, (some .int))
abbrev M_X10_addRow : zMI := (yX10_addRow, cX10_addRow, 6, none)
abbrev M_X10_covered : zMI := (yX10_covered, cX10_covered, 1, (some .int))
abbrev M_X10_first : zMI := (yX10_first, cX10_first, 7, (some .int))
abbrev M_X11_init : zMI := (yX11_init, cX11_init, 1, none)
abbrev M_X11_feed : zMI := (yX11_feed, cX11_feed, 2, (some .int))
abbrev M_X11_kitchen : zMI := (yX11_kitchen, cX11_kitchen, 2, (some .int))
abbrev M_X11_fault : zMI := (yX11_fault, cX11_fault, 1, (some .int))
abbrev M_X11_told : zMI := (yX11_told, cX11_told, 2, (some .int))
abbrev M_X11_trouble : zMI := (yX11_trouble, cX11_trouble, 4, (some .int))
abbrev M_X11_eater : zMI := (yX11_eater, cX11_eater, 3, (some .int))
abbrev M_X11_wrap : zMI := (yX11_wrap, cX11_wrap, 2, (some .int))
abbrev M_X11_putOn : zMI := (yX11_putOn, cX11_putOn, 2, (some .int))
abbrev M_X11_takeOff : zMI := (yX11_takeOff, cX11_takeOff, 2, (some .int))
abbrev M_X11_hour : zMI := (yX11_hour, cX11_hour, 4, (some .int))
abbrev M_X11_bear : zMI := (yX11_bear, cX11_bear, 2, (some .int))
abbrev M_X11_rest : zMI := (yX11_rest, cX11_rest, 1, (some .int))
abbrev M_X11_cut : zMI := (yX11_cut, cX11_cut, 3, (some .int))
abbrev M_X11_drift : zMI := (yX11_drift, cX11_drift, 4, (some .int))
abbrev M_X11_undo : zMI := (yX11_undo, cX11_undo, 1, (some .int))
abbrev M_X11_refusalOfHours : zMI := (yX11_refusalOfHours, cX11_refusalOfHours, 2, (some .int))
abbrev M_X11_toWrap : zMI := (yX11_toWrap, cX11_toWrap, 4, (some .int))
abbrev M_X11_soft : zMI := (yX11_soft, cX11_soft, 3, (some .int))
abbrev M_X11_when : zMI := (yX11_when, cX11_when, 2, (some .int))
abbrev M_X11_order : zMI := (yX11_order, cX11_order, 3, (some .int))
abbrev M_X11_halves : zMI := (yX11_halves, cX11_halves, 5, (some .int))
abbrev M_X11_mild : zMI := (yX11_mild, cX11_mild, 6, (some .int))
abbrev M_X11_bump : zMI := (yX11_bump, cX11_bump, 3, (some .int))
abbrev M_X11_write : zMI := (yX11_write, cX11_write, 3, (some .int))
abbrev M_X11_tear : zMI := (yX11_tear, cX11_tear, 2, (some .int))
abbrev M_X11_judge : zMI := (yX11_judge, cX11_judge, 1, (some .int))
abbrev M_X11_seed : zMI := (yX11_seed, cX11_seed, 3, (some .int))
abbrev M_X11_keep : zMI := (yX11_keep, cX11_keep, 2, (some .int))
abbrev M_X11_goBack : zMI := (yX11_goBack, cX11_goBack, 2, (some .int))
abbrev M_X12_init : zMI := (yX12_init, cX12_init, 1, none)
abbrev M_X12_in : zMI := (yX12_in, cX12_in, 3, (some .boolean))
abbrev M_X12_has : zMI := (yX12_has, cX12_has, 2, (some .boolean))
abbrev M_X12_bits : zMI := (yX12_bits, cX12_bits, 3, (some .int))
abbrev M_X12_feed : zMI := (yX12_feed, cX12_feed, 2, (some .int))
abbrev M_X12_letterAt : zMI := (yX12_letterAt, cX12_letterAt, 2, (some .int))
abbrev M_X12_nextLetter : zMI := (yX12_nextLetter, cX12_nextLetter, 1, (some .int))
abbrev M_X12_fails : zMI := (yX12_fails, cX12_fails, 3, (some .int))
abbrev M_X12_readsNumber : zMI := (yX12_readsNumber, cX12_readsNumber, 4, (some .int))
abbrev M_X12_readsSign : zMI := (yX12_readsSign, cX12_readsSign, 2, (some .boolean))
abbrev M_X12_readsHead : zMI := (yX12_readsHead, cX12_readsHead, 3, (some .boolean))
abbrev M_X12_readsTrouble : zMI := (yX12_readsTrouble, cX12_readsTrouble, 5, (some .boolean))
abbrev M_X12_readsEater : zMI := (yX12_readsEater, cX12_readsEater, 2, (some .boolean))
abbrev M_X12_readsClause : zMI := (yX12_readsClause, cX12_readsClause, 4, (some .boolean))
abbrev M_X12_readsKitchen : zMI := (yX12_readsKitchen, cX12_readsKitchen, 2, (some .boolean))
abbrev M_X12_kitchen : zMI := (yX12_kitchen, cX12_kitchen, 3, (some .int))
abbrev M_X12_fault : zMI := (yX12_fault, cX12_fault, 1, (some .int))
abbrev M_X12_isKitchen : zMI := (yX12_isKitchen, cX12_isKitchen, 1, (some .boolean))
abbrev M_X12_isTrouble : zMI := (yX12_isTrouble, cX12_isTrouble, 2, (some .boolean))
abbrev M_X12_isEater : zMI := (yX12_isEater, cX12_isEater, 2, (some .boolean))
abbrev M_X12_are : zMI := (yX12_are, cX12_are, 4, (some .int))
abbrev M_X12_isGood : zMI := (yX12_isGood, cX12_isGood, 2, (some .boolean))
abbrev M_X12_good : zMI := (yX12_good, cX12_good, 3, (some .int))
abbrev M_X12_left : zMI := (yX12_left, cX12_left, 2, (some .int))
abbrev M_X12_leftAll : zMI := (yX12_leftAll, cX12_leftAll, 3, (some .int))
abbrev M_X12_strongest : zMI := (yX12_strongest, cX12_strongest, 3, (some .int))
abbrev M_X12_weight : zMI := (yX12_weight, cX12_weight, 3, (some .int))
abbrev M_X12_isBearable : zMI := (yX12_isBearable, cX12_isBearable, 2, (some .boolean))
abbrev M_X12_told : zMI := (yX12_told, cX12_told, 2, (some .int))
abbrev M_X12_grown : zMI := (yX12_grown, cX12_grown, 3, (some .int))
abbrev M_X12_partOf : zMI := (yX12_partOf, cX12_partOf, 4, (some .int))
abbrev M_X12_parts : zMI := (yX12_parts, cX12_parts, 7, (some .int))
abbrev M_X12_edgeOf : zMI := (yX12_edgeOf, cX12_edgeOf, 3, (some .int))
abbrev M_X12_edge : zMI := (yX12_edge, cX12_edge, 3, (some .int))
abbrev M_X12_hold : zMI := (yX12_hold, cX12_hold, 3, (some .int))
abbrev M_X12_trouble : zMI := (yX12_trouble, cX12_trouble, 4, (some .int))
abbrev M_X12_eater : zMI := (yX12_eater, cX12_eater, 3, (some .int))
abbrev M_X12_remember : zMI := (yX12_remember, cX12_remember, 2, none)
abbrev M_X12_sheetsFor : zMI := (yX12_sheetsFor, cX12_sheetsFor, 2, (some .int))
abbrev M_X12_wraps : zMI := (yX12_wraps, cX12_wraps, 4, (some .int))
abbrev M_X12_wrap : zMI := (yX12_wrap, cX12_wrap, 2, (some .int))
abbrev M_X12_potsFree : zMI := (yX12_potsFree, cX12_potsFree, 1, (some .int))
abbrev M_X12_putOn : zMI := (yX12_putOn, cX12_putOn, 2, (some .int))
abbrev M_X12_takeOff : zMI := (yX12_takeOff, cX12_takeOff, 2, (some .int))
abbrev M_X12_softens : zMI := (yX12_softens, cX12_softens, 4, (some .int))
abbrev M_X12_less : zMI := (yX12_less, cX12_less, 2, (some .int))
abbrev M_X12_passes : zMI := (yX12_passes, cX12_passes, 2, none)
abbrev M_X12_needHours : zMI := (yX12_needHours, cX12_needHours, 2, (some .int))
abbrev M_X12_hour : zMI := (yX12_hour, cX12_hour, 4, (some .int))
abbrev M_X12_canBeBorne : zMI := (yX12_canBeBorne, cX12_canBeBorne, 2, (some .boolean))
abbrev M_X12_bears : zMI := (yX12_bears, cX12_bears, 3, none)
abbrev M_X12_bear : zMI := (yX12_bear, cX12_bear, 2, (some .int))
abbrev M_X12_rests : zMI := (yX12_rests, cX12_rests, 3, (some .int))
abbrev M_X12_rest : zMI := (yX12_rest, cX12_rest, 1, (some .int))
abbrev M_X12_cut : zMI := (yX12_cut, cX12_cut, 4, (some .int))
abbrev M_X12_draw : zMI := (yX12_draw, cX12_draw, 2, (some .int))
abbrev M_X12_does : zMI := (yX12_does, cX12_does, 4, none)
abbrev M_X12_drift : zMI := (yX12_drift, cX12_drift, 5, (some .int))
abbrev M_X12_undo : zMI := (yX12_undo, cX12_undo, 2, (some .int))
abbrev M_X12_sheet : zMI := (yX12_sheet, cX12_sheet, 2, (some .int))
abbrev M_X12_fewestSheets : zMI := (yX12_fewestSheets, cX12_fewestSheets, 10, (some .int))
abbrev M_X12_sideOf : zMI := (yX12_sideOf, cX12_sideOf, 5, (some .int))
abbrev M_X12_span : zMI := (yX12_span, cX12_span, 4, (some .int))
abbrev M_X12_toWrap : zMI := (yX12_toWrap, cX12_toWrap, 4, (some .int))
abbrev M_X12_softBehind : zMI := (yX12_softBehind, cX12_softBehind, 5, (some .int))
abbrev M_X12_soft : zMI := (yX12_soft, cX12_soft, 3, (some .int))
abbrev M_X12_softIn : zMI := (yX12_softIn, cX12_softIn, 5, (some .int))
abbrev M_X12_when : zMI := (yX12_when, cX12_when, 2, (some .int))
abbrev M_X12_sumOf : zMI := (yX12_sumOf, cX12_sumOf, 10, (some .int))
abbrev M_X12_nextFigures : zMI := (yX12_nextFigures, cX12_nextFigures, 4, (some .int))
abbrev M_X12_order : zMI := (yX12_order, cX12_order, 10, (some .int))
abbrev M_X12_ahead : zMI := (yX12_ahead, cX12_ahead, 5, (some .int))
abbrev M_X12_halves : zMI := (yX12_halves, cX12_halves, 10, (some .int))
abbrev M_X12_mild : zMI := (yX12_mild, cX12_mild, 6, (some .int))
abbrev M_X12_bump : zMI := (yX12_bump, cX12_bump, 3, (some .int))
abbrev M_X12_moved : zMI := (yX12_moved, cX12_moved, 8, (some .int))
abbrev M_X12_fit : zMI := (yX12_fit, cX12_fit, 6, (some .int))
abbrev M_X12_within : zMI := (yX12_within, cX12_within, 3, (some .int))
abbrev M_X12_fitMany : zMI := (yX12_fitMany, cX12_fitMany, 3, (some .int))
abbrev M_X12_weave : zMI := (yX12_weave, cX12_weave, 6, (some .int))
abbrev M_X12_write : zMI := (yX12_write, cX12_write, 3, (some .int))
abbrev M_X12_tear : zMI := (yX12_tear, cX12_tear, 2, (some .int))
abbrev M_X12_judge : zMI := (yX12_judge, cX12_judge, 2, (some .int))
abbrev M_X12_seed : zMI := (yX12_seed, cX12_seed, 3, (some .int))
abbrev M_X12_keep : zMI := (yX12_keep, cX12_keep, 3, (some .int))
abbrev M_X12_goBack : zMI := (yX12_goBack, cX12_goBack, 3, (some .int))
abbrev M_J6_bitCount_0f7a4 : zMI := (yJ6_bitCount_0f7a4, cJ6_bitCount_0f7a4, 1, (some .int))
abbrev M_J9_max_7cf53 : zMI := (yJ9_max_7cf53, cJ9_max_7cf53, 2, (some .int))
abbrev M_J9_min_7cf53 : zMI := (yJ9_min_7cf53, cJ9_min_7cf53, 2, (some .int))
theorem okm_X0_add : okM M_X0_add 2 := ⟨⟨by decide +kernel, by decide +kernel, by decide +kernel⟩, tb_in (List.mem_of_getElem? (i := 766) (by decide +kernel)), tb_in (List.mem_of_getElem? (i := 11) (by decide +kernel)), by decide⟩
theorem okv_X0_add : okV M_X0_add 2 0 := ⟨RX0, TX0, 3, okm_X0_add, rfl, tb_in (List.mem_of_getElem? (i := 764) (by decide +kernel)), tb_in (List.mem_of_getElem? (i := 765) (by decide +kernel)), rfl⟩
theorem okm_X0_clear : okM M_X0_clear 0 := ⟨⟨by decide +kernel, by decide +kernel, by decide +kernel⟩, tb_in (List.mem_of_getElem? (i := 418) (by decide +kernel)), tb_in (List.mem_of_getElem? (i := 11) (by decide +kernel)), by decide⟩
theorem okv_X0_clear : okV M_X0_clear 0 0 := ⟨RX0, TX0, 3, okm_X0_clear, rfl, tb_in (List.mem_of_getElem? (i := 416) (by decide +kernel)), tb_in (List.mem_of_getElem? (i := 417) (by decide +kernel)), rfl⟩
theorem okm_X0_firstWrong : okM M_X0_firstWrong 1 := ⟨⟨by decide +kernel, by decide +kernel, by decide +kernel⟩, tb_in (List.mem_of_getElem? (i := 778) (by decide +kernel)), tb_in (List.mem_of_getElem? (i := 11) (by decide +kernel)), by decide⟩
theorem okv_X0_firstWrong : okV M_X0_firstWrong 1 0 := ⟨RX0, TX0, 3, okm_X0_firstWrong, rfl, tb_in (List.mem_of_getElem? (i := 776) (by decide +kernel)), tb_in (List.mem_of_getElem? (i := 777) (by decide +kernel)), rfl⟩
theorem okm_X1_add : okM M_X1_add 2 := ⟨⟨by decide +kernel, by decide +kernel, by decide +kernel⟩, tb_in (List.mem_of_getElem? (i := 758) (by decide +kernel)), tb_in (List.mem_of_getElem? (i := 10) (by decide +kernel)), by decide⟩
theorem okv_X1_add : okV M_X1_add 2 1 := ⟨RX1, TX1, 6, okm_X1_add, rfl, tb_in (List.mem_of_getElem? (i := 756) (by decide +kernel)), tb_in (List.mem_of_getElem? (i := 757) (by decide +kernel)), rfl⟩
theorem okm_X1_clear : okM M_X1_clear 0 := ⟨⟨by decide +kernel, by decide +kernel, by decide +kernel⟩, tb_in (List.mem_of_getElem? (i := 414) (by decide +kernel)), tb_in (List.mem_of_getElem? (i := 10) (by decide +kernel)), by decide⟩
theorem okv_X1_clear : okV M_X1_clear 0 1 := ⟨RX1, TX1, 6, okm_X1_clear, rfl, tb_in (List.mem_of_getElem? (i := 412) (by decide +kernel)), tb_in (List.mem_of_getElem? (i := 413) (by decide +kernel)), rfl⟩
theorem okm_X1_within : okM M_X1_within 2 := ⟨⟨by decide +kernel, by decide +kernel, by decide +kernel⟩, tb_in (List.mem_of_getElem? (i := 454) (by decide +kernel)), tb_in (List.mem_of_getElem? (i := 10) (by decide +kernel)), by decide⟩
theorem okv_X1_within : okV M_X1_within 2 1 := ⟨RX1, TX1, 6, okm_X1_within, rfl, tb_in (List.mem_of_getElem? (i := 452) (by decide +kernel)), tb_in (List.mem_of_getElem? (i := 453) (by decide +kernel)), rfl⟩
theorem okm_X1_pairs : okM M_X1_pairs 2 := ⟨⟨by decide +kernel, by decide +kernel, by decide +kernel⟩, tb_in (List.mem_of_getElem? (i := 491) (by decide +kernel)), tb_in (List.mem_of_getElem? (i := 10) (by decide +kernel)), by decide⟩
theorem okv_X1_pairs : okV M_X1_pairs 2 1 := ⟨RX1, TX1, 6, okm_X1_pairs, rfl, tb_in (List.mem_of_getElem? (i := 489) (by decide +kernel)), tb_in (List.mem_of_getElem? (i := 490) (by decide +kernel)), rfl⟩
theorem okm_X1_weave : okM M_X1_weave 2 := ⟨⟨by decide +kernel, by decide +kernel, by decide +kernel⟩, tb_in (List.mem_of_getElem? (i := 495) (by decide +kernel)), tb_in (List.mem_of_getElem? (i := 10) (by decide +kernel)), by decide⟩
theorem okv_X1_weave : okV M_X1_weave 2 1 := ⟨RX1, TX1, 6, okm_X1_weave, rfl, tb_in (List.mem_of_getElem? (i := 493) (by decide +kernel)), tb_in (List.mem_of_getElem? (i := 494) (by decide +kernel)), rfl⟩
theorem okm_X1_feelAll : okM M_X1_feelAll 2 := ⟨⟨by decide +kernel, by decide +kernel, by decide +kernel⟩, tb_in (List.mem_of_getElem? (i := 458) (by decide +kernel)), tb_in (List.mem_of_getElem? (i := 10) (by decide +kernel)), by decide⟩
theorem okv_X1_feelAll : okV M_X1_feelAll 2 1 := ⟨RX1, TX1, 6, okm_X1_feelAll, rfl, tb_in (List.mem_of_getElem? (i := 457) (by decide +kernel)), List.mem_append_left _ (List.mem_of_getElem? (i := 10) (by decide +kernel)), rfl⟩
theorem okm_X1_feelMoves : okM M_X1_feelMoves 1 := ⟨⟨by decide +kernel, by decide +kernel, by decide +kernel⟩, tb_in (List.mem_of_getElem? (i := 462) (by decide +kernel)), tb_in (List.mem_of_getElem? (i := 10) (by decide +kernel)), by decide⟩
theorem okv_X1_feelMoves : okV M_X1_feelMoves 1 1 := ⟨RX1, TX1, 6, okm_X1_feelMoves, rfl, tb_in (List.mem_of_getElem? (i := 461) (by decide +kernel)), List.mem_append_left _ (List.mem_of_getElem? (i := 11) (by decide +kernel)), rfl⟩
theorem okm_X1_countPair : okM M_X1_countPair 1 := ⟨⟨by decide +kernel, by decide +kernel, by decide +kernel⟩, tb_in (List.mem_of_getElem? (i := 487) (by decide +kernel)), tb_in (List.mem_of_getElem? (i := 10) (by decide +kernel)), by decide⟩
theorem okv_X1_countPair : okV M_X1_countPair 1 1 := ⟨RX1, TX1, 6, okm_X1_countPair, rfl, tb_in (List.mem_of_getElem? (i := 486) (by decide +kernel)), List.mem_append_left _ (List.mem_of_getElem? (i := 12) (by decide +kernel)), rfl⟩
theorem okm_X2_allThatAre : okM M_X2_allThatAre 1 := ⟨⟨by decide +kernel, by decide +kernel, by decide +kernel⟩, tb_in (List.mem_of_getElem? (i := 430) (by decide +kernel)), tb_in (List.mem_of_getElem? (i := 7) (by decide +kernel)), by decide⟩
theorem okv_X2_allThatAre : okV M_X2_allThatAre 1 2 := ⟨RX2, TX2, 4, okm_X2_allThatAre, rfl, tb_in (List.mem_of_getElem? (i := 428) (by decide +kernel)), tb_in (List.mem_of_getElem? (i := 429) (by decide +kernel)), rfl⟩
theorem okm_X2_isGood : okM M_X2_isGood 1 := ⟨⟨by decide +kernel, by decide +kernel, by decide +kernel⟩, tb_in (List.mem_of_getElem? (i := 438) (by decide +kernel)), tb_in (List.mem_of_getElem? (i := 7) (by decide +kernel)), by decide⟩
theorem okv_X2_isGood : okV M_X2_isGood 1 2 := ⟨RX2, TX2, 4, okm_X2_isGood, rfl, tb_in (List.mem_of_getElem? (i := 436) (by decide +kernel)), tb_in (List.mem_of_getElem? (i := 437) (by decide +kernel)), rfl⟩
theorem okm_X2_allGood : okM M_X2_allGood 0 := ⟨⟨by decide +kernel, by decide +kernel, by decide +kernel⟩, tb_in (List.mem_of_getElem? (i := 434) (by decide +kernel)), tb_in (List.mem_of_getElem? (i := 7) (by decide +kernel)), by decide⟩
theorem okv_X2_allGood : okV M_X2_allGood 0 2 := ⟨RX2, TX2, 4, okm_X2_allGood, rfl, tb_in (List.mem_of_getElem? (i := 432) (by decide +kernel)), tb_in (List.mem_of_getElem? (i := 433) (by decide +kernel)), rfl⟩
theorem okm_X2_canBeWrapped : okM M_X2_canBeWrapped 1 := ⟨⟨by decide +kernel, by decide +kernel, by decide +kernel⟩, tb_in (List.mem_of_getElem? (i := 565) (by decide +kernel)), tb_in (List.mem_of_getElem? (i := 7) (by decide +kernel)), by decide⟩
theorem okv_X2_canBeWrapped : okV M_X2_canBeWrapped 1 2 := ⟨RX2, TX2, 4, okm_X2_canBeWrapped, rfl, tb_in (List.mem_of_getElem? (i := 563) (by decide +kernel)), tb_in (List.mem_of_getElem? (i := 564) (by decide +kernel)), rfl⟩
theorem okm_X2_putInSuet : okM M_X2_putInSuet 1 := ⟨⟨by decide +kernel, by decide +kernel, by decide +kernel⟩, tb_in (List.mem_of_getElem? (i := 578) (by decide +kernel)), tb_in (List.mem_of_getElem? (i := 7) (by decide +kernel)), by decide⟩
theorem okv_X2_putInSuet : okV M_X2_putInSuet 1 2 := ⟨RX2, TX2, 4, okm_X2_putInSuet, rfl, tb_in (List.mem_of_getElem? (i := 576) (by decide +kernel)), tb_in (List.mem_of_getElem? (i := 577) (by decide +kernel)), rfl⟩
theorem okm_X2_freePots : okM M_X2_freePots 0 := ⟨⟨by decide +kernel, by decide +kernel, by decide +kernel⟩, tb_in (List.mem_of_getElem? (i := 602) (by decide +kernel)), tb_in (List.mem_of_getElem? (i := 7) (by decide +kernel)), by decide⟩
theorem okv_X2_freePots : okV M_X2_freePots 0 2 := ⟨RX2, TX2, 4, okm_X2_freePots, rfl, tb_in (List.mem_of_getElem? (i := 600) (by decide +kernel)), tb_in (List.mem_of_getElem? (i := 601) (by decide +kernel)), rfl⟩
theorem okm_X2_leftOf : okM M_X2_leftOf 1 := ⟨⟨by decide +kernel, by decide +kernel, by decide +kernel⟩, tb_in (List.mem_of_getElem? (i := 446) (by decide +kernel)), tb_in (List.mem_of_getElem? (i := 7) (by decide +kernel)), by decide⟩
theorem okv_X2_leftOf : okV M_X2_leftOf 1 2 := ⟨RX2, TX2, 4, okm_X2_leftOf, rfl, tb_in (List.mem_of_getElem? (i := 444) (by decide +kernel)), tb_in (List.mem_of_getElem? (i := 445) (by decide +kernel)), rfl⟩
theorem okm_X2_leftTogether : okM M_X2_leftTogether 0 := ⟨⟨by decide +kernel, by decide +kernel, by decide +kernel⟩, tb_in (List.mem_of_getElem? (i := 442) (by decide +kernel)), tb_in (List.mem_of_getElem? (i := 7) (by decide +kernel)), by decide⟩
theorem okv_X2_leftTogether : okV M_X2_leftTogether 0 2 := ⟨RX2, TX2, 4, okm_X2_leftTogether, rfl, tb_in (List.mem_of_getElem? (i := 440) (by decide +kernel)), tb_in (List.mem_of_getElem? (i := 441) (by decide +kernel)), rfl⟩
theorem okm_X2_strongest : okM M_X2_strongest 0 := ⟨⟨by decide +kernel, by decide +kernel, by decide +kernel⟩, tb_in (List.mem_of_getElem? (i := 450) (by decide +kernel)), tb_in (List.mem_of_getElem? (i := 7) (by decide +kernel)), by decide⟩
theorem okv_X2_strongest : okV M_X2_strongest 0 2 := ⟨RX2, TX2, 4, okm_X2_strongest, rfl, tb_in (List.mem_of_getElem? (i := 448) (by decide +kernel)), tb_in (List.mem_of_getElem? (i := 449) (by decide +kernel)), rfl⟩
theorem okm_X2_weight : okM M_X2_weight 1 := ⟨⟨by decide +kernel, by decide +kernel, by decide +kernel⟩, tb_in (List.mem_of_getElem? (i := 546) (by decide +kernel)), tb_in (List.mem_of_getElem? (i := 7) (by decide +kernel)), by decide⟩
theorem okv_X2_weight : okV M_X2_weight 1 2 := ⟨RX2, TX2, 4, okm_X2_weight, rfl, tb_in (List.mem_of_getElem? (i := 544) (by decide +kernel)), tb_in (List.mem_of_getElem? (i := 545) (by decide +kernel)), rfl⟩
theorem okm_X2_isBearable : okM M_X2_isBearable 1 := ⟨⟨by decide +kernel, by decide +kernel, by decide +kernel⟩, tb_in (List.mem_of_getElem? (i := 542) (by decide +kernel)), tb_in (List.mem_of_getElem? (i := 7) (by decide +kernel)), by decide⟩
theorem okv_X2_isBearable : okV M_X2_isBearable 1 2 := ⟨RX2, TX2, 4, okm_X2_isBearable, rfl, tb_in (List.mem_of_getElem? (i := 540) (by decide +kernel)), tb_in (List.mem_of_getElem? (i := 541) (by decide +kernel)), rfl⟩
theorem okm_X2_canBeBorne : okM M_X2_canBeBorne 1 := ⟨⟨by decide +kernel, by decide +kernel, by decide +kernel⟩, tb_in (List.mem_of_getElem? (i := 636) (by decide +kernel)), tb_in (List.mem_of_getElem? (i := 7) (by decide +kernel)), by decide⟩
theorem okv_X2_canBeBorne : okV M_X2_canBeBorne 1 2 := ⟨RX2, TX2, 4, okm_X2_canBeBorne, rfl, tb_in (List.mem_of_getElem? (i := 634) (by decide +kernel)), tb_in (List.mem_of_getElem? (i := 635) (by decide +kernel)), rfl⟩
theorem okm_X2_shareOut : okM M_X2_shareOut 1 := ⟨⟨by decide +kernel, by decide +kernel, by decide +kernel⟩, tb_in (List.mem_of_getElem? (i := 641) (by decide +kernel)), tb_in (List.mem_of_getElem? (i := 7) (by decide +kernel)), by decide⟩
theorem okv_X2_shareOut : okV M_X2_shareOut 1 2 := ⟨RX2, TX2, 4, okm_X2_shareOut, rfl, tb_in (List.mem_of_getElem? (i := 639) (by decide +kernel)), tb_in (List.mem_of_getElem? (i := 640) (by decide +kernel)), rfl⟩
theorem okm_X2_unload : okM M_X2_unload 0 := ⟨⟨by decide +kernel, by decide +kernel, by decide +kernel⟩, tb_in (List.mem_of_getElem? (i := 650) (by decide +kernel)), tb_in (List.mem_of_getElem? (i := 7) (by decide +kernel)), by decide⟩
theorem okv_X2_unload : okV M_X2_unload 0 2 := ⟨RX2, TX2, 4, okm_X2_unload, rfl, tb_in (List.mem_of_getElem? (i := 648) (by decide +kernel)), tb_in (List.mem_of_getElem? (i := 649) (by decide +kernel)), rfl⟩
theorem okm_X2_softenedBy : okM M_X2_softenedBy 1 := ⟨⟨by decide +kernel, by decide +kernel, by decide +kernel⟩, tb_in (List.mem_of_getElem? (i := 628) (by decide +kernel)), tb_in (List.mem_of_getElem? (i := 7) (by decide +kernel)), by decide⟩
theorem okv_X2_softenedBy : okV M_X2_softenedBy 1 2 := ⟨RX2, TX2, 4, okm_X2_softenedBy, rfl, tb_in (List.mem_of_getElem? (i := 627) (by decide +kernel)), List.mem_append_left _ (List.mem_of_getElem? (i := 15) (by decide +kernel)), rfl⟩
theorem okm_X2_hardBehind : okM M_X2_hardBehind 2 := ⟨⟨by decide +kernel, by decide +kernel, by decide +kernel⟩, tb_in (List.mem_of_getElem? (i := 624) (by decide +kernel)), tb_in (List.mem_of_getElem? (i := 7) (by decide +kernel)), by decide⟩
theorem okv_X2_hardBehind : okV M_X2_hardBehind 2 2 := ⟨RX2, TX2, 4, okm_X2_hardBehind, rfl, tb_in (List.mem_of_getElem? (i := 622) (by decide +kernel)), tb_in (List.mem_of_getElem? (i := 623) (by decide +kernel)), rfl⟩
theorem okm_X2_hoursTillGood : okM M_X2_hoursTillGood 2 := ⟨⟨by decide +kernel, by decide +kernel, by decide +kernel⟩, tb_in (List.mem_of_getElem? (i := 714) (by decide +kernel)), tb_in (List.mem_of_getElem? (i := 7) (by decide +kernel)), by decide⟩
theorem okv_X2_hoursTillGood : okV M_X2_hoursTillGood 2 2 := ⟨RX2, TX2, 4, okm_X2_hoursTillGood, rfl, tb_in (List.mem_of_getElem? (i := 712) (by decide +kernel)), tb_in (List.mem_of_getElem? (i := 713) (by decide +kernel)), rfl⟩
theorem okm_X2_boil : okM M_X2_boil 0 := ⟨⟨by decide +kernel, by decide +kernel, by decide +kernel⟩, tb_in (List.mem_of_getElem? (i := 620) (by decide +kernel)), tb_in (List.mem_of_getElem? (i := 7) (by decide +kernel)), by decide⟩
theorem okv_X2_boil : okV M_X2_boil 0 2 := ⟨RX2, TX2, 4, okm_X2_boil, rfl, tb_in (List.mem_of_getElem? (i := 618) (by decide +kernel)), tb_in (List.mem_of_getElem? (i := 619) (by decide +kernel)), rfl⟩
theorem okm_X2_actByDraws : okM M_X2_actByDraws 0 := ⟨⟨by decide +kernel, by decide +kernel, by decide +kernel⟩, tb_in (List.mem_of_getElem? (i := 664) (by decide +kernel)), tb_in (List.mem_of_getElem? (i := 7) (by decide +kernel)), by decide⟩
theorem okv_X2_actByDraws : okV M_X2_actByDraws 0 2 := ⟨RX2, TX2, 4, okm_X2_actByDraws, rfl, tb_in (List.mem_of_getElem? (i := 662) (by decide +kernel)), tb_in (List.mem_of_getElem? (i := 663) (by decide +kernel)), rfl⟩
theorem okm_X3_draw : okM M_X3_draw 1 := ⟨⟨by decide +kernel, by decide +kernel, by decide +kernel⟩, tb_in (List.mem_of_getElem? (i := 668) (by decide +kernel)), tb_in (List.mem_of_getElem? (i := 6) (by decide +kernel)), by decide⟩
theorem okv_X3_draw : okV M_X3_draw 1 3 := ⟨RX3, TX3, 1, okm_X3_draw, rfl, tb_in (List.mem_of_getElem? (i := 666) (by decide +kernel)), tb_in (List.mem_of_getElem? (i := 667) (by decide +kernel)), rfl⟩
theorem okm_X4_find : okM M_X4_find 3 := ⟨⟨by decide +kernel, by decide +kernel, by decide +kernel⟩, tb_in (List.mem_of_getElem? (i := 726) (by decide +kernel)), tb_in (List.mem_of_getElem? (i := 9) (by decide +kernel)), by decide⟩
theorem okv_X4_find : okV M_X4_find 3 4 := ⟨RX4, TX4, 4, okm_X4_find, rfl, tb_in (List.mem_of_getElem? (i := 724) (by decide +kernel)), tb_in (List.mem_of_getElem? (i := 725) (by decide +kernel)), rfl⟩
theorem okm_X4_tryNext : okM M_X4_tryNext 5 := ⟨⟨by decide +kernel, by decide +kernel, by decide +kernel⟩, tb_in (List.mem_of_getElem? (i := 732) (by decide +kernel)), tb_in (List.mem_of_getElem? (i := 9) (by decide +kernel)), by decide⟩
theorem okv_X4_tryNext : okV M_X4_tryNext 5 4 := ⟨RX4, TX4, 4, okm_X4_tryNext, rfl, tb_in (List.mem_of_getElem? (i := 731) (by decide +kernel)), List.mem_append_left _ (List.mem_of_getElem? (i := 16) (by decide +kernel)), rfl⟩
theorem okm_X5_remember : okM M_X5_remember 1 := ⟨⟨by decide +kernel, by decide +kernel, by decide +kernel⟩, tb_in (List.mem_of_getElem? (i := 570) (by decide +kernel)), tb_in (List.mem_of_getElem? (i := 8) (by decide +kernel)), by decide⟩
theorem okv_X5_remember : okV M_X5_remember 1 5 := ⟨RX5, TX5, 6, okm_X5_remember, rfl, tb_in (List.mem_of_getElem? (i := 568) (by decide +kernel)), tb_in (List.mem_of_getElem? (i := 569) (by decide +kernel)), rfl⟩
theorem okm_X5_stepBack : okM M_X5_stepBack 1 := ⟨⟨by decide +kernel, by decide +kernel, by decide +kernel⟩, tb_in (List.mem_of_getElem? (i := 685) (by decide +kernel)), tb_in (List.mem_of_getElem? (i := 8) (by decide +kernel)), by decide⟩
theorem okv_X5_stepBack : okV M_X5_stepBack 1 5 := ⟨RX5, TX5, 6, okm_X5_stepBack, rfl, tb_in (List.mem_of_getElem? (i := 683) (by decide +kernel)), tb_in (List.mem_of_getElem? (i := 684) (by decide +kernel)), rfl⟩
theorem okm_X5_keepImage : okM M_X5_keepImage 3 := ⟨⟨by decide +kernel, by decide +kernel, by decide +kernel⟩, tb_in (List.mem_of_getElem? (i := 790) (by decide +kernel)), tb_in (List.mem_of_getElem? (i := 8) (by decide +kernel)), by decide⟩
theorem okv_X5_keepImage : okV M_X5_keepImage 3 5 := ⟨RX5, TX5, 6, okm_X5_keepImage, rfl, tb_in (List.mem_of_getElem? (i := 788) (by decide +kernel)), tb_in (List.mem_of_getElem? (i := 789) (by decide +kernel)), rfl⟩
theorem okm_X5_showImage : okM M_X5_showImage 3 := ⟨⟨by decide +kernel, by decide +kernel, by decide +kernel⟩, tb_in (List.mem_of_getElem? (i := 798) (by decide +kernel)), tb_in (List.mem_of_getElem? (i := 8) (by decide +kernel)), by decide⟩
theorem okv_X5_showImage : okV M_X5_showImage 3 5 := ⟨RX5, TX5, 6, okm_X5_showImage, rfl, tb_in (List.mem_of_getElem? (i := 796) (by decide +kernel)), tb_in (List.mem_of_getElem? (i := 797) (by decide +kernel)), rfl⟩
theorem okm_X5_forgetAll : okM M_X5_forgetAll 0 := ⟨⟨by decide +kernel, by decide +kernel, by decide +kernel⟩, tb_in (List.mem_of_getElem? (i := 406) (by decide +kernel)), tb_in (List.mem_of_getElem? (i := 8) (by decide +kernel)), by decide⟩
theorem okv_X5_forgetAll : okV M_X5_forgetAll 0 5 := ⟨RX5, TX5, 6, okm_X5_forgetAll, rfl, tb_in (List.mem_of_getElem? (i := 404) (by decide +kernel)), tb_in (List.mem_of_getElem? (i := 405) (by decide +kernel)), rfl⟩
theorem okm_X5_forgetUndone : okM M_X5_forgetUndone 0 := ⟨⟨by decide +kernel, by decide +kernel, by decide +kernel⟩, tb_in (List.mem_of_getElem? (i := 410) (by decide +kernel)), tb_in (List.mem_of_getElem? (i := 8) (by decide +kernel)), by decide⟩
theorem okv_X5_forgetUndone : okV M_X5_forgetUndone 0 5 := ⟨RX5, TX5, 6, okm_X5_forgetUndone, rfl, tb_in (List.mem_of_getElem? (i := 409) (by decide +kernel)), List.mem_append_left _ (List.mem_of_getElem? (i := 9) (by decide +kernel)), rfl⟩
theorem okm_X6_isThere : okM M_X6_isThere 0 := ⟨⟨by decide +kernel, by decide +kernel, by decide +kernel⟩, tb_in (List.mem_of_getElem? (i := 356) (by decide +kernel)), tb_in (List.mem_of_getElem? (i := 3) (by decide +kernel)), by decide⟩
theorem okv_X6_isThere : okV M_X6_isThere 0 6 := ⟨RX6, TX6, 8, okm_X6_isThere, rfl, tb_in (List.mem_of_getElem? (i := 354) (by decide +kernel)), tb_in (List.mem_of_getElem? (i := 355) (by decide +kernel)), rfl⟩
theorem okm_X6_hasTrouble : okM M_X6_hasTrouble 1 := ⟨⟨by decide +kernel, by decide +kernel, by decide +kernel⟩, tb_in (List.mem_of_getElem? (i := 506) (by decide +kernel)), tb_in (List.mem_of_getElem? (i := 3) (by decide +kernel)), by decide⟩
theorem okv_X6_hasTrouble : okV M_X6_hasTrouble 1 6 := ⟨RX6, TX6, 8, okm_X6_hasTrouble, rfl, tb_in (List.mem_of_getElem? (i := 504) (by decide +kernel)), tb_in (List.mem_of_getElem? (i := 505) (by decide +kernel)), rfl⟩
theorem okm_X6_hasEater : okM M_X6_hasEater 1 := ⟨⟨by decide +kernel, by decide +kernel, by decide +kernel⟩, tb_in (List.mem_of_getElem? (i := 557) (by decide +kernel)), tb_in (List.mem_of_getElem? (i := 3) (by decide +kernel)), by decide⟩
theorem okv_X6_hasEater : okV M_X6_hasEater 1 6 := ⟨RX6, TX6, 8, okm_X6_hasEater, rfl, tb_in (List.mem_of_getElem? (i := 555) (by decide +kernel)), tb_in (List.mem_of_getElem? (i := 556) (by decide +kernel)), rfl⟩
theorem okm_X6_allTroubles : okM M_X6_allTroubles 0 := ⟨⟨by decide +kernel, by decide +kernel, by decide +kernel⟩, tb_in (List.mem_of_getElem? (i := 722) (by decide +kernel)), tb_in (List.mem_of_getElem? (i := 3) (by decide +kernel)), by decide⟩
theorem okv_X6_allTroubles : okV M_X6_allTroubles 0 6 := ⟨RX6, TX6, 8, okm_X6_allTroubles, rfl, tb_in (List.mem_of_getElem? (i := 720) (by decide +kernel)), tb_in (List.mem_of_getElem? (i := 721) (by decide +kernel)), rfl⟩
theorem okm_X6_clear : okM M_X6_clear 0 := ⟨⟨by decide +kernel, by decide +kernel, by decide +kernel⟩, tb_in (List.mem_of_getElem? (i := 336) (by decide +kernel)), tb_in (List.mem_of_getElem? (i := 3) (by decide +kernel)), by decide⟩
theorem okv_X6_clear : okV M_X6_clear 0 6 := ⟨RX6, TX6, 8, okm_X6_clear, rfl, tb_in (List.mem_of_getElem? (i := 334) (by decide +kernel)), tb_in (List.mem_of_getElem? (i := 335) (by decide +kernel)), rfl⟩
theorem okm_X6_addTrouble : okM M_X6_addTrouble 3 := ⟨⟨by decide +kernel, by decide +kernel, by decide +kernel⟩, tb_in (List.mem_of_getElem? (i := 382) (by decide +kernel)), tb_in (List.mem_of_getElem? (i := 3) (by decide +kernel)), by decide⟩
theorem okv_X6_addTrouble : okV M_X6_addTrouble 3 6 := ⟨RX6, TX6, 8, okm_X6_addTrouble, rfl, tb_in (List.mem_of_getElem? (i := 380) (by decide +kernel)), tb_in (List.mem_of_getElem? (i := 381) (by decide +kernel)), rfl⟩
theorem okm_X6_addEater : okM M_X6_addEater 1 := ⟨⟨by decide +kernel, by decide +kernel, by decide +kernel⟩, tb_in (List.mem_of_getElem? (i := 390) (by decide +kernel)), tb_in (List.mem_of_getElem? (i := 3) (by decide +kernel)), by decide⟩
theorem okv_X6_addEater : okV M_X6_addEater 1 6 := ⟨RX6, TX6, 8, okm_X6_addEater, rfl, tb_in (List.mem_of_getElem? (i := 388) (by decide +kernel)), tb_in (List.mem_of_getElem? (i := 389) (by decide +kernel)), rfl⟩
theorem okm_X6_become : okM M_X6_become 1 := ⟨⟨by decide +kernel, by decide +kernel, by decide +kernel⟩, tb_in (List.mem_of_getElem? (i := 394) (by decide +kernel)), tb_in (List.mem_of_getElem? (i := 3) (by decide +kernel)), by decide⟩
theorem okv_X6_become : okV M_X6_become 1 6 := ⟨RX6, TX6, 8, okm_X6_become, rfl, tb_in (List.mem_of_getElem? (i := 392) (by decide +kernel)), tb_in (List.mem_of_getElem? (i := 393) (by decide +kernel)), rfl⟩
theorem okm_X7_add : okM M_X7_add 1 := ⟨⟨by decide +kernel, by decide +kernel, by decide +kernel⟩, tb_in (List.mem_of_getElem? (i := 324) (by decide +kernel)), tb_in (List.mem_of_getElem? (i := 2) (by decide +kernel)), by decide⟩
theorem okv_X7_add : okV M_X7_add 1 7 := ⟨RX7, TX7, 5, okm_X7_add, rfl, tb_in (List.mem_of_getElem? (i := 322) (by decide +kernel)), tb_in (List.mem_of_getElem? (i := 323) (by decide +kernel)), rfl⟩
theorem okm_X7_read : okM M_X7_read 1 := ⟨⟨by decide +kernel, by decide +kernel, by decide +kernel⟩, tb_in (List.mem_of_getElem? (i := 332) (by decide +kernel)), tb_in (List.mem_of_getElem? (i := 2) (by decide +kernel)), by decide⟩
theorem okv_X7_read : okV M_X7_read 1 7 := ⟨RX7, TX7, 5, okm_X7_read, rfl, tb_in (List.mem_of_getElem? (i := 330) (by decide +kernel)), tb_in (List.mem_of_getElem? (i := 331) (by decide +kernel)), rfl⟩
theorem okm_X7_readClause : okM M_X7_readClause 1 := ⟨⟨by decide +kernel, by decide +kernel, by decide +kernel⟩, tb_in (List.mem_of_getElem? (i := 348) (by decide +kernel)), tb_in (List.mem_of_getElem? (i := 2) (by decide +kernel)), by decide⟩
theorem okv_X7_readClause : okV M_X7_readClause 1 7 := ⟨RX7, TX7, 5, okm_X7_readClause, rfl, tb_in (List.mem_of_getElem? (i := 347) (by decide +kernel)), List.mem_append_left _ (List.mem_of_getElem? (i := 2) (by decide +kernel)), rfl⟩
theorem okm_X7_readFire : okM M_X7_readFire 1 := ⟨⟨by decide +kernel, by decide +kernel, by decide +kernel⟩, tb_in (List.mem_of_getElem? (i := 352) (by decide +kernel)), tb_in (List.mem_of_getElem? (i := 2) (by decide +kernel)), by decide⟩
theorem okv_X7_readFire : okV M_X7_readFire 1 7 := ⟨RX7, TX7, 5, okm_X7_readFire, rfl, tb_in (List.mem_of_getElem? (i := 351) (by decide +kernel)), List.mem_append_left _ (List.mem_of_getElem? (i := 3) (by decide +kernel)), rfl⟩
theorem okm_X7_readTrouble : okM M_X7_readTrouble 1 := ⟨⟨by decide +kernel, by decide +kernel, by decide +kernel⟩, tb_in (List.mem_of_getElem? (i := 378) (by decide +kernel)), tb_in (List.mem_of_getElem? (i := 2) (by decide +kernel)), by decide⟩
theorem okv_X7_readTrouble : okV M_X7_readTrouble 1 7 := ⟨RX7, TX7, 5, okm_X7_readTrouble, rfl, tb_in (List.mem_of_getElem? (i := 377) (by decide +kernel)), List.mem_append_left _ (List.mem_of_getElem? (i := 7) (by decide +kernel)), rfl⟩
theorem okm_X7_readEater : okM M_X7_readEater 1 := ⟨⟨by decide +kernel, by decide +kernel, by decide +kernel⟩, tb_in (List.mem_of_getElem? (i := 386) (by decide +kernel)), tb_in (List.mem_of_getElem? (i := 2) (by decide +kernel)), by decide⟩
theorem okv_X7_readEater : okV M_X7_readEater 1 7 := ⟨RX7, TX7, 5, okm_X7_readEater, rfl, tb_in (List.mem_of_getElem? (i := 385) (by decide +kernel)), List.mem_append_left _ (List.mem_of_getElem? (i := 8) (by decide +kernel)), rfl⟩
theorem okm_X7_readNumber : okM M_X7_readNumber 2 := ⟨⟨by decide +kernel, by decide +kernel, by decide +kernel⟩, tb_in (List.mem_of_getElem? (i := 364) (by decide +kernel)), tb_in (List.mem_of_getElem? (i := 2) (by decide +kernel)), by decide⟩
theorem okv_X7_readNumber : okV M_X7_readNumber 2 7 := ⟨RX7, TX7, 5, okm_X7_readNumber, rfl, tb_in (List.mem_of_getElem? (i := 363) (by decide +kernel)), List.mem_append_left _ (List.mem_of_getElem? (i := 5) (by decide +kernel)), rfl⟩
theorem okm_X7_readSign : okM M_X7_readSign 1 := ⟨⟨by decide +kernel, by decide +kernel, by decide +kernel⟩, tb_in (List.mem_of_getElem? (i := 374) (by decide +kernel)), tb_in (List.mem_of_getElem? (i := 2) (by decide +kernel)), by decide⟩
theorem okv_X7_readSign : okV M_X7_readSign 1 7 := ⟨RX7, TX7, 5, okm_X7_readSign, rfl, tb_in (List.mem_of_getElem? (i := 373) (by decide +kernel)), List.mem_append_left _ (List.mem_of_getElem? (i := 6) (by decide +kernel)), rfl⟩
theorem okm_X7_skipBlanks : okM M_X7_skipBlanks 0 := ⟨⟨by decide +kernel, by decide +kernel, by decide +kernel⟩, tb_in (List.mem_of_getElem? (i := 340) (by decide +kernel)), tb_in (List.mem_of_getElem? (i := 2) (by decide +kernel)), by decide⟩
theorem okv_X7_skipBlanks : okV M_X7_skipBlanks 0 7 := ⟨RX7, TX7, 5, okm_X7_skipBlanks, rfl, tb_in (List.mem_of_getElem? (i := 339) (by decide +kernel)), List.mem_append_left _ (List.mem_of_getElem? (i := 0) (by decide +kernel)), rfl⟩
theorem okm_X7_here : okM M_X7_here 0 := ⟨⟨by decide +kernel, by decide +kernel, by decide +kernel⟩, tb_in (List.mem_of_getElem? (i := 344) (by decide +kernel)), tb_in (List.mem_of_getElem? (i := 2) (by decide +kernel)), by decide⟩
theorem okv_X7_here : okV M_X7_here 0 7 := ⟨RX7, TX7, 5, okm_X7_here, rfl, tb_in (List.mem_of_getElem? (i := 343) (by decide +kernel)), List.mem_append_left _ (List.mem_of_getElem? (i := 1) (by decide +kernel)), rfl⟩
theorem okm_X7_isFigure : okM M_X7_isFigure 1 := ⟨⟨by decide +kernel, by decide +kernel, by decide +kernel⟩, tb_in (List.mem_of_getElem? (i := 367) (by decide +kernel)), tb_in (List.mem_of_getElem? (i := 2) (by decide +kernel)), by decide⟩
theorem oks_X7_isFigure : okS M_X7_isFigure 1 := ⟨okm_X7_isFigure, tb_in (List.mem_of_getElem? (i := 366) (by decide +kernel))⟩
theorem okm_X7_blame : okM M_X7_blame 2 := ⟨⟨by decide +kernel, by decide +kernel, by decide +kernel⟩, tb_in (List.mem_of_getElem? (i := 360) (by decide +kernel)), tb_in (List.mem_of_getElem? (i := 2) (by decide +kernel)), by decide⟩
theorem okv_X7_blame : okV M_X7_blame 2 7 := ⟨RX7, TX7, 5, okm_X7_blame, rfl, tb_in (List.mem_of_getElem? (i := 359) (by decide +kernel)), List.mem_append_left _ (List.mem_of_getElem? (i := 4) (by decide +kernel)), rfl⟩
theorem okm_X8_begin : okM M_X8_begin 1 := ⟨⟨by decide +kernel, by decide +kernel, by decide +kernel⟩, tb_in (List.mem_of_getElem? (i := 401) (by decide +kernel)), tb_in (List.mem_of_getElem? (i := 4) (by decide +kernel)), by decide⟩
theorem okv_X8_begin : okV M_X8_begin 1 8 := ⟨RX8, TX8, 6, okm_X8_begin, rfl, tb_in (List.mem_of_getElem? (i := 399) (by decide +kernel)), tb_in (List.mem_of_getElem? (i := 400) (by decide +kernel)), rfl⟩
theorem okm_X8_become : okM M_X8_become 1 := ⟨⟨by decide +kernel, by decide +kernel, by decide +kernel⟩, tb_in (List.mem_of_getElem? (i := 574) (by decide +kernel)), tb_in (List.mem_of_getElem? (i := 4) (by decide +kernel)), by decide⟩
theorem okv_X8_become : okV M_X8_become 1 8 := ⟨RX8, TX8, 6, okm_X8_become, rfl, tb_in (List.mem_of_getElem? (i := 572) (by decide +kernel)), tb_in (List.mem_of_getElem? (i := 573) (by decide +kernel)), rfl⟩
theorem okm_X9_has : okM M_X9_has 2 := ⟨⟨by decide +kernel, by decide +kernel, by decide +kernel⟩, tb_in (List.mem_of_getElem? (i := 477) (by decide +kernel)), tb_in (List.mem_of_getElem? (i := 15) (by decide +kernel)), by decide⟩
theorem oks_X9_has : okS M_X9_has 2 := ⟨okm_X9_has, tb_in (List.mem_of_getElem? (i := 476) (by decide +kernel))⟩
theorem okm_X9_besideIt : okM M_X9_besideIt 2 := ⟨⟨by decide +kernel, by decide +kernel, by decide +kernel⟩, tb_in (List.mem_of_getElem? (i := 516) (by decide +kernel)), tb_in (List.mem_of_getElem? (i := 15) (by decide +kernel)), by decide⟩
theorem oks_X9_besideIt : okS M_X9_besideIt 2 := ⟨okm_X9_besideIt, tb_in (List.mem_of_getElem? (i := 515) (by decide +kernel))⟩
theorem okm_X9_partFrom : okM M_X9_partFrom 2 := ⟨⟨by decide +kernel, by decide +kernel, by decide +kernel⟩, tb_in (List.mem_of_getElem? (i := 513) (by decide +kernel)), tb_in (List.mem_of_getElem? (i := 15) (by decide +kernel)), by decide⟩
theorem oks_X9_partFrom : okS M_X9_partFrom 2 := ⟨okm_X9_partFrom, tb_in (List.mem_of_getElem? (i := 512) (by decide +kernel))⟩
theorem okm_X9_parts : okM M_X9_parts 1 := ⟨⟨by decide +kernel, by decide +kernel, by decide +kernel⟩, tb_in (List.mem_of_getElem? (i := 510) (by decide +kernel)), tb_in (List.mem_of_getElem? (i := 15) (by decide +kernel)), by decide⟩
theorem oks_X9_parts : okS M_X9_parts 1 := ⟨okm_X9_parts, tb_in (List.mem_of_getElem? (i := 509) (by decide +kernel))⟩
theorem okm_X9_greatestPart : okM M_X9_greatestPart 1 := ⟨⟨by decide +kernel, by decide +kernel, by decide +kernel⟩, tb_in (List.mem_of_getElem? (i := 522) (by decide +kernel)), tb_in (List.mem_of_getElem? (i := 15) (by decide +kernel)), by decide⟩
theorem oks_X9_greatestPart : okS M_X9_greatestPart 1 := ⟨okm_X9_greatestPart, tb_in (List.mem_of_getElem? (i := 521) (by decide +kernel))⟩
theorem okm_X9_edge : okM M_X9_edge 1 := ⟨⟨by decide +kernel, by decide +kernel, by decide +kernel⟩, tb_in (List.mem_of_getElem? (i := 532) (by decide +kernel)), tb_in (List.mem_of_getElem? (i := 15) (by decide +kernel)), by decide⟩
theorem oks_X9_edge : okS M_X9_edge 1 := ⟨okm_X9_edge, tb_in (List.mem_of_getElem? (i := 531) (by decide +kernel))⟩
theorem okm_X9_hold : okM M_X9_hold 1 := ⟨⟨by decide +kernel, by decide +kernel, by decide +kernel⟩, tb_in (List.mem_of_getElem? (i := 535) (by decide +kernel)), tb_in (List.mem_of_getElem? (i := 15) (by decide +kernel)), by decide⟩
theorem oks_X9_hold : okS M_X9_hold 1 := ⟨okm_X9_hold, tb_in (List.mem_of_getElem? (i := 534) (by decide +kernel))⟩
theorem okm_X9_openSides : okM M_X9_openSides 2 := ⟨⟨by decide +kernel, by decide +kernel, by decide +kernel⟩, tb_in (List.mem_of_getElem? (i := 538) (by decide +kernel)), tb_in (List.mem_of_getElem? (i := 15) (by decide +kernel)), by decide⟩
theorem oks_X9_openSides : okS M_X9_openSides 2 := ⟨okm_X9_openSides, tb_in (List.mem_of_getElem? (i := 537) (by decide +kernel))⟩
theorem okm_X9_rowOf : okM M_X9_rowOf 2 := ⟨⟨by decide +kernel, by decide +kernel, by decide +kernel⟩, tb_in (List.mem_of_getElem? (i := 471) (by decide +kernel)), tb_in (List.mem_of_getElem? (i := 15) (by decide +kernel)), by decide⟩
theorem oks_X9_rowOf : okS M_X9_rowOf 2 := ⟨okm_X9_rowOf, tb_in (List.mem_of_getElem? (i := 470) (by decide +kernel))⟩
theorem okm_X9_columnsUsed : okM M_X9_columnsUsed 1 := ⟨⟨by decide +kernel, by decide +kernel, by decide +kernel⟩, tb_in (List.mem_of_getElem? (i := 483) (by decide +kernel)), tb_in (List.mem_of_getElem? (i := 15) (by decide +kernel)), by decide⟩
theorem oks_X9_columnsUsed : okS M_X9_columnsUsed 1 := ⟨okm_X9_columnsUsed, tb_in (List.mem_of_getElem? (i := 482) (by decide +kernel))⟩
theorem okm_X9_rowsUsed : okM M_X9_rowsUsed 1 := ⟨⟨by decide +kernel, by decide +kernel, by decide +kernel⟩, tb_in (List.mem_of_getElem? (i := 468) (by decide +kernel)), tb_in (List.mem_of_getElem? (i := 15) (by decide +kernel)), by decide⟩
theorem oks_X9_rowsUsed : okS M_X9_rowsUsed 1 := ⟨okm_X9_rowsUsed, tb_in (List.mem_of_getElem? (i := 467) (by decide +kernel))⟩
theorem okm_X9_firstOf : okM M_X9_firstOf 1 := ⟨⟨by decide +kernel, by decide +kernel, by decide +kernel⟩, tb_in (List.mem_of_getElem? (i := 701) (by decide +kernel)), tb_in (List.mem_of_getElem? (i := 15) (by decide +kernel)), by decide⟩
theorem oks_X9_firstOf : okS M_X9_firstOf 1 := ⟨okm_X9_firstOf, tb_in (List.mem_of_getElem? (i := 700) (by decide +kernel))⟩
theorem okm_X9_lastOf : okM M_X9_lastOf 1 := ⟨⟨by decide +kernel, by decide +kernel, by decide +kernel⟩, tb_in (List.mem_of_getElem? (i := 474) (by decide +kernel)), tb_in (List.mem_of_getElem? (i := 15) (by decide +kernel)), by decide⟩
theorem oks_X9_lastOf : okS M_X9_lastOf 1 := ⟨okm_X9_lastOf, tb_in (List.mem_of_getElem? (i := 473) (by decide +kernel))⟩
theorem okm_X9_squareSide : okM M_X9_squareSide 1 := ⟨⟨by decide +kernel, by decide +kernel, by decide +kernel⟩, tb_in (List.mem_of_getElem? (i := 698) (by decide +kernel)), tb_in (List.mem_of_getElem? (i := 15) (by decide +kernel)), by decide⟩
theorem oks_X9_squareSide : okS M_X9_squareSide 1 := ⟨okm_X9_squareSide, tb_in (List.mem_of_getElem? (i := 697) (by decide +kernel))⟩
theorem okm_X9_movesDown : okM M_X9_movesDown 1 := ⟨⟨by decide +kernel, by decide +kernel, by decide +kernel⟩, tb_in (List.mem_of_getElem? (i := 465) (by decide +kernel)), tb_in (List.mem_of_getElem? (i := 15) (by decide +kernel)), by decide⟩
theorem oks_X9_movesDown : okS M_X9_movesDown 1 := ⟨okm_X9_movesDown, tb_in (List.mem_of_getElem? (i := 464) (by decide +kernel))⟩
theorem okm_X9_movesRight : okM M_X9_movesRight 1 := ⟨⟨by decide +kernel, by decide +kernel, by decide +kernel⟩, tb_in (List.mem_of_getElem? (i := 480) (by decide +kernel)), tb_in (List.mem_of_getElem? (i := 15) (by decide +kernel)), by decide⟩
theorem oks_X9_movesRight : okS M_X9_movesRight 1 := ⟨okm_X9_movesRight, tb_in (List.mem_of_getElem? (i := 479) (by decide +kernel))⟩
theorem okm_X9_greaterHalf : okM M_X9_greaterHalf 2 := ⟨⟨by decide +kernel, by decide +kernel, by decide +kernel⟩, tb_in (List.mem_of_getElem? (i := 742) (by decide +kernel)), tb_in (List.mem_of_getElem? (i := 15) (by decide +kernel)), by decide⟩
theorem oks_X9_greaterHalf : okS M_X9_greaterHalf 2 := ⟨okm_X9_greaterHalf, tb_in (List.mem_of_getElem? (i := 741) (by decide +kernel))⟩
theorem okm_X9_halvingLine : okM M_X9_halvingLine 1 := ⟨⟨by decide +kernel, by decide +kernel, by decide +kernel⟩, tb_in (List.mem_of_getElem? (i := 739) (by decide +kernel)), tb_in (List.mem_of_getElem? (i := 15) (by decide +kernel)), by decide⟩
theorem oks_X9_halvingLine : okS M_X9_halvingLine 1 := ⟨okm_X9_halvingLine, tb_in (List.mem_of_getElem? (i := 738) (by decide +kernel))⟩
theorem okm_X10_fewest : okM M_X10_fewest 1 := ⟨⟨by decide +kernel, by decide +kernel, by decide +kernel⟩, tb_in (List.mem_of_getElem? (i := 582) (by decide +kernel)), tb_in (List.mem_of_getElem? (i := 5) (by decide +kernel)), by decide⟩
theorem okv_X10_fewest : okV M_X10_fewest 1 9 := ⟨RX10, TX10, 2, okm_X10_fewest, rfl, tb_in (List.mem_of_getElem? (i := 580) (by decide +kernel)), tb_in (List.mem_of_getElem? (i := 581) (by decide +kernel)), rfl⟩
theorem okm_X10_addRow : okM M_X10_addRow 1 := ⟨⟨by decide +kernel, by decide +kernel, by decide +kernel⟩, tb_in (List.mem_of_getElem? (i := 587) (by decide +kernel)), tb_in (List.mem_of_getElem? (i := 5) (by decide +kernel)), by decide⟩
theorem okv_X10_addRow : okV M_X10_addRow 1 9 := ⟨RX10, TX10, 2, okm_X10_addRow, rfl, tb_in (List.mem_of_getElem? (i := 586) (by decide +kernel)), List.mem_append_left _ (List.mem_of_getElem? (i := 13) (by decide +kernel)), rfl⟩
theorem okm_X10_covered : okM M_X10_covered 1 := ⟨⟨by decide +kernel, by decide +kernel, by decide +kernel⟩, tb_in (List.mem_of_getElem? (i := 590) (by decide +kernel)), tb_in (List.mem_of_getElem? (i := 5) (by decide +kernel)), by decide⟩
theorem oks_X10_covered : okS M_X10_covered 1 := ⟨okm_X10_covered, tb_in (List.mem_of_getElem? (i := 589) (by decide +kernel))⟩
theorem okm_X10_first : okM M_X10_first 1 := ⟨⟨by decide +kernel, by decide +kernel, by decide +kernel⟩, tb_in (List.mem_of_getElem? (i := 694) (by decide +kernel)), tb_in (List.mem_of_getElem? (i := 5) (by decide +kernel)), by decide⟩
theorem okv_X10_first : okV M_X10_first 1 9 := ⟨RX10, TX10, 2, okm_X10_first, rfl, tb_in (List.mem_of_getElem? (i := 692) (by decide +kernel)), tb_in (List.mem_of_getElem? (i := 693) (by decide +kernel)), rfl⟩
theorem okm_X11_feed : okM M_X11_feed 1 := ⟨⟨by decide +kernel, by decide +kernel, by decide +kernel⟩, tb_in (List.mem_of_getElem? (i := 318) (by decide +kernel)), tb_in (List.mem_of_getElem? (i := 1) (by decide +kernel)), by decide⟩
theorem okv_X11_feed : okV M_X11_feed 1 10 := ⟨RX11, TX11, 12, okm_X11_feed, rfl, tb_in (List.mem_of_getElem? (i := 316) (by decide +kernel)), tb_in (List.mem_of_getElem? (i := 317) (by decide +kernel)), rfl⟩
theorem okm_X11_kitchen : okM M_X11_kitchen 0 := ⟨⟨by decide +kernel, by decide +kernel, by decide +kernel⟩, tb_in (List.mem_of_getElem? (i := 328) (by decide +kernel)), tb_in (List.mem_of_getElem? (i := 1) (by decide +kernel)), by decide⟩
theorem okv_X11_kitchen : okV M_X11_kitchen 0 10 := ⟨RX11, TX11, 12, okm_X11_kitchen, rfl, tb_in (List.mem_of_getElem? (i := 326) (by decide +kernel)), tb_in (List.mem_of_getElem? (i := 327) (by decide +kernel)), rfl⟩
theorem okm_X11_fault : okM M_X11_fault 0 := ⟨⟨by decide +kernel, by decide +kernel, by decide +kernel⟩, tb_in (List.mem_of_getElem? (i := 422) (by decide +kernel)), tb_in (List.mem_of_getElem? (i := 1) (by decide +kernel)), by decide⟩
theorem okv_X11_fault : okV M_X11_fault 0 10 := ⟨RX11, TX11, 12, okm_X11_fault, rfl, tb_in (List.mem_of_getElem? (i := 420) (by decide +kernel)), tb_in (List.mem_of_getElem? (i := 421) (by decide +kernel)), rfl⟩
theorem okm_X11_told : okM M_X11_told 1 := ⟨⟨by decide +kernel, by decide +kernel, by decide +kernel⟩, tb_in (List.mem_of_getElem? (i := 426) (by decide +kernel)), tb_in (List.mem_of_getElem? (i := 1) (by decide +kernel)), by decide⟩
theorem okv_X11_told : okV M_X11_told 1 10 := ⟨RX11, TX11, 12, okm_X11_told, rfl, tb_in (List.mem_of_getElem? (i := 424) (by decide +kernel)), tb_in (List.mem_of_getElem? (i := 425) (by decide +kernel)), rfl⟩
theorem okm_X11_trouble : okM M_X11_trouble 2 := ⟨⟨by decide +kernel, by decide +kernel, by decide +kernel⟩, tb_in (List.mem_of_getElem? (i := 502) (by decide +kernel)), tb_in (List.mem_of_getElem? (i := 1) (by decide +kernel)), by decide⟩
theorem okv_X11_trouble : okV M_X11_trouble 2 10 := ⟨RX11, TX11, 12, okm_X11_trouble, rfl, tb_in (List.mem_of_getElem? (i := 500) (by decide +kernel)), tb_in (List.mem_of_getElem? (i := 501) (by decide +kernel)), rfl⟩
theorem okm_X11_eater : okM M_X11_eater 2 := ⟨⟨by decide +kernel, by decide +kernel, by decide +kernel⟩, tb_in (List.mem_of_getElem? (i := 553) (by decide +kernel)), tb_in (List.mem_of_getElem? (i := 1) (by decide +kernel)), by decide⟩
theorem okv_X11_eater : okV M_X11_eater 2 10 := ⟨RX11, TX11, 12, okm_X11_eater, rfl, tb_in (List.mem_of_getElem? (i := 551) (by decide +kernel)), tb_in (List.mem_of_getElem? (i := 552) (by decide +kernel)), rfl⟩
theorem okm_X11_wrap : okM M_X11_wrap 1 := ⟨⟨by decide +kernel, by decide +kernel, by decide +kernel⟩, tb_in (List.mem_of_getElem? (i := 561) (by decide +kernel)), tb_in (List.mem_of_getElem? (i := 1) (by decide +kernel)), by decide⟩
theorem okv_X11_wrap : okV M_X11_wrap 1 10 := ⟨RX11, TX11, 12, okm_X11_wrap, rfl, tb_in (List.mem_of_getElem? (i := 559) (by decide +kernel)), tb_in (List.mem_of_getElem? (i := 560) (by decide +kernel)), rfl⟩
theorem okm_X11_putOn : okM M_X11_putOn 1 := ⟨⟨by decide +kernel, by decide +kernel, by decide +kernel⟩, tb_in (List.mem_of_getElem? (i := 598) (by decide +kernel)), tb_in (List.mem_of_getElem? (i := 1) (by decide +kernel)), by decide⟩
theorem okv_X11_putOn : okV M_X11_putOn 1 10 := ⟨RX11, TX11, 12, okm_X11_putOn, rfl, tb_in (List.mem_of_getElem? (i := 596) (by decide +kernel)), tb_in (List.mem_of_getElem? (i := 597) (by decide +kernel)), rfl⟩
theorem okm_X11_takeOff : okM M_X11_takeOff 1 := ⟨⟨by decide +kernel, by decide +kernel, by decide +kernel⟩, tb_in (List.mem_of_getElem? (i := 607) (by decide +kernel)), tb_in (List.mem_of_getElem? (i := 1) (by decide +kernel)), by decide⟩
theorem okv_X11_takeOff : okV M_X11_takeOff 1 10 := ⟨RX11, TX11, 12, okm_X11_takeOff, rfl, tb_in (List.mem_of_getElem? (i := 605) (by decide +kernel)), tb_in (List.mem_of_getElem? (i := 606) (by decide +kernel)), rfl⟩
theorem okm_X11_hour : okM M_X11_hour 1 := ⟨⟨by decide +kernel, by decide +kernel, by decide +kernel⟩, tb_in (List.mem_of_getElem? (i := 611) (by decide +kernel)), tb_in (List.mem_of_getElem? (i := 1) (by decide +kernel)), by decide⟩
theorem okv_X11_hour : okV M_X11_hour 1 10 := ⟨RX11, TX11, 12, okm_X11_hour, rfl, tb_in (List.mem_of_getElem? (i := 609) (by decide +kernel)), tb_in (List.mem_of_getElem? (i := 610) (by decide +kernel)), rfl⟩
theorem okm_X11_bear : okM M_X11_bear 1 := ⟨⟨by decide +kernel, by decide +kernel, by decide +kernel⟩, tb_in (List.mem_of_getElem? (i := 632) (by decide +kernel)), tb_in (List.mem_of_getElem? (i := 1) (by decide +kernel)), by decide⟩
theorem okv_X11_bear : okV M_X11_bear 1 10 := ⟨RX11, TX11, 12, okm_X11_bear, rfl, tb_in (List.mem_of_getElem? (i := 630) (by decide +kernel)), tb_in (List.mem_of_getElem? (i := 631) (by decide +kernel)), rfl⟩
theorem okm_X11_rest : okM M_X11_rest 0 := ⟨⟨by decide +kernel, by decide +kernel, by decide +kernel⟩, tb_in (List.mem_of_getElem? (i := 646) (by decide +kernel)), tb_in (List.mem_of_getElem? (i := 1) (by decide +kernel)), by decide⟩
theorem okv_X11_rest : okV M_X11_rest 0 10 := ⟨RX11, TX11, 12, okm_X11_rest, rfl, tb_in (List.mem_of_getElem? (i := 644) (by decide +kernel)), tb_in (List.mem_of_getElem? (i := 645) (by decide +kernel)), rfl⟩
theorem okm_X11_cut : okM M_X11_cut 2 := ⟨⟨by decide +kernel, by decide +kernel, by decide +kernel⟩, tb_in (List.mem_of_getElem? (i := 654) (by decide +kernel)), tb_in (List.mem_of_getElem? (i := 1) (by decide +kernel)), by decide⟩
theorem okv_X11_cut : okV M_X11_cut 2 10 := ⟨RX11, TX11, 12, okm_X11_cut, rfl, tb_in (List.mem_of_getElem? (i := 652) (by decide +kernel)), tb_in (List.mem_of_getElem? (i := 653) (by decide +kernel)), rfl⟩
theorem okm_X11_drift : okM M_X11_drift 1 := ⟨⟨by decide +kernel, by decide +kernel, by decide +kernel⟩, tb_in (List.mem_of_getElem? (i := 660) (by decide +kernel)), tb_in (List.mem_of_getElem? (i := 1) (by decide +kernel)), by decide⟩
theorem okv_X11_drift : okV M_X11_drift 1 10 := ⟨RX11, TX11, 12, okm_X11_drift, rfl, tb_in (List.mem_of_getElem? (i := 658) (by decide +kernel)), tb_in (List.mem_of_getElem? (i := 659) (by decide +kernel)), rfl⟩
theorem okm_X11_undo : okM M_X11_undo 0 := ⟨⟨by decide +kernel, by decide +kernel, by decide +kernel⟩, tb_in (List.mem_of_getElem? (i := 681) (by decide +kernel)), tb_in (List.mem_of_getElem? (i := 1) (by decide +kernel)), by decide⟩
theorem okv_X11_undo : okV M_X11_undo 0 10 := ⟨RX11, TX11, 12, okm_X11_undo, rfl, tb_in (List.mem_of_getElem? (i := 679) (by decide +kernel)), tb_in (List.mem_of_getElem? (i := 680) (by decide +kernel)), rfl⟩
theorem okm_X11_refusalOfHours : okM M_X11_refusalOfHours 1 := ⟨⟨by decide +kernel, by decide +kernel, by decide +kernel⟩, tb_in (List.mem_of_getElem? (i := 615) (by decide +kernel)), tb_in (List.mem_of_getElem? (i := 1) (by decide +kernel)), by decide⟩
theorem okv_X11_refusalOfHours : okV M_X11_refusalOfHours 1 10 := ⟨RX11, TX11, 12, okm_X11_refusalOfHours, rfl, tb_in (List.mem_of_getElem? (i := 614) (by decide +kernel)), List.mem_append_left _ (List.mem_of_getElem? (i := 14) (by decide +kernel)), rfl⟩
theorem okm_X11_toWrap : okM M_X11_toWrap 2 := ⟨⟨by decide +kernel, by decide +kernel, by decide +kernel⟩, tb_in (List.mem_of_getElem? (i := 689) (by decide +kernel)), tb_in (List.mem_of_getElem? (i := 1) (by decide +kernel)), by decide⟩
theorem okv_X11_toWrap : okV M_X11_toWrap 2 10 := ⟨RX11, TX11, 12, okm_X11_toWrap, rfl, tb_in (List.mem_of_getElem? (i := 687) (by decide +kernel)), tb_in (List.mem_of_getElem? (i := 688) (by decide +kernel)), rfl⟩
theorem okm_X11_soft : okM M_X11_soft 2 := ⟨⟨by decide +kernel, by decide +kernel, by decide +kernel⟩, tb_in (List.mem_of_getElem? (i := 705) (by decide +kernel)), tb_in (List.mem_of_getElem? (i := 1) (by decide +kernel)), by decide⟩
theorem okv_X11_soft : okV M_X11_soft 2 10 := ⟨RX11, TX11, 12, okm_X11_soft, rfl, tb_in (List.mem_of_getElem? (i := 703) (by decide +kernel)), tb_in (List.mem_of_getElem? (i := 704) (by decide +kernel)), rfl⟩
theorem okm_X11_when : okM M_X11_when 1 := ⟨⟨by decide +kernel, by decide +kernel, by decide +kernel⟩, tb_in (List.mem_of_getElem? (i := 710) (by decide +kernel)), tb_in (List.mem_of_getElem? (i := 1) (by decide +kernel)), by decide⟩
theorem okv_X11_when : okV M_X11_when 1 10 := ⟨RX11, TX11, 12, okm_X11_when, rfl, tb_in (List.mem_of_getElem? (i := 708) (by decide +kernel)), tb_in (List.mem_of_getElem? (i := 709) (by decide +kernel)), rfl⟩
theorem okm_X11_order : okM M_X11_order 2 := ⟨⟨by decide +kernel, by decide +kernel, by decide +kernel⟩, tb_in (List.mem_of_getElem? (i := 718) (by decide +kernel)), tb_in (List.mem_of_getElem? (i := 1) (by decide +kernel)), by decide⟩
theorem okv_X11_order : okV M_X11_order 2 10 := ⟨RX11, TX11, 12, okm_X11_order, rfl, tb_in (List.mem_of_getElem? (i := 716) (by decide +kernel)), tb_in (List.mem_of_getElem? (i := 717) (by decide +kernel)), rfl⟩
theorem okm_X11_halves : okM M_X11_halves 2 := ⟨⟨by decide +kernel, by decide +kernel, by decide +kernel⟩, tb_in (List.mem_of_getElem? (i := 736) (by decide +kernel)), tb_in (List.mem_of_getElem? (i := 1) (by decide +kernel)), by decide⟩
theorem okv_X11_halves : okV M_X11_halves 2 10 := ⟨RX11, TX11, 12, okm_X11_halves, rfl, tb_in (List.mem_of_getElem? (i := 734) (by decide +kernel)), tb_in (List.mem_of_getElem? (i := 735) (by decide +kernel)), rfl⟩
theorem okm_X11_mild : okM M_X11_mild 2 := ⟨⟨by decide +kernel, by decide +kernel, by decide +kernel⟩, tb_in (List.mem_of_getElem? (i := 748) (by decide +kernel)), tb_in (List.mem_of_getElem? (i := 1) (by decide +kernel)), by decide⟩
theorem okv_X11_mild : okV M_X11_mild 2 10 := ⟨RX11, TX11, 12, okm_X11_mild, rfl, tb_in (List.mem_of_getElem? (i := 746) (by decide +kernel)), tb_in (List.mem_of_getElem? (i := 747) (by decide +kernel)), rfl⟩
theorem okm_X11_bump : okM M_X11_bump 2 := ⟨⟨by decide +kernel, by decide +kernel, by decide +kernel⟩, tb_in (List.mem_of_getElem? (i := 754) (by decide +kernel)), tb_in (List.mem_of_getElem? (i := 1) (by decide +kernel)), by decide⟩
theorem okv_X11_bump : okV M_X11_bump 2 10 := ⟨RX11, TX11, 12, okm_X11_bump, rfl, tb_in (List.mem_of_getElem? (i := 752) (by decide +kernel)), tb_in (List.mem_of_getElem? (i := 753) (by decide +kernel)), rfl⟩
theorem okm_X11_write : okM M_X11_write 2 := ⟨⟨by decide +kernel, by decide +kernel, by decide +kernel⟩, tb_in (List.mem_of_getElem? (i := 762) (by decide +kernel)), tb_in (List.mem_of_getElem? (i := 1) (by decide +kernel)), by decide⟩
theorem okv_X11_write : okV M_X11_write 2 10 := ⟨RX11, TX11, 12, okm_X11_write, rfl, tb_in (List.mem_of_getElem? (i := 760) (by decide +kernel)), tb_in (List.mem_of_getElem? (i := 761) (by decide +kernel)), rfl⟩
theorem okm_X11_tear : okM M_X11_tear 0 := ⟨⟨by decide +kernel, by decide +kernel, by decide +kernel⟩, tb_in (List.mem_of_getElem? (i := 770) (by decide +kernel)), tb_in (List.mem_of_getElem? (i := 1) (by decide +kernel)), by decide⟩
theorem okv_X11_tear : okV M_X11_tear 0 10 := ⟨RX11, TX11, 12, okm_X11_tear, rfl, tb_in (List.mem_of_getElem? (i := 768) (by decide +kernel)), tb_in (List.mem_of_getElem? (i := 769) (by decide +kernel)), rfl⟩
theorem okm_X11_judge : okM M_X11_judge 0 := ⟨⟨by decide +kernel, by decide +kernel, by decide +kernel⟩, tb_in (List.mem_of_getElem? (i := 774) (by decide +kernel)), tb_in (List.mem_of_getElem? (i := 1) (by decide +kernel)), by decide⟩
theorem okv_X11_judge : okV M_X11_judge 0 10 := ⟨RX11, TX11, 12, okm_X11_judge, rfl, tb_in (List.mem_of_getElem? (i := 772) (by decide +kernel)), tb_in (List.mem_of_getElem? (i := 773) (by decide +kernel)), rfl⟩
theorem okm_X11_seed : okM M_X11_seed 1 := ⟨⟨by decide +kernel, by decide +kernel, by decide +kernel⟩, tb_in (List.mem_of_getElem? (i := 782) (by decide +kernel)), tb_in (List.mem_of_getElem? (i := 1) (by decide +kernel)), by decide⟩
theorem okv_X11_seed : okV M_X11_seed 1 10 := ⟨RX11, TX11, 12, okm_X11_seed, rfl, tb_in (List.mem_of_getElem? (i := 780) (by decide +kernel)), tb_in (List.mem_of_getElem? (i := 781) (by decide +kernel)), rfl⟩
theorem okm_X11_keep : okM M_X11_keep 1 := ⟨⟨by decide +kernel, by decide +kernel, by decide +kernel⟩, tb_in (List.mem_of_getElem? (i := 786) (by decide +kernel)), tb_in (List.mem_of_getElem? (i := 1) (by decide +kernel)), by decide⟩
theorem okv_X11_keep : okV M_X11_keep 1 10 := ⟨RX11, TX11, 12, okm_X11_keep, rfl, tb_in (List.mem_of_getElem? (i := 784) (by decide +kernel)), tb_in (List.mem_of_getElem? (i := 785) (by decide +kernel)), rfl⟩
theorem okm_X11_goBack : okM M_X11_goBack 1 := ⟨⟨by decide +kernel, by decide +kernel, by decide +kernel⟩, tb_in (List.mem_of_getElem? (i := 794) (by decide +kernel)), tb_in (List.mem_of_getElem? (i := 1) (by decide +kernel)), by decide⟩
theorem okv_X11_goBack : okV M_X11_goBack 1 10 := ⟨RX11, TX11, 12, okm_X11_goBack, rfl, tb_in (List.mem_of_getElem? (i := 792) (by decide +kernel)), tb_in (List.mem_of_getElem? (i := 793) (by decide +kernel)), rfl⟩
theorem okm_X12_in : okM M_X12_in 3 := ⟨⟨by decide +kernel, by decide +kernel, by decide +kernel⟩, tb_in (List.mem_of_getElem? (i := 921) (by decide +kernel)), tb_in (List.mem_of_getElem? (i := 12) (by decide +kernel)), by decide⟩
theorem oks_X12_in : okS M_X12_in 3 := ⟨okm_X12_in, tb_in (List.mem_of_getElem? (i := 920) (by decide +kernel))⟩
theorem okm_X12_has : okM M_X12_has 2 := ⟨⟨by decide +kernel, by decide +kernel, by decide +kernel⟩, tb_in (List.mem_of_getElem? (i := 1013) (by decide +kernel)), tb_in (List.mem_of_getElem? (i := 12) (by decide +kernel)), by decide⟩
theorem oks_X12_has : okS M_X12_has 2 := ⟨okm_X12_has, tb_in (List.mem_of_getElem? (i := 1012) (by decide +kernel))⟩
theorem okm_X12_bits : okM M_X12_bits 1 := ⟨⟨by decide +kernel, by decide +kernel, by decide +kernel⟩, tb_in (List.mem_of_getElem? (i := 1043) (by decide +kernel)), tb_in (List.mem_of_getElem? (i := 12) (by decide +kernel)), by decide⟩
theorem oks_X12_bits : okS M_X12_bits 1 := ⟨okm_X12_bits, tb_in (List.mem_of_getElem? (i := 1042) (by decide +kernel))⟩
theorem okm_X12_feed : okM M_X12_feed 1 := ⟨⟨by decide +kernel, by decide +kernel, by decide +kernel⟩, tb_in (List.mem_of_getElem? (i := 918) (by decide +kernel)), tb_in (List.mem_of_getElem? (i := 12) (by decide +kernel)), by decide⟩
theorem okv_X12_feed : okV M_X12_feed 1 11 := ⟨RX12, TX12, 36, okm_X12_feed, rfl, tb_in (List.mem_of_getElem? (i := 916) (by decide +kernel)), tb_in (List.mem_of_getElem? (i := 917) (by decide +kernel)), rfl⟩
theorem okm_X12_letterAt : okM M_X12_letterAt 1 := ⟨⟨by decide +kernel, by decide +kernel, by decide +kernel⟩, tb_in (List.mem_of_getElem? (i := 939) (by decide +kernel)), tb_in (List.mem_of_getElem? (i := 12) (by decide +kernel)), by decide⟩
theorem okv_X12_letterAt : okV M_X12_letterAt 1 11 := ⟨RX12, TX12, 36, okm_X12_letterAt, rfl, tb_in (List.mem_of_getElem? (i := 938) (by decide +kernel)), List.mem_append_left _ (List.mem_of_getElem? (i := 19) (by decide +kernel)), rfl⟩
theorem okm_X12_nextLetter : okM M_X12_nextLetter 0 := ⟨⟨by decide +kernel, by decide +kernel, by decide +kernel⟩, tb_in (List.mem_of_getElem? (i := 935) (by decide +kernel)), tb_in (List.mem_of_getElem? (i := 12) (by decide +kernel)), by decide⟩
theorem okv_X12_nextLetter : okV M_X12_nextLetter 0 11 := ⟨RX12, TX12, 36, okm_X12_nextLetter, rfl, tb_in (List.mem_of_getElem? (i := 934) (by decide +kernel)), List.mem_append_left _ (List.mem_of_getElem? (i := 18) (by decide +kernel)), rfl⟩
theorem okm_X12_fails : okM M_X12_fails 2 := ⟨⟨by decide +kernel, by decide +kernel, by decide +kernel⟩, tb_in (List.mem_of_getElem? (i := 955) (by decide +kernel)), tb_in (List.mem_of_getElem? (i := 12) (by decide +kernel)), by decide⟩
theorem okv_X12_fails : okV M_X12_fails 2 11 := ⟨RX12, TX12, 36, okm_X12_fails, rfl, tb_in (List.mem_of_getElem? (i := 954) (by decide +kernel)), List.mem_append_left _ (List.mem_of_getElem? (i := 23) (by decide +kernel)), rfl⟩
theorem okm_X12_readsNumber : okM M_X12_readsNumber 2 := ⟨⟨by decide +kernel, by decide +kernel, by decide +kernel⟩, tb_in (List.mem_of_getElem? (i := 951) (by decide +kernel)), tb_in (List.mem_of_getElem? (i := 12) (by decide +kernel)), by decide⟩
theorem okv_X12_readsNumber : okV M_X12_readsNumber 2 11 := ⟨RX12, TX12, 36, okm_X12_readsNumber, rfl, tb_in (List.mem_of_getElem? (i := 950) (by decide +kernel)), List.mem_append_left _ (List.mem_of_getElem? (i := 22) (by decide +kernel)), rfl⟩
theorem okm_X12_readsSign : okM M_X12_readsSign 1 := ⟨⟨by decide +kernel, by decide +kernel, by decide +kernel⟩, tb_in (List.mem_of_getElem? (i := 959) (by decide +kernel)), tb_in (List.mem_of_getElem? (i := 12) (by decide +kernel)), by decide⟩
theorem okv_X12_readsSign : okV M_X12_readsSign 1 11 := ⟨RX12, TX12, 36, okm_X12_readsSign, rfl, tb_in (List.mem_of_getElem? (i := 958) (by decide +kernel)), List.mem_append_left _ (List.mem_of_getElem? (i := 24) (by decide +kernel)), rfl⟩
theorem okm_X12_readsHead : okM M_X12_readsHead 0 := ⟨⟨by decide +kernel, by decide +kernel, by decide +kernel⟩, tb_in (List.mem_of_getElem? (i := 947) (by decide +kernel)), tb_in (List.mem_of_getElem? (i := 12) (by decide +kernel)), by decide⟩
theorem okv_X12_readsHead : okV M_X12_readsHead 0 11 := ⟨RX12, TX12, 36, okm_X12_readsHead, rfl, tb_in (List.mem_of_getElem? (i := 946) (by decide +kernel)), List.mem_append_left _ (List.mem_of_getElem? (i := 21) (by decide +kernel)), rfl⟩
theorem okm_X12_readsTrouble : okM M_X12_readsTrouble 0 := ⟨⟨by decide +kernel, by decide +kernel, by decide +kernel⟩, tb_in (List.mem_of_getElem? (i := 963) (by decide +kernel)), tb_in (List.mem_of_getElem? (i := 12) (by decide +kernel)), by decide⟩
theorem okv_X12_readsTrouble : okV M_X12_readsTrouble 0 11 := ⟨RX12, TX12, 36, okm_X12_readsTrouble, rfl, tb_in (List.mem_of_getElem? (i := 962) (by decide +kernel)), List.mem_append_left _ (List.mem_of_getElem? (i := 25) (by decide +kernel)), rfl⟩
theorem okm_X12_readsEater : okM M_X12_readsEater 0 := ⟨⟨by decide +kernel, by decide +kernel, by decide +kernel⟩, tb_in (List.mem_of_getElem? (i := 967) (by decide +kernel)), tb_in (List.mem_of_getElem? (i := 12) (by decide +kernel)), by decide⟩
theorem okv_X12_readsEater : okV M_X12_readsEater 0 11 := ⟨RX12, TX12, 36, okm_X12_readsEater, rfl, tb_in (List.mem_of_getElem? (i := 966) (by decide +kernel)), List.mem_append_left _ (List.mem_of_getElem? (i := 26) (by decide +kernel)), rfl⟩
theorem okm_X12_readsClause : okM M_X12_readsClause 0 := ⟨⟨by decide +kernel, by decide +kernel, by decide +kernel⟩, tb_in (List.mem_of_getElem? (i := 943) (by decide +kernel)), tb_in (List.mem_of_getElem? (i := 12) (by decide +kernel)), by decide⟩
theorem okv_X12_readsClause : okV M_X12_readsClause 0 11 := ⟨RX12, TX12, 36, okm_X12_readsClause, rfl, tb_in (List.mem_of_getElem? (i := 942) (by decide +kernel)), List.mem_append_left _ (List.mem_of_getElem? (i := 20) (by decide +kernel)), rfl⟩
theorem okm_X12_readsKitchen : okM M_X12_readsKitchen 0 := ⟨⟨by decide +kernel, by decide +kernel, by decide +kernel⟩, tb_in (List.mem_of_getElem? (i := 931) (by decide +kernel)), tb_in (List.mem_of_getElem? (i := 12) (by decide +kernel)), by decide⟩
theorem okv_X12_readsKitchen : okV M_X12_readsKitchen 0 11 := ⟨RX12, TX12, 36, okm_X12_readsKitchen, rfl, tb_in (List.mem_of_getElem? (i := 930) (by decide +kernel)), List.mem_append_left _ (List.mem_of_getElem? (i := 17) (by decide +kernel)), rfl⟩
theorem okm_X12_kitchen : okM M_X12_kitchen 0 := ⟨⟨by decide +kernel, by decide +kernel, by decide +kernel⟩, tb_in (List.mem_of_getElem? (i := 927) (by decide +kernel)), tb_in (List.mem_of_getElem? (i := 12) (by decide +kernel)), by decide⟩
theorem okv_X12_kitchen : okV M_X12_kitchen 0 11 := ⟨RX12, TX12, 36, okm_X12_kitchen, rfl, tb_in (List.mem_of_getElem? (i := 925) (by decide +kernel)), tb_in (List.mem_of_getElem? (i := 926) (by decide +kernel)), rfl⟩
theorem okm_X12_fault : okM M_X12_fault 0 := ⟨⟨by decide +kernel, by decide +kernel, by decide +kernel⟩, tb_in (List.mem_of_getElem? (i := 971) (by decide +kernel)), tb_in (List.mem_of_getElem? (i := 12) (by decide +kernel)), by decide⟩
theorem okv_X12_fault : okV M_X12_fault 0 11 := ⟨RX12, TX12, 36, okm_X12_fault, rfl, tb_in (List.mem_of_getElem? (i := 969) (by decide +kernel)), tb_in (List.mem_of_getElem? (i := 970) (by decide +kernel)), rfl⟩
theorem okm_X12_isKitchen : okM M_X12_isKitchen 0 := ⟨⟨by decide +kernel, by decide +kernel, by decide +kernel⟩, tb_in (List.mem_of_getElem? (i := 1118) (by decide +kernel)), tb_in (List.mem_of_getElem? (i := 12) (by decide +kernel)), by decide⟩
theorem okv_X12_isKitchen : okV M_X12_isKitchen 0 11 := ⟨RX12, TX12, 36, okm_X12_isKitchen, rfl, tb_in (List.mem_of_getElem? (i := 1117) (by decide +kernel)), List.mem_append_left _ (List.mem_of_getElem? (i := 47) (by decide +kernel)), rfl⟩
theorem okm_X12_isTrouble : okM M_X12_isTrouble 1 := ⟨⟨by decide +kernel, by decide +kernel, by decide +kernel⟩, tb_in (List.mem_of_getElem? (i := 1029) (by decide +kernel)), tb_in (List.mem_of_getElem? (i := 12) (by decide +kernel)), by decide⟩
theorem okv_X12_isTrouble : okV M_X12_isTrouble 1 11 := ⟨RX12, TX12, 36, okm_X12_isTrouble, rfl, tb_in (List.mem_of_getElem? (i := 1028) (by decide +kernel)), List.mem_append_left _ (List.mem_of_getElem? (i := 37) (by decide +kernel)), rfl⟩
theorem okm_X12_isEater : okM M_X12_isEater 1 := ⟨⟨by decide +kernel, by decide +kernel, by decide +kernel⟩, tb_in (List.mem_of_getElem? (i := 1068) (by decide +kernel)), tb_in (List.mem_of_getElem? (i := 12) (by decide +kernel)), by decide⟩
theorem okv_X12_isEater : okV M_X12_isEater 1 11 := ⟨RX12, TX12, 36, okm_X12_isEater, rfl, tb_in (List.mem_of_getElem? (i := 1067) (by decide +kernel)), List.mem_append_left _ (List.mem_of_getElem? (i := 40) (by decide +kernel)), rfl⟩
theorem okm_X12_are : okM M_X12_are 1 := ⟨⟨by decide +kernel, by decide +kernel, by decide +kernel⟩, tb_in (List.mem_of_getElem? (i := 979) (by decide +kernel)), tb_in (List.mem_of_getElem? (i := 12) (by decide +kernel)), by decide⟩
theorem okv_X12_are : okV M_X12_are 1 11 := ⟨RX12, TX12, 36, okm_X12_are, rfl, tb_in (List.mem_of_getElem? (i := 978) (by decide +kernel)), List.mem_append_left _ (List.mem_of_getElem? (i := 27) (by decide +kernel)), rfl⟩
theorem okm_X12_isGood : okM M_X12_isGood 1 := ⟨⟨by decide +kernel, by decide +kernel, by decide +kernel⟩, tb_in (List.mem_of_getElem? (i := 987) (by decide +kernel)), tb_in (List.mem_of_getElem? (i := 12) (by decide +kernel)), by decide⟩
theorem okv_X12_isGood : okV M_X12_isGood 1 11 := ⟨RX12, TX12, 36, okm_X12_isGood, rfl, tb_in (List.mem_of_getElem? (i := 986) (by decide +kernel)), List.mem_append_left _ (List.mem_of_getElem? (i := 29) (by decide +kernel)), rfl⟩
theorem okm_X12_good : okM M_X12_good 0 := ⟨⟨by decide +kernel, by decide +kernel, by decide +kernel⟩, tb_in (List.mem_of_getElem? (i := 983) (by decide +kernel)), tb_in (List.mem_of_getElem? (i := 12) (by decide +kernel)), by decide⟩
theorem okv_X12_good : okV M_X12_good 0 11 := ⟨RX12, TX12, 36, okm_X12_good, rfl, tb_in (List.mem_of_getElem? (i := 982) (by decide +kernel)), List.mem_append_left _ (List.mem_of_getElem? (i := 28) (by decide +kernel)), rfl⟩
theorem okm_X12_left : okM M_X12_left 1 := ⟨⟨by decide +kernel, by decide +kernel, by decide +kernel⟩, tb_in (List.mem_of_getElem? (i := 995) (by decide +kernel)), tb_in (List.mem_of_getElem? (i := 12) (by decide +kernel)), by decide⟩
theorem okv_X12_left : okV M_X12_left 1 11 := ⟨RX12, TX12, 36, okm_X12_left, rfl, tb_in (List.mem_of_getElem? (i := 994) (by decide +kernel)), List.mem_append_left _ (List.mem_of_getElem? (i := 31) (by decide +kernel)), rfl⟩
theorem okm_X12_leftAll : okM M_X12_leftAll 0 := ⟨⟨by decide +kernel, by decide +kernel, by decide +kernel⟩, tb_in (List.mem_of_getElem? (i := 991) (by decide +kernel)), tb_in (List.mem_of_getElem? (i := 12) (by decide +kernel)), by decide⟩
theorem okv_X12_leftAll : okV M_X12_leftAll 0 11 := ⟨RX12, TX12, 36, okm_X12_leftAll, rfl, tb_in (List.mem_of_getElem? (i := 990) (by decide +kernel)), List.mem_append_left _ (List.mem_of_getElem? (i := 30) (by decide +kernel)), rfl⟩
theorem okm_X12_strongest : okM M_X12_strongest 0 := ⟨⟨by decide +kernel, by decide +kernel, by decide +kernel⟩, tb_in (List.mem_of_getElem? (i := 999) (by decide +kernel)), tb_in (List.mem_of_getElem? (i := 12) (by decide +kernel)), by decide⟩
theorem okv_X12_strongest : okV M_X12_strongest 0 11 := ⟨RX12, TX12, 36, okm_X12_strongest, rfl, tb_in (List.mem_of_getElem? (i := 998) (by decide +kernel)), List.mem_append_left _ (List.mem_of_getElem? (i := 32) (by decide +kernel)), rfl⟩
theorem okm_X12_weight : okM M_X12_weight 1 := ⟨⟨by decide +kernel, by decide +kernel, by decide +kernel⟩, tb_in (List.mem_of_getElem? (i := 1060) (by decide +kernel)), tb_in (List.mem_of_getElem? (i := 12) (by decide +kernel)), by decide⟩
theorem okv_X12_weight : okV M_X12_weight 1 11 := ⟨RX12, TX12, 36, okm_X12_weight, rfl, tb_in (List.mem_of_getElem? (i := 1059) (by decide +kernel)), List.mem_append_left _ (List.mem_of_getElem? (i := 39) (by decide +kernel)), rfl⟩
theorem okm_X12_isBearable : okM M_X12_isBearable 1 := ⟨⟨by decide +kernel, by decide +kernel, by decide +kernel⟩, tb_in (List.mem_of_getElem? (i := 1056) (by decide +kernel)), tb_in (List.mem_of_getElem? (i := 12) (by decide +kernel)), by decide⟩
theorem okv_X12_isBearable : okV M_X12_isBearable 1 11 := ⟨RX12, TX12, 36, okm_X12_isBearable, rfl, tb_in (List.mem_of_getElem? (i := 1055) (by decide +kernel)), List.mem_append_left _ (List.mem_of_getElem? (i := 38) (by decide +kernel)), rfl⟩
theorem okm_X12_told : okM M_X12_told 1 := ⟨⟨by decide +kernel, by decide +kernel, by decide +kernel⟩, tb_in (List.mem_of_getElem? (i := 975) (by decide +kernel)), tb_in (List.mem_of_getElem? (i := 12) (by decide +kernel)), by decide⟩
theorem okv_X12_told : okV M_X12_told 1 11 := ⟨RX12, TX12, 36, okm_X12_told, rfl, tb_in (List.mem_of_getElem? (i := 973) (by decide +kernel)), tb_in (List.mem_of_getElem? (i := 974) (by decide +kernel)), rfl⟩
theorem okm_X12_grown : okM M_X12_grown 1 := ⟨⟨by decide +kernel, by decide +kernel, by decide +kernel⟩, tb_in (List.mem_of_getElem? (i := 1039) (by decide +kernel)), tb_in (List.mem_of_getElem? (i := 12) (by decide +kernel)), by decide⟩
theorem oks_X12_grown : okS M_X12_grown 1 := ⟨okm_X12_grown, tb_in (List.mem_of_getElem? (i := 1038) (by decide +kernel))⟩
theorem okm_X12_partOf : okM M_X12_partOf 2 := ⟨⟨by decide +kernel, by decide +kernel, by decide +kernel⟩, tb_in (List.mem_of_getElem? (i := 1036) (by decide +kernel)), tb_in (List.mem_of_getElem? (i := 12) (by decide +kernel)), by decide⟩
theorem oks_X12_partOf : okS M_X12_partOf 2 := ⟨okm_X12_partOf, tb_in (List.mem_of_getElem? (i := 1035) (by decide +kernel))⟩
theorem okm_X12_parts : okM M_X12_parts 2 := ⟨⟨by decide +kernel, by decide +kernel, by decide +kernel⟩, tb_in (List.mem_of_getElem? (i := 1033) (by decide +kernel)), tb_in (List.mem_of_getElem? (i := 12) (by decide +kernel)), by decide⟩
theorem oks_X12_parts : okS M_X12_parts 2 := ⟨okm_X12_parts, tb_in (List.mem_of_getElem? (i := 1032) (by decide +kernel))⟩
theorem okm_X12_edgeOf : okM M_X12_edgeOf 2 := ⟨⟨by decide +kernel, by decide +kernel, by decide +kernel⟩, tb_in (List.mem_of_getElem? (i := 1049) (by decide +kernel)), tb_in (List.mem_of_getElem? (i := 12) (by decide +kernel)), by decide⟩
theorem oks_X12_edgeOf : okS M_X12_edgeOf 2 := ⟨okm_X12_edgeOf, tb_in (List.mem_of_getElem? (i := 1048) (by decide +kernel))⟩
theorem okm_X12_edge : okM M_X12_edge 1 := ⟨⟨by decide +kernel, by decide +kernel, by decide +kernel⟩, tb_in (List.mem_of_getElem? (i := 1046) (by decide +kernel)), tb_in (List.mem_of_getElem? (i := 12) (by decide +kernel)), by decide⟩
theorem oks_X12_edge : okS M_X12_edge 1 := ⟨okm_X12_edge, tb_in (List.mem_of_getElem? (i := 1045) (by decide +kernel))⟩
theorem okm_X12_hold : okM M_X12_hold 1 := ⟨⟨by decide +kernel, by decide +kernel, by decide +kernel⟩, tb_in (List.mem_of_getElem? (i := 1052) (by decide +kernel)), tb_in (List.mem_of_getElem? (i := 12) (by decide +kernel)), by decide⟩
theorem oks_X12_hold : okS M_X12_hold 1 := ⟨okm_X12_hold, tb_in (List.mem_of_getElem? (i := 1051) (by decide +kernel))⟩
theorem okm_X12_trouble : okM M_X12_trouble 2 := ⟨⟨by decide +kernel, by decide +kernel, by decide +kernel⟩, tb_in (List.mem_of_getElem? (i := 1025) (by decide +kernel)), tb_in (List.mem_of_getElem? (i := 12) (by decide +kernel)), by decide⟩
theorem okv_X12_trouble : okV M_X12_trouble 2 11 := ⟨RX12, TX12, 36, okm_X12_trouble, rfl, tb_in (List.mem_of_getElem? (i := 1023) (by decide +kernel)), tb_in (List.mem_of_getElem? (i := 1024) (by decide +kernel)), rfl⟩
theorem okm_X12_eater : okM M_X12_eater 2 := ⟨⟨by decide +kernel, by decide +kernel, by decide +kernel⟩, tb_in (List.mem_of_getElem? (i := 1064) (by decide +kernel)), tb_in (List.mem_of_getElem? (i := 12) (by decide +kernel)), by decide⟩
theorem okv_X12_eater : okV M_X12_eater 2 11 := ⟨RX12, TX12, 36, okm_X12_eater, rfl, tb_in (List.mem_of_getElem? (i := 1062) (by decide +kernel)), tb_in (List.mem_of_getElem? (i := 1063) (by decide +kernel)), rfl⟩
theorem okm_X12_remember : okM M_X12_remember 0 := ⟨⟨by decide +kernel, by decide +kernel, by decide +kernel⟩, tb_in (List.mem_of_getElem? (i := 1077) (by decide +kernel)), tb_in (List.mem_of_getElem? (i := 12) (by decide +kernel)), by decide⟩
theorem okv_X12_remember : okV M_X12_remember 0 11 := ⟨RX12, TX12, 36, okm_X12_remember, rfl, tb_in (List.mem_of_getElem? (i := 1076) (by decide +kernel)), List.mem_append_left _ (List.mem_of_getElem? (i := 41) (by decide +kernel)), rfl⟩
theorem okm_X12_sheetsFor : okM M_X12_sheetsFor 1 := ⟨⟨by decide +kernel, by decide +kernel, by decide +kernel⟩, tb_in (List.mem_of_getElem? (i := 1085) (by decide +kernel)), tb_in (List.mem_of_getElem? (i := 12) (by decide +kernel)), by decide⟩
theorem okv_X12_sheetsFor : okV M_X12_sheetsFor 1 11 := ⟨RX12, TX12, 36, okm_X12_sheetsFor, rfl, tb_in (List.mem_of_getElem? (i := 1084) (by decide +kernel)), List.mem_append_left _ (List.mem_of_getElem? (i := 43) (by decide +kernel)), rfl⟩
theorem okm_X12_wraps : okM M_X12_wraps 1 := ⟨⟨by decide +kernel, by decide +kernel, by decide +kernel⟩, tb_in (List.mem_of_getElem? (i := 1081) (by decide +kernel)), tb_in (List.mem_of_getElem? (i := 12) (by decide +kernel)), by decide⟩
theorem okv_X12_wraps : okV M_X12_wraps 1 11 := ⟨RX12, TX12, 36, okm_X12_wraps, rfl, tb_in (List.mem_of_getElem? (i := 1080) (by decide +kernel)), List.mem_append_left _ (List.mem_of_getElem? (i := 42) (by decide +kernel)), rfl⟩
theorem okm_X12_wrap : okM M_X12_wrap 1 := ⟨⟨by decide +kernel, by decide +kernel, by decide +kernel⟩, tb_in (List.mem_of_getElem? (i := 1072) (by decide +kernel)), tb_in (List.mem_of_getElem? (i := 12) (by decide +kernel)), by decide⟩
theorem okv_X12_wrap : okV M_X12_wrap 1 11 := ⟨RX12, TX12, 36, okm_X12_wrap, rfl, tb_in (List.mem_of_getElem? (i := 1070) (by decide +kernel)), tb_in (List.mem_of_getElem? (i := 1071) (by decide +kernel)), rfl⟩
theorem okm_X12_potsFree : okM M_X12_potsFree 0 := ⟨⟨by decide +kernel, by decide +kernel, by decide +kernel⟩, tb_in (List.mem_of_getElem? (i := 1102) (by decide +kernel)), tb_in (List.mem_of_getElem? (i := 12) (by decide +kernel)), by decide⟩
theorem okv_X12_potsFree : okV M_X12_potsFree 0 11 := ⟨RX12, TX12, 36, okm_X12_potsFree, rfl, tb_in (List.mem_of_getElem? (i := 1101) (by decide +kernel)), List.mem_append_left _ (List.mem_of_getElem? (i := 45) (by decide +kernel)), rfl⟩
theorem okm_X12_putOn : okM M_X12_putOn 1 := ⟨⟨by decide +kernel, by decide +kernel, by decide +kernel⟩, tb_in (List.mem_of_getElem? (i := 1098) (by decide +kernel)), tb_in (List.mem_of_getElem? (i := 12) (by decide +kernel)), by decide⟩
theorem okv_X12_putOn : okV M_X12_putOn 1 11 := ⟨RX12, TX12, 36, okm_X12_putOn, rfl, tb_in (List.mem_of_getElem? (i := 1096) (by decide +kernel)), tb_in (List.mem_of_getElem? (i := 1097) (by decide +kernel)), rfl⟩
theorem okm_X12_takeOff : okM M_X12_takeOff 1 := ⟨⟨by decide +kernel, by decide +kernel, by decide +kernel⟩, tb_in (List.mem_of_getElem? (i := 1106) (by decide +kernel)), tb_in (List.mem_of_getElem? (i := 12) (by decide +kernel)), by decide⟩
theorem okv_X12_takeOff : okV M_X12_takeOff 1 11 := ⟨RX12, TX12, 36, okm_X12_takeOff, rfl, tb_in (List.mem_of_getElem? (i := 1104) (by decide +kernel)), tb_in (List.mem_of_getElem? (i := 1105) (by decide +kernel)), rfl⟩
theorem okm_X12_softens : okM M_X12_softens 2 := ⟨⟨by decide +kernel, by decide +kernel, by decide +kernel⟩, tb_in (List.mem_of_getElem? (i := 1126) (by decide +kernel)), tb_in (List.mem_of_getElem? (i := 12) (by decide +kernel)), by decide⟩
theorem okv_X12_softens : okV M_X12_softens 2 11 := ⟨RX12, TX12, 36, okm_X12_softens, rfl, tb_in (List.mem_of_getElem? (i := 1125) (by decide +kernel)), List.mem_append_left _ (List.mem_of_getElem? (i := 49) (by decide +kernel)), rfl⟩
theorem okm_X12_less : okM M_X12_less 2 := ⟨⟨by decide +kernel, by decide +kernel, by decide +kernel⟩, tb_in (List.mem_of_getElem? (i := 1129) (by decide +kernel)), tb_in (List.mem_of_getElem? (i := 12) (by decide +kernel)), by decide⟩
theorem oks_X12_less : okS M_X12_less 2 := ⟨okm_X12_less, tb_in (List.mem_of_getElem? (i := 1128) (by decide +kernel))⟩
theorem okm_X12_passes : okM M_X12_passes 0 := ⟨⟨by decide +kernel, by decide +kernel, by decide +kernel⟩, tb_in (List.mem_of_getElem? (i := 1122) (by decide +kernel)), tb_in (List.mem_of_getElem? (i := 12) (by decide +kernel)), by decide⟩
theorem okv_X12_passes : okV M_X12_passes 0 11 := ⟨RX12, TX12, 36, okm_X12_passes, rfl, tb_in (List.mem_of_getElem? (i := 1121) (by decide +kernel)), List.mem_append_left _ (List.mem_of_getElem? (i := 48) (by decide +kernel)), rfl⟩
theorem okm_X12_needHours : okM M_X12_needHours 1 := ⟨⟨by decide +kernel, by decide +kernel, by decide +kernel⟩, tb_in (List.mem_of_getElem? (i := 1114) (by decide +kernel)), tb_in (List.mem_of_getElem? (i := 12) (by decide +kernel)), by decide⟩
theorem okv_X12_needHours : okV M_X12_needHours 1 11 := ⟨RX12, TX12, 36, okm_X12_needHours, rfl, tb_in (List.mem_of_getElem? (i := 1113) (by decide +kernel)), List.mem_append_left _ (List.mem_of_getElem? (i := 46) (by decide +kernel)), rfl⟩
theorem okm_X12_hour : okM M_X12_hour 1 := ⟨⟨by decide +kernel, by decide +kernel, by decide +kernel⟩, tb_in (List.mem_of_getElem? (i := 1110) (by decide +kernel)), tb_in (List.mem_of_getElem? (i := 12) (by decide +kernel)), by decide⟩
theorem okv_X12_hour : okV M_X12_hour 1 11 := ⟨RX12, TX12, 36, okm_X12_hour, rfl, tb_in (List.mem_of_getElem? (i := 1108) (by decide +kernel)), tb_in (List.mem_of_getElem? (i := 1109) (by decide +kernel)), rfl⟩
theorem okm_X12_canBeBorne : okM M_X12_canBeBorne 1 := ⟨⟨by decide +kernel, by decide +kernel, by decide +kernel⟩, tb_in (List.mem_of_getElem? (i := 1137) (by decide +kernel)), tb_in (List.mem_of_getElem? (i := 12) (by decide +kernel)), by decide⟩
theorem okv_X12_canBeBorne : okV M_X12_canBeBorne 1 11 := ⟨RX12, TX12, 36, okm_X12_canBeBorne, rfl, tb_in (List.mem_of_getElem? (i := 1136) (by decide +kernel)), List.mem_append_left _ (List.mem_of_getElem? (i := 50) (by decide +kernel)), rfl⟩
theorem okm_X12_bears : okM M_X12_bears 1 := ⟨⟨by decide +kernel, by decide +kernel, by decide +kernel⟩, tb_in (List.mem_of_getElem? (i := 1141) (by decide +kernel)), tb_in (List.mem_of_getElem? (i := 12) (by decide +kernel)), by decide⟩
theorem okv_X12_bears : okV M_X12_bears 1 11 := ⟨RX12, TX12, 36, okm_X12_bears, rfl, tb_in (List.mem_of_getElem? (i := 1140) (by decide +kernel)), List.mem_append_left _ (List.mem_of_getElem? (i := 51) (by decide +kernel)), rfl⟩
theorem okm_X12_bear : okM M_X12_bear 1 := ⟨⟨by decide +kernel, by decide +kernel, by decide +kernel⟩, tb_in (List.mem_of_getElem? (i := 1133) (by decide +kernel)), tb_in (List.mem_of_getElem? (i := 12) (by decide +kernel)), by decide⟩
theorem okv_X12_bear : okV M_X12_bear 1 11 := ⟨RX12, TX12, 36, okm_X12_bear, rfl, tb_in (List.mem_of_getElem? (i := 1131) (by decide +kernel)), tb_in (List.mem_of_getElem? (i := 1132) (by decide +kernel)), rfl⟩
theorem okm_X12_rests : okM M_X12_rests 0 := ⟨⟨by decide +kernel, by decide +kernel, by decide +kernel⟩, tb_in (List.mem_of_getElem? (i := 1149) (by decide +kernel)), tb_in (List.mem_of_getElem? (i := 12) (by decide +kernel)), by decide⟩
theorem okv_X12_rests : okV M_X12_rests 0 11 := ⟨RX12, TX12, 36, okm_X12_rests, rfl, tb_in (List.mem_of_getElem? (i := 1148) (by decide +kernel)), List.mem_append_left _ (List.mem_of_getElem? (i := 52) (by decide +kernel)), rfl⟩
theorem okm_X12_rest : okM M_X12_rest 0 := ⟨⟨by decide +kernel, by decide +kernel, by decide +kernel⟩, tb_in (List.mem_of_getElem? (i := 1145) (by decide +kernel)), tb_in (List.mem_of_getElem? (i := 12) (by decide +kernel)), by decide⟩
theorem okv_X12_rest : okV M_X12_rest 0 11 := ⟨RX12, TX12, 36, okm_X12_rest, rfl, tb_in (List.mem_of_getElem? (i := 1143) (by decide +kernel)), tb_in (List.mem_of_getElem? (i := 1144) (by decide +kernel)), rfl⟩
theorem okm_X12_cut : okM M_X12_cut 2 := ⟨⟨by decide +kernel, by decide +kernel, by decide +kernel⟩, tb_in (List.mem_of_getElem? (i := 1153) (by decide +kernel)), tb_in (List.mem_of_getElem? (i := 12) (by decide +kernel)), by decide⟩
theorem okv_X12_cut : okV M_X12_cut 2 11 := ⟨RX12, TX12, 36, okm_X12_cut, rfl, tb_in (List.mem_of_getElem? (i := 1151) (by decide +kernel)), tb_in (List.mem_of_getElem? (i := 1152) (by decide +kernel)), rfl⟩
theorem okm_X12_draw : okM M_X12_draw 1 := ⟨⟨by decide +kernel, by decide +kernel, by decide +kernel⟩, tb_in (List.mem_of_getElem? (i := 1161) (by decide +kernel)), tb_in (List.mem_of_getElem? (i := 12) (by decide +kernel)), by decide⟩
theorem okv_X12_draw : okV M_X12_draw 1 11 := ⟨RX12, TX12, 36, okm_X12_draw, rfl, tb_in (List.mem_of_getElem? (i := 1160) (by decide +kernel)), List.mem_append_left _ (List.mem_of_getElem? (i := 53) (by decide +kernel)), rfl⟩
theorem okm_X12_does : okM M_X12_does 2 := ⟨⟨by decide +kernel, by decide +kernel, by decide +kernel⟩, tb_in (List.mem_of_getElem? (i := 1169) (by decide +kernel)), tb_in (List.mem_of_getElem? (i := 12) (by decide +kernel)), by decide⟩
theorem okv_X12_does : okV M_X12_does 2 11 := ⟨RX12, TX12, 36, okm_X12_does, rfl, tb_in (List.mem_of_getElem? (i := 1168) (by decide +kernel)), List.mem_append_left _ (List.mem_of_getElem? (i := 54) (by decide +kernel)), rfl⟩
theorem okm_X12_drift : okM M_X12_drift 1 := ⟨⟨by decide +kernel, by decide +kernel, by decide +kernel⟩, tb_in (List.mem_of_getElem? (i := 1157) (by decide +kernel)), tb_in (List.mem_of_getElem? (i := 12) (by decide +kernel)), by decide⟩
theorem okv_X12_drift : okV M_X12_drift 1 11 := ⟨RX12, TX12, 36, okm_X12_drift, rfl, tb_in (List.mem_of_getElem? (i := 1155) (by decide +kernel)), tb_in (List.mem_of_getElem? (i := 1156) (by decide +kernel)), rfl⟩
theorem okm_X12_undo : okM M_X12_undo 0 := ⟨⟨by decide +kernel, by decide +kernel, by decide +kernel⟩, tb_in (List.mem_of_getElem? (i := 1173) (by decide +kernel)), tb_in (List.mem_of_getElem? (i := 12) (by decide +kernel)), by decide⟩
theorem okv_X12_undo : okV M_X12_undo 0 11 := ⟨RX12, TX12, 36, okm_X12_undo, rfl, tb_in (List.mem_of_getElem? (i := 1171) (by decide +kernel)), tb_in (List.mem_of_getElem? (i := 1172) (by decide +kernel)), rfl⟩
theorem okm_X12_sheet : okM M_X12_sheet 1 := ⟨⟨by decide +kernel, by decide +kernel, by decide +kernel⟩, tb_in (List.mem_of_getElem? (i := 1092) (by decide +kernel)), tb_in (List.mem_of_getElem? (i := 12) (by decide +kernel)), by decide⟩
theorem oks_X12_sheet : okS M_X12_sheet 1 := ⟨okm_X12_sheet, tb_in (List.mem_of_getElem? (i := 1091) (by decide +kernel))⟩
theorem okm_X12_fewestSheets : okM M_X12_fewestSheets 2 := ⟨⟨by decide +kernel, by decide +kernel, by decide +kernel⟩, tb_in (List.mem_of_getElem? (i := 1089) (by decide +kernel)), tb_in (List.mem_of_getElem? (i := 12) (by decide +kernel)), by decide⟩
theorem okv_X12_fewestSheets : okV M_X12_fewestSheets 2 11 := ⟨RX12, TX12, 36, okm_X12_fewestSheets, rfl, tb_in (List.mem_of_getElem? (i := 1088) (by decide +kernel)), List.mem_append_left _ (List.mem_of_getElem? (i := 44) (by decide +kernel)), rfl⟩
theorem okm_X12_sideOf : okM M_X12_sideOf 1 := ⟨⟨by decide +kernel, by decide +kernel, by decide +kernel⟩, tb_in (List.mem_of_getElem? (i := 1180) (by decide +kernel)), tb_in (List.mem_of_getElem? (i := 12) (by decide +kernel)), by decide⟩
theorem oks_X12_sideOf : okS M_X12_sideOf 1 := ⟨okm_X12_sideOf, tb_in (List.mem_of_getElem? (i := 1179) (by decide +kernel))⟩
theorem okm_X12_span : okM M_X12_span 1 := ⟨⟨by decide +kernel, by decide +kernel, by decide +kernel⟩, tb_in (List.mem_of_getElem? (i := 1183) (by decide +kernel)), tb_in (List.mem_of_getElem? (i := 12) (by decide +kernel)), by decide⟩
theorem oks_X12_span : okS M_X12_span 1 := ⟨okm_X12_span, tb_in (List.mem_of_getElem? (i := 1182) (by decide +kernel))⟩
theorem okm_X12_toWrap : okM M_X12_toWrap 2 := ⟨⟨by decide +kernel, by decide +kernel, by decide +kernel⟩, tb_in (List.mem_of_getElem? (i := 1177) (by decide +kernel)), tb_in (List.mem_of_getElem? (i := 12) (by decide +kernel)), by decide⟩
theorem okv_X12_toWrap : okV M_X12_toWrap 2 11 := ⟨RX12, TX12, 36, okm_X12_toWrap, rfl, tb_in (List.mem_of_getElem? (i := 1175) (by decide +kernel)), tb_in (List.mem_of_getElem? (i := 1176) (by decide +kernel)), rfl⟩
theorem okm_X12_softBehind : okM M_X12_softBehind 2 := ⟨⟨by decide +kernel, by decide +kernel, by decide +kernel⟩, tb_in (List.mem_of_getElem? (i := 1191) (by decide +kernel)), tb_in (List.mem_of_getElem? (i := 12) (by decide +kernel)), by decide⟩
theorem okv_X12_softBehind : okV M_X12_softBehind 2 11 := ⟨RX12, TX12, 36, okm_X12_softBehind, rfl, tb_in (List.mem_of_getElem? (i := 1190) (by decide +kernel)), List.mem_append_left _ (List.mem_of_getElem? (i := 55) (by decide +kernel)), rfl⟩
theorem okm_X12_soft : okM M_X12_soft 2 := ⟨⟨by decide +kernel, by decide +kernel, by decide +kernel⟩, tb_in (List.mem_of_getElem? (i := 1187) (by decide +kernel)), tb_in (List.mem_of_getElem? (i := 12) (by decide +kernel)), by decide⟩
theorem okv_X12_soft : okV M_X12_soft 2 11 := ⟨RX12, TX12, 36, okm_X12_soft, rfl, tb_in (List.mem_of_getElem? (i := 1185) (by decide +kernel)), tb_in (List.mem_of_getElem? (i := 1186) (by decide +kernel)), rfl⟩
theorem okm_X12_softIn : okM M_X12_softIn 2 := ⟨⟨by decide +kernel, by decide +kernel, by decide +kernel⟩, tb_in (List.mem_of_getElem? (i := 1199) (by decide +kernel)), tb_in (List.mem_of_getElem? (i := 12) (by decide +kernel)), by decide⟩
theorem okv_X12_softIn : okV M_X12_softIn 2 11 := ⟨RX12, TX12, 36, okm_X12_softIn, rfl, tb_in (List.mem_of_getElem? (i := 1198) (by decide +kernel)), List.mem_append_left _ (List.mem_of_getElem? (i := 56) (by decide +kernel)), rfl⟩
theorem okm_X12_when : okM M_X12_when 1 := ⟨⟨by decide +kernel, by decide +kernel, by decide +kernel⟩, tb_in (List.mem_of_getElem? (i := 1195) (by decide +kernel)), tb_in (List.mem_of_getElem? (i := 12) (by decide +kernel)), by decide⟩
theorem okv_X12_when : okV M_X12_when 1 11 := ⟨RX12, TX12, 36, okm_X12_when, rfl, tb_in (List.mem_of_getElem? (i := 1193) (by decide +kernel)), tb_in (List.mem_of_getElem? (i := 1194) (by decide +kernel)), rfl⟩
theorem okm_X12_sumOf : okM M_X12_sumOf 2 := ⟨⟨by decide +kernel, by decide +kernel, by decide +kernel⟩, tb_in (List.mem_of_getElem? (i := 1208) (by decide +kernel)), tb_in (List.mem_of_getElem? (i := 12) (by decide +kernel)), by decide⟩
theorem okv_X12_sumOf : okV M_X12_sumOf 2 11 := ⟨RX12, TX12, 36, okm_X12_sumOf, rfl, tb_in (List.mem_of_getElem? (i := 1207) (by decide +kernel)), List.mem_append_left _ (List.mem_of_getElem? (i := 57) (by decide +kernel)), rfl⟩
theorem okm_X12_nextFigures : okM M_X12_nextFigures 2 := ⟨⟨by decide +kernel, by decide +kernel, by decide +kernel⟩, tb_in (List.mem_of_getElem? (i := 1211) (by decide +kernel)), tb_in (List.mem_of_getElem? (i := 12) (by decide +kernel)), by decide⟩
theorem oks_X12_nextFigures : okS M_X12_nextFigures 2 := ⟨okm_X12_nextFigures, tb_in (List.mem_of_getElem? (i := 1210) (by decide +kernel))⟩
theorem okm_X12_order : okM M_X12_order 2 := ⟨⟨by decide +kernel, by decide +kernel, by decide +kernel⟩, tb_in (List.mem_of_getElem? (i := 1203) (by decide +kernel)), tb_in (List.mem_of_getElem? (i := 12) (by decide +kernel)), by decide⟩
theorem okv_X12_order : okV M_X12_order 2 11 := ⟨RX12, TX12, 36, okm_X12_order, rfl, tb_in (List.mem_of_getElem? (i := 1201) (by decide +kernel)), tb_in (List.mem_of_getElem? (i := 1202) (by decide +kernel)), rfl⟩
theorem okm_X12_ahead : okM M_X12_ahead 2 := ⟨⟨by decide +kernel, by decide +kernel, by decide +kernel⟩, tb_in (List.mem_of_getElem? (i := 1218) (by decide +kernel)), tb_in (List.mem_of_getElem? (i := 12) (by decide +kernel)), by decide⟩
theorem oks_X12_ahead : okS M_X12_ahead 2 := ⟨okm_X12_ahead, tb_in (List.mem_of_getElem? (i := 1217) (by decide +kernel))⟩
theorem okm_X12_halves : okM M_X12_halves 2 := ⟨⟨by decide +kernel, by decide +kernel, by decide +kernel⟩, tb_in (List.mem_of_getElem? (i := 1215) (by decide +kernel)), tb_in (List.mem_of_getElem? (i := 12) (by decide +kernel)), by decide⟩
theorem okv_X12_halves : okV M_X12_halves 2 11 := ⟨RX12, TX12, 36, okm_X12_halves, rfl, tb_in (List.mem_of_getElem? (i := 1213) (by decide +kernel)), tb_in (List.mem_of_getElem? (i := 1214) (by decide +kernel)), rfl⟩
theorem okm_X12_mild : okM M_X12_mild 2 := ⟨⟨by decide +kernel, by decide +kernel, by decide +kernel⟩, tb_in (List.mem_of_getElem? (i := 1222) (by decide +kernel)), tb_in (List.mem_of_getElem? (i := 12) (by decide +kernel)), by decide⟩
theorem okv_X12_mild : okV M_X12_mild 2 11 := ⟨RX12, TX12, 36, okm_X12_mild, rfl, tb_in (List.mem_of_getElem? (i := 1220) (by decide +kernel)), tb_in (List.mem_of_getElem? (i := 1221) (by decide +kernel)), rfl⟩
theorem okm_X12_bump : okM M_X12_bump 2 := ⟨⟨by decide +kernel, by decide +kernel, by decide +kernel⟩, tb_in (List.mem_of_getElem? (i := 1228) (by decide +kernel)), tb_in (List.mem_of_getElem? (i := 12) (by decide +kernel)), by decide⟩
theorem okv_X12_bump : okV M_X12_bump 2 11 := ⟨RX12, TX12, 36, okm_X12_bump, rfl, tb_in (List.mem_of_getElem? (i := 1226) (by decide +kernel)), tb_in (List.mem_of_getElem? (i := 1227) (by decide +kernel)), rfl⟩
theorem okm_X12_moved : okM M_X12_moved 3 := ⟨⟨by decide +kernel, by decide +kernel, by decide +kernel⟩, tb_in (List.mem_of_getElem? (i := 1010) (by decide +kernel)), tb_in (List.mem_of_getElem? (i := 12) (by decide +kernel)), by decide⟩
theorem oks_X12_moved : okS M_X12_moved 3 := ⟨okm_X12_moved, tb_in (List.mem_of_getElem? (i := 1009) (by decide +kernel))⟩
theorem okm_X12_fit : okM M_X12_fit 1 := ⟨⟨by decide +kernel, by decide +kernel, by decide +kernel⟩, tb_in (List.mem_of_getElem? (i := 1007) (by decide +kernel)), tb_in (List.mem_of_getElem? (i := 12) (by decide +kernel)), by decide⟩
theorem okv_X12_fit : okV M_X12_fit 1 11 := ⟨RX12, TX12, 36, okm_X12_fit, rfl, tb_in (List.mem_of_getElem? (i := 1006) (by decide +kernel)), List.mem_append_left _ (List.mem_of_getElem? (i := 34) (by decide +kernel)), rfl⟩
theorem okm_X12_within : okM M_X12_within 0 := ⟨⟨by decide +kernel, by decide +kernel, by decide +kernel⟩, tb_in (List.mem_of_getElem? (i := 1003) (by decide +kernel)), tb_in (List.mem_of_getElem? (i := 12) (by decide +kernel)), by decide⟩
theorem okv_X12_within : okV M_X12_within 0 11 := ⟨RX12, TX12, 36, okm_X12_within, rfl, tb_in (List.mem_of_getElem? (i := 1002) (by decide +kernel)), List.mem_append_left _ (List.mem_of_getElem? (i := 33) (by decide +kernel)), rfl⟩
theorem okm_X12_fitMany : okM M_X12_fitMany 0 := ⟨⟨by decide +kernel, by decide +kernel, by decide +kernel⟩, tb_in (List.mem_of_getElem? (i := 1017) (by decide +kernel)), tb_in (List.mem_of_getElem? (i := 12) (by decide +kernel)), by decide⟩
theorem okv_X12_fitMany : okV M_X12_fitMany 0 11 := ⟨RX12, TX12, 36, okm_X12_fitMany, rfl, tb_in (List.mem_of_getElem? (i := 1016) (by decide +kernel)), List.mem_append_left _ (List.mem_of_getElem? (i := 35) (by decide +kernel)), rfl⟩
theorem okm_X12_weave : okM M_X12_weave 0 := ⟨⟨by decide +kernel, by decide +kernel, by decide +kernel⟩, tb_in (List.mem_of_getElem? (i := 1021) (by decide +kernel)), tb_in (List.mem_of_getElem? (i := 12) (by decide +kernel)), by decide⟩
theorem okv_X12_weave : okV M_X12_weave 0 11 := ⟨RX12, TX12, 36, okm_X12_weave, rfl, tb_in (List.mem_of_getElem? (i := 1020) (by decide +kernel)), List.mem_append_left _ (List.mem_of_getElem? (i := 36) (by decide +kernel)), rfl⟩
theorem okm_X12_write : okM M_X12_write 2 := ⟨⟨by decide +kernel, by decide +kernel, by decide +kernel⟩, tb_in (List.mem_of_getElem? (i := 1232) (by decide +kernel)), tb_in (List.mem_of_getElem? (i := 12) (by decide +kernel)), by decide⟩
theorem okv_X12_write : okV M_X12_write 2 11 := ⟨RX12, TX12, 36, okm_X12_write, rfl, tb_in (List.mem_of_getElem? (i := 1230) (by decide +kernel)), tb_in (List.mem_of_getElem? (i := 1231) (by decide +kernel)), rfl⟩
theorem okm_X12_tear : okM M_X12_tear 0 := ⟨⟨by decide +kernel, by decide +kernel, by decide +kernel⟩, tb_in (List.mem_of_getElem? (i := 1236) (by decide +kernel)), tb_in (List.mem_of_getElem? (i := 12) (by decide +kernel)), by decide⟩
theorem okv_X12_tear : okV M_X12_tear 0 11 := ⟨RX12, TX12, 36, okm_X12_tear, rfl, tb_in (List.mem_of_getElem? (i := 1234) (by decide +kernel)), tb_in (List.mem_of_getElem? (i := 1235) (by decide +kernel)), rfl⟩
theorem okm_X12_judge : okM M_X12_judge 0 := ⟨⟨by decide +kernel, by decide +kernel, by decide +kernel⟩, tb_in (List.mem_of_getElem? (i := 1240) (by decide +kernel)), tb_in (List.mem_of_getElem? (i := 12) (by decide +kernel)), by decide⟩
theorem okv_X12_judge : okV M_X12_judge 0 11 := ⟨RX12, TX12, 36, okm_X12_judge, rfl, tb_in (List.mem_of_getElem? (i := 1238) (by decide +kernel)), tb_in (List.mem_of_getElem? (i := 1239) (by decide +kernel)), rfl⟩
theorem okm_X12_seed : okM M_X12_seed 1 := ⟨⟨by decide +kernel, by decide +kernel, by decide +kernel⟩, tb_in (List.mem_of_getElem? (i := 1244) (by decide +kernel)), tb_in (List.mem_of_getElem? (i := 12) (by decide +kernel)), by decide⟩
theorem okv_X12_seed : okV M_X12_seed 1 11 := ⟨RX12, TX12, 36, okm_X12_seed, rfl, tb_in (List.mem_of_getElem? (i := 1242) (by decide +kernel)), tb_in (List.mem_of_getElem? (i := 1243) (by decide +kernel)), rfl⟩
theorem okm_X12_keep : okM M_X12_keep 1 := ⟨⟨by decide +kernel, by decide +kernel, by decide +kernel⟩, tb_in (List.mem_of_getElem? (i := 1248) (by decide +kernel)), tb_in (List.mem_of_getElem? (i := 12) (by decide +kernel)), by decide⟩
theorem okv_X12_keep : okV M_X12_keep 1 11 := ⟨RX12, TX12, 36, okm_X12_keep, rfl, tb_in (List.mem_of_getElem? (i := 1246) (by decide +kernel)), tb_in (List.mem_of_getElem? (i := 1247) (by decide +kernel)), rfl⟩
theorem okm_X12_goBack : okM M_X12_goBack 1 := ⟨⟨by decide +kernel, by decide +kernel, by decide +kernel⟩, tb_in (List.mem_of_getElem? (i := 1252) (by decide +kernel)), tb_in (List.mem_of_getElem? (i := 12) (by decide +kernel)), by decide⟩
theorem okv_X12_goBack : okV M_X12_goBack 1 11 := ⟨RX12, TX12, 36, okm_X12_goBack, rfl, tb_in (List.mem_of_getElem? (i := 1250) (by decide +kernel)), tb_in (List.mem_of_getElem? (i := 1251) (by decide +kernel)), rfl⟩
theorem okm_J6_bitCount_0f7a4 : okM M_J6_bitCount_0f7a4 1 := ⟨⟨by decide +kernel, by decide +kernel, by decide +kernel⟩, tb_in (List.mem_of_getElem? (i := 525) (by decide +kernel)), tb_in (List.mem_of_getElem? (i := 16) (by decide +kernel)), by decide⟩
theorem oks_J6_bitCount_0f7a4 : okS M_J6_bitCount_0f7a4 1 := ⟨okm_J6_bitCount_0f7a4, tb_in (List.mem_of_getElem? (i := 524) (by decide +kernel))⟩
theorem okm_J9_max_7cf53 : okM M_J9_max_7cf53 2 := ⟨⟨by decide +kernel, by decide +kernel, by decide +kernel⟩, tb_in (List.mem_of_getElem? (i := 498) (by decide +kernel)), tb_in (List.mem_of_getElem? (i := 13) (by decide +kernel)), by decide⟩
theorem oks_J9_max_7cf53 : okS M_J9_max_7cf53 2 := ⟨okm_J9_max_7cf53, tb_in (List.mem_of_getElem? (i := 497) (by decide +kernel))⟩
theorem okm_J9_min_7cf53 : okM M_J9_min_7cf53 2 := ⟨⟨by decide +kernel, by decide +kernel, by decide +kernel⟩, tb_in (List.mem_of_getElem? (i := 370) (by decide +kernel)), tb_in (List.mem_of_getElem? (i := 13) (by decide +kernel)), by decide⟩
theorem oks_J9_min_7cf53 : okS M_J9_min_7cf53 2 := ⟨okm_J9_min_7cf53, tb_in (List.mem_of_getElem? (i := 369) (by decide +kernel))⟩
theorem c12_0 : cls12[0]? = some (RX0, TX0, 3) := rfl
theorem c12_1 : cls12[1]? = some (RX1, TX1, 6) := rfl
theorem c12_2 : cls12[2]? = some (RX2, TX2, 4) := rfl
theorem c12_3 : cls12[3]? = some (RX3, TX3, 1) := rfl
theorem c12_4 : cls12[4]? = some (RX4, TX4, 4) := rfl
theorem c12_5 : cls12[5]? = some (RX5, TX5, 6) := rfl
theorem c12_6 : cls12[6]? = some (RX6, TX6, 8) := rfl
theorem c12_7 : cls12[7]? = some (RX7, TX7, 5) := rfl
theorem c12_8 : cls12[8]? = some (RX8, TX8, 6) := rfl
theorem c12_9 : cls12[9]? = some (RX10, TX10, 2) := rfl
theorem c12_10 : cls12[10]? = some (RX11, TX11, 12) := rfl
theorem c12_11 : cls12[11]? = some (RX12, TX12, 36) := rfl
theorem k0_0 : K0 0 = (14, 0) := rfl
theorem g0_0_0 : G0 0 0 = some 1 := rfl
theorem g0_0_1 : G0 0 1 = some 3 := rfl
theorem g0_0_2 : G0 0 2 = some 8 := rfl
theorem g0_0_3 : G0 0 3 = some 13 := rfl
theorem g0_0_4 : G0 0 4 = some 18 := rfl
theorem g0_0_5 : G0 0 5 = some 21 := rfl
theorem g0_0_6 : G0 0 6 = some 22 := rfl
theorem g0_0_7 : G0 0 7 = some 23 := rfl
theorem g0_0_8 : G0 0 8 = some 118 := rfl
theorem g0_0_9 : G0 0 9 = some 120 := rfl
theorem g0_0_10 : G0 0 10 = some 122 := rfl
theorem k0_1 : K0 1 = (11, 0) := rfl
theorem g0_1_0 : G0 1 0 = some 2 := rfl
theorem k0_2 : K0 2 = (0, 240) := rfl
theorem k0_3 : K0 3 = (10, 0) := rfl
theorem g0_3_4 : G0 3 4 = some 4 := rfl
theorem g0_3_5 : G0 3 5 = some 5 := rfl
theorem g0_3_6 : G0 3 6 = some 6 := rfl
theorem g0_3_7 : G0 3 7 = some 7 := rfl
theorem k0_4 : K0 4 = (0, 6) := rfl
theorem k0_5 : K0 5 = (0, 6) := rfl
theorem k0_6 : K0 6 = (0, 6) := rfl
theorem k0_7 : K0 7 = (0, 6) := rfl
theorem k0_8 : K0 8 = (10, 0) := rfl
theorem g0_8_4 : G0 8 4 = some 9 := rfl
theorem g0_8_5 : G0 8 5 = some 10 := rfl
theorem g0_8_6 : G0 8 6 = some 11 := rfl
theorem g0_8_7 : G0 8 7 = some 12 := rfl
theorem k0_9 : K0 9 = (0, 6) := rfl
theorem k0_10 : K0 10 = (0, 6) := rfl
theorem k0_11 : K0 11 = (0, 6) := rfl
theorem k0_12 : K0 12 = (0, 6) := rfl
theorem k0_13 : K0 13 = (12, 0) := rfl
theorem g0_13_2 : G0 13 2 = some 14 := rfl
theorem g0_13_3 : G0 13 3 = some 15 := rfl
theorem g0_13_4 : G0 13 4 = some 16 := rfl
theorem g0_13_5 : G0 13 5 = some 17 := rfl
theorem k0_14 : K0 14 = (0, 6) := rfl
theorem k0_15 : K0 15 = (0, 6) := rfl
theorem k0_16 : K0 16 = (0, 6) := rfl
theorem k0_17 : K0 17 = (0, 6) := rfl
theorem k0_18 : K0 18 = (13, 0) := rfl
theorem g0_18_0 : G0 18 0 = some 19 := rfl
theorem g0_18_1 : G0 18 1 = some 20 := rfl
theorem k0_19 : K0 19 = (0, 16) := rfl
theorem k0_20 : K0 20 = (0, 16) := rfl
theorem k0_21 : K0 21 = (7, 0) := rfl
theorem k0_22 : K0 22 = (6, 0) := rfl
theorem g0_22_0 : G0 22 0 = some 8 := rfl
theorem g0_22_1 : G0 22 1 = some 13 := rfl
theorem g0_22_2 : G0 22 2 = some 18 := rfl
theorem g0_22_3 : G0 22 3 = some 21 := rfl
theorem k0_23 : K0 23 = (9, 0) := rfl
theorem g0_23_0 : G0 23 0 = some 24 := rfl
theorem g0_23_1 : G0 23 1 = some 25 := rfl
theorem g0_23_2 : G0 23 2 = some 26 := rfl
theorem g0_23_3 : G0 23 3 = some 27 := rfl
theorem k0_24 : K0 24 = (3, 16) := rfl
theorem k0_25 : K0 25 = (3, 2) := rfl
theorem k0_26 : K0 26 = (0, 2) := rfl
theorem k0_27 : K0 27 = (1, 2) := rfl
theorem k0_118 : K0 118 = (8, 0) := rfl
theorem g0_118_0 : G0 118 0 = some 119 := rfl
theorem k0_119 : K0 119 = (0, 12) := rfl
theorem k0_120 : K0 120 = (5, 0) := rfl
theorem g0_120_5 : G0 120 5 = some 121 := rfl
theorem k0_121 : K0 121 = (0, 25) := rfl
theorem k0_122 : K0 122 = (4, 0) := rfl
theorem g0_122_1 : G0 122 1 = some 123 := rfl
theorem g0_122_2 : G0 122 2 = some 124 := rfl
theorem k0_123 : K0 123 = (0, 15) := rfl
theorem k0_124 : K0 124 = (0, 15) := rfl
theorem k0_125 : K0 125 = (15, 0) := rfl
theorem g0_125_1 : G0 125 1 = some 126 := rfl
theorem g0_125_10 : G0 125 10 = some 127 := rfl
theorem g0_125_11 : G0 125 11 = some 128 := rfl
theorem g0_125_12 : G0 125 12 = some 129 := rfl
theorem g0_125_13 : G0 125 13 = some 130 := rfl
theorem g0_125_18 : G0 125 18 = some 131 := rfl
theorem g0_125_19 : G0 125 19 = some 132 := rfl
theorem g0_125_20 : G0 125 20 = some 133 := rfl
theorem g0_125_23 : G0 125 23 = some 134 := rfl
theorem g0_125_25 : G0 125 25 = some 135 := rfl
theorem g0_125_27 : G0 125 27 = some 136 := rfl
theorem g0_125_28 : G0 125 28 = some 137 := rfl
theorem g0_125_29 : G0 125 29 = some 138 := rfl
theorem g0_125_31 : G0 125 31 = some 139 := rfl
theorem g0_125_32 : G0 125 32 = some 140 := rfl
theorem g0_125_33 : G0 125 33 = some 141 := rfl
theorem g0_125_34 : G0 125 34 = some 142 := rfl
theorem g0_125_35 : G0 125 35 = some 143 := rfl
theorem k0_126 : K0 126 = (0, 240) := rfl
theorem k0_127 : K0 127 = (0, 6) := rfl
theorem k0_128 : K0 128 = (0, 6) := rfl
theorem k0_129 : K0 129 = (0, 6) := rfl
theorem k0_130 : K0 130 = (0, 6) := rfl
theorem k0_131 : K0 131 = (0, 6) := rfl
theorem k0_132 : K0 132 = (0, 6) := rfl
theorem k0_133 : K0 133 = (0, 26) := rfl
theorem k0_134 : K0 134 = (0, 416) := rfl
theorem k0_135 : K0 135 = (0, 16) := rfl
theorem k0_136 : K0 136 = (0, 6) := rfl
theorem k0_137 : K0 137 = (1, 6) := rfl
theorem k0_138 : K0 138 = (0, 25) := rfl
theorem k0_139 : K0 139 = (0, 15) := rfl
theorem k0_140 : K0 140 = (0, 15) := rfl
theorem k0_141 : K0 141 = (1, 2) := rfl
theorem k0_142 : K0 142 = (0, 52) := rfl
theorem k0_143 : K0 143 = (2, 2) := rfl
theorem ci_m1 : Int32.ofInt (-1) = (-1) := by decide
theorem ci_0 : Int32.ofInt 0 = 0 := by decide
theorem ci_1 : Int32.ofInt 1 = 1 := by decide
theorem ci_2 : Int32.ofInt 2 = 2 := by decide
theorem ci_3 : Int32.ofInt 3 = 3 := by decide
theorem ci_4 : Int32.ofInt 4 = 4 := by decide
theorem ci_5 : Int32.ofInt 5 = 5 := by decide
theorem cb_m10 : (Int8.ofInt (-10)).toInt32 = (-10) := by decide
theorem cb_6 : (Int8.ofInt 6).toInt32 = 6 := by decide
theorem cb_8 : (Int8.ofInt 8).toInt32 = 8 := by decide
theorem cb_9 : (Int8.ofInt 9).toInt32 = 9 := by decide
theorem cb_10 : (Int8.ofInt 10).toInt32 = 10 := by decide
theorem cb_11 : (Int8.ofInt 11).toInt32 = 11 := by decide
theorem cb_14 : (Int8.ofInt 14).toInt32 = 14 := by decide
theorem cb_15 : (Int8.ofInt 15).toInt32 = 15 := by decide
theorem cb_16 : (Int8.ofInt 16).toInt32 = 16 := by decide
theorem cb_17 : (Int8.ofInt 17).toInt32 = 17 := by decide
theorem cb_20 : (Int8.ofInt 20).toInt32 = 20 := by decide
theorem cb_24 : (Int8.ofInt 24).toInt32 = 24 := by decide
theorem cb_25 : (Int8.ofInt 25).toInt32 = 25 := by decide
theorem cb_26 : (Int8.ofInt 26).toInt32 = 26 := by decide
theorem cb_30 : (Int8.ofInt 30).toInt32 = 30 := by decide
theorem cb_31 : (Int8.ofInt 31).toInt32 = 31 := by decide
theorem cb_32 : (Int8.ofInt 32).toInt32 = 32 := by decide
theorem cb_44 : (Int8.ofInt 44).toInt32 = 44 := by decide
theorem cb_48 : (Int8.ofInt 48).toInt32 = 48 := by decide
theorem cb_57 : (Int8.ofInt 57).toInt32 = 57 := by decide
theorem cb_59 : (Int8.ofInt 59).toInt32 = 59 := by decide
theorem cb_60 : (Int8.ofInt 60).toInt32 = 60 := by decide
theorem cb_63 : (Int8.ofInt 63).toInt32 = 63 := by decide
theorem cb_100 : (Int8.ofInt 100).toInt32 = 100 := by decide
theorem cb_101 : (Int8.ofInt 101).toInt32 = 101 := by decide
theorem cb_102 : (Int8.ofInt 102).toInt32 = 102 := by decide
theorem cb_116 : (Int8.ofInt 116).toInt32 = 116 := by decide
theorem cs_200 : (Int16.ofInt 200).toInt32 = 200 := by decide
theorem cs_240 : (Int16.ofInt 240).toInt32 = 240 := by decide
theorem cs_255 : (Int16.ofInt 255).toInt32 = 255 := by decide
theorem cs_500 : (Int16.ofInt 500).toInt32 = 500 := by decide
theorem cs_999 : (Int16.ofInt 999).toInt32 = 999 := by decide
theorem cs_1000 : (Int16.ofInt 1000).toInt32 = 1000 := by decide
theorem cs_9000 : (Int16.ofInt 9000).toInt32 = 9000 := by decide
theorem cs_12345 : (Int16.ofInt 12345).toInt32 = 12345 := by decide
end
