section
-- ===== PART A: goes FIRST, ahead of the names: the tables' words, and 'selects' of the private methods out of them =====
/-- a private method of a class that the tables say can be made, by its rows of tables_1 -/
def lw_okq (q : MethodName × Nat) : Prop := (q.1.cls ≠ "java/lang/invoke/MethodHandle" ∧ q.1.cls ≠ "java/lang/invoke/VarHandle") ∧ Cond.instantiable q.1.cls q.2 ∈ tables_1 ∧ Cond.privateMethod q.1 ∈ tables_1 ∧ Cond.instanceMethod q.1 ∈ tables_1
theorem lw_p0 : lw_okq (⟨"SuetTroubles$Reader", "skipBlanks", "()V"⟩, 5) := ⟨⟨by decide +kernel, by decide +kernel⟩, List.mem_of_getElem? (i := 26) (by decide +kernel), List.mem_of_getElem? (i := 338) (by decide +kernel), List.mem_of_getElem? (i := 339) (by decide +kernel)⟩
theorem lw_p1 : lw_okq (⟨"SuetTroubles$Reader", "here", "()I"⟩, 5) := ⟨⟨by decide +kernel, by decide +kernel⟩, List.mem_of_getElem? (i := 26) (by decide +kernel), List.mem_of_getElem? (i := 342) (by decide +kernel), List.mem_of_getElem? (i := 343) (by decide +kernel)⟩
theorem lw_p2 : lw_okq (⟨"SuetTroubles$Reader", "readClause", "(LSuetTroubles$Plan;)V"⟩, 5) := ⟨⟨by decide +kernel, by decide +kernel⟩, List.mem_of_getElem? (i := 26) (by decide +kernel), List.mem_of_getElem? (i := 346) (by decide +kernel), List.mem_of_getElem? (i := 347) (by decide +kernel)⟩
theorem lw_p3 : lw_okq (⟨"SuetTroubles$Reader", "readFire", "(LSuetTroubles$Plan;)V"⟩, 5) := ⟨⟨by decide +kernel, by decide +kernel⟩, List.mem_of_getElem? (i := 26) (by decide +kernel), List.mem_of_getElem? (i := 350) (by decide +kernel), List.mem_of_getElem? (i := 351) (by decide +kernel)⟩
theorem lw_p4 : lw_okq (⟨"SuetTroubles$Reader", "blame", "(II)V"⟩, 5) := ⟨⟨by decide +kernel, by decide +kernel⟩, List.mem_of_getElem? (i := 26) (by decide +kernel), List.mem_of_getElem? (i := 358) (by decide +kernel), List.mem_of_getElem? (i := 359) (by decide +kernel)⟩
theorem lw_p5 : lw_okq (⟨"SuetTroubles$Reader", "readNumber", "(II)I"⟩, 5) := ⟨⟨by decide +kernel, by decide +kernel⟩, List.mem_of_getElem? (i := 26) (by decide +kernel), List.mem_of_getElem? (i := 362) (by decide +kernel), List.mem_of_getElem? (i := 363) (by decide +kernel)⟩
theorem lw_p6 : lw_okq (⟨"SuetTroubles$Reader", "readSign", "(I)V"⟩, 5) := ⟨⟨by decide +kernel, by decide +kernel⟩, List.mem_of_getElem? (i := 26) (by decide +kernel), List.mem_of_getElem? (i := 372) (by decide +kernel), List.mem_of_getElem? (i := 373) (by decide +kernel)⟩
theorem lw_p7 : lw_okq (⟨"SuetTroubles$Reader", "readTrouble", "(LSuetTroubles$Plan;)V"⟩, 5) := ⟨⟨by decide +kernel, by decide +kernel⟩, List.mem_of_getElem? (i := 26) (by decide +kernel), List.mem_of_getElem? (i := 376) (by decide +kernel), List.mem_of_getElem? (i := 377) (by decide +kernel)⟩
theorem lw_p8 : lw_okq (⟨"SuetTroubles$Reader", "readEater", "(LSuetTroubles$Plan;)V"⟩, 5) := ⟨⟨by decide +kernel, by decide +kernel⟩, List.mem_of_getElem? (i := 26) (by decide +kernel), List.mem_of_getElem? (i := 384) (by decide +kernel), List.mem_of_getElem? (i := 385) (by decide +kernel)⟩
theorem lw_p9 : lw_okq (⟨"SuetTroubles$Past", "forgetUndone", "()V"⟩, 6) := ⟨⟨by decide +kernel, by decide +kernel⟩, List.mem_of_getElem? (i := 184) (by decide +kernel), List.mem_of_getElem? (i := 408) (by decide +kernel), List.mem_of_getElem? (i := 409) (by decide +kernel)⟩
theorem lw_p10 : lw_okq (⟨"SuetTroubles$Cloth", "feelAll", "(LSuetTroubles$Plan;LSuetTroubles$Scene;)V"⟩, 6) := ⟨⟨by decide +kernel, by decide +kernel⟩, List.mem_of_getElem? (i := 236) (by decide +kernel), List.mem_of_getElem? (i := 456) (by decide +kernel), List.mem_of_getElem? (i := 457) (by decide +kernel)⟩
theorem lw_p11 : lw_okq (⟨"SuetTroubles$Cloth", "feelMoves", "(I)V"⟩, 6) := ⟨⟨by decide +kernel, by decide +kernel⟩, List.mem_of_getElem? (i := 236) (by decide +kernel), List.mem_of_getElem? (i := 460) (by decide +kernel), List.mem_of_getElem? (i := 461) (by decide +kernel)⟩
theorem lw_p12 : lw_okq (⟨"SuetTroubles$Cloth", "countPair", "(I)V"⟩, 6) := ⟨⟨by decide +kernel, by decide +kernel⟩, List.mem_of_getElem? (i := 236) (by decide +kernel), List.mem_of_getElem? (i := 485) (by decide +kernel), List.mem_of_getElem? (i := 486) (by decide +kernel)⟩
theorem lw_p13 : lw_okq (⟨"SuetTroubles$Sheets", "addRow", "(I)V"⟩, 2) := ⟨⟨by decide +kernel, by decide +kernel⟩, List.mem_of_getElem? (i := 140) (by decide +kernel), List.mem_of_getElem? (i := 585) (by decide +kernel), List.mem_of_getElem? (i := 586) (by decide +kernel)⟩
theorem lw_p14 : lw_okq (⟨"SuetTroubles", "refusalOfHours", "(I)I"⟩, 12) := ⟨⟨by decide +kernel, by decide +kernel⟩, List.mem_of_getElem? (i := 18) (by decide +kernel), List.mem_of_getElem? (i := 613) (by decide +kernel), List.mem_of_getElem? (i := 614) (by decide +kernel)⟩
theorem lw_p15 : lw_okq (⟨"SuetTroubles$Deeds", "softenedBy", "(I)I"⟩, 4) := ⟨⟨by decide +kernel, by decide +kernel⟩, List.mem_of_getElem? (i := 165) (by decide +kernel), List.mem_of_getElem? (i := 626) (by decide +kernel), List.mem_of_getElem? (i := 627) (by decide +kernel)⟩
def lw_privs_1 : List (MethodName × Nat) := [(⟨"SuetTroubles$Reader", "skipBlanks", "()V"⟩, 5), (⟨"SuetTroubles$Reader", "here", "()I"⟩, 5), (⟨"SuetTroubles$Reader", "readClause", "(LSuetTroubles$Plan;)V"⟩, 5), (⟨"SuetTroubles$Reader", "readFire", "(LSuetTroubles$Plan;)V"⟩, 5), (⟨"SuetTroubles$Reader", "blame", "(II)V"⟩, 5), (⟨"SuetTroubles$Reader", "readNumber", "(II)I"⟩, 5), (⟨"SuetTroubles$Reader", "readSign", "(I)V"⟩, 5), (⟨"SuetTroubles$Reader", "readTrouble", "(LSuetTroubles$Plan;)V"⟩, 5), (⟨"SuetTroubles$Reader", "readEater", "(LSuetTroubles$Plan;)V"⟩, 5), (⟨"SuetTroubles$Past", "forgetUndone", "()V"⟩, 6), (⟨"SuetTroubles$Cloth", "feelAll", "(LSuetTroubles$Plan;LSuetTroubles$Scene;)V"⟩, 6), (⟨"SuetTroubles$Cloth", "feelMoves", "(I)V"⟩, 6), (⟨"SuetTroubles$Cloth", "countPair", "(I)V"⟩, 6), (⟨"SuetTroubles$Sheets", "addRow", "(I)V"⟩, 2), (⟨"SuetTroubles", "refusalOfHours", "(I)I"⟩, 12), (⟨"SuetTroubles$Deeds", "softenedBy", "(I)I"⟩, 4)]
theorem lw_r1 : ∀ q ∈ lw_privs_1, lw_okq q := List.forall_mem_cons.mpr ⟨lw_p0, List.forall_mem_cons.mpr ⟨lw_p1, List.forall_mem_cons.mpr ⟨lw_p2, List.forall_mem_cons.mpr ⟨lw_p3, List.forall_mem_cons.mpr ⟨lw_p4, List.forall_mem_cons.mpr ⟨lw_p5, List.forall_mem_cons.mpr ⟨lw_p6, List.forall_mem_cons.mpr ⟨lw_p7, List.forall_mem_cons.mpr ⟨lw_p8, List.forall_mem_cons.mpr ⟨lw_p9, List.forall_mem_cons.mpr ⟨lw_p10, List.forall_mem_cons.mpr ⟨lw_p11, List.forall_mem_cons.mpr ⟨lw_p12, List.forall_mem_cons.mpr ⟨lw_p13, List.forall_mem_cons.mpr ⟨lw_p14, List.forall_mem_cons.mpr ⟨lw_p15, fun _ h => absurd h List.not_mem_nil⟩⟩⟩⟩⟩⟩⟩⟩⟩⟩⟩⟩⟩⟩⟩⟩
theorem lw_p16 : lw_okq (⟨"SuetTroubles$Orders", "tryNext", "(IIIII)V"⟩, 4) := ⟨⟨by decide +kernel, by decide +kernel⟩, List.mem_of_getElem? (i := 215) (by decide +kernel), List.mem_of_getElem? (i := 730) (by decide +kernel), List.mem_of_getElem? (i := 731) (by decide +kernel)⟩
theorem lw_p17 : lw_okq (⟨"SuetTroublesModel", "readsKitchen", "()Z"⟩, 36) := ⟨⟨by decide +kernel, by decide +kernel⟩, List.mem_of_getElem? (i := 800) (by decide +kernel), List.mem_of_getElem? (i := 929) (by decide +kernel), List.mem_of_getElem? (i := 930) (by decide +kernel)⟩
theorem lw_p18 : lw_okq (⟨"SuetTroublesModel", "nextLetter", "()I"⟩, 36) := ⟨⟨by decide +kernel, by decide +kernel⟩, List.mem_of_getElem? (i := 800) (by decide +kernel), List.mem_of_getElem? (i := 933) (by decide +kernel), List.mem_of_getElem? (i := 934) (by decide +kernel)⟩
theorem lw_p19 : lw_okq (⟨"SuetTroublesModel", "letterAt", "(I)I"⟩, 36) := ⟨⟨by decide +kernel, by decide +kernel⟩, List.mem_of_getElem? (i := 800) (by decide +kernel), List.mem_of_getElem? (i := 937) (by decide +kernel), List.mem_of_getElem? (i := 938) (by decide +kernel)⟩
theorem lw_p20 : lw_okq (⟨"SuetTroublesModel", "readsClause", "()Z"⟩, 36) := ⟨⟨by decide +kernel, by decide +kernel⟩, List.mem_of_getElem? (i := 800) (by decide +kernel), List.mem_of_getElem? (i := 941) (by decide +kernel), List.mem_of_getElem? (i := 942) (by decide +kernel)⟩
theorem lw_p21 : lw_okq (⟨"SuetTroublesModel", "readsHead", "()Z"⟩, 36) := ⟨⟨by decide +kernel, by decide +kernel⟩, List.mem_of_getElem? (i := 800) (by decide +kernel), List.mem_of_getElem? (i := 945) (by decide +kernel), List.mem_of_getElem? (i := 946) (by decide +kernel)⟩
theorem lw_p22 : lw_okq (⟨"SuetTroublesModel", "readsNumber", "(II)I"⟩, 36) := ⟨⟨by decide +kernel, by decide +kernel⟩, List.mem_of_getElem? (i := 800) (by decide +kernel), List.mem_of_getElem? (i := 949) (by decide +kernel), List.mem_of_getElem? (i := 950) (by decide +kernel)⟩
theorem lw_p23 : lw_okq (⟨"SuetTroublesModel", "fails", "(II)I"⟩, 36) := ⟨⟨by decide +kernel, by decide +kernel⟩, List.mem_of_getElem? (i := 800) (by decide +kernel), List.mem_of_getElem? (i := 953) (by decide +kernel), List.mem_of_getElem? (i := 954) (by decide +kernel)⟩
theorem lw_p24 : lw_okq (⟨"SuetTroublesModel", "readsSign", "(I)Z"⟩, 36) := ⟨⟨by decide +kernel, by decide +kernel⟩, List.mem_of_getElem? (i := 800) (by decide +kernel), List.mem_of_getElem? (i := 957) (by decide +kernel), List.mem_of_getElem? (i := 958) (by decide +kernel)⟩
theorem lw_p25 : lw_okq (⟨"SuetTroublesModel", "readsTrouble", "()Z"⟩, 36) := ⟨⟨by decide +kernel, by decide +kernel⟩, List.mem_of_getElem? (i := 800) (by decide +kernel), List.mem_of_getElem? (i := 961) (by decide +kernel), List.mem_of_getElem? (i := 962) (by decide +kernel)⟩
theorem lw_p26 : lw_okq (⟨"SuetTroublesModel", "readsEater", "()Z"⟩, 36) := ⟨⟨by decide +kernel, by decide +kernel⟩, List.mem_of_getElem? (i := 800) (by decide +kernel), List.mem_of_getElem? (i := 965) (by decide +kernel), List.mem_of_getElem? (i := 966) (by decide +kernel)⟩
theorem lw_p27 : lw_okq (⟨"SuetTroublesModel", "are", "(I)I"⟩, 36) := ⟨⟨by decide +kernel, by decide +kernel⟩, List.mem_of_getElem? (i := 800) (by decide +kernel), List.mem_of_getElem? (i := 977) (by decide +kernel), List.mem_of_getElem? (i := 978) (by decide +kernel)⟩
theorem lw_p28 : lw_okq (⟨"SuetTroublesModel", "good", "()I"⟩, 36) := ⟨⟨by decide +kernel, by decide +kernel⟩, List.mem_of_getElem? (i := 800) (by decide +kernel), List.mem_of_getElem? (i := 981) (by decide +kernel), List.mem_of_getElem? (i := 982) (by decide +kernel)⟩
theorem lw_p29 : lw_okq (⟨"SuetTroublesModel", "isGood", "(I)Z"⟩, 36) := ⟨⟨by decide +kernel, by decide +kernel⟩, List.mem_of_getElem? (i := 800) (by decide +kernel), List.mem_of_getElem? (i := 985) (by decide +kernel), List.mem_of_getElem? (i := 986) (by decide +kernel)⟩
theorem lw_p30 : lw_okq (⟨"SuetTroublesModel", "leftAll", "()I"⟩, 36) := ⟨⟨by decide +kernel, by decide +kernel⟩, List.mem_of_getElem? (i := 800) (by decide +kernel), List.mem_of_getElem? (i := 989) (by decide +kernel), List.mem_of_getElem? (i := 990) (by decide +kernel)⟩
theorem lw_p31 : lw_okq (⟨"SuetTroublesModel", "left", "(I)I"⟩, 36) := ⟨⟨by decide +kernel, by decide +kernel⟩, List.mem_of_getElem? (i := 800) (by decide +kernel), List.mem_of_getElem? (i := 993) (by decide +kernel), List.mem_of_getElem? (i := 994) (by decide +kernel)⟩
def lw_privs_2 : List (MethodName × Nat) := [(⟨"SuetTroubles$Orders", "tryNext", "(IIIII)V"⟩, 4), (⟨"SuetTroublesModel", "readsKitchen", "()Z"⟩, 36), (⟨"SuetTroublesModel", "nextLetter", "()I"⟩, 36), (⟨"SuetTroublesModel", "letterAt", "(I)I"⟩, 36), (⟨"SuetTroublesModel", "readsClause", "()Z"⟩, 36), (⟨"SuetTroublesModel", "readsHead", "()Z"⟩, 36), (⟨"SuetTroublesModel", "readsNumber", "(II)I"⟩, 36), (⟨"SuetTroublesModel", "fails", "(II)I"⟩, 36), (⟨"SuetTroublesModel", "readsSign", "(I)Z"⟩, 36), (⟨"SuetTroublesModel", "readsTrouble", "()Z"⟩, 36), (⟨"SuetTroublesModel", "readsEater", "()Z"⟩, 36), (⟨"SuetTroublesModel", "are", "(I)I"⟩, 36), (⟨"SuetTroublesModel", "good", "()I"⟩, 36), (⟨"SuetTroublesModel", "isGood", "(I)Z"⟩, 36), (⟨"SuetTroublesModel", "leftAll", "()I"⟩, 36), (⟨"SuetTroublesModel", "left", "(I)I"⟩, 36)]
theorem lw_r2 : ∀ q ∈ lw_privs_2, lw_okq q := List.forall_mem_cons.mpr ⟨lw_p16, List.forall_mem_cons.mpr ⟨lw_p17, List.forall_mem_cons.mpr ⟨lw_p18, List.forall_mem_cons.mpr ⟨lw_p19, List.forall_mem_cons.mpr ⟨lw_p20, List.forall_mem_cons.mpr ⟨lw_p21, List.forall_mem_cons.mpr ⟨lw_p22, List.forall_mem_cons.mpr ⟨lw_p23, List.forall_mem_cons.mpr ⟨lw_p24, List.forall_mem_cons.mpr ⟨lw_p25, List.forall_mem_cons.mpr ⟨lw_p26, List.forall_mem_cons.mpr ⟨lw_p27, List.forall_mem_cons.mpr ⟨lw_p28, List.forall_mem_cons.mpr ⟨lw_p29, List.forall_mem_cons.mpr ⟨lw_p30, List.forall_mem_cons.mpr ⟨lw_p31, fun _ h => absurd h List.not_mem_nil⟩⟩⟩⟩⟩⟩⟩⟩⟩⟩⟩⟩⟩⟩⟩⟩
theorem lw_p32 : lw_okq (⟨"SuetTroublesModel", "strongest", "()I"⟩, 36) := ⟨⟨by decide +kernel, by decide +kernel⟩, List.mem_of_getElem? (i := 800) (by decide +kernel), List.mem_of_getElem? (i := 997) (by decide +kernel), List.mem_of_getElem? (i := 998) (by decide +kernel)⟩
theorem lw_p33 : lw_okq (⟨"SuetTroublesModel", "within", "()I"⟩, 36) := ⟨⟨by decide +kernel, by decide +kernel⟩, List.mem_of_getElem? (i := 800) (by decide +kernel), List.mem_of_getElem? (i := 1001) (by decide +kernel), List.mem_of_getElem? (i := 1002) (by decide +kernel)⟩
theorem lw_p34 : lw_okq (⟨"SuetTroublesModel", "fit", "(I)I"⟩, 36) := ⟨⟨by decide +kernel, by decide +kernel⟩, List.mem_of_getElem? (i := 800) (by decide +kernel), List.mem_of_getElem? (i := 1005) (by decide +kernel), List.mem_of_getElem? (i := 1006) (by decide +kernel)⟩
theorem lw_p35 : lw_okq (⟨"SuetTroublesModel", "fitMany", "()I"⟩, 36) := ⟨⟨by decide +kernel, by decide +kernel⟩, List.mem_of_getElem? (i := 800) (by decide +kernel), List.mem_of_getElem? (i := 1015) (by decide +kernel), List.mem_of_getElem? (i := 1016) (by decide +kernel)⟩
theorem lw_p36 : lw_okq (⟨"SuetTroublesModel", "weave", "()I"⟩, 36) := ⟨⟨by decide +kernel, by decide +kernel⟩, List.mem_of_getElem? (i := 800) (by decide +kernel), List.mem_of_getElem? (i := 1019) (by decide +kernel), List.mem_of_getElem? (i := 1020) (by decide +kernel)⟩
theorem lw_p37 : lw_okq (⟨"SuetTroublesModel", "isTrouble", "(I)Z"⟩, 36) := ⟨⟨by decide +kernel, by decide +kernel⟩, List.mem_of_getElem? (i := 800) (by decide +kernel), List.mem_of_getElem? (i := 1027) (by decide +kernel), List.mem_of_getElem? (i := 1028) (by decide +kernel)⟩
theorem lw_p38 : lw_okq (⟨"SuetTroublesModel", "isBearable", "(I)Z"⟩, 36) := ⟨⟨by decide +kernel, by decide +kernel⟩, List.mem_of_getElem? (i := 800) (by decide +kernel), List.mem_of_getElem? (i := 1054) (by decide +kernel), List.mem_of_getElem? (i := 1055) (by decide +kernel)⟩
theorem lw_p39 : lw_okq (⟨"SuetTroublesModel", "weight", "(I)I"⟩, 36) := ⟨⟨by decide +kernel, by decide +kernel⟩, List.mem_of_getElem? (i := 800) (by decide +kernel), List.mem_of_getElem? (i := 1058) (by decide +kernel), List.mem_of_getElem? (i := 1059) (by decide +kernel)⟩
theorem lw_p40 : lw_okq (⟨"SuetTroublesModel", "isEater", "(I)Z"⟩, 36) := ⟨⟨by decide +kernel, by decide +kernel⟩, List.mem_of_getElem? (i := 800) (by decide +kernel), List.mem_of_getElem? (i := 1066) (by decide +kernel), List.mem_of_getElem? (i := 1067) (by decide +kernel)⟩
theorem lw_p41 : lw_okq (⟨"SuetTroublesModel", "remember", "()V"⟩, 36) := ⟨⟨by decide +kernel, by decide +kernel⟩, List.mem_of_getElem? (i := 800) (by decide +kernel), List.mem_of_getElem? (i := 1075) (by decide +kernel), List.mem_of_getElem? (i := 1076) (by decide +kernel)⟩
theorem lw_p42 : lw_okq (⟨"SuetTroublesModel", "wraps", "(I)I"⟩, 36) := ⟨⟨by decide +kernel, by decide +kernel⟩, List.mem_of_getElem? (i := 800) (by decide +kernel), List.mem_of_getElem? (i := 1079) (by decide +kernel), List.mem_of_getElem? (i := 1080) (by decide +kernel)⟩
theorem lw_p43 : lw_okq (⟨"SuetTroublesModel", "sheetsFor", "(I)I"⟩, 36) := ⟨⟨by decide +kernel, by decide +kernel⟩, List.mem_of_getElem? (i := 800) (by decide +kernel), List.mem_of_getElem? (i := 1083) (by decide +kernel), List.mem_of_getElem? (i := 1084) (by decide +kernel)⟩
theorem lw_p44 : lw_okq (⟨"SuetTroublesModel", "fewestSheets", "(IZ)I"⟩, 36) := ⟨⟨by decide +kernel, by decide +kernel⟩, List.mem_of_getElem? (i := 800) (by decide +kernel), List.mem_of_getElem? (i := 1087) (by decide +kernel), List.mem_of_getElem? (i := 1088) (by decide +kernel)⟩
theorem lw_p45 : lw_okq (⟨"SuetTroublesModel", "potsFree", "()I"⟩, 36) := ⟨⟨by decide +kernel, by decide +kernel⟩, List.mem_of_getElem? (i := 800) (by decide +kernel), List.mem_of_getElem? (i := 1100) (by decide +kernel), List.mem_of_getElem? (i := 1101) (by decide +kernel)⟩
theorem lw_p46 : lw_okq (⟨"SuetTroublesModel", "needHours", "(I)I"⟩, 36) := ⟨⟨by decide +kernel, by decide +kernel⟩, List.mem_of_getElem? (i := 800) (by decide +kernel), List.mem_of_getElem? (i := 1112) (by decide +kernel), List.mem_of_getElem? (i := 1113) (by decide +kernel)⟩
theorem lw_p47 : lw_okq (⟨"SuetTroublesModel", "isKitchen", "()Z"⟩, 36) := ⟨⟨by decide +kernel, by decide +kernel⟩, List.mem_of_getElem? (i := 800) (by decide +kernel), List.mem_of_getElem? (i := 1116) (by decide +kernel), List.mem_of_getElem? (i := 1117) (by decide +kernel)⟩
def lw_privs_3 : List (MethodName × Nat) := [(⟨"SuetTroublesModel", "strongest", "()I"⟩, 36), (⟨"SuetTroublesModel", "within", "()I"⟩, 36), (⟨"SuetTroublesModel", "fit", "(I)I"⟩, 36), (⟨"SuetTroublesModel", "fitMany", "()I"⟩, 36), (⟨"SuetTroublesModel", "weave", "()I"⟩, 36), (⟨"SuetTroublesModel", "isTrouble", "(I)Z"⟩, 36), (⟨"SuetTroublesModel", "isBearable", "(I)Z"⟩, 36), (⟨"SuetTroublesModel", "weight", "(I)I"⟩, 36), (⟨"SuetTroublesModel", "isEater", "(I)Z"⟩, 36), (⟨"SuetTroublesModel", "remember", "()V"⟩, 36), (⟨"SuetTroublesModel", "wraps", "(I)I"⟩, 36), (⟨"SuetTroublesModel", "sheetsFor", "(I)I"⟩, 36), (⟨"SuetTroublesModel", "fewestSheets", "(IZ)I"⟩, 36), (⟨"SuetTroublesModel", "potsFree", "()I"⟩, 36), (⟨"SuetTroublesModel", "needHours", "(I)I"⟩, 36), (⟨"SuetTroublesModel", "isKitchen", "()Z"⟩, 36)]
theorem lw_r3 : ∀ q ∈ lw_privs_3, lw_okq q := List.forall_mem_cons.mpr ⟨lw_p32, List.forall_mem_cons.mpr ⟨lw_p33, List.forall_mem_cons.mpr ⟨lw_p34, List.forall_mem_cons.mpr ⟨lw_p35, List.forall_mem_cons.mpr ⟨lw_p36, List.forall_mem_cons.mpr ⟨lw_p37, List.forall_mem_cons.mpr ⟨lw_p38, List.forall_mem_cons.mpr ⟨lw_p39, List.forall_mem_cons.mpr ⟨lw_p40, List.forall_mem_cons.mpr ⟨lw_p41, List.forall_mem_cons.mpr ⟨lw_p42, List.forall_mem_cons.mpr ⟨lw_p43, List.forall_mem_cons.mpr ⟨lw_p44, List.forall_mem_cons.mpr ⟨lw_p45, List.forall_mem_cons.mpr ⟨lw_p46, List.forall_mem_cons.mpr ⟨lw_p47, fun _ h => absurd h List.not_mem_nil⟩⟩⟩⟩⟩⟩⟩⟩⟩⟩⟩⟩⟩⟩⟩⟩
theorem lw_p48 : lw_okq (⟨"SuetTroublesModel", "passes", "()V"⟩, 36) := ⟨⟨by decide +kernel, by decide +kernel⟩, List.mem_of_getElem? (i := 800) (by decide +kernel), List.mem_of_getElem? (i := 1120) (by decide +kernel), List.mem_of_getElem? (i := 1121) (by decide +kernel)⟩
theorem lw_p49 : lw_okq (⟨"SuetTroublesModel", "softens", "(II)I"⟩, 36) := ⟨⟨by decide +kernel, by decide +kernel⟩, List.mem_of_getElem? (i := 800) (by decide +kernel), List.mem_of_getElem? (i := 1124) (by decide +kernel), List.mem_of_getElem? (i := 1125) (by decide +kernel)⟩
theorem lw_p50 : lw_okq (⟨"SuetTroublesModel", "canBeBorne", "(I)Z"⟩, 36) := ⟨⟨by decide +kernel, by decide +kernel⟩, List.mem_of_getElem? (i := 800) (by decide +kernel), List.mem_of_getElem? (i := 1135) (by decide +kernel), List.mem_of_getElem? (i := 1136) (by decide +kernel)⟩
theorem lw_p51 : lw_okq (⟨"SuetTroublesModel", "bears", "(I)V"⟩, 36) := ⟨⟨by decide +kernel, by decide +kernel⟩, List.mem_of_getElem? (i := 800) (by decide +kernel), List.mem_of_getElem? (i := 1139) (by decide +kernel), List.mem_of_getElem? (i := 1140) (by decide +kernel)⟩
theorem lw_p52 : lw_okq (⟨"SuetTroublesModel", "rests", "()I"⟩, 36) := ⟨⟨by decide +kernel, by decide +kernel⟩, List.mem_of_getElem? (i := 800) (by decide +kernel), List.mem_of_getElem? (i := 1147) (by decide +kernel), List.mem_of_getElem? (i := 1148) (by decide +kernel)⟩
theorem lw_p53 : lw_okq (⟨"SuetTroublesModel", "draw", "(I)I"⟩, 36) := ⟨⟨by decide +kernel, by decide +kernel⟩, List.mem_of_getElem? (i := 800) (by decide +kernel), List.mem_of_getElem? (i := 1159) (by decide +kernel), List.mem_of_getElem? (i := 1160) (by decide +kernel)⟩
theorem lw_p54 : lw_okq (⟨"SuetTroublesModel", "does", "(II)V"⟩, 36) := ⟨⟨by decide +kernel, by decide +kernel⟩, List.mem_of_getElem? (i := 800) (by decide +kernel), List.mem_of_getElem? (i := 1167) (by decide +kernel), List.mem_of_getElem? (i := 1168) (by decide +kernel)⟩
theorem lw_p55 : lw_okq (⟨"SuetTroublesModel", "softBehind", "(II)I"⟩, 36) := ⟨⟨by decide +kernel, by decide +kernel⟩, List.mem_of_getElem? (i := 800) (by decide +kernel), List.mem_of_getElem? (i := 1189) (by decide +kernel), List.mem_of_getElem? (i := 1190) (by decide +kernel)⟩
theorem lw_p56 : lw_okq (⟨"SuetTroublesModel", "softIn", "(II)I"⟩, 36) := ⟨⟨by decide +kernel, by decide +kernel⟩, List.mem_of_getElem? (i := 800) (by decide +kernel), List.mem_of_getElem? (i := 1197) (by decide +kernel), List.mem_of_getElem? (i := 1198) (by decide +kernel)⟩
theorem lw_p57 : lw_okq (⟨"SuetTroublesModel", "sumOf", "(II)I"⟩, 36) := ⟨⟨by decide +kernel, by decide +kernel⟩, List.mem_of_getElem? (i := 800) (by decide +kernel), List.mem_of_getElem? (i := 1206) (by decide +kernel), List.mem_of_getElem? (i := 1207) (by decide +kernel)⟩
def lw_privs_4 : List (MethodName × Nat) := [(⟨"SuetTroublesModel", "passes", "()V"⟩, 36), (⟨"SuetTroublesModel", "softens", "(II)I"⟩, 36), (⟨"SuetTroublesModel", "canBeBorne", "(I)Z"⟩, 36), (⟨"SuetTroublesModel", "bears", "(I)V"⟩, 36), (⟨"SuetTroublesModel", "rests", "()I"⟩, 36), (⟨"SuetTroublesModel", "draw", "(I)I"⟩, 36), (⟨"SuetTroublesModel", "does", "(II)V"⟩, 36), (⟨"SuetTroublesModel", "softBehind", "(II)I"⟩, 36), (⟨"SuetTroublesModel", "softIn", "(II)I"⟩, 36), (⟨"SuetTroublesModel", "sumOf", "(II)I"⟩, 36)]
theorem lw_r4 : ∀ q ∈ lw_privs_4, lw_okq q := List.forall_mem_cons.mpr ⟨lw_p48, List.forall_mem_cons.mpr ⟨lw_p49, List.forall_mem_cons.mpr ⟨lw_p50, List.forall_mem_cons.mpr ⟨lw_p51, List.forall_mem_cons.mpr ⟨lw_p52, List.forall_mem_cons.mpr ⟨lw_p53, List.forall_mem_cons.mpr ⟨lw_p54, List.forall_mem_cons.mpr ⟨lw_p55, List.forall_mem_cons.mpr ⟨lw_p56, List.forall_mem_cons.mpr ⟨lw_p57, fun _ h => absurd h List.not_mem_nil⟩⟩⟩⟩⟩⟩⟩⟩⟩⟩
def lw_privs : List (MethodName × Nat) := lw_privs_1 ++ (lw_privs_2 ++ (lw_privs_3 ++ (lw_privs_4)))
def lw_tbl : List Cond := k2_sels lw_privs ++ tables_1
theorem lw_privs_ok : ∀ q ∈ lw_privs, lw_okq q := by
  show ∀ q ∈ lw_privs_1 ++ (lw_privs_2 ++ (lw_privs_3 ++ (lw_privs_4))), lw_okq q
  exact List.forall_mem_append.mpr ⟨lw_r1, List.forall_mem_append.mpr ⟨lw_r2, List.forall_mem_append.mpr ⟨lw_r3, lw_r4⟩⟩⟩
-- names, as printed
def RX0 : String := "SuetTroubles$Book"
def TX0 : u_T := fun k => match k with
  | 0 => ("SuetTroubles$Book", "entries", "I", false)
  | 1 => ("SuetTroubles$Book", "who", "[I", true)
  | _ => ("SuetTroubles$Book", "said", "[I", true)
def tyX0 : Nat → FieldType := fun k => match k with
  | 0 => .int
  | 1 => .array .int
  | _ => .array .int
abbrev wsX00 : List Cond := u_ws RX0 TX0 3
theorem nmX0 : ∀ a, a < 3 → ∀ b, b < 3 → a ≠ b → (TX0 a).2.1 ≠ (TX0 b).2.1 := by decide +kernel
theorem tyX0_ok : ∀ k, k < 3 → parseFieldDescriptor (TX0 k).2.2.1 = some (tyX0 k) := by decide +kernel
abbrev cX0_init : ByteArray := prog_2_method_1_code
def yX0_init : MethodName := ⟨RX0, "<init>", "()V"⟩
abbrev cX0_add : ByteArray := prog_2_method_2_code
def yX0_add : MethodName := ⟨RX0, "add", "(II)I"⟩
abbrev cX0_clear : ByteArray := prog_2_method_3_code
def yX0_clear : MethodName := ⟨RX0, "clear", "()V"⟩
abbrev cX0_firstWrong : ByteArray := prog_2_method_4_code
def yX0_firstWrong : MethodName := ⟨RX0, "firstWrong", "(LSuetTroubles$Scene;)I"⟩
def RX1 : String := "SuetTroubles$Cloth"
def TX1 : u_T := fun k => match k with
  | 0 => ("SuetTroubles$Cloth", "bumps", "I", false)
  | 1 => ("SuetTroubles$Cloth", "full", "I", false)
  | 2 => ("SuetTroubles$Cloth", "notFull", "I", false)
  | 3 => ("SuetTroubles$Cloth", "withinSet", "I", false)
  | 4 => ("SuetTroubles$Cloth", "pairCount", "I", false)
  | _ => ("SuetTroubles$Cloth", "fullPairs", "[I", true)
def tyX1 : Nat → FieldType := fun k => match k with
  | 0 => .int
  | 1 => .int
  | 2 => .int
  | 3 => .int
  | 4 => .int
  | _ => .array .int
abbrev wsX10 : List Cond := u_ws RX1 TX1 6
theorem nmX1 : ∀ a, a < 6 → ∀ b, b < 6 → a ≠ b → (TX1 a).2.1 ≠ (TX1 b).2.1 := by decide +kernel
theorem tyX1_ok : ∀ k, k < 6 → parseFieldDescriptor (TX1 k).2.2.1 = some (tyX1 k) := by decide +kernel
abbrev cX1_init : ByteArray := prog_3_method_1_code
def yX1_init : MethodName := ⟨RX1, "<init>", "()V"⟩
abbrev cX1_add : ByteArray := prog_3_method_2_code
def yX1_add : MethodName := ⟨RX1, "add", "(IZ)I"⟩
abbrev cX1_clear : ByteArray := prog_3_method_3_code
def yX1_clear : MethodName := ⟨RX1, "clear", "()V"⟩
abbrev cX1_within : ByteArray := prog_3_method_4_code
def yX1_within : MethodName := ⟨RX1, "within", "(LSuetTroubles$Plan;LSuetTroubles$Scene;)I"⟩
abbrev cX1_pairs : ByteArray := prog_3_method_5_code
def yX1_pairs : MethodName := ⟨RX1, "pairs", "(LSuetTroubles$Plan;LSuetTroubles$Scene;)I"⟩
abbrev cX1_weave : ByteArray := prog_3_method_6_code
def yX1_weave : MethodName := ⟨RX1, "weave", "(LSuetTroubles$Plan;LSuetTroubles$Scene;)I"⟩
abbrev cX1_feelAll : ByteArray := prog_3_method_7_code
def yX1_feelAll : MethodName := ⟨RX1, "feelAll", "(LSuetTroubles$Plan;LSuetTroubles$Scene;)V"⟩
abbrev cX1_feelMoves : ByteArray := prog_3_method_8_code
def yX1_feelMoves : MethodName := ⟨RX1, "feelMoves", "(I)V"⟩
abbrev cX1_countPair : ByteArray := prog_3_method_9_code
def yX1_countPair : MethodName := ⟨RX1, "countPair", "(I)V"⟩
def RX2 : String := "SuetTroubles$Deeds"
def TX2 : u_T := fun k => match k with
  | 0 => ("SuetTroubles$Deeds", "plan", "LSuetTroubles$Plan;", true)
  | 1 => ("SuetTroubles$Deeds", "scene", "LSuetTroubles$Scene;", true)
  | 2 => ("SuetTroubles$Deeds", "sheets", "LSuetTroubles$Sheets;", true)
  | _ => ("SuetTroubles$Deeds", "draws", "LSuetTroubles$Draws;", true)
def tyX2 : Nat → FieldType := fun k => match k with
  | 0 => .object "SuetTroubles$Plan"
  | 1 => .object "SuetTroubles$Scene"
  | 2 => .object "SuetTroubles$Sheets"
  | _ => .object "SuetTroubles$Draws"
abbrev wsX20 : List Cond := u_ws RX2 TX2 4
theorem nmX2 : ∀ a, a < 4 → ∀ b, b < 4 → a ≠ b → (TX2 a).2.1 ≠ (TX2 b).2.1 := by decide +kernel
theorem tyX2_ok : ∀ k, k < 4 → parseFieldDescriptor (TX2 k).2.2.1 = some (tyX2 k) := by decide +kernel
abbrev cX2_init : ByteArray := prog_4_method_1_code
def yX2_init : MethodName := ⟨RX2, "<init>", "(LSuetTroubles$Plan;LSuetTroubles$Scene;LSuetTroubles$Sheets;LSuetTroubles$Draws;)V"⟩
abbrev cX2_allThatAre : ByteArray := prog_4_method_2_code
def yX2_allThatAre : MethodName := ⟨RX2, "allThatAre", "(I)I"⟩
abbrev cX2_isGood : ByteArray := prog_4_method_3_code
def yX2_isGood : MethodName := ⟨RX2, "isGood", "(I)Z"⟩
abbrev cX2_allGood : ByteArray := prog_4_method_4_code
def yX2_allGood : MethodName := ⟨RX2, "allGood", "()I"⟩
abbrev cX2_canBeWrapped : ByteArray := prog_4_method_5_code
def yX2_canBeWrapped : MethodName := ⟨RX2, "canBeWrapped", "(I)Z"⟩
abbrev cX2_putInSuet : ByteArray := prog_4_method_6_code
def yX2_putInSuet : MethodName := ⟨RX2, "putInSuet", "(I)I"⟩
abbrev cX2_freePots : ByteArray := prog_4_method_7_code
def yX2_freePots : MethodName := ⟨RX2, "freePots", "()I"⟩
abbrev cX2_leftOf : ByteArray := prog_4_method_8_code
def yX2_leftOf : MethodName := ⟨RX2, "leftOf", "(I)I"⟩
abbrev cX2_leftTogether : ByteArray := prog_4_method_9_code
def yX2_leftTogether : MethodName := ⟨RX2, "leftTogether", "()I"⟩
abbrev cX2_strongest : ByteArray := prog_4_method_10_code
def yX2_strongest : MethodName := ⟨RX2, "strongest", "()I"⟩
abbrev cX2_weight : ByteArray := prog_4_method_11_code
def yX2_weight : MethodName := ⟨RX2, "weight", "(I)I"⟩
abbrev cX2_isBearable : ByteArray := prog_4_method_12_code
def yX2_isBearable : MethodName := ⟨RX2, "isBearable", "(I)Z"⟩
abbrev cX2_canBeBorne : ByteArray := prog_4_method_13_code
def yX2_canBeBorne : MethodName := ⟨RX2, "canBeBorne", "(I)Z"⟩
abbrev cX2_shareOut : ByteArray := prog_4_method_14_code
def yX2_shareOut : MethodName := ⟨RX2, "shareOut", "(I)V"⟩
abbrev cX2_unload : ByteArray := prog_4_method_15_code
def yX2_unload : MethodName := ⟨RX2, "unload", "()I"⟩
abbrev cX2_softenedBy : ByteArray := prog_4_method_16_code
def yX2_softenedBy : MethodName := ⟨RX2, "softenedBy", "(I)I"⟩
abbrev cX2_hardBehind : ByteArray := prog_4_method_17_code
def yX2_hardBehind : MethodName := ⟨RX2, "hardBehind", "(II)I"⟩
abbrev cX2_hoursTillGood : ByteArray := prog_4_method_18_code
def yX2_hoursTillGood : MethodName := ⟨RX2, "hoursTillGood", "(II)I"⟩
abbrev cX2_boil : ByteArray := prog_4_method_19_code
def yX2_boil : MethodName := ⟨RX2, "boil", "()V"⟩
abbrev cX2_actByDraws : ByteArray := prog_4_method_20_code
def yX2_actByDraws : MethodName := ⟨RX2, "actByDraws", "()V"⟩
def RX3 : String := "SuetTroubles$Draws"
def TX3 : u_T := fun k => match k with
  | _ => ("SuetTroubles$Draws", "value", "I", false)
def tyX3 : Nat → FieldType := fun k => match k with
  | _ => .int
abbrev wsX30 : List Cond := u_ws RX3 TX3 1
theorem nmX3 : ∀ a, a < 1 → ∀ b, b < 1 → a ≠ b → (TX3 a).2.1 ≠ (TX3 b).2.1 := by decide +kernel
theorem tyX3_ok : ∀ k, k < 1 → parseFieldDescriptor (TX3 k).2.2.1 = some (tyX3 k) := by decide +kernel
abbrev cX3_init : ByteArray := prog_5_method_1_code
def yX3_init : MethodName := ⟨RX3, "<init>", "()V"⟩
abbrev cX3_draw : ByteArray := prog_5_method_2_code
def yX3_draw : MethodName := ⟨RX3, "draw", "(I)I"⟩
def RX4 : String := "SuetTroubles$Orders"
def TX4 : u_T := fun k => match k with
  | 0 => ("SuetTroubles$Orders", "time", "[I", true)
  | 1 => ("SuetTroubles$Orders", "sum", "I", false)
  | 2 => ("SuetTroubles$Orders", "figures", "I", false)
  | _ => ("SuetTroubles$Orders", "startHour", "I", false)
def tyX4 : Nat → FieldType := fun k => match k with
  | 0 => .array .int
  | 1 => .int
  | 2 => .int
  | _ => .int
abbrev wsX40 : List Cond := u_ws RX4 TX4 4
theorem nmX4 : ∀ a, a < 4 → ∀ b, b < 4 → a ≠ b → (TX4 a).2.1 ≠ (TX4 b).2.1 := by decide +kernel
theorem tyX4_ok : ∀ k, k < 4 → parseFieldDescriptor (TX4 k).2.2.1 = some (tyX4 k) := by decide +kernel
abbrev cX4_init : ByteArray := prog_6_method_1_code
def yX4_init : MethodName := ⟨RX4, "<init>", "()V"⟩
abbrev cX4_find : ByteArray := prog_6_method_2_code
def yX4_find : MethodName := ⟨RX4, "find", "(ILSuetTroubles$Deeds;I)V"⟩
abbrev cX4_tryNext : ByteArray := prog_6_method_3_code
def yX4_tryNext : MethodName := ⟨RX4, "tryNext", "(IIIII)V"⟩
def RX5 : String := "SuetTroubles$Past"
def TX5 : u_T := fun k => match k with
  | 0 => ("SuetTroubles$Past", "undone", "[LSuetTroubles$Scene;", true)
  | 1 => ("SuetTroubles$Past", "image", "[LSuetTroubles$Scene;", true)
  | 2 => ("SuetTroubles$Past", "imageSeed", "[I", true)
  | 3 => ("SuetTroubles$Past", "kept", "[Z", true)
  | 4 => ("SuetTroubles$Past", "oldest", "I", false)
  | _ => ("SuetTroubles$Past", "size", "I", false)
def tyX5 : Nat → FieldType := fun k => match k with
  | 0 => .array (.object "SuetTroubles$Scene")
  | 1 => .array (.object "SuetTroubles$Scene")
  | 2 => .array .int
  | 3 => .array .boolean
  | 4 => .int
  | _ => .int
abbrev wsX50 : List Cond := u_ws RX5 TX5 6
theorem nmX5 : ∀ a, a < 6 → ∀ b, b < 6 → a ≠ b → (TX5 a).2.1 ≠ (TX5 b).2.1 := by decide +kernel
theorem tyX5_ok : ∀ k, k < 6 → parseFieldDescriptor (TX5 k).2.2.1 = some (tyX5 k) := by decide +kernel
abbrev cX5_init : ByteArray := prog_7_method_1_code
def yX5_init : MethodName := ⟨RX5, "<init>", "()V"⟩
abbrev cX5_remember : ByteArray := prog_7_method_2_code
def yX5_remember : MethodName := ⟨RX5, "remember", "(LSuetTroubles$Scene;)V"⟩
abbrev cX5_stepBack : ByteArray := prog_7_method_3_code
def yX5_stepBack : MethodName := ⟨RX5, "stepBack", "(LSuetTroubles$Scene;)V"⟩
abbrev cX5_keepImage : ByteArray := prog_7_method_4_code
def yX5_keepImage : MethodName := ⟨RX5, "keepImage", "(ILSuetTroubles$Scene;LSuetTroubles$Draws;)V"⟩
abbrev cX5_showImage : ByteArray := prog_7_method_5_code
def yX5_showImage : MethodName := ⟨RX5, "showImage", "(ILSuetTroubles$Scene;LSuetTroubles$Draws;)V"⟩
abbrev cX5_forgetAll : ByteArray := prog_7_method_6_code
def yX5_forgetAll : MethodName := ⟨RX5, "forgetAll", "()V"⟩
abbrev cX5_forgetUndone : ByteArray := prog_7_method_7_code
def yX5_forgetUndone : MethodName := ⟨RX5, "forgetUndone", "()V"⟩
def RX6 : String := "SuetTroubles$Plan"
def TX6 : u_T := fun k => match k with
  | 0 => ("SuetTroubles$Plan", "fire", "I", false)
  | 1 => ("SuetTroubles$Plan", "pots", "I", false)
  | 2 => ("SuetTroubles$Plan", "troubles", "I", false)
  | 3 => ("SuetTroubles$Plan", "eaters", "I", false)
  | 4 => ("SuetTroubles$Plan", "kind", "[I", true)
  | 5 => ("SuetTroubles$Plan", "hard", "[I", true)
  | 6 => ("SuetTroubles$Plan", "shape", "[I", true)
  | _ => ("SuetTroubles$Plan", "strength", "[I", true)
def tyX6 : Nat → FieldType := fun k => match k with
  | 0 => .int
  | 1 => .int
  | 2 => .int
  | 3 => .int
  | 4 => .array .int
  | 5 => .array .int
  | 6 => .array .int
  | _ => .array .int
abbrev wsX60 : List Cond := u_ws RX6 TX6 8
theorem nmX6 : ∀ a, a < 8 → ∀ b, b < 8 → a ≠ b → (TX6 a).2.1 ≠ (TX6 b).2.1 := by decide +kernel
theorem tyX6_ok : ∀ k, k < 8 → parseFieldDescriptor (TX6 k).2.2.1 = some (tyX6 k) := by decide +kernel
abbrev cX6_init : ByteArray := prog_8_method_1_code
def yX6_init : MethodName := ⟨RX6, "<init>", "()V"⟩
abbrev cX6_isThere : ByteArray := prog_8_method_2_code
def yX6_isThere : MethodName := ⟨RX6, "isThere", "()Z"⟩
abbrev cX6_hasTrouble : ByteArray := prog_8_method_3_code
def yX6_hasTrouble : MethodName := ⟨RX6, "hasTrouble", "(I)Z"⟩
abbrev cX6_hasEater : ByteArray := prog_8_method_4_code
def yX6_hasEater : MethodName := ⟨RX6, "hasEater", "(I)Z"⟩
abbrev cX6_allTroubles : ByteArray := prog_8_method_5_code
def yX6_allTroubles : MethodName := ⟨RX6, "allTroubles", "()I"⟩
abbrev cX6_clear : ByteArray := prog_8_method_6_code
def yX6_clear : MethodName := ⟨RX6, "clear", "()V"⟩
abbrev cX6_addTrouble : ByteArray := prog_8_method_7_code
def yX6_addTrouble : MethodName := ⟨RX6, "addTrouble", "(III)V"⟩
abbrev cX6_addEater : ByteArray := prog_8_method_8_code
def yX6_addEater : MethodName := ⟨RX6, "addEater", "(I)V"⟩
abbrev cX6_become : ByteArray := prog_8_method_9_code
def yX6_become : MethodName := ⟨RX6, "become", "(LSuetTroubles$Plan;)V"⟩
def RX7 : String := "SuetTroubles$Reader"
def TX7 : u_T := fun k => match k with
  | 0 => ("SuetTroubles$Reader", "letters", "[I", true)
  | 1 => ("SuetTroubles$Reader", "length", "I", false)
  | 2 => ("SuetTroubles$Reader", "faultAt", "I", false)
  | 3 => ("SuetTroubles$Reader", "at", "I", false)
  | _ => ("SuetTroubles$Reader", "fault", "I", false)
def tyX7 : Nat → FieldType := fun k => match k with
  | 0 => .array .int
  | 1 => .int
  | 2 => .int
  | 3 => .int
  | _ => .int
abbrev wsX70 : List Cond := u_ws RX7 TX7 5
theorem nmX7 : ∀ a, a < 5 → ∀ b, b < 5 → a ≠ b → (TX7 a).2.1 ≠ (TX7 b).2.1 := by decide +kernel
theorem tyX7_ok : ∀ k, k < 5 → parseFieldDescriptor (TX7 k).2.2.1 = some (tyX7 k) := by decide +kernel
abbrev cX7_init : ByteArray := prog_9_method_1_code
def yX7_init : MethodName := ⟨RX7, "<init>", "()V"⟩
abbrev cX7_add : ByteArray := prog_9_method_2_code
def yX7_add : MethodName := ⟨RX7, "add", "(I)I"⟩
abbrev cX7_read : ByteArray := prog_9_method_3_code
def yX7_read : MethodName := ⟨RX7, "read", "(LSuetTroubles$Plan;)I"⟩
abbrev cX7_readClause : ByteArray := prog_9_method_4_code
def yX7_readClause : MethodName := ⟨RX7, "readClause", "(LSuetTroubles$Plan;)V"⟩
abbrev cX7_readFire : ByteArray := prog_9_method_5_code
def yX7_readFire : MethodName := ⟨RX7, "readFire", "(LSuetTroubles$Plan;)V"⟩
abbrev cX7_readTrouble : ByteArray := prog_9_method_6_code
def yX7_readTrouble : MethodName := ⟨RX7, "readTrouble", "(LSuetTroubles$Plan;)V"⟩
abbrev cX7_readEater : ByteArray := prog_9_method_7_code
def yX7_readEater : MethodName := ⟨RX7, "readEater", "(LSuetTroubles$Plan;)V"⟩
abbrev cX7_readNumber : ByteArray := prog_9_method_8_code
def yX7_readNumber : MethodName := ⟨RX7, "readNumber", "(II)I"⟩
abbrev cX7_readSign : ByteArray := prog_9_method_9_code
def yX7_readSign : MethodName := ⟨RX7, "readSign", "(I)V"⟩
abbrev cX7_skipBlanks : ByteArray := prog_9_method_10_code
def yX7_skipBlanks : MethodName := ⟨RX7, "skipBlanks", "()V"⟩
abbrev cX7_here : ByteArray := prog_9_method_11_code
def yX7_here : MethodName := ⟨RX7, "here", "()I"⟩
abbrev cX7_isFigure : ByteArray := prog_9_method_12_code
def yX7_isFigure : MethodName := ⟨RX7, "isFigure", "(I)Z"⟩
abbrev cX7_blame : ByteArray := prog_9_method_13_code
def yX7_blame : MethodName := ⟨RX7, "blame", "(II)V"⟩
def RX8 : String := "SuetTroubles$Scene"
def TX8 : u_T := fun k => match k with
  | 0 => ("SuetTroubles$Scene", "hours", "I", false)
  | 1 => ("SuetTroubles$Scene", "sheets", "I", false)
  | 2 => ("SuetTroubles$Scene", "stage", "[I", true)
  | 3 => ("SuetTroubles$Scene", "hard", "[I", true)
  | 4 => ("SuetTroubles$Scene", "shape", "[I", true)
  | _ => ("SuetTroubles$Scene", "load", "[I", true)
def tyX8 : Nat → FieldType := fun k => match k with
  | 0 => .int
  | 1 => .int
  | 2 => .array .int
  | 3 => .array .int
  | 4 => .array .int
  | _ => .array .int
abbrev wsX80 : List Cond := u_ws RX8 TX8 6
theorem nmX8 : ∀ a, a < 6 → ∀ b, b < 6 → a ≠ b → (TX8 a).2.1 ≠ (TX8 b).2.1 := by decide +kernel
theorem tyX8_ok : ∀ k, k < 6 → parseFieldDescriptor (TX8 k).2.2.1 = some (tyX8 k) := by decide +kernel
abbrev cX8_init : ByteArray := prog_10_method_1_code
def yX8_init : MethodName := ⟨RX8, "<init>", "()V"⟩
abbrev cX8_begin : ByteArray := prog_10_method_2_code
def yX8_begin : MethodName := ⟨RX8, "begin", "(LSuetTroubles$Plan;)V"⟩
abbrev cX8_become : ByteArray := prog_10_method_3_code
def yX8_become : MethodName := ⟨RX8, "become", "(LSuetTroubles$Scene;)V"⟩
def RX9 : String := "SuetTroubles$Shapes"
def TX9 : u_T := fun k => match k with
  | _ => ("", "", "", false)
def tyX9 : Nat → FieldType := fun k => match k with
  | _ => .int
abbrev wsX90 : List Cond := u_ws RX9 TX9 0
theorem nmX9 : ∀ a, a < 0 → ∀ b, b < 0 → a ≠ b → (TX9 a).2.1 ≠ (TX9 b).2.1 := by decide +kernel
theorem tyX9_ok : ∀ k, k < 0 → parseFieldDescriptor (TX9 k).2.2.1 = some (tyX9 k) := by decide +kernel
abbrev cX9_has : ByteArray := prog_11_method_2_code
def yX9_has : MethodName := ⟨RX9, "has", "(II)Z"⟩
abbrev cX9_besideIt : ByteArray := prog_11_method_3_code
def yX9_besideIt : MethodName := ⟨RX9, "besideIt", "(II)I"⟩
abbrev cX9_partFrom : ByteArray := prog_11_method_4_code
def yX9_partFrom : MethodName := ⟨RX9, "partFrom", "(II)I"⟩
abbrev cX9_parts : ByteArray := prog_11_method_5_code
def yX9_parts : MethodName := ⟨RX9, "parts", "(I)I"⟩
abbrev cX9_greatestPart : ByteArray := prog_11_method_6_code
def yX9_greatestPart : MethodName := ⟨RX9, "greatestPart", "(I)I"⟩
abbrev cX9_edge : ByteArray := prog_11_method_7_code
def yX9_edge : MethodName := ⟨RX9, "edge", "(I)I"⟩
abbrev cX9_hold : ByteArray := prog_11_method_8_code
def yX9_hold : MethodName := ⟨RX9, "hold", "(I)I"⟩
abbrev cX9_openSides : ByteArray := prog_11_method_9_code
def yX9_openSides : MethodName := ⟨RX9, "openSides", "(II)I"⟩
abbrev cX9_rowOf : ByteArray := prog_11_method_10_code
def yX9_rowOf : MethodName := ⟨RX9, "rowOf", "(II)I"⟩
abbrev cX9_columnsUsed : ByteArray := prog_11_method_11_code
def yX9_columnsUsed : MethodName := ⟨RX9, "columnsUsed", "(I)I"⟩
abbrev cX9_rowsUsed : ByteArray := prog_11_method_12_code
def yX9_rowsUsed : MethodName := ⟨RX9, "rowsUsed", "(I)I"⟩
abbrev cX9_firstOf : ByteArray := prog_11_method_13_code
def yX9_firstOf : MethodName := ⟨RX9, "firstOf", "(I)I"⟩
abbrev cX9_lastOf : ByteArray := prog_11_method_14_code
def yX9_lastOf : MethodName := ⟨RX9, "lastOf", "(I)I"⟩
abbrev cX9_squareSide : ByteArray := prog_11_method_15_code
def yX9_squareSide : MethodName := ⟨RX9, "squareSide", "(I)I"⟩
abbrev cX9_movesDown : ByteArray := prog_11_method_16_code
def yX9_movesDown : MethodName := ⟨RX9, "movesDown", "(I)I"⟩
abbrev cX9_movesRight : ByteArray := prog_11_method_17_code
def yX9_movesRight : MethodName := ⟨RX9, "movesRight", "(I)I"⟩
abbrev cX9_greaterHalf : ByteArray := prog_11_method_18_code
def yX9_greaterHalf : MethodName := ⟨RX9, "greaterHalf", "(II)I"⟩
abbrev cX9_halvingLine : ByteArray := prog_11_method_19_code
def yX9_halvingLine : MethodName := ⟨RX9, "halvingLine", "(I)I"⟩
def RX10 : String := "SuetTroubles$Sheets"
def TX10 : u_T := fun k => match k with
  | 0 => ("SuetTroubles$Sheets", "cost", "[I", false)
  | _ => ("SuetTroubles$Sheets", "nextCost", "[I", false)
def tyX10 : Nat → FieldType := fun k => match k with
  | 0 => .array .int
  | _ => .array .int
abbrev wsX100 : List Cond := u_ws RX10 TX10 2
theorem nmX10 : ∀ a, a < 2 → ∀ b, b < 2 → a ≠ b → (TX10 a).2.1 ≠ (TX10 b).2.1 := by decide +kernel
theorem tyX10_ok : ∀ k, k < 2 → parseFieldDescriptor (TX10 k).2.2.1 = some (tyX10 k) := by decide +kernel
abbrev cX10_init : ByteArray := prog_12_method_1_code
def yX10_init : MethodName := ⟨RX10, "<init>", "()V"⟩
abbrev cX10_fewest : ByteArray := prog_12_method_2_code
def yX10_fewest : MethodName := ⟨RX10, "fewest", "(I)I"⟩
abbrev cX10_addRow : ByteArray := prog_12_method_3_code
def yX10_addRow : MethodName := ⟨RX10, "addRow", "(I)V"⟩
abbrev cX10_covered : ByteArray := prog_12_method_4_code
def yX10_covered : MethodName := ⟨RX10, "covered", "(I)I"⟩
abbrev cX10_first : ByteArray := prog_12_method_5_code
def yX10_first : MethodName := ⟨RX10, "first", "(I)I"⟩
def RX11 : String := "SuetTroubles"
def TX11 : u_T := fun k => match k with
  | 0 => ("SuetTroubles", "reader", "LSuetTroubles$Reader;", true)
  | 1 => ("SuetTroubles", "draft", "LSuetTroubles$Plan;", true)
  | 2 => ("SuetTroubles", "plan", "LSuetTroubles$Plan;", true)
  | 3 => ("SuetTroubles", "scene", "LSuetTroubles$Scene;", true)
  | 4 => ("SuetTroubles", "sheets", "LSuetTroubles$Sheets;", true)
  | 5 => ("SuetTroubles", "draws", "LSuetTroubles$Draws;", true)
  | 6 => ("SuetTroubles", "deeds", "LSuetTroubles$Deeds;", true)
  | 7 => ("SuetTroubles", "past", "LSuetTroubles$Past;", true)
  | 8 => ("SuetTroubles", "orders", "LSuetTroubles$Orders;", true)
  | 9 => ("SuetTroubles", "cloth", "LSuetTroubles$Cloth;", true)
  | 10 => ("SuetTroubles", "book", "LSuetTroubles$Book;", true)
  | _ => ("SuetTroubles", "faultAt", "I", false)
def tyX11 : Nat → FieldType := fun k => match k with
  | 0 => .object "SuetTroubles$Reader"
  | 1 => .object "SuetTroubles$Plan"
  | 2 => .object "SuetTroubles$Plan"
  | 3 => .object "SuetTroubles$Scene"
  | 4 => .object "SuetTroubles$Sheets"
  | 5 => .object "SuetTroubles$Draws"
  | 6 => .object "SuetTroubles$Deeds"
  | 7 => .object "SuetTroubles$Past"
  | 8 => .object "SuetTroubles$Orders"
  | 9 => .object "SuetTroubles$Cloth"
  | 10 => .object "SuetTroubles$Book"
  | _ => .int
abbrev wsX110 : List Cond := u_ws RX11 TX11 12
theorem nmX11 : ∀ a, a < 12 → ∀ b, b < 12 → a ≠ b → (TX11 a).2.1 ≠ (TX11 b).2.1 := by decide +kernel
theorem tyX11_ok : ∀ k, k < 12 → parseFieldDescriptor (TX11 k).2.2.1 = some (tyX11 k) := by decide +kernel
abbrev cX11_init : ByteArray := prog_1_method_1_code
def yX11_init : MethodName := ⟨RX11, "<init>", "()V"⟩
abbrev cX11_feed : ByteArray := prog_1_method_2_code
def yX11_feed : MethodName := ⟨RX11, "feed", "(I)I"⟩
abbrev cX11_kitchen : ByteArray := prog_1_method_3_code
def yX11_kitchen : MethodName := ⟨RX11, "kitchen", "()I"⟩
abbrev cX11_fault : ByteArray := prog_1_method_4_code
def yX11_fault : MethodName := ⟨RX11, "fault", "()I"⟩
abbrev cX11_told : ByteArray := prog_1_method_5_code
def yX11_told : MethodName := ⟨RX11, "told", "(I)I"⟩
abbrev cX11_trouble : ByteArray := prog_1_method_6_code
def yX11_trouble : MethodName := ⟨RX11, "trouble", "(II)I"⟩
abbrev cX11_eater : ByteArray := prog_1_method_7_code
def yX11_eater : MethodName := ⟨RX11, "eater", "(II)I"⟩
abbrev cX11_wrap : ByteArray := prog_1_method_8_code
def yX11_wrap : MethodName := ⟨RX11, "wrap", "(I)I"⟩
abbrev cX11_putOn : ByteArray := prog_1_method_9_code
def yX11_putOn : MethodName := ⟨RX11, "putOn", "(I)I"⟩
abbrev cX11_takeOff : ByteArray := prog_1_method_10_code
def yX11_takeOff : MethodName := ⟨RX11, "takeOff", "(I)I"⟩
abbrev cX11_hour : ByteArray := prog_1_method_11_code
def yX11_hour : MethodName := ⟨RX11, "hour", "(I)I"⟩
abbrev cX11_bear : ByteArray := prog_1_method_12_code
def yX11_bear : MethodName := ⟨RX11, "bear", "(I)I"⟩
abbrev cX11_rest : ByteArray := prog_1_method_13_code
def yX11_rest : MethodName := ⟨RX11, "rest", "()I"⟩
abbrev cX11_cut : ByteArray := prog_1_method_14_code
def yX11_cut : MethodName := ⟨RX11, "cut", "(II)I"⟩
abbrev cX11_drift : ByteArray := prog_1_method_15_code
def yX11_drift : MethodName := ⟨RX11, "drift", "(I)I"⟩
abbrev cX11_undo : ByteArray := prog_1_method_16_code
def yX11_undo : MethodName := ⟨RX11, "undo", "()I"⟩
abbrev cX11_refusalOfHours : ByteArray := prog_1_method_17_code
def yX11_refusalOfHours : MethodName := ⟨RX11, "refusalOfHours", "(I)I"⟩
abbrev cX11_toWrap : ByteArray := prog_1_method_18_code
def yX11_toWrap : MethodName := ⟨RX11, "toWrap", "(II)I"⟩
abbrev cX11_soft : ByteArray := prog_1_method_19_code
def yX11_soft : MethodName := ⟨RX11, "soft", "(II)I"⟩
abbrev cX11_when : ByteArray := prog_1_method_20_code
def yX11_when : MethodName := ⟨RX11, "when", "(I)I"⟩
abbrev cX11_order : ByteArray := prog_1_method_21_code
def yX11_order : MethodName := ⟨RX11, "order", "(II)I"⟩
abbrev cX11_halves : ByteArray := prog_1_method_22_code
def yX11_halves : MethodName := ⟨RX11, "halves", "(II)I"⟩
abbrev cX11_mild : ByteArray := prog_1_method_23_code
def yX11_mild : MethodName := ⟨RX11, "mild", "(II)I"⟩
abbrev cX11_bump : ByteArray := prog_1_method_24_code
def yX11_bump : MethodName := ⟨RX11, "bump", "(IZ)I"⟩
abbrev cX11_write : ByteArray := prog_1_method_25_code
def yX11_write : MethodName := ⟨RX11, "write", "(II)I"⟩
abbrev cX11_tear : ByteArray := prog_1_method_26_code
def yX11_tear : MethodName := ⟨RX11, "tear", "()I"⟩
abbrev cX11_judge : ByteArray := prog_1_method_27_code
def yX11_judge : MethodName := ⟨RX11, "judge", "()I"⟩
abbrev cX11_seed : ByteArray := prog_1_method_28_code
def yX11_seed : MethodName := ⟨RX11, "seed", "(I)I"⟩
abbrev cX11_keep : ByteArray := prog_1_method_29_code
def yX11_keep : MethodName := ⟨RX11, "keep", "(I)I"⟩
abbrev cX11_goBack : ByteArray := prog_1_method_30_code
def yX11_goBack : MethodName := ⟨RX11, "goBack", "(I)I"⟩
def RX12 : String := "SuetTroublesModel"
def TX12 : u_T := fun k => match k with
  | 0 => ("SuetTroublesModel", "letterMany", "I", false)
  | 1 => ("SuetTroublesModel", "text", "[I", true)
  | 2 => ("SuetTroublesModel", "readAt", "I", false)
  | 3 => ("SuetTroublesModel", "numberAt", "I", false)
  | 4 => ("SuetTroublesModel", "readFault", "I", false)
  | 5 => ("SuetTroublesModel", "faultAt", "I", false)
  | 6 => ("SuetTroublesModel", "readHeat", "I", false)
  | 7 => ("SuetTroublesModel", "readPots", "I", false)
  | 8 => ("SuetTroublesModel", "readTroubles", "I", false)
  | 9 => ("SuetTroublesModel", "readEaters", "I", false)
  | 10 => ("SuetTroublesModel", "readKind", "[I", true)
  | 11 => ("SuetTroublesModel", "readHard", "[I", true)
  | 12 => ("SuetTroublesModel", "readShape", "[I", true)
  | 13 => ("SuetTroublesModel", "readStrength", "[I", true)
  | 14 => ("SuetTroublesModel", "heat", "I", false)
  | 15 => ("SuetTroublesModel", "pots", "I", false)
  | 16 => ("SuetTroublesModel", "m", "I", false)
  | 17 => ("SuetTroublesModel", "n", "I", false)
  | 18 => ("SuetTroublesModel", "kinds", "[I", true)
  | 19 => ("SuetTroublesModel", "strengths", "[I", true)
  | 20 => ("SuetTroublesModel", "now", "[I", true)
  | 21 => ("SuetTroublesModel", "undoMany", "I", false)
  | 22 => ("SuetTroublesModel", "undoAt", "I", false)
  | 23 => ("SuetTroublesModel", "undos", "[I", true)
  | 24 => ("SuetTroublesModel", "seeded", "J", false)
  | 25 => ("SuetTroublesModel", "covers", "[I", true)
  | 26 => ("SuetTroublesModel", "bumpMany", "I", false)
  | 27 => ("SuetTroublesModel", "bumpCell", "[I", true)
  | 28 => ("SuetTroublesModel", "bumpIs", "[Z", true)
  | 29 => ("SuetTroublesModel", "fulls", "[I", true)
  | 30 => ("SuetTroublesModel", "bookMany", "I", false)
  | 31 => ("SuetTroublesModel", "bookTrouble", "[I", true)
  | 32 => ("SuetTroublesModel", "bookHard", "[I", true)
  | 33 => ("SuetTroublesModel", "isKept", "[Z", true)
  | 34 => ("SuetTroublesModel", "kept", "[I", true)
  | _ => ("SuetTroublesModel", "keptSeed", "[J", true)
def tyX12 : Nat → FieldType := fun k => match k with
  | 0 => .int
  | 1 => .array .int
  | 2 => .int
  | 3 => .int
  | 4 => .int
  | 5 => .int
  | 6 => .int
  | 7 => .int
  | 8 => .int
  | 9 => .int
  | 10 => .array .int
  | 11 => .array .int
  | 12 => .array .int
  | 13 => .array .int
  | 14 => .int
  | 15 => .int
  | 16 => .int
  | 17 => .int
  | 18 => .array .int
  | 19 => .array .int
  | 20 => .array .int
  | 21 => .int
  | 22 => .int
  | 23 => .array .int
  | 24 => .long
  | 25 => .array .int
  | 26 => .int
  | 27 => .array .int
  | 28 => .array .boolean
  | 29 => .array .int
  | 30 => .int
  | 31 => .array .int
  | 32 => .array .int
  | 33 => .array .boolean
  | 34 => .array .int
  | _ => .array .long
abbrev wsX120 : List Cond := u_ws RX12 TX12 36
theorem nmX12 : ∀ a, a < 36 → ∀ b, b < 36 → a ≠ b → (TX12 a).2.1 ≠ (TX12 b).2.1 := by decide +kernel
theorem tyX12_ok : ∀ k, k < 36 → parseFieldDescriptor (TX12 k).2.2.1 = some (tyX12 k) := by decide +kernel
abbrev cX12_init : ByteArray := prog_14_method_1_code
def yX12_init : MethodName := ⟨RX12, "<init>", "()V"⟩
abbrev cX12_in : ByteArray := prog_14_method_2_code
def yX12_in : MethodName := ⟨RX12, "in", "(III)Z"⟩
abbrev cX12_has : ByteArray := prog_14_method_3_code
def yX12_has : MethodName := ⟨RX12, "has", "(II)Z"⟩
abbrev cX12_bits : ByteArray := prog_14_method_4_code
def yX12_bits : MethodName := ⟨RX12, "bits", "(I)I"⟩
abbrev cX12_feed : ByteArray := prog_14_method_5_code
def yX12_feed : MethodName := ⟨RX12, "feed", "(I)I"⟩
abbrev cX12_letterAt : ByteArray := prog_14_method_6_code
def yX12_letterAt : MethodName := ⟨RX12, "letterAt", "(I)I"⟩
abbrev cX12_nextLetter : ByteArray := prog_14_method_7_code
def yX12_nextLetter : MethodName := ⟨RX12, "nextLetter", "()I"⟩
abbrev cX12_fails : ByteArray := prog_14_method_8_code
def yX12_fails : MethodName := ⟨RX12, "fails", "(II)I"⟩
abbrev cX12_readsNumber : ByteArray := prog_14_method_9_code
def yX12_readsNumber : MethodName := ⟨RX12, "readsNumber", "(II)I"⟩
abbrev cX12_readsSign : ByteArray := prog_14_method_10_code
def yX12_readsSign : MethodName := ⟨RX12, "readsSign", "(I)Z"⟩
abbrev cX12_readsHead : ByteArray := prog_14_method_11_code
def yX12_readsHead : MethodName := ⟨RX12, "readsHead", "()Z"⟩
abbrev cX12_readsTrouble : ByteArray := prog_14_method_12_code
def yX12_readsTrouble : MethodName := ⟨RX12, "readsTrouble", "()Z"⟩
abbrev cX12_readsEater : ByteArray := prog_14_method_13_code
def yX12_readsEater : MethodName := ⟨RX12, "readsEater", "()Z"⟩
abbrev cX12_readsClause : ByteArray := prog_14_method_14_code
def yX12_readsClause : MethodName := ⟨RX12, "readsClause", "()Z"⟩
abbrev cX12_readsKitchen : ByteArray := prog_14_method_15_code
def yX12_readsKitchen : MethodName := ⟨RX12, "readsKitchen", "()Z"⟩
abbrev cX12_kitchen : ByteArray := prog_14_method_16_code
def yX12_kitchen : MethodName := ⟨RX12, "kitchen", "()I"⟩
abbrev cX12_fault : ByteArray := prog_14_method_17_code
def yX12_fault : MethodName := ⟨RX12, "fault", "()I"⟩
abbrev cX12_isKitchen : ByteArray := prog_14_method_18_code
def yX12_isKitchen : MethodName := ⟨RX12, "isKitchen", "()Z"⟩
abbrev cX12_isTrouble : ByteArray := prog_14_method_19_code
def yX12_isTrouble : MethodName := ⟨RX12, "isTrouble", "(I)Z"⟩
abbrev cX12_isEater : ByteArray := prog_14_method_20_code
def yX12_isEater : MethodName := ⟨RX12, "isEater", "(I)Z"⟩
abbrev cX12_are : ByteArray := prog_14_method_21_code
def yX12_are : MethodName := ⟨RX12, "are", "(I)I"⟩
abbrev cX12_isGood : ByteArray := prog_14_method_22_code
def yX12_isGood : MethodName := ⟨RX12, "isGood", "(I)Z"⟩
abbrev cX12_good : ByteArray := prog_14_method_23_code
def yX12_good : MethodName := ⟨RX12, "good", "()I"⟩
abbrev cX12_left : ByteArray := prog_14_method_24_code
def yX12_left : MethodName := ⟨RX12, "left", "(I)I"⟩
abbrev cX12_leftAll : ByteArray := prog_14_method_25_code
def yX12_leftAll : MethodName := ⟨RX12, "leftAll", "()I"⟩
abbrev cX12_strongest : ByteArray := prog_14_method_26_code
def yX12_strongest : MethodName := ⟨RX12, "strongest", "()I"⟩
abbrev cX12_weight : ByteArray := prog_14_method_27_code
def yX12_weight : MethodName := ⟨RX12, "weight", "(I)I"⟩
abbrev cX12_isBearable : ByteArray := prog_14_method_28_code
def yX12_isBearable : MethodName := ⟨RX12, "isBearable", "(I)Z"⟩
abbrev cX12_told : ByteArray := prog_14_method_29_code
def yX12_told : MethodName := ⟨RX12, "told", "(I)I"⟩
abbrev cX12_grown : ByteArray := prog_14_method_30_code
def yX12_grown : MethodName := ⟨RX12, "grown", "(I)I"⟩
abbrev cX12_partOf : ByteArray := prog_14_method_31_code
def yX12_partOf : MethodName := ⟨RX12, "partOf", "(II)I"⟩
abbrev cX12_parts : ByteArray := prog_14_method_32_code
def yX12_parts : MethodName := ⟨RX12, "parts", "(IZ)I"⟩
abbrev cX12_edgeOf : ByteArray := prog_14_method_33_code
def yX12_edgeOf : MethodName := ⟨RX12, "edgeOf", "(II)I"⟩
abbrev cX12_edge : ByteArray := prog_14_method_34_code
def yX12_edge : MethodName := ⟨RX12, "edge", "(I)I"⟩
abbrev cX12_hold : ByteArray := prog_14_method_35_code
def yX12_hold : MethodName := ⟨RX12, "hold", "(I)I"⟩
abbrev cX12_trouble : ByteArray := prog_14_method_36_code
def yX12_trouble : MethodName := ⟨RX12, "trouble", "(II)I"⟩
abbrev cX12_eater : ByteArray := prog_14_method_37_code
def yX12_eater : MethodName := ⟨RX12, "eater", "(II)I"⟩
abbrev cX12_remember : ByteArray := prog_14_method_38_code
def yX12_remember : MethodName := ⟨RX12, "remember", "()V"⟩
abbrev cX12_sheetsFor : ByteArray := prog_14_method_39_code
def yX12_sheetsFor : MethodName := ⟨RX12, "sheetsFor", "(I)I"⟩
abbrev cX12_wraps : ByteArray := prog_14_method_40_code
def yX12_wraps : MethodName := ⟨RX12, "wraps", "(I)I"⟩
abbrev cX12_wrap : ByteArray := prog_14_method_41_code
def yX12_wrap : MethodName := ⟨RX12, "wrap", "(I)I"⟩
abbrev cX12_potsFree : ByteArray := prog_14_method_42_code
def yX12_potsFree : MethodName := ⟨RX12, "potsFree", "()I"⟩
abbrev cX12_putOn : ByteArray := prog_14_method_43_code
def yX12_putOn : MethodName := ⟨RX12, "putOn", "(I)I"⟩
abbrev cX12_takeOff : ByteArray := prog_14_method_44_code
def yX12_takeOff : MethodName := ⟨RX12, "takeOff", "(I)I"⟩
abbrev cX12_softens : ByteArray := prog_14_method_45_code
def yX12_softens : MethodName := ⟨RX12, "softens", "(II)I"⟩
abbrev cX12_less : ByteArray := prog_14_method_46_code
def yX12_less : MethodName := ⟨RX12, "less", "(II)I"⟩
abbrev cX12_passes : ByteArray := prog_14_method_47_code
def yX12_passes : MethodName := ⟨RX12, "passes", "()V"⟩
abbrev cX12_needHours : ByteArray := prog_14_method_48_code
def yX12_needHours : MethodName := ⟨RX12, "needHours", "(I)I"⟩
abbrev cX12_hour : ByteArray := prog_14_method_49_code
def yX12_hour : MethodName := ⟨RX12, "hour", "(I)I"⟩
abbrev cX12_canBeBorne : ByteArray := prog_14_method_50_code
def yX12_canBeBorne : MethodName := ⟨RX12, "canBeBorne", "(I)Z"⟩
abbrev cX12_bears : ByteArray := prog_14_method_51_code
def yX12_bears : MethodName := ⟨RX12, "bears", "(I)V"⟩
abbrev cX12_bear : ByteArray := prog_14_method_52_code
def yX12_bear : MethodName := ⟨RX12, "bear", "(I)I"⟩
abbrev cX12_rests : ByteArray := prog_14_method_53_code
def yX12_rests : MethodName := ⟨RX12, "rests", "()I"⟩
abbrev cX12_rest : ByteArray := prog_14_method_54_code
def yX12_rest : MethodName := ⟨RX12, "rest", "()I"⟩
abbrev cX12_cut : ByteArray := prog_14_method_55_code
def yX12_cut : MethodName := ⟨RX12, "cut", "(II)I"⟩
abbrev cX12_draw : ByteArray := prog_14_method_56_code
def yX12_draw : MethodName := ⟨RX12, "draw", "(I)I"⟩
abbrev cX12_does : ByteArray := prog_14_method_57_code
def yX12_does : MethodName := ⟨RX12, "does", "(II)V"⟩
abbrev cX12_drift : ByteArray := prog_14_method_58_code
def yX12_drift : MethodName := ⟨RX12, "drift", "(I)I"⟩
abbrev cX12_undo : ByteArray := prog_14_method_59_code
def yX12_undo : MethodName := ⟨RX12, "undo", "()I"⟩
abbrev cX12_sheet : ByteArray := prog_14_method_60_code
def yX12_sheet : MethodName := ⟨RX12, "sheet", "(I)I"⟩
abbrev cX12_fewestSheets : ByteArray := prog_14_method_61_code
def yX12_fewestSheets : MethodName := ⟨RX12, "fewestSheets", "(IZ)I"⟩
abbrev cX12_sideOf : ByteArray := prog_14_method_62_code
def yX12_sideOf : MethodName := ⟨RX12, "sideOf", "(I)I"⟩
abbrev cX12_span : ByteArray := prog_14_method_63_code
def yX12_span : MethodName := ⟨RX12, "span", "(I)I"⟩
abbrev cX12_toWrap : ByteArray := prog_14_method_64_code
def yX12_toWrap : MethodName := ⟨RX12, "toWrap", "(II)I"⟩
abbrev cX12_softBehind : ByteArray := prog_14_method_65_code
def yX12_softBehind : MethodName := ⟨RX12, "softBehind", "(II)I"⟩
abbrev cX12_soft : ByteArray := prog_14_method_66_code
def yX12_soft : MethodName := ⟨RX12, "soft", "(II)I"⟩
abbrev cX12_softIn : ByteArray := prog_14_method_67_code
def yX12_softIn : MethodName := ⟨RX12, "softIn", "(II)I"⟩
abbrev cX12_when : ByteArray := prog_14_method_68_code
def yX12_when : MethodName := ⟨RX12, "when", "(I)I"⟩
abbrev cX12_sumOf : ByteArray := prog_14_method_69_code
def yX12_sumOf : MethodName := ⟨RX12, "sumOf", "(II)I"⟩
abbrev cX12_nextFigures : ByteArray := prog_14_method_70_code
def yX12_nextFigures : MethodName := ⟨RX12, "nextFigures", "(II)I"⟩
abbrev cX12_order : ByteArray := prog_14_method_71_code
def yX12_order : MethodName := ⟨RX12, "order", "(II)I"⟩
abbrev cX12_ahead : ByteArray := prog_14_method_72_code
def yX12_ahead : MethodName := ⟨RX12, "ahead", "(II)I"⟩
abbrev cX12_halves : ByteArray := prog_14_method_73_code
def yX12_halves : MethodName := ⟨RX12, "halves", "(II)I"⟩
abbrev cX12_mild : ByteArray := prog_14_method_74_code
def yX12_mild : MethodName := ⟨RX12, "mild", "(II)I"⟩
abbrev cX12_bump : ByteArray := prog_14_method_75_code
def yX12_bump : MethodName := ⟨RX12, "bump", "(IZ)I"⟩
abbrev cX12_moved : ByteArray := prog_14_method_76_code
def yX12_moved : MethodName := ⟨RX12, "moved", "(III)I"⟩
abbrev cX12_fit : ByteArray := prog_14_method_77_code
def yX12_fit : MethodName := ⟨RX12, "fit", "(I)I"⟩
abbrev cX12_within : ByteArray := prog_14_method_78_code
def yX12_within : MethodName := ⟨RX12, "within", "()I"⟩
abbrev cX12_fitMany : ByteArray := prog_14_method_79_code
def yX12_fitMany : MethodName := ⟨RX12, "fitMany", "()I"⟩
abbrev cX12_weave : ByteArray := prog_14_method_80_code
def yX12_weave : MethodName := ⟨RX12, "weave", "()I"⟩
abbrev cX12_write : ByteArray := prog_14_method_81_code
def yX12_write : MethodName := ⟨RX12, "write", "(II)I"⟩
abbrev cX12_tear : ByteArray := prog_14_method_82_code
def yX12_tear : MethodName := ⟨RX12, "tear", "()I"⟩
abbrev cX12_judge : ByteArray := prog_14_method_83_code
def yX12_judge : MethodName := ⟨RX12, "judge", "()I"⟩
abbrev cX12_seed : ByteArray := prog_14_method_84_code
def yX12_seed : MethodName := ⟨RX12, "seed", "(I)I"⟩
abbrev cX12_keep : ByteArray := prog_14_method_85_code
def yX12_keep : MethodName := ⟨RX12, "keep", "(I)I"⟩
abbrev cX12_goBack : ByteArray := prog_14_method_86_code
def yX12_goBack : MethodName := ⟨RX12, "goBack", "(I)I"⟩
def RJ6 : String := "java/lang/Integer"
def TJ6 : u_T := fun k => match k with
  | _ => ("", "", "", false)
def tyJ6 : Nat → FieldType := fun k => match k with
  | _ => .int
abbrev wsJ60 : List Cond := u_ws RJ6 TJ6 0
theorem nmJ6 : ∀ a, a < 0 → ∀ b, b < 0 → a ≠ b → (TJ6 a).2.1 ≠ (TJ6 b).2.1 := by decide +kernel
theorem tyJ6_ok : ∀ k, k < 0 → parseFieldDescriptor (TJ6 k).2.2.1 = some (tyJ6 k) := by decide +kernel
abbrev cJ6_bitCount_0f7a4 : ByteArray := prog_15_method_49_code
def yJ6_bitCount_0f7a4 : MethodName := ⟨RJ6, "bitCount", "(I)I"⟩
def RJ9 : String := "java/lang/Math"
def TJ9 : u_T := fun k => match k with
  | _ => ("", "", "", false)
def tyJ9 : Nat → FieldType := fun k => match k with
  | _ => .int
abbrev wsJ90 : List Cond := u_ws RJ9 TJ9 0
theorem nmJ9 : ∀ a, a < 0 → ∀ b, b < 0 → a ≠ b → (TJ9 a).2.1 ≠ (TJ9 b).2.1 := by decide +kernel
theorem tyJ9_ok : ∀ k, k < 0 → parseFieldDescriptor (TJ9 k).2.2.1 = some (tyJ9 k) := by decide +kernel
abbrev cJ9_max_7cf53 : ByteArray := prog_16_method_65_code
def yJ9_max_7cf53 : MethodName := ⟨RJ9, "max", "(II)I"⟩
abbrev cJ9_min_7cf53 : ByteArray := prog_16_method_69_code
def yJ9_min_7cf53 : MethodName := ⟨RJ9, "min", "(II)I"⟩
def RJ10 : String := "java/lang/System"
def TJ10 : u_T := fun k => match k with
  | _ => ("", "", "", false)
def tyJ10 : Nat → FieldType := fun k => match k with
  | _ => .int
abbrev wsJ100 : List Cond := u_ws RJ10 TJ10 0
theorem nmJ10 : ∀ a, a < 0 → ∀ b, b < 0 → a ≠ b → (TJ10 a).2.1 ≠ (TJ10 b).2.1 := by decide +kernel
theorem tyJ10_ok : ∀ k, k < 0 → parseFieldDescriptor (TJ10 k).2.2.1 = some (tyJ10 k) := by decide +kernel
def RL : String := "SuetTroublesLaw"
abbrev cL_law : ByteArray := code
def yL_law : MethodName := ⟨RL, "law", "([I)Z"⟩
theorem inX0 : ∀ w ∈ wsX00, w ∈ lw_tbl := by decide +kernel
theorem inX1 : ∀ w ∈ wsX10, w ∈ lw_tbl := by decide +kernel
theorem inX2 : ∀ w ∈ wsX20, w ∈ lw_tbl := by decide +kernel
theorem inX3 : ∀ w ∈ wsX30, w ∈ lw_tbl := by decide +kernel
theorem inX4 : ∀ w ∈ wsX40, w ∈ lw_tbl := by decide +kernel
theorem inX5 : ∀ w ∈ wsX50, w ∈ lw_tbl := by decide +kernel
theorem inX6 : ∀ w ∈ wsX60, w ∈ lw_tbl := by decide +kernel
theorem inX7 : ∀ w ∈ wsX70, w ∈ lw_tbl := by decide +kernel
theorem inX8 : ∀ w ∈ wsX80, w ∈ lw_tbl := by decide +kernel
theorem inX10 : ∀ w ∈ wsX100, w ∈ lw_tbl := by decide +kernel
theorem inX11 : ∀ w ∈ wsX110, w ∈ lw_tbl := by decide +kernel
theorem inX12 : ∀ w ∈ wsX120, w ∈ lw_tbl := by decide +kernel
def lw_g : List Cond := lw_tbl.filter goodWord
theorem lw_gIn {w : Cond} (h : w ∈ lw_tbl) (hg : goodWord w = true) : w ∈ lw_g := List.mem_filter.mpr ⟨h, hg⟩
theorem lw_gSub {w : Cond} (h : w ∈ lw_g) : w ∈ lw_tbl := (List.mem_filter.mp h).1
theorem lw_gGood {w : Cond} (h : w ∈ lw_g) : (w.onTables && w.keeps) = true ∨ ∃ ty, w = .arrayClass ty := good_of_word (List.mem_filter.mp h).2
theorem igX0 : ∀ w ∈ wsX00, w ∈ lw_g := by
  intro w h
  exact lw_gIn (inX0 w h) (by have := List.all_eq_true.mp (show wsX00.all goodWord = true by decide +kernel) w h; exact this)
theorem igX1 : ∀ w ∈ wsX10, w ∈ lw_g := by
  intro w h
  exact lw_gIn (inX1 w h) (by have := List.all_eq_true.mp (show wsX10.all goodWord = true by decide +kernel) w h; exact this)
theorem igX2 : ∀ w ∈ wsX20, w ∈ lw_g := by
  intro w h
  exact lw_gIn (inX2 w h) (by have := List.all_eq_true.mp (show wsX20.all goodWord = true by decide +kernel) w h; exact this)
theorem igX3 : ∀ w ∈ wsX30, w ∈ lw_g := by
  intro w h
  exact lw_gIn (inX3 w h) (by have := List.all_eq_true.mp (show wsX30.all goodWord = true by decide +kernel) w h; exact this)
theorem igX4 : ∀ w ∈ wsX40, w ∈ lw_g := by
  intro w h
  exact lw_gIn (inX4 w h) (by have := List.all_eq_true.mp (show wsX40.all goodWord = true by decide +kernel) w h; exact this)
theorem igX5 : ∀ w ∈ wsX50, w ∈ lw_g := by
  intro w h
  exact lw_gIn (inX5 w h) (by have := List.all_eq_true.mp (show wsX50.all goodWord = true by decide +kernel) w h; exact this)
theorem igX6 : ∀ w ∈ wsX60, w ∈ lw_g := by
  intro w h
  exact lw_gIn (inX6 w h) (by have := List.all_eq_true.mp (show wsX60.all goodWord = true by decide +kernel) w h; exact this)
theorem igX7 : ∀ w ∈ wsX70, w ∈ lw_g := by
  intro w h
  exact lw_gIn (inX7 w h) (by have := List.all_eq_true.mp (show wsX70.all goodWord = true by decide +kernel) w h; exact this)
theorem igX8 : ∀ w ∈ wsX80, w ∈ lw_g := by
  intro w h
  exact lw_gIn (inX8 w h) (by have := List.all_eq_true.mp (show wsX80.all goodWord = true by decide +kernel) w h; exact this)
theorem igX10 : ∀ w ∈ wsX100, w ∈ lw_g := by
  intro w h
  exact lw_gIn (inX10 w h) (by have := List.all_eq_true.mp (show wsX100.all goodWord = true by decide +kernel) w h; exact this)
theorem igX11 : ∀ w ∈ wsX110, w ∈ lw_g := by
  intro w h
  exact lw_gIn (inX11 w h) (by have := List.all_eq_true.mp (show wsX110.all goodWord = true by decide +kernel) w h; exact this)
theorem igX12 : ∀ w ∈ wsX120, w ∈ lw_g := by
  intro w h
  exact lw_gIn (inX12 w h) (by have := List.all_eq_true.mp (show wsX120.all goodWord = true by decide +kernel) w h; exact this)
end
section
/-! THE WORLD: all cells made since the base b, in the order of their making; their kinds, and what they hold. -/
abbrev zMI : Type := MethodName × ByteArray × Nat × Option FieldType
abbrev zKd : Type := Nat → Nat × Nat
abbrev zGm : Type := Nat → Nat → Option Nat
abbrev zSg : Type := Nat → Nat → Int32
abbrev zLm : Type := Nat → Nat → Int64
abbrev zDD : Type := va_G × (Nat → ClassId)
def cls12 : List vw_C := [(RX0, TX0, 3), (RX1, TX1, 6), (RX2, TX2, 4), (RX3, TX3, 1), (RX4, TX4, 4), (RX5, TX5, 6), (RX6, TX6, 8), (RX7, TX7, 5), (RX8, TX8, 6), (RX10, TX10, 2), (RX11, TX11, 12), (RX12, TX12, 36)]
def cN (t : Nat) : Nat := match t with
  | 0 => 3 | 1 => 6 | 2 => 4 | 3 => 1 | 4 => 4 | 5 => 6 | 6 => 8 | 7 => 5 | 8 => 6 | 9 => 2 | 10 => 12 | 11 => 36 | _ => 0
def cTy (t : Nat) : Nat → FieldType := match t with
  | 0 => tyX0 | 1 => tyX1 | 2 => tyX2 | 3 => tyX3 | 4 => tyX4 | 5 => tyX5 | 6 => tyX6 | 7 => tyX7 | 8 => tyX8 | 9 => tyX10 | 10 => tyX11 | _ => tyX12
def rv (b : Nat) (r : Option Nat) : Value := va_rf (r.map (fun c => b + c))
def fval (b : Nat) (ty : FieldType) (g : Option Nat) (x : Int32) (y : Int64) : Value := match ty with
  | .int => .int x
  | .long => .long y
  | _ => rv b g
def fldsOf (b t : Nat) (g : Nat → Option Nat) (x : Nat → Int32) (y : Nat → Int64) : List Value := (List.range (cN t)).map (fun j => fval b (cTy t j) (g j) (x j) (y j))
def zEnt (D : zDD) (b : Nat) (k : Nat × Nat) (g : Nat → Option Nat) (x : Nat → Int32) (y : Nat → Int64) : va_E := match k.1 with
  | 0 => .inl (D.2 0, k.2, .inl x)
  | 1 => .inl (D.2 1, k.2, .inl x)
  | 2 => .inl (D.2 2, k.2, .inr (.inl y))
  | 3 => .inl (D.2 3, k.2, .inr (.inr (.inr (.inr (fun j => (g j).map (fun c => b + c))))))
  | t + 4 => .inr (t, fldsOf b t g x y)
def zEE (D : zDD) (b : Nat) (kd : zKd) (γ : zGm) (σ : zSg) (τ : zLm) (c : Nat) : va_E := zEnt D b (kd c) (γ c) (σ c) (τ c)
def wlE (b N : Nat) (F : Nat → va_E) : va_W := (List.range N).map (fun c => (b + c, F c))
abbrev wl (D : zDD) (b N : Nat) (kd : zKd) (γ : zGm) (σ : zSg) (τ : zLm) : va_W := wlE b N (zEE D b kd γ σ τ)
def tysD (D : zDD) : List (ClassId × FieldType) := [(D.2 0, .int), (D.2 1, .boolean), (D.2 2, .long), (D.2 3, .object RX8)]
/-- fz = 0: nothing is said of the heap's size; else it is known (makers need it) -/
def zWd (D : zDD) (b fz N : Nat) (kd : zKd) (γ : zGm) (σ : zSg) (τ : zLm) (U : State) (H : Heap) : Prop := va_P D.1 cls12 (wl D b N kd γ σ τ) H ∧ va_K D.1 cls12 (tysD D) U ∧ (fz = 0 ∨ H.size = b + N)
theorem zWd.moved {D : zDD} {b fz N : Nat} {kd : zKd} {γ : zGm} {σ : zSg} {τ : zLm} {u U : State} {H : Heap} (hvm : u.vm.Alike U.vm) (h : zWd D b fz N kd γ σ τ u H) : zWd D b fz N kd γ σ τ U H := ⟨h.1, h.2.1.moved hvm, h.2.2⟩
theorem wlE_get {b N : Nat} {F : Nat → va_E} {c : Nat} (h : c < N) : (wlE b N F)[c]? = some (b + c, F c) := by
  simp [wlE, List.getElem?_range h]
theorem wlE_D (b N : Nat) (F : Nat → va_E) : va_D (fun q => b ≤ q) (wlE b N F) := by
  have key : ∀ (k : Nat) (q : Nat × va_E), (wlE b N F)[k]? = some q → q.1 = b + k := by
    intro k q hk
    by_cases hl : k < N
    · rw [wlE_get hl] at hk
      cases hk
      rfl
    · rw [List.getElem?_eq_none (by simp [wlE]; omega)] at hk
      cases hk
  refine ⟨fun i j p q hi hj hpq => ?_, fun k q hk => ?_⟩
  · have h1 := key i p hi
    have h2 := key j q hj
    omega
  · show b ≤ q.1
    rw [key k q hk]
    omega
theorem wlE_set {b N : Nat} {F : Nat → va_E} {c : Nat} {e : va_E} : (wlE b N F).set c (b + c, e) = wlE b N (va_up F c e) := by
  apply List.ext_getElem?
  intro j
  by_cases hN : j < N
  · rw [wlE_get hN]
    by_cases hj : j = c
    · subst hj
      rw [List.getElem?_set_self (by simp [wlE]; exact hN)]
      simp [va_up]
    · rw [List.getElem?_set_ne (Ne.symm hj), wlE_get hN]
      simp [va_up, hj]
  · rw [List.getElem?_eq_none (by simp [wlE]; omega), List.getElem?_eq_none (by simp [wlE]; omega)]
theorem wlE_push {b N : Nat} {F : Nat → va_E} {e : va_E} : wlE b N F ++ [(b + N, e)] = wlE b (N + 1) (va_up F N e) := by
  apply List.ext_getElem?
  intro j
  by_cases hN : j < N
  · rw [List.getElem?_append_left (by simp [wlE]; exact hN), wlE_get hN, wlE_get (by omega)]
    simp [va_up, Nat.ne_of_lt hN]
  · rw [List.getElem?_append_right (by simp [wlE]; omega)]
    by_cases hj : j = N
    · subst hj
      rw [wlE_get (by omega)]
      simp [wlE, va_up]
    · rw [List.getElem?_eq_none (by simp [wlE]; omega), List.getElem?_eq_none (by simp [wlE]; omega)]
/-- a store of one slot -/
def st2 {α : Type} (f : Nat → Nat → α) (c j : Nat) (v : α) : Nat → Nat → α := va_up f c (va_up (f c) j v)
theorem zEE_σ {D : zDD} {b : Nat} {kd : zKd} {γ : zGm} {σ : zSg} {τ : zLm} {c : Nat} {f : Nat → Int32} : va_up (zEE D b kd γ σ τ) c (zEnt D b (kd c) (γ c) f (τ c)) = zEE D b kd γ (va_up σ c f) τ := by
  funext q
  by_cases h : q = c
  · subst h; simp [zEE, va_up]
  · simp [zEE, va_up, h]
theorem zEE_τ {D : zDD} {b : Nat} {kd : zKd} {γ : zGm} {σ : zSg} {τ : zLm} {c : Nat} {f : Nat → Int64} : va_up (zEE D b kd γ σ τ) c (zEnt D b (kd c) (γ c) (σ c) f) = zEE D b kd γ σ (va_up τ c f) := by
  funext q
  by_cases h : q = c
  · subst h; simp [zEE, va_up]
  · simp [zEE, va_up, h]
theorem zEE_γ {D : zDD} {b : Nat} {kd : zKd} {γ : zGm} {σ : zSg} {τ : zLm} {c : Nat} {f : Nat → Option Nat} : va_up (zEE D b kd γ σ τ) c (zEnt D b (kd c) f (σ c) (τ c)) = zEE D b kd (va_up γ c f) σ τ := by
  funext q
  by_cases h : q = c
  · subst h; simp [zEE, va_up]
  · simp [zEE, va_up, h]
theorem zEE_new {D : zDD} {b : Nat} {kd : zKd} {γ : zGm} {σ : zSg} {τ : zLm} {c : Nat} {k : Nat × Nat} {g : Nat → Option Nat} {x : Nat → Int32} {y : Nat → Int64} : va_up (zEE D b kd γ σ τ) c (zEnt D b k g x y) = zEE D b (va_up kd c k) (va_up γ c g) (va_up σ c x) (va_up τ c y) := by
  funext q
  by_cases h : q = c
  · subst h; simp [zEE, va_up]
  · simp [zEE, va_up, h]
theorem flds_get {b t : Nat} {g : Nat → Option Nat} {x : Nat → Int32} {y : Nat → Int64} {j : Nat} (h : j < cN t) : (fldsOf b t g x y)[j]? = some (fval b (cTy t j) (g j) (x j) (y j)) := by
  simp [fldsOf, List.getElem?_range h]
theorem flds_len {b t : Nat} {g : Nat → Option Nat} {x : Nat → Int32} {y : Nat → Int64} : (fldsOf b t g x y).length = cN t := by simp [fldsOf]
theorem flds_set {b t : Nat} {g g' : Nat → Option Nat} {x x' : Nat → Int32} {y y' : Nat → Int64} {j : Nat} {v : Value} (hv : fval b (cTy t j) (g' j) (x' j) (y' j) = v) (ho : ∀ i, i ≠ j → g' i = g i ∧ x' i = x i ∧ y' i = y i) : (fldsOf b t g x y).set j v = fldsOf b t g' x' y' := by
  apply List.ext_getElem?
  intro i
  by_cases hN : i < cN t
  · rw [flds_get hN]
    by_cases hj : i = j
    · subst hj
      rw [List.getElem?_set_self (by rw [flds_len]; exact hN), hv]
    · rw [List.getElem?_set_ne (Ne.symm hj), flds_get hN, (ho i hj).1, (ho i hj).2.1, (ho i hj).2.2]
  · rw [List.getElem?_eq_none (by rw [List.length_set, flds_len]; omega), List.getElem?_eq_none (by rw [flds_len]; omega)]
theorem cls_N {t : Nat} {C : String} {T : u_T} {n : Nat} (h : cls12[t]? = some (C, T, n)) : cN t = n ∧ (∀ w ∈ u_ws C T n, w ∈ lw_g) ∧ (∀ k, k < n → parseFieldDescriptor (T k).2.2.1 = some (cTy t k)) ∧ (∀ a, a < n → ∀ b, b < n → a ≠ b → (T a).2.1 ≠ (T b).2.1) := by
  match t, h with
  | 0, h => cases h; exact ⟨rfl, igX0, tyX0_ok, nmX0⟩
  | 1, h => cases h; exact ⟨rfl, igX1, tyX1_ok, nmX1⟩
  | 2, h => cases h; exact ⟨rfl, igX2, tyX2_ok, nmX2⟩
  | 3, h => cases h; exact ⟨rfl, igX3, tyX3_ok, nmX3⟩
  | 4, h => cases h; exact ⟨rfl, igX4, tyX4_ok, nmX4⟩
  | 5, h => cases h; exact ⟨rfl, igX5, tyX5_ok, nmX5⟩
  | 6, h => cases h; exact ⟨rfl, igX6, tyX6_ok, nmX6⟩
  | 7, h => cases h; exact ⟨rfl, igX7, tyX7_ok, nmX7⟩
  | 8, h => cases h; exact ⟨rfl, igX8, tyX8_ok, nmX8⟩
  | 9, h => cases h; exact ⟨rfl, igX10, tyX10_ok, nmX10⟩
  | 10, h => cases h; exact ⟨rfl, igX11, tyX11_ok, nmX11⟩
  | 11, h => cases h; exact ⟨rfl, igX12, tyX12_ok, nmX12⟩
  | t + 12, h => simp [cls12] at h
end
section
/-! THE JUDGEMENT zA: a method at a place, with its locals and stack, in a world; and its rows, one an instruction. -/
def nestL : List Cond := [.methodLinkNest "SuetTroubles" 9 ⟨"SuetTroubles$Reader", "<init>", "()V"⟩ "SuetTroubles", .methodLinkNest "SuetTroubles" 18 ⟨"SuetTroubles$Plan", "<init>", "()V"⟩ "SuetTroubles", .methodLinkNest "SuetTroubles" 28 ⟨"SuetTroubles$Scene", "<init>", "()V"⟩ "SuetTroubles", .methodLinkNest "SuetTroubles" 35 ⟨"SuetTroubles$Sheets", "<init>", "()V"⟩ "SuetTroubles", .methodLinkNest "SuetTroubles" 42 ⟨"SuetTroubles$Draws", "<init>", "()V"⟩ "SuetTroubles", .methodLinkNest "SuetTroubles$Past" 28 ⟨"SuetTroubles$Scene", "<init>", "()V"⟩ "SuetTroubles", .methodLinkNest "SuetTroubles" 65 ⟨"SuetTroubles$Orders", "<init>", "()V"⟩ "SuetTroubles", .methodLinkNest "SuetTroubles" 72 ⟨"SuetTroubles$Cloth", "<init>", "()V"⟩ "SuetTroubles", .methodLinkNest "SuetTroubles" 79 ⟨"SuetTroubles$Book", "<init>", "()V"⟩ "SuetTroubles"]
def zNW (U : State) : Prop := (∀ w ∈ nestL, va_Nw w U) ∧ va_AO RX8 U
theorem zNW.warm {s U : State} (hW : s.WarmedH U.vm) (h : zNW s) : zNW U := by
  refine ⟨fun w hw => ?_, h.2.moved hW.alike⟩
  have h1 := h.1 w hw
  simp only [nestL, List.mem_cons, List.not_mem_nil, or_false] at hw
  rcases hw with rfl | rfl | rfl | rfl | rfl | rfl | rfl | rfl | rfl <;> exact va_Nw.warmM hW h1
theorem zNW.same {u U : State} (e : u.vm = U.vm) (h : zNW u) : zNW U := by
  refine ⟨fun w hw => ?_, h.2.moved (by rw [e]; exact Vm.Alike.refl _)⟩
  have h1 := h.1 w hw
  simp only [nestL, List.mem_cons, List.not_mem_nil, or_false] at hw
  rcases hw with rfl | rfl | rfl | rfl | rfl | rfl | rfl | rfl | rfl <;> exact va_Nw.same rfl e h1
def zCx (b : Nat) (M : zMI) (h kc ks : Nat) (p : Program) (R : Room) (s : State) (m : MethodId) (args : Array Value) (meth : Method) (c : Code) : Prop :=
  p.tables.exec = Jvm.exec ∧ c.code = M.2.1 ∧ meth.sig.returnType = M.2.2.2 ∧ c.maxLocals = M.2.2.1 ∧ s.vm.findClass M.1.cls = some m.cls ∧ (∀ w ∈ lw_g, w.before args s = true) ∧ meth.locks = false ∧ meth.name = M.1.name ∧ b ≤ s.heap.size ∧ h ≤ R.frames ∧ 40 * h ≤ R.locals ∧ kc ≤ R.cells ∧ ks ≤ R.slots ∧ zNW s
abbrev zZZ : Type := Array Value → State → List Frame → State → Prop
def zA (l : Launch) (D : zDD) (b : Nat) (M : zMI) (h fz kc ks : Nat) (Z : zZZ) (pc : Nat) (lv : List (Nat × Value)) (stk : List Value) (k n N : Nat) (kd : zKd) (γ : zGm) (σ : zSg) (τ : zLm) : Prop :=
  ∀ (p : Program) (e : Env) (R : Room) (s : State) (m : MethodId) (args : Array Value) (below : List Frame) (meth : Method) (c : Code), zCx b M h kc ks p R s m args meth c →
  ∀ (H : Heap) (locs : List Loc) (ls : Array Slot), lv_has ls M.2.2.1 lv → zWd D b fz N kd γ σ τ s H → va_S (fun q => b ≤ q) s.heap H locs → W p l e R s m args below meth c H locs k n (Z args s below) (F0 m pc ls stk)
section ROWS
variable {l : Launch} {D : zDD} {b : Nat} {M : zMI} {h fz kc ks : Nat} {Z : zZZ} {pc : Nat} {lv lv' : List (Nat × Value)} {stk : List Value} {k n N : Nat} {kd : zKd} {γ : zGm} {σ : zSg} {τ : zLm}
theorem r_iadd {x y : Int32} (hd : decode M.2.1 pc = .ok (.iadd, 1)) (a : zA l D b M h fz kc ks Z (pc + 1) lv (.int (x + y) :: stk) k n N kd γ σ τ) : zA l D b M h fz kc ks Z pc lv (.int y :: .int x :: stk) k n N kd γ σ τ :=
  fun p e R s m args below meth c C H locs ls hl hW hS => lv_iadd C.1 C.2.1 hd (a p e R s m args below meth c C H locs ls hl hW hS)
theorem r_isub {x y : Int32} (hd : decode M.2.1 pc = .ok (.isub, 1)) (a : zA l D b M h fz kc ks Z (pc + 1) lv (.int (x - y) :: stk) k n N kd γ σ τ) : zA l D b M h fz kc ks Z pc lv (.int y :: .int x :: stk) k n N kd γ σ τ :=
  fun p e R s m args below meth c C H locs ls hl hW hS => lv_isub C.1 C.2.1 hd (a p e R s m args below meth c C H locs ls hl hW hS)
theorem r_imul {x y : Int32} (hd : decode M.2.1 pc = .ok (.imul, 1)) (a : zA l D b M h fz kc ks Z (pc + 1) lv (.int (x * y) :: stk) k n N kd γ σ τ) : zA l D b M h fz kc ks Z pc lv (.int y :: .int x :: stk) k n N kd γ σ τ :=
  fun p e R s m args below meth c C H locs ls hl hW hS => lv_imul C.1 C.2.1 hd (a p e R s m args below meth c C H locs ls hl hW hS)
theorem r_iand {x y : Int32} (hd : decode M.2.1 pc = .ok (.iand, 1)) (a : zA l D b M h fz kc ks Z (pc + 1) lv (.int (x &&& y) :: stk) k n N kd γ σ τ) : zA l D b M h fz kc ks Z pc lv (.int y :: .int x :: stk) k n N kd γ σ τ :=
  fun p e R s m args below meth c C H locs ls hl hW hS => lv_iand C.1 C.2.1 hd (a p e R s m args below meth c C H locs ls hl hW hS)
theorem r_ior {x y : Int32} (hd : decode M.2.1 pc = .ok (.ior, 1)) (a : zA l D b M h fz kc ks Z (pc + 1) lv (.int (x ||| y) :: stk) k n N kd γ σ τ) : zA l D b M h fz kc ks Z pc lv (.int y :: .int x :: stk) k n N kd γ σ τ :=
  fun p e R s m args below meth c C H locs ls hl hW hS => lv_ior C.1 C.2.1 hd (a p e R s m args below meth c C H locs ls hl hW hS)
theorem r_ixor {x y : Int32} (hd : decode M.2.1 pc = .ok (.ixor, 1)) (a : zA l D b M h fz kc ks Z (pc + 1) lv (.int (x ^^^ y) :: stk) k n N kd γ σ τ) : zA l D b M h fz kc ks Z pc lv (.int y :: .int x :: stk) k n N kd γ σ τ :=
  fun p e R s m args below meth c C H locs ls hl hW hS => lv_ixor C.1 C.2.1 hd (a p e R s m args below meth c C H locs ls hl hW hS)
theorem r_idiv {x y : Int32} (hd : decode M.2.1 pc = .ok (.idiv, 1)) (hne : ¬ y = 0) (a : zA l D b M h fz kc ks Z (pc + 1) lv (.int (x / y) :: stk) k n N kd γ σ τ) : zA l D b M h fz kc ks Z pc lv (.int y :: .int x :: stk) k n N kd γ σ τ :=
  fun p e R s m args below meth c C H locs ls hl hW hS => lv_idiv C.1 C.2.1 hd hne (a p e R s m args below meth c C H locs ls hl hW hS)
theorem r_irem {x y : Int32} (hd : decode M.2.1 pc = .ok (.irem, 1)) (hne : ¬ y = 0) (a : zA l D b M h fz kc ks Z (pc + 1) lv (.int (x - x / y * y) :: stk) k n N kd γ σ τ) : zA l D b M h fz kc ks Z pc lv (.int y :: .int x :: stk) k n N kd γ σ τ :=
  fun p e R s m args below meth c C H locs ls hl hW hS => lv_irem C.1 C.2.1 hd hne (a p e R s m args below meth c C H locs ls hl hW hS)
theorem r_ineg {x : Int32} (hd : decode M.2.1 pc = .ok (.ineg, 1)) (a : zA l D b M h fz kc ks Z (pc + 1) lv (.int (-x) :: stk) k n N kd γ σ τ) : zA l D b M h fz kc ks Z pc lv (.int x :: stk) k n N kd γ σ τ :=
  fun p e R s m args below meth c C H locs ls hl hW hS => lv_ineg C.1 C.2.1 hd (a p e R s m args below meth c C H locs ls hl hW hS)
theorem r_ishl {x y : Int32} (hd : decode M.2.1 pc = .ok (.ishl, 1)) (a : zA l D b M h fz kc ks Z (pc + 1) lv (.int (x <<< (y &&& 31)) :: stk) k n N kd γ σ τ) : zA l D b M h fz kc ks Z pc lv (.int y :: .int x :: stk) k n N kd γ σ τ :=
  fun p e R s m args below meth c C H locs ls hl hW hS => lv_ishl C.1 C.2.1 hd (a p e R s m args below meth c C H locs ls hl hW hS)
theorem r_ishr {x y : Int32} (hd : decode M.2.1 pc = .ok (.ishr, 1)) (a : zA l D b M h fz kc ks Z (pc + 1) lv (.int (x >>> (y &&& 31)) :: stk) k n N kd γ σ τ) : zA l D b M h fz kc ks Z pc lv (.int y :: .int x :: stk) k n N kd γ σ τ :=
  fun p e R s m args below meth c C H locs ls hl hW hS => lv_ishr C.1 C.2.1 hd (a p e R s m args below meth c C H locs ls hl hW hS)
theorem r_iushr {x y : Int32} (hd : decode M.2.1 pc = .ok (.iushr, 1)) (a : zA l D b M h fz kc ks Z (pc + 1) lv (.int ((x.toUInt32 >>> (y.toUInt32 &&& Int32.toUInt32 31)).toInt32) :: stk) k n N kd γ σ τ) : zA l D b M h fz kc ks Z pc lv (.int y :: .int x :: stk) k n N kd γ σ τ :=
  fun p e R s m args below meth c C H locs ls hl hW hS => lv_iushr C.1 C.2.1 hd rfl (a p e R s m args below meth c C H locs ls hl hW hS)
theorem r_ladd {x y : Int64} (hd : decode M.2.1 pc = .ok (.ladd, 1)) (a : zA l D b M h fz kc ks Z (pc + 1) lv (.long (x + y) :: stk) k n N kd γ σ τ) : zA l D b M h fz kc ks Z pc lv (.long y :: .long x :: stk) k n N kd γ σ τ :=
  fun p e R s m args below meth c C H locs ls hl hW hS => lv_ladd C.1 C.2.1 hd (a p e R s m args below meth c C H locs ls hl hW hS)
theorem r_lmul {x y : Int64} (hd : decode M.2.1 pc = .ok (.lmul, 1)) (a : zA l D b M h fz kc ks Z (pc + 1) lv (.long (x * y) :: stk) k n N kd γ σ τ) : zA l D b M h fz kc ks Z pc lv (.long y :: .long x :: stk) k n N kd γ σ τ :=
  fun p e R s m args below meth c C H locs ls hl hW hS => lv_lmul C.1 C.2.1 hd (a p e R s m args below meth c C H locs ls hl hW hS)
theorem r_ldiv {x y : Int64} (hd : decode M.2.1 pc = .ok (.ldiv, 1)) (hne : ¬ y = 0) (a : zA l D b M h fz kc ks Z (pc + 1) lv (.long (x / y) :: stk) k n N kd γ σ τ) : zA l D b M h fz kc ks Z pc lv (.long y :: .long x :: stk) k n N kd γ σ τ :=
  fun p e R s m args below meth c C H locs ls hl hW hS => lv_ldiv C.1 C.2.1 hd hne (a p e R s m args below meth c C H locs ls hl hW hS)
theorem r_lrem {x y : Int64} (hd : decode M.2.1 pc = .ok (.lrem, 1)) (hne : ¬ y = 0) (a : zA l D b M h fz kc ks Z (pc + 1) lv (.long (x - x / y * y) :: stk) k n N kd γ σ τ) : zA l D b M h fz kc ks Z pc lv (.long y :: .long x :: stk) k n N kd γ σ τ :=
  fun p e R s m args below meth c C H locs ls hl hW hS => lv_lrem C.1 C.2.1 hd hne (a p e R s m args below meth c C H locs ls hl hW hS)
theorem r_i2l {x : Int32} (hd : decode M.2.1 pc = .ok (.i2l, 1)) (a : zA l D b M h fz kc ks Z (pc + 1) lv (.long x.toInt64 :: stk) k n N kd γ σ τ) : zA l D b M h fz kc ks Z pc lv (.int x :: stk) k n N kd γ σ τ :=
  fun p e R s m args below meth c C H locs ls hl hW hS => lv_i2l C.1 C.2.1 hd rfl (a p e R s m args below meth c C H locs ls hl hW hS)
theorem r_l2i {x : Int64} (hd : decode M.2.1 pc = .ok (.l2i, 1)) (a : zA l D b M h fz kc ks Z (pc + 1) lv (.int x.toInt32 :: stk) k n N kd γ σ τ) : zA l D b M h fz kc ks Z pc lv (.long x :: stk) k n N kd γ σ τ :=
  fun p e R s m args below meth c C H locs ls hl hW hS => lv_l2i C.1 C.2.1 hd rfl (a p e R s m args below meth c C H locs ls hl hW hS)
theorem r_dup {va : Value} (hd : decode M.2.1 pc = .ok (.dup, 1)) (hva : va.category = 1) (a : zA l D b M h fz kc ks Z (pc + 1) lv (va :: va :: stk) k n N kd γ σ τ) : zA l D b M h fz kc ks Z pc lv (va :: stk) k n N kd γ σ τ :=
  fun p e R s m args below meth c C H locs ls hl hW hS => lv_dup C.1 C.2.1 hd hva (a p e R s m args below meth c C H locs ls hl hW hS)
theorem r_pop {va : Value} (hd : decode M.2.1 pc = .ok (.pop, 1)) (hva : va.category = 1) (a : zA l D b M h fz kc ks Z (pc + 1) lv (stk) k n N kd γ σ τ) : zA l D b M h fz kc ks Z pc lv (va :: stk) k n N kd γ σ τ :=
  fun p e R s m args below meth c C H locs ls hl hW hS => lv_pop C.1 C.2.1 hd hva (a p e R s m args below meth c C H locs ls hl hW hS)
theorem r_dup2 {va vb : Value} (hd : decode M.2.1 pc = .ok (.dup2, 1)) (hva : va.category = 1) (hvb : vb.category = 1) (a : zA l D b M h fz kc ks Z (pc + 1) lv (va :: vb :: va :: vb :: stk) k n N kd γ σ τ) : zA l D b M h fz kc ks Z pc lv (va :: vb :: stk) k n N kd γ σ τ :=
  fun p e R s m args below meth c C H locs ls hl hW hS => lv_dup2_11 C.1 C.2.1 hd hva hvb (a p e R s m args below meth c C H locs ls hl hW hS)
theorem r_iconst {z : Int} {v : Int32} (hd : decode M.2.1 pc = .ok (.iconst z, 1)) (hv : Int32.ofInt z = v) (a : zA l D b M h fz kc ks Z (pc + 1) lv (.int v :: stk) k n N kd γ σ τ) : zA l D b M h fz kc ks Z pc lv (stk) k n N kd γ σ τ :=
  fun p e R s m args below meth c C H locs ls hl hW hS => lv_iconst C.1 C.2.1 hd hv (a p e R s m args below meth c C H locs ls hl hW hS)
theorem r_bipush {z : Int} {v : Int32} (hd : decode M.2.1 pc = .ok (.bipush z, 2)) (hv : (Int8.ofInt z).toInt32 = v) (a : zA l D b M h fz kc ks Z (pc + 2) lv (.int v :: stk) k n N kd γ σ τ) : zA l D b M h fz kc ks Z pc lv (stk) k n N kd γ σ τ :=
  fun p e R s m args below meth c C H locs ls hl hW hS => lv_bipush C.1 C.2.1 hd hv (a p e R s m args below meth c C H locs ls hl hW hS)
theorem r_sipush {z : Int} {v : Int32} (hd : decode M.2.1 pc = .ok (.sipush z, 3)) (hv : (Int16.ofInt z).toInt32 = v) (a : zA l D b M h fz kc ks Z (pc + 3) lv (.int v :: stk) k n N kd γ σ τ) : zA l D b M h fz kc ks Z pc lv (stk) k n N kd γ σ τ :=
  fun p e R s m args below meth c C H locs ls hl hW hS => lv_sipush C.1 C.2.1 hd hv (a p e R s m args below meth c C H locs ls hl hW hS)
theorem r_ldc {own : String} {index : Nat} {v : Int32} (ho : M.1.cls = own) (hw : Cond.constant own index v ∈ lw_tbl) (hg : goodWord (Cond.constant own index v) = true) (hd : decode M.2.1 pc = .ok (.ldc index, 2)) (a : zA l D b M h fz kc ks Z (pc + 2) lv (.int v :: stk) k n N kd γ σ τ) : zA l D b M h fz kc ks Z pc lv stk k n N kd γ σ τ := by
  subst ho
  exact fun p e R s m args below meth c C H locs ls hl hW hS => lv_ldc C.1 C.2.1 C.2.2.2.2.1 (C.2.2.2.2.2.1 _ (lw_gIn hw hg)) hd (a p e R s m args below meth c C H locs ls hl hW hS)
theorem r_ldcw {own : String} {index : Nat} {v : Int32} (ho : M.1.cls = own) (hw : Cond.constant own index v ∈ lw_tbl) (hg : goodWord (Cond.constant own index v) = true) (hd : decode M.2.1 pc = .ok (.ldc_w index, 3)) (a : zA l D b M h fz kc ks Z (pc + 3) lv (.int v :: stk) k n N kd γ σ τ) : zA l D b M h fz kc ks Z pc lv stk k n N kd γ σ τ := by
  subst ho
  exact fun p e R s m args below meth c C H locs ls hl hW hS => lv_ldcw C.1 C.2.1 C.2.2.2.2.1 (C.2.2.2.2.2.1 _ (lw_gIn hw hg)) hd (a p e R s m args below meth c C H locs ls hl hW hS)
theorem r_ldc2 {own : String} {index : Nat} {v : Int64} (ho : M.1.cls = own) (hw : Cond.constantLong own index v ∈ lw_tbl) (hg : goodWord (Cond.constantLong own index v) = true) (hd : decode M.2.1 pc = .ok (.ldc2_w index, 3)) (a : zA l D b M h fz kc ks Z (pc + 3) lv (.long v :: stk) k n N kd γ σ τ) : zA l D b M h fz kc ks Z pc lv stk k n N kd γ σ τ := by
  subst ho
  exact fun p e R s m args below meth c C H locs ls hl hW hS => lv_ldc2 C.1 C.2.1 C.2.2.2.2.1 (C.2.2.2.2.2.1 _ (lw_gIn hw hg)) hd (a p e R s m args below meth c C H locs ls hl hW hS)
theorem r_iload_n (q : Nat) {f : Fin 4} {i : Nat} {x : Int32} (hd : decode M.2.1 pc = .ok (.iload_n f, 1)) (hf : (f : Nat) = i) (hq : lv[q]? = some (i, .int x)) (a : zA l D b M h fz kc ks Z (pc + 1) lv (.int x :: stk) k n N kd γ σ τ) : zA l D b M h fz kc ks Z pc lv stk k n N kd γ σ τ :=
  fun p e R s m args below meth c C H locs ls hl hW hS => lv_iload_n C.1 C.2.1 hd hf (lv_at hl q hq) (a p e R s m args below meth c C H locs ls hl hW hS)
theorem r_iload (q : Nat) {i : Nat} {x : Int32} (hd : decode M.2.1 pc = .ok (.iload i, 2)) (hq : lv[q]? = some (i, .int x)) (a : zA l D b M h fz kc ks Z (pc + 2) lv (.int x :: stk) k n N kd γ σ τ) : zA l D b M h fz kc ks Z pc lv stk k n N kd γ σ τ :=
  fun p e R s m args below meth c C H locs ls hl hW hS => lv_iload C.1 C.2.1 hd (lv_at hl q hq) (a p e R s m args below meth c C H locs ls hl hW hS)
theorem r_istore_n {f : Fin 4} {i : Nat} {x : Int32} (hd : decode M.2.1 pc = .ok (.istore_n f, 1)) (hf : (f : Nat) = i) (hn : i < M.2.2.1) (hl0 : (i, (.int x : Value)) :: lv.filter (fun q => !(q.1 == i) && !(q.1 + 1 == i && q.2.category == 2)) = lv') (a : zA l D b M h fz kc ks Z (pc + 1) lv' stk k n N kd γ σ τ) : zA l D b M h fz kc ks Z pc lv (.int x :: stk) k n N kd γ σ τ :=
  fun p e R s m args below meth c C H locs ls hl hW hS => lv_istore_n C.1 C.2.1 hd hf hl hn hl0 (fun ls' hl' => a p e R s m args below meth c C H locs ls' hl' hW hS)
theorem r_istore {i : Nat} {x : Int32} (hd : decode M.2.1 pc = .ok (.istore i, 2)) (hn : i < M.2.2.1) (hl0 : (i, (.int x : Value)) :: lv.filter (fun q => !(q.1 == i) && !(q.1 + 1 == i && q.2.category == 2)) = lv') (a : zA l D b M h fz kc ks Z (pc + 2) lv' stk k n N kd γ σ τ) : zA l D b M h fz kc ks Z pc lv (.int x :: stk) k n N kd γ σ τ :=
  fun p e R s m args below meth c C H locs ls hl hW hS => lv_istore C.1 C.2.1 hd hl hn hl0 (fun ls' hl' => a p e R s m args below meth c C H locs ls' hl' hW hS)
theorem r_lload_n (q : Nat) {f : Fin 4} {i : Nat} {x : Int64} (hd : decode M.2.1 pc = .ok (.lload_n f, 1)) (hf : (f : Nat) = i) (hq : lv[q]? = some (i, .long x)) (a : zA l D b M h fz kc ks Z (pc + 1) lv (.long x :: stk) k n N kd γ σ τ) : zA l D b M h fz kc ks Z pc lv stk k n N kd γ σ τ :=
  fun p e R s m args below meth c C H locs ls hl hW hS => lv_lload_n C.1 C.2.1 hd hf (lv_at hl q hq) (a p e R s m args below meth c C H locs ls hl hW hS)
theorem r_lload (q : Nat) {i : Nat} {x : Int64} (hd : decode M.2.1 pc = .ok (.lload i, 2)) (hq : lv[q]? = some (i, .long x)) (a : zA l D b M h fz kc ks Z (pc + 2) lv (.long x :: stk) k n N kd γ σ τ) : zA l D b M h fz kc ks Z pc lv stk k n N kd γ σ τ :=
  fun p e R s m args below meth c C H locs ls hl hW hS => lv_lload C.1 C.2.1 hd (lv_at hl q hq) (a p e R s m args below meth c C H locs ls hl hW hS)
theorem r_lstore_n {f : Fin 4} {i : Nat} {x : Int64} (hd : decode M.2.1 pc = .ok (.lstore_n f, 1)) (hf : (f : Nat) = i) (hn : i + 1 < M.2.2.1) (hl0 : (i, (.long x : Value)) :: lv.filter (fun q => !(q.1 == i) && (!(q.1 == i + 1) && !(q.1 + 1 == i && q.2.category == 2))) = lv') (a : zA l D b M h fz kc ks Z (pc + 1) lv' stk k n N kd γ σ τ) : zA l D b M h fz kc ks Z pc lv (.long x :: stk) k n N kd γ σ τ :=
  fun p e R s m args below meth c C H locs ls hl hW hS => lv_lstore_n C.1 C.2.1 hd hf hl hn hl0 (fun ls' hl' => a p e R s m args below meth c C H locs ls' hl' hW hS)
theorem r_lstore {i : Nat} {x : Int64} (hd : decode M.2.1 pc = .ok (.lstore i, 2)) (hn : i + 1 < M.2.2.1) (hl0 : (i, (.long x : Value)) :: lv.filter (fun q => !(q.1 == i) && (!(q.1 == i + 1) && !(q.1 + 1 == i && q.2.category == 2))) = lv') (a : zA l D b M h fz kc ks Z (pc + 2) lv' stk k n N kd γ σ τ) : zA l D b M h fz kc ks Z pc lv (.long x :: stk) k n N kd γ σ τ :=
  fun p e R s m args below meth c C H locs ls hl hW hS => lv_lstore C.1 C.2.1 hd hl hn hl0 (fun ls' hl' => a p e R s m args below meth c C H locs ls' hl' hW hS)
theorem r_aload_n (q : Nat) {f : Fin 4} {i : Nat} {x : Nat} (hd : decode M.2.1 pc = .ok (.aload_n f, 1)) (hf : (f : Nat) = i) (hq : lv[q]? = some (i, .ref x)) (a : zA l D b M h fz kc ks Z (pc + 1) lv (.ref x :: stk) k n N kd γ σ τ) : zA l D b M h fz kc ks Z pc lv stk k n N kd γ σ τ :=
  fun p e R s m args below meth c C H locs ls hl hW hS => lv_aload_n C.1 C.2.1 hd hf (lv_at hl q hq) (a p e R s m args below meth c C H locs ls hl hW hS)
theorem r_aload (q : Nat) {i : Nat} {x : Nat} (hd : decode M.2.1 pc = .ok (.aload i, 2)) (hq : lv[q]? = some (i, .ref x)) (a : zA l D b M h fz kc ks Z (pc + 2) lv (.ref x :: stk) k n N kd γ σ τ) : zA l D b M h fz kc ks Z pc lv stk k n N kd γ σ τ :=
  fun p e R s m args below meth c C H locs ls hl hW hS => lv_aload C.1 C.2.1 hd (lv_at hl q hq) (a p e R s m args below meth c C H locs ls hl hW hS)
theorem r_astore_n {f : Fin 4} {i : Nat} {x : Nat} (hd : decode M.2.1 pc = .ok (.astore_n f, 1)) (hf : (f : Nat) = i) (hn : i < M.2.2.1) (hl0 : (i, (.ref x : Value)) :: lv.filter (fun q => !(q.1 == i) && !(q.1 + 1 == i && q.2.category == 2)) = lv') (a : zA l D b M h fz kc ks Z (pc + 1) lv' stk k n N kd γ σ τ) : zA l D b M h fz kc ks Z pc lv (.ref x :: stk) k n N kd γ σ τ :=
  fun p e R s m args below meth c C H locs ls hl hW hS => lv_astore_n C.1 C.2.1 hd hf hl hn hl0 (fun ls' hl' => a p e R s m args below meth c C H locs ls' hl' hW hS)
theorem r_astore {i : Nat} {x : Nat} (hd : decode M.2.1 pc = .ok (.astore i, 2)) (hn : i < M.2.2.1) (hl0 : (i, (.ref x : Value)) :: lv.filter (fun q => !(q.1 == i) && !(q.1 + 1 == i && q.2.category == 2)) = lv') (a : zA l D b M h fz kc ks Z (pc + 2) lv' stk k n N kd γ σ τ) : zA l D b M h fz kc ks Z pc lv (.ref x :: stk) k n N kd γ σ τ :=
  fun p e R s m args below meth c C H locs ls hl hW hS => lv_astore C.1 C.2.1 hd hl hn hl0 (fun ls' hl' => a p e R s m args below meth c C H locs ls' hl' hW hS)
theorem r_iinc (q : Nat) {i : Nat} {z : Int} {x v : Int32} (hd : decode M.2.1 pc = .ok (.iinc i z, 3)) (hq : lv[q]? = some (i, .int x)) (hv : x + Int32.ofInt z = v) (hn : i < M.2.2.1) (hl0 : (i, Value.int v) :: lv.filter (fun q => !(q.1 == i) && !(q.1 + 1 == i && q.2.category == 2)) = lv') (a : zA l D b M h fz kc ks Z (pc + 3) lv' stk k n N kd γ σ τ) : zA l D b M h fz kc ks Z pc lv stk k n N kd γ σ τ :=
  fun p e R s m args below meth c C H locs ls hl hW hS => lv_iinc C.1 C.2.1 hd hl hq hv hn hl0 (fun ls' hl' => a p e R s m args below meth c C H locs ls' hl' hW hS)
theorem r_lv (qs : List Nat) (hl0 : lv_pick lv qs = lv') (a : zA l D b M h fz kc ks Z pc lv' stk k n N kd γ σ τ) : zA l D b M h fz kc ks Z pc lv stk k n N kd γ σ τ :=
  fun p e R s m args below meth c C H locs ls hl hW hS => a p e R s m args below meth c C H locs ls (lv_sub hl qs hl0) hW hS
theorem r_goto {off : Int} {tgt : Nat} (hd : decode M.2.1 pc = .ok (.goto off, 3)) (ht : (pc : Int) + off = (tgt : Int)) (a : zA l D b M h fz kc ks Z tgt lv stk k n N kd γ σ τ) : zA l D b M h fz kc ks Z pc lv stk k n N kd γ σ τ :=
  fun p e R s m args below meth c C H locs ls hl hW hS => lv_goto C.1 C.2.1 hd ht (a p e R s m args below meth c C H locs ls hl hW hS)
theorem r_if_eq {x : Int32} {off : Int} {tgt : Nat} (hd : decode M.2.1 pc = .ok (.ifCond .eq off, 3)) (ht : (pc : Int) + off = (tgt : Int)) (at_ : x = 0 → zA l D b M h fz kc ks Z tgt lv stk k n N kd γ σ τ) (af : ¬ x = 0 → zA l D b M h fz kc ks Z (pc + 3) lv stk k n N kd γ σ τ) : zA l D b M h fz kc ks Z pc lv (.int x :: stk) k n N kd γ σ τ :=
  fun p e R s m args below meth c C H locs ls hl hW hS => lv_if_eq C.1 C.2.1 hd ht (fun q => at_ q p e R s m args below meth c C H locs ls hl hW hS) (fun q => af q p e R s m args below meth c C H locs ls hl hW hS)
theorem r_if_ne {x : Int32} {off : Int} {tgt : Nat} (hd : decode M.2.1 pc = .ok (.ifCond .ne off, 3)) (ht : (pc : Int) + off = (tgt : Int)) (at_ : ¬ x = 0 → zA l D b M h fz kc ks Z tgt lv stk k n N kd γ σ τ) (af : x = 0 → zA l D b M h fz kc ks Z (pc + 3) lv stk k n N kd γ σ τ) : zA l D b M h fz kc ks Z pc lv (.int x :: stk) k n N kd γ σ τ :=
  fun p e R s m args below meth c C H locs ls hl hW hS => lv_if_ne C.1 C.2.1 hd ht (fun q => at_ q p e R s m args below meth c C H locs ls hl hW hS) (fun q => af q p e R s m args below meth c C H locs ls hl hW hS)
theorem r_if_lt {x : Int32} {off : Int} {tgt : Nat} (hd : decode M.2.1 pc = .ok (.ifCond .lt off, 3)) (ht : (pc : Int) + off = (tgt : Int)) (at_ : x < 0 → zA l D b M h fz kc ks Z tgt lv stk k n N kd γ σ τ) (af : ¬ x < 0 → zA l D b M h fz kc ks Z (pc + 3) lv stk k n N kd γ σ τ) : zA l D b M h fz kc ks Z pc lv (.int x :: stk) k n N kd γ σ τ :=
  fun p e R s m args below meth c C H locs ls hl hW hS => lv_if_lt C.1 C.2.1 hd ht (fun q => at_ q p e R s m args below meth c C H locs ls hl hW hS) (fun q => af q p e R s m args below meth c C H locs ls hl hW hS)
theorem r_if_ge {x : Int32} {off : Int} {tgt : Nat} (hd : decode M.2.1 pc = .ok (.ifCond .ge off, 3)) (ht : (pc : Int) + off = (tgt : Int)) (at_ : 0 ≤ x → zA l D b M h fz kc ks Z tgt lv stk k n N kd γ σ τ) (af : ¬ 0 ≤ x → zA l D b M h fz kc ks Z (pc + 3) lv stk k n N kd γ σ τ) : zA l D b M h fz kc ks Z pc lv (.int x :: stk) k n N kd γ σ τ :=
  fun p e R s m args below meth c C H locs ls hl hW hS => lv_if_ge C.1 C.2.1 hd ht (fun q => at_ q p e R s m args below meth c C H locs ls hl hW hS) (fun q => af q p e R s m args below meth c C H locs ls hl hW hS)
theorem r_if_gt {x : Int32} {off : Int} {tgt : Nat} (hd : decode M.2.1 pc = .ok (.ifCond .gt off, 3)) (ht : (pc : Int) + off = (tgt : Int)) (at_ : 0 < x → zA l D b M h fz kc ks Z tgt lv stk k n N kd γ σ τ) (af : ¬ 0 < x → zA l D b M h fz kc ks Z (pc + 3) lv stk k n N kd γ σ τ) : zA l D b M h fz kc ks Z pc lv (.int x :: stk) k n N kd γ σ τ :=
  fun p e R s m args below meth c C H locs ls hl hW hS => lv_if_gt C.1 C.2.1 hd ht (fun q => at_ q p e R s m args below meth c C H locs ls hl hW hS) (fun q => af q p e R s m args below meth c C H locs ls hl hW hS)
theorem r_if_le {x : Int32} {off : Int} {tgt : Nat} (hd : decode M.2.1 pc = .ok (.ifCond .le off, 3)) (ht : (pc : Int) + off = (tgt : Int)) (at_ : x ≤ 0 → zA l D b M h fz kc ks Z tgt lv stk k n N kd γ σ τ) (af : ¬ x ≤ 0 → zA l D b M h fz kc ks Z (pc + 3) lv stk k n N kd γ σ τ) : zA l D b M h fz kc ks Z pc lv (.int x :: stk) k n N kd γ σ τ :=
  fun p e R s m args below meth c C H locs ls hl hW hS => lv_if_le C.1 C.2.1 hd ht (fun q => at_ q p e R s m args below meth c C H locs ls hl hW hS) (fun q => af q p e R s m args below meth c C H locs ls hl hW hS)
theorem r_icmp_eq {x y : Int32} {off : Int} {tgt : Nat} (hd : decode M.2.1 pc = .ok (.if_icmp .eq off, 3)) (ht : (pc : Int) + off = (tgt : Int)) (at_ : x = y → zA l D b M h fz kc ks Z tgt lv stk k n N kd γ σ τ) (af : ¬ x = y → zA l D b M h fz kc ks Z (pc + 3) lv stk k n N kd γ σ τ) : zA l D b M h fz kc ks Z pc lv (.int y :: .int x :: stk) k n N kd γ σ τ :=
  fun p e R s m args below meth c C H locs ls hl hW hS => lv_icmp_eq C.1 C.2.1 hd ht (fun q => at_ q p e R s m args below meth c C H locs ls hl hW hS) (fun q => af q p e R s m args below meth c C H locs ls hl hW hS)
theorem r_icmp_ne {x y : Int32} {off : Int} {tgt : Nat} (hd : decode M.2.1 pc = .ok (.if_icmp .ne off, 3)) (ht : (pc : Int) + off = (tgt : Int)) (at_ : ¬ x = y → zA l D b M h fz kc ks Z tgt lv stk k n N kd γ σ τ) (af : x = y → zA l D b M h fz kc ks Z (pc + 3) lv stk k n N kd γ σ τ) : zA l D b M h fz kc ks Z pc lv (.int y :: .int x :: stk) k n N kd γ σ τ :=
  fun p e R s m args below meth c C H locs ls hl hW hS => lv_icmp_ne C.1 C.2.1 hd ht (fun q => at_ q p e R s m args below meth c C H locs ls hl hW hS) (fun q => af q p e R s m args below meth c C H locs ls hl hW hS)
theorem r_icmp_lt {x y : Int32} {off : Int} {tgt : Nat} (hd : decode M.2.1 pc = .ok (.if_icmp .lt off, 3)) (ht : (pc : Int) + off = (tgt : Int)) (at_ : x < y → zA l D b M h fz kc ks Z tgt lv stk k n N kd γ σ τ) (af : ¬ x < y → zA l D b M h fz kc ks Z (pc + 3) lv stk k n N kd γ σ τ) : zA l D b M h fz kc ks Z pc lv (.int y :: .int x :: stk) k n N kd γ σ τ :=
  fun p e R s m args below meth c C H locs ls hl hW hS => lv_icmp_lt C.1 C.2.1 hd ht (fun q => at_ q p e R s m args below meth c C H locs ls hl hW hS) (fun q => af q p e R s m args below meth c C H locs ls hl hW hS)
theorem r_icmp_ge {x y : Int32} {off : Int} {tgt : Nat} (hd : decode M.2.1 pc = .ok (.if_icmp .ge off, 3)) (ht : (pc : Int) + off = (tgt : Int)) (at_ : y ≤ x → zA l D b M h fz kc ks Z tgt lv stk k n N kd γ σ τ) (af : ¬ y ≤ x → zA l D b M h fz kc ks Z (pc + 3) lv stk k n N kd γ σ τ) : zA l D b M h fz kc ks Z pc lv (.int y :: .int x :: stk) k n N kd γ σ τ :=
  fun p e R s m args below meth c C H locs ls hl hW hS => lv_icmp_ge C.1 C.2.1 hd ht (fun q => at_ q p e R s m args below meth c C H locs ls hl hW hS) (fun q => af q p e R s m args below meth c C H locs ls hl hW hS)
theorem r_icmp_gt {x y : Int32} {off : Int} {tgt : Nat} (hd : decode M.2.1 pc = .ok (.if_icmp .gt off, 3)) (ht : (pc : Int) + off = (tgt : Int)) (at_ : y < x → zA l D b M h fz kc ks Z tgt lv stk k n N kd γ σ τ) (af : ¬ y < x → zA l D b M h fz kc ks Z (pc + 3) lv stk k n N kd γ σ τ) : zA l D b M h fz kc ks Z pc lv (.int y :: .int x :: stk) k n N kd γ σ τ :=
  fun p e R s m args below meth c C H locs ls hl hW hS => lv_icmp_gt C.1 C.2.1 hd ht (fun q => at_ q p e R s m args below meth c C H locs ls hl hW hS) (fun q => af q p e R s m args below meth c C H locs ls hl hW hS)
theorem r_icmp_le {x y : Int32} {off : Int} {tgt : Nat} (hd : decode M.2.1 pc = .ok (.if_icmp .le off, 3)) (ht : (pc : Int) + off = (tgt : Int)) (at_ : x ≤ y → zA l D b M h fz kc ks Z tgt lv stk k n N kd γ σ τ) (af : ¬ x ≤ y → zA l D b M h fz kc ks Z (pc + 3) lv stk k n N kd γ σ τ) : zA l D b M h fz kc ks Z pc lv (.int y :: .int x :: stk) k n N kd γ σ τ :=
  fun p e R s m args below meth c C H locs ls hl hW hS => lv_icmp_le C.1 C.2.1 hd ht (fun q => at_ q p e R s m args below meth c C H locs ls hl hW hS) (fun q => af q p e R s m args below meth c C H locs ls hl hW hS)
theorem r_tableOut {dflt lo hi : Int} {offs : Array Int} {len : Nat} {x : Int32} {tgt : Nat} (hd : decode M.2.1 pc = .ok (.tableswitch dflt lo hi offs, len)) (hx : x.toInt < lo ∨ hi < x.toInt) (ht : (pc : Int) + dflt = (tgt : Int)) (a : zA l D b M h fz kc ks Z tgt lv stk k n N kd γ σ τ) : zA l D b M h fz kc ks Z pc lv (.int x :: stk) k n N kd γ σ τ :=
  fun p e R s m args below meth c C H locs ls hl hW hS => lv_tableOut C.1 C.2.1 hd hx ht (a p e R s m args below meth c C H locs ls hl hW hS)
theorem r_tableIn {dflt lo hi : Int} {offs : Array Int} {len : Nat} {x : Int32} {off : Int} {tgt : Nat} (hd : decode M.2.1 pc = .ok (.tableswitch dflt lo hi offs, len)) (h1 : ¬ x.toInt < lo) (h2 : ¬ hi < x.toInt) (ho : offs[(x.toInt - lo).toNat]? = some off) (ht : (pc : Int) + off = (tgt : Int)) (a : zA l D b M h fz kc ks Z tgt lv stk k n N kd γ σ τ) : zA l D b M h fz kc ks Z pc lv (.int x :: stk) k n N kd γ σ τ :=
  fun p e R s m args below meth c C H locs ls hl hW hS => lv_tableIn C.1 C.2.1 hd h1 h2 ho ht (a p e R s m args below meth c C H locs ls hl hW hS)
theorem r_lookup {dflt : Int} {ps : Array (Int × Int)} {len : Nat} {x : Int32} {off : Int} {tgt : Nat} (hd : decode M.2.1 pc = .ok (.lookupswitch dflt ps, len)) (hp : (ps.toList.zip (ps.toList.drop 1)).all (fun (a, next) => a.1 < next.1) = true) (ho : Op.lookupswitch.offset ps.toList dflt x.toInt = off) (ht : (pc : Int) + off = (tgt : Int)) (a : zA l D b M h fz kc ks Z tgt lv stk k n N kd γ σ τ) : zA l D b M h fz kc ks Z pc lv (.int x :: stk) k n N kd γ σ τ :=
  fun p e R s m args below meth c C H locs ls hl hW hS => lv_lookup C.1 C.2.1 hd hp ho ht (a p e R s m args below meth c C H locs ls hl hW hS)
theorem r_getI {ci c j : Nat} {C : String} {T : u_T} {nf index : Nat} (hN : c < N) (hk : (kd c).1 = ci + 4) (hc : cls12[ci]? = some (C, T, nf)) (hj : j < nf) (hty : cTy ci j = .int) (hw : Cond.fieldLink M.1.cls index (T j).1 (T j).2.1 (T j).2.2.1 ∈ lw_tbl) (hd : decode M.2.1 pc = .ok (.getfield index, 3)) (a : zA l D b M h fz kc ks Z (pc + 3) lv (.int (σ c j) :: stk) k n N kd γ σ τ) : zA l D b M h fz kc ks Z pc lv (.ref (b + c) :: stk) k n N kd γ σ τ := by
  intro p e R s m args below meth c0 C H locs ls hl hW hS
  obtain ⟨hcn, hci, -, -⟩ := cls_N hc
  obtain ⟨hP, hK, hz⟩ := hW
  refine va_get (D := D.1) (ci := ci) (v := .int (σ c j)) C.1 C.2.1 C.2.2.2.2.2.1 hci C.2.2.2.2.1 hK hP c (fs := fldsOf b ci (γ c) (σ c) (τ c)) ?_ hc j hj (C.2.2.2.2.2.1 _ (lw_gIn hw rfl)) (fun _ h9 => h9) ?_ hd (a p e R s m args below meth c0 C H locs ls hl ⟨hP, hK, hz⟩ hS)
  · rw [wlE_get hN]; unfold zEE zEnt; rw [hk]
  · rw [flds_get (by rw [hcn]; exact hj), hty]; rfl
theorem r_getL {ci c j : Nat} {C : String} {T : u_T} {nf index : Nat} (hN : c < N) (hk : (kd c).1 = ci + 4) (hc : cls12[ci]? = some (C, T, nf)) (hj : j < nf) (hty : cTy ci j = .long) (hw : Cond.fieldLink M.1.cls index (T j).1 (T j).2.1 (T j).2.2.1 ∈ lw_tbl) (hd : decode M.2.1 pc = .ok (.getfield index, 3)) (a : zA l D b M h fz kc ks Z (pc + 3) lv (.long (τ c j) :: stk) k n N kd γ σ τ) : zA l D b M h fz kc ks Z pc lv (.ref (b + c) :: stk) k n N kd γ σ τ := by
  intro p e R s m args below meth c0 C H locs ls hl hW hS
  obtain ⟨hcn, hci, -, -⟩ := cls_N hc
  obtain ⟨hP, hK, hz⟩ := hW
  refine va_get (D := D.1) (ci := ci) (v := .long (τ c j)) C.1 C.2.1 C.2.2.2.2.2.1 hci C.2.2.2.2.1 hK hP c (fs := fldsOf b ci (γ c) (σ c) (τ c)) ?_ hc j hj (C.2.2.2.2.2.1 _ (lw_gIn hw rfl)) (fun _ h9 => h9) ?_ hd (a p e R s m args below meth c0 C H locs ls hl ⟨hP, hK, hz⟩ hS)
  · rw [wlE_get hN]; unfold zEE zEnt; rw [hk]
  · rw [flds_get (by rw [hcn]; exact hj), hty]; rfl
theorem r_getR {c2 : Nat} {ci c j : Nat} {C : String} {T : u_T} {nf index : Nat} (hN : c < N) (hk : (kd c).1 = ci + 4) (hc : cls12[ci]? = some (C, T, nf)) (hj : j < nf) (hty : (match cTy ci j with | .int => false | .long => false | _ => true) = true) (hg : γ c j = some c2) (hw : Cond.fieldLink M.1.cls index (T j).1 (T j).2.1 (T j).2.2.1 ∈ lw_tbl) (hd : decode M.2.1 pc = .ok (.getfield index, 3)) (a : zA l D b M h fz kc ks Z (pc + 3) lv (.ref (b + c2) :: stk) k n N kd γ σ τ) : zA l D b M h fz kc ks Z pc lv (.ref (b + c) :: stk) k n N kd γ σ τ := by
  intro p e R s m args below meth c0 C H locs ls hl hW hS
  obtain ⟨hcn, hci, -, -⟩ := cls_N hc
  obtain ⟨hP, hK, hz⟩ := hW
  refine va_get (D := D.1) (ci := ci) (v := .ref (b + c2)) C.1 C.2.1 C.2.2.2.2.2.1 hci C.2.2.2.2.1 hK hP c (fs := fldsOf b ci (γ c) (σ c) (τ c)) ?_ hc j hj (C.2.2.2.2.2.1 _ (lw_gIn hw rfl)) (fun _ h9 => h9) ?_ hd (a p e R s m args below meth c0 C H locs ls hl ⟨hP, hK, hz⟩ hS)
  · rw [wlE_get hN]; unfold zEE zEnt; rw [hk]
  · rw [flds_get (by rw [hcn]; exact hj), hg]
    unfold fval
    cases hx : cTy ci j <;> rw [hx] at hty <;> first | rfl | cases hty
end ROWS
section PUTS
variable {p : Program} {l : Launch} {e : Env} {R : Room} {s : State} {m : MethodId} {args : Array Value} {below : List Frame} {meth : Method} {c : Code} {H : Heap} {locs : List Loc} {cells slots : Nat} {Q : State → Prop}
variable {cc : ByteArray} {pc : Nat} {ls : Array Slot} {rest : List Value} {D : va_G} {cl : List vw_C} {A : Nat → Prop} {a : Nat} {tys : List (ClassId × FieldType)} {ws : va_W} {H0 : Heap}
theorem pt_put (hexec : p.tables.exec = Jvm.exec) (hb : c.code = cc) {own C : String} {T : u_T} {N ci index : Nat} {Ts : List Cond} (hts : ∀ w ∈ Ts, w.before args s = true) (hin : ∀ w ∈ u_ws C T N, w ∈ Ts) (ty0 : Nat → FieldType) (hty : ∀ k, k < N → parseFieldDescriptor (T k).2.2.1 = some (ty0 k)) (hnm : ∀ a, a < N → ∀ b, b < N → a ≠ b → (T a).2.1 ≠ (T b).2.1) (hown : s.vm.findClass own = some m.cls) (hK : va_K D cl tys s) (hP : va_P D cl ws H) (hD : va_D A ws) (hS0 : va_S A H0 H locs) (q0 : Nat) {fs : List Value} (he : ws[q0]? = some (a, .inr (ci, fs))) (hc : cl[ci]? = some (C, T, N)) (k : Nat) (hk : k < N) (hlink : (Cond.fieldLink own index (T k).1 (T k).2.1 (T k).2.2.1).before args s = true) (hfin : (T k).2.2.2 = false ∨ ((T k).2.2.2 = true ∧ meth.name = "<init>" ∧ (T k).1 = own)) {v : Value} (hn : narrow (ty0 k) v = v) (hfit : fits (ty0 k) v = true) (hl : k < fs.length)
    (hdg : decode cc pc = .ok (.putfield index, 3)) (kk : ∀ (H1 : Heap) (locs1 : List Loc), H1.size = H.size → va_P D cl (ws.set q0 (a, .inr (ci, fs.set k v))) H1 → va_S A H0 H1 locs1 → W p l e R s m args below meth c H1 locs1 cells slots Q (F0 m (pc + 3) ls rest)) : W p l e R s m args below meth c H locs cells slots Q (F0 m pc ls (v :: .ref a :: rest)) := by
  have hap := va_apart (own := own) hts hin ty0 hty hnm hK hc
  obtain ⟨r, h1, cell, q1, q2, q3, q4⟩ := hP q0 _ he
  have hr : r = (C, T, N) := Option.some.inj (h1.symm.trans hc)
  subst hr
  obtain ⟨hS, hfc, kC, hkC, hkind⟩ := hK.1 ci _ hc
  obtain ⟨cf, kf, fi, f, hi, hsl⟩ := hS k hk
  have hd := hty k hk
  have hlay := hts _ (hin _ (u_in_lay hk))
  have hst := (u_facts hfc hkC (u_lays hts hin hk) hi).1
  have fin : ∀ H' : Heap, H'[a]? = some (cell.setSlot f.slot v) → H'.size = H.size → (∀ q, q ≠ a → H'[q]? = H[q]?) → W p l e R s m args below meth c H' (locs ++ [⟨a, f.slot⟩]) cells slots Q (F0 m (pc + 3) ls rest) := by
    intro H' e1 e2 e3
    rw [hsl] at e1 ⊢
    exact kk H' _ e2 (hP.set hD he ⟨_, hc, t_OB.to (V := updV (vp_V fs) k v) ⟨_, e1, q2, q3, t_set q4 hap hk v⟩ (fun j _ => vp_updV_set hl v j)⟩ e3) (hS0.put e2 e3 (hD.2 q0 _ he))
  rcases hfin with hfin | ⟨hfin, hin2, hdecl⟩
  · unfold u_lay at hlay
    rw [if_neg (by rw [hfin]; decide)] at hlay
    have h6 := u_store hfc hkC hkind hlay hi hd hn hfit
    exact W.putK hexec hb (f := f) ⟨hown, hlink, ⟨_, _, _, hi⟩, hst⟩ (by rw [q2]; exact h6) q1 q3 (by rw [hsl]; exact k2_hasslot (q4 k hk)) rfl rfl hdg fin
  · unfold u_lay at hlay
    rw [if_pos hfin] at hlay
    have hcf : m.cls = cf := by
      obtain ⟨_, _, c', _, _, _, -, -, hf', -, -, -, hown2, -⟩ := Cond.laysFinal_spec hlay
      have e1 : c' = cf := by have := hi.symm.trans hf'; simp at this; exact this.1.symm
      rw [hdecl] at hown2
      rw [← e1]; exact Option.some.inj (hown.symm.trans hown2)
    have h6 := u_fits hfc hkC hkind (Or.inr hlay) hi hd hn hfit
    exact W.putFinK hexec hb hown hlink hi hst hcf hin2 (by rw [q2]; exact h6) q1 q3 (by rw [hsl]; exact k2_hasslot (q4 k hk)) rfl rfl hdg fin
end PUTS
section ROWS2
variable {l : Launch} {D : zDD} {b : Nat} {M : zMI} {h fz kc ks : Nat} {Z : zZZ} {pc : Nat} {lv lv' : List (Nat × Value)} {stk : List Value} {k n N : Nat} {kd : zKd} {γ : zGm} {σ : zSg} {τ : zLm}
theorem r_putI {x : Int32} {ci c j : Nat} {C : String} {T : u_T} {nf index : Nat} (hN : c < N) (hk : (kd c).1 = ci + 4) (hc : cls12[ci]? = some (C, T, nf)) (hj : j < nf) (hty : cTy ci j = .int) (hfin : (T j).2.2.2 = false ∨ ((T j).2.2.2 = true ∧ M.1.name = "<init>" ∧ (T j).1 = M.1.cls)) (hw : Cond.fieldLink M.1.cls index (T j).1 (T j).2.1 (T j).2.2.1 ∈ lw_tbl) (hd : decode M.2.1 pc = .ok (.putfield index, 3)) (a : zA l D b M h fz kc ks Z (pc + 3) lv stk k n N kd γ (st2 σ c j x) τ) : zA l D b M h fz kc ks Z pc lv (.int x :: .ref (b + c) :: stk) k n N kd γ σ τ := by
  intro p e R s m args below meth c0 C H locs ls hl hW hS
  obtain ⟨hcn, hci, hpt, hnm⟩ := cls_N hc
  obtain ⟨hP, hK, hz⟩ := hW
  have hget : (wl D b N kd γ σ τ)[c]? = some (b + c, .inr (ci, fldsOf b ci (γ c) (σ c) (τ c))) := by rw [wlE_get hN]; unfold zEE zEnt; rw [hk]
  have hnf : narrow (cTy ci j) (.int x) = .int x ∧ fits (cTy ci j) (.int x) = true := by
    rw [hty]; exact ⟨rfl, rfl⟩
  refine pt_put (D := D.1) (ci := ci) (v := .int x) C.1 C.2.1 C.2.2.2.2.2.1 hci (cTy ci) hpt hnm C.2.2.2.2.1 hK hP (wlE_D b N _) hS c hget hc j hj (C.2.2.2.2.2.1 _ (lw_gIn hw rfl)) (hfin.imp id (fun q => ⟨q.1, C.2.2.2.2.2.2.2.1.trans q.2.1, q.2.2⟩)) hnf.1 hnf.2 (by rw [flds_len, hcn]; exact hj) hd (fun H1 locs1 hz1 hP1 hS1 => ?_)
  have e1 : (wl D b N kd γ σ τ).set c (b + c, .inr (ci, (fldsOf b ci (γ c) (σ c) (τ c)).set j (.int x))) = wl D b N kd γ (st2 σ c j x) τ := by
    have e2 : (fldsOf b ci (γ c) (σ c) (τ c)).set j (.int x) = fldsOf b ci (γ c) (va_up (σ c) j x) (τ c) := flds_set (by rw [hty]; simp [fval, va_up]) (fun i hi => by simp [va_up, hi])
    rw [wlE_set, e2, show (Sum.inr (ci, fldsOf b ci (γ c) (va_up (σ c) j x) (τ c)) : va_E) = zEnt D b (kd c) (γ c) (va_up (σ c) j x) (τ c) by unfold zEnt; rw [hk], zEE_σ]
    rfl
  rw [e1] at hP1
  exact a p e R s m args below meth c0 C H1 locs1 ls hl ⟨hP1, hK, hz.imp id (fun q => hz1.trans q)⟩ hS1
theorem r_putL {x : Int64} {ci c j : Nat} {C : String} {T : u_T} {nf index : Nat} (hN : c < N) (hk : (kd c).1 = ci + 4) (hc : cls12[ci]? = some (C, T, nf)) (hj : j < nf) (hty : cTy ci j = .long) (hfin : (T j).2.2.2 = false ∨ ((T j).2.2.2 = true ∧ M.1.name = "<init>" ∧ (T j).1 = M.1.cls)) (hw : Cond.fieldLink M.1.cls index (T j).1 (T j).2.1 (T j).2.2.1 ∈ lw_tbl) (hd : decode M.2.1 pc = .ok (.putfield index, 3)) (a : zA l D b M h fz kc ks Z (pc + 3) lv stk k n N kd γ σ (st2 τ c j x)) : zA l D b M h fz kc ks Z pc lv (.long x :: .ref (b + c) :: stk) k n N kd γ σ τ := by
  intro p e R s m args below meth c0 C H locs ls hl hW hS
  obtain ⟨hcn, hci, hpt, hnm⟩ := cls_N hc
  obtain ⟨hP, hK, hz⟩ := hW
  have hget : (wl D b N kd γ σ τ)[c]? = some (b + c, .inr (ci, fldsOf b ci (γ c) (σ c) (τ c))) := by rw [wlE_get hN]; unfold zEE zEnt; rw [hk]
  have hnf : narrow (cTy ci j) (.long x) = .long x ∧ fits (cTy ci j) (.long x) = true := by
    rw [hty]; exact ⟨rfl, rfl⟩
  refine pt_put (D := D.1) (ci := ci) (v := .long x) C.1 C.2.1 C.2.2.2.2.2.1 hci (cTy ci) hpt hnm C.2.2.2.2.1 hK hP (wlE_D b N _) hS c hget hc j hj (C.2.2.2.2.2.1 _ (lw_gIn hw rfl)) (hfin.imp id (fun q => ⟨q.1, C.2.2.2.2.2.2.2.1.trans q.2.1, q.2.2⟩)) hnf.1 hnf.2 (by rw [flds_len, hcn]; exact hj) hd (fun H1 locs1 hz1 hP1 hS1 => ?_)
  have e1 : (wl D b N kd γ σ τ).set c (b + c, .inr (ci, (fldsOf b ci (γ c) (σ c) (τ c)).set j (.long x))) = wl D b N kd γ σ (st2 τ c j x) := by
    have e2 : (fldsOf b ci (γ c) (σ c) (τ c)).set j (.long x) = fldsOf b ci (γ c) (σ c) (va_up (τ c) j x) := flds_set (by rw [hty]; simp [fval, va_up]) (fun i hi => by simp [va_up, hi])
    rw [wlE_set, e2, show (Sum.inr (ci, fldsOf b ci (γ c) (σ c) (va_up (τ c) j x)) : va_E) = zEnt D b (kd c) (γ c) (σ c) (va_up (τ c) j x) by unfold zEnt; rw [hk], zEE_τ]
    rfl
  rw [e1] at hP1
  exact a p e R s m args below meth c0 C H1 locs1 ls hl ⟨hP1, hK, hz.imp id (fun q => hz1.trans q)⟩ hS1
theorem r_putR {c2 : Nat} {ci c j : Nat} {C : String} {T : u_T} {nf index : Nat} (hN : c < N) (hk : (kd c).1 = ci + 4) (hc : cls12[ci]? = some (C, T, nf)) (hj : j < nf) (hty : (match cTy ci j with | .object _ => true | .array _ => true | _ => false) = true) (hfin : (T j).2.2.2 = false ∨ ((T j).2.2.2 = true ∧ M.1.name = "<init>" ∧ (T j).1 = M.1.cls)) (hw : Cond.fieldLink M.1.cls index (T j).1 (T j).2.1 (T j).2.2.1 ∈ lw_tbl) (hd : decode M.2.1 pc = .ok (.putfield index, 3)) (a : zA l D b M h fz kc ks Z (pc + 3) lv stk k n N kd (st2 γ c j (some c2)) σ τ) : zA l D b M h fz kc ks Z pc lv (.ref (b + c2) :: .ref (b + c) :: stk) k n N kd γ σ τ := by
  intro p e R s m args below meth c0 C H locs ls hl hW hS
  obtain ⟨hcn, hci, hpt, hnm⟩ := cls_N hc
  obtain ⟨hP, hK, hz⟩ := hW
  have hget : (wl D b N kd γ σ τ)[c]? = some (b + c, .inr (ci, fldsOf b ci (γ c) (σ c) (τ c))) := by rw [wlE_get hN]; unfold zEE zEnt; rw [hk]
  have hnf : narrow (cTy ci j) (.ref (b + c2)) = .ref (b + c2) ∧ fits (cTy ci j) (.ref (b + c2)) = true := by
    cases hx : cTy ci j <;> rw [hx] at hty <;> first | exact ⟨rfl, rfl⟩ | cases hty
  refine pt_put (D := D.1) (ci := ci) (v := .ref (b + c2)) C.1 C.2.1 C.2.2.2.2.2.1 hci (cTy ci) hpt hnm C.2.2.2.2.1 hK hP (wlE_D b N _) hS c hget hc j hj (C.2.2.2.2.2.1 _ (lw_gIn hw rfl)) (hfin.imp id (fun q => ⟨q.1, C.2.2.2.2.2.2.2.1.trans q.2.1, q.2.2⟩)) hnf.1 hnf.2 (by rw [flds_len, hcn]; exact hj) hd (fun H1 locs1 hz1 hP1 hS1 => ?_)
  have e1 : (wl D b N kd γ σ τ).set c (b + c, .inr (ci, (fldsOf b ci (γ c) (σ c) (τ c)).set j (.ref (b + c2)))) = wl D b N kd (st2 γ c j (some c2)) σ τ := by
    have e2 : (fldsOf b ci (γ c) (σ c) (τ c)).set j (.ref (b + c2)) = fldsOf b ci (va_up (γ c) j (some c2)) (σ c) (τ c) := flds_set (by cases hx : cTy ci j <;> rw [hx] at hty <;> first | (simp [fval, va_up, rv, va_rf]; done) | cases hty) (fun i hi => by simp [va_up, hi])
    rw [wlE_set, e2, show (Sum.inr (ci, fldsOf b ci (va_up (γ c) j (some c2)) (σ c) (τ c)) : va_E) = zEnt D b (kd c) (va_up (γ c) j (some c2)) (σ c) (τ c) by unfold zEnt; rw [hk], zEE_γ]
    rfl
  rw [e1] at hP1
  exact a p e R s m args below meth c0 C H1 locs1 ls hl ⟨hP1, hK, hz.imp id (fun q => hz1.trans q)⟩ hS1
theorem r_iald {c len : Nat} {i : Int32} (hN : c < N) (hk : kd c = (0, len)) (hd : decode M.2.1 pc = .ok (.iaload, 1)) (hin : vp_in i len) (a : zA l D b M h fz kc ks Z (pc + 1) lv (.int (σ c i.toNatClampNeg) :: stk) k n N kd γ σ τ) : zA l D b M h fz kc ks Z pc lv (.int i :: .ref (b + c) :: stk) k n N kd γ σ τ := by
  intro p e R s m args below meth c0 C H locs ls hl hW hS
  obtain ⟨hP, hK, hz⟩ := hW
  exact va_iald (D := D.1) C.1 C.2.1 hK hP c 0 (cA := D.2 0) (n := len) (f := σ c) (by rw [wlE_get hN]; unfold zEE zEnt; rw [hk]) rfl hin hd (a p e R s m args below meth c0 C H locs ls hl ⟨hP, hK, hz⟩ hS)
theorem r_zald {c len : Nat} {i : Int32} (hN : c < N) (hk : kd c = (1, len)) (hd : decode M.2.1 pc = .ok (.baload, 1)) (hin : vp_in i len) (a : zA l D b M h fz kc ks Z (pc + 1) lv (.int (σ c i.toNatClampNeg) :: stk) k n N kd γ σ τ) : zA l D b M h fz kc ks Z pc lv (.int i :: .ref (b + c) :: stk) k n N kd γ σ τ := by
  intro p e R s m args below meth c0 C H locs ls hl hW hS
  obtain ⟨hP, hK, hz⟩ := hW
  exact va_zald (D := D.1) C.1 C.2.1 hK hP c 1 (cA := D.2 1) (n := len) (f := σ c) (by rw [wlE_get hN]; unfold zEE zEnt; rw [hk]) rfl hin hd (a p e R s m args below meth c0 C H locs ls hl ⟨hP, hK, hz⟩ hS)
theorem r_lald {c len : Nat} {i : Int32} (hN : c < N) (hk : kd c = (2, len)) (hd : decode M.2.1 pc = .ok (.laload, 1)) (hin : vp_in i len) (a : zA l D b M h fz kc ks Z (pc + 1) lv (.long (τ c i.toNatClampNeg) :: stk) k n N kd γ σ τ) : zA l D b M h fz kc ks Z pc lv (.int i :: .ref (b + c) :: stk) k n N kd γ σ τ := by
  intro p e R s m args below meth c0 C H locs ls hl hW hS
  obtain ⟨hP, hK, hz⟩ := hW
  exact va_lald (D := D.1) C.1 C.2.1 hK hP c 2 (cA := D.2 2) (n := len) (f := τ c) (by rw [wlE_get hN]; unfold zEE zEnt; rw [hk]) rfl hin hd (a p e R s m args below meth c0 C H locs ls hl ⟨hP, hK, hz⟩ hS)
theorem r_aald {c len c2 : Nat} {i : Int32} (hN : c < N) (hk : kd c = (3, len)) (hd : decode M.2.1 pc = .ok (.aaload, 1)) (hin : vp_in i len) (hg : γ c i.toNatClampNeg = some c2) (a : zA l D b M h fz kc ks Z (pc + 1) lv (.ref (b + c2) :: stk) k n N kd γ σ τ) : zA l D b M h fz kc ks Z pc lv (.int i :: .ref (b + c) :: stk) k n N kd γ σ τ := by
  intro p e R s m args below meth c0 C H locs ls hl hW hS
  obtain ⟨hP, hK, hz⟩ := hW
  refine va_aldq (D := D.1) (C := RX8) C.1 C.2.1 hK hP c 3 (cA := D.2 3) (n := len) (f := fun j => (γ c j).map (fun q => b + q)) (by rw [wlE_get hN]; unfold zEE zEnt; rw [hk]) rfl hin hd ?_
  rw [hg]
  exact a p e R s m args below meth c0 C H locs ls hl ⟨hP, hK, hz⟩ hS
theorem r_iast {c len : Nat} {i : Int32} {x : Int32} (hN : c < N) (hk : kd c = (0, len)) (hd : decode M.2.1 pc = .ok (.iastore, 1)) (hin : vp_in i len) (a : zA l D b M h 0 kc ks Z (pc + 1) lv stk k n N kd γ (st2 σ c i.toNatClampNeg x) τ) : zA l D b M h 0 kc ks Z pc lv (.int x :: .int i :: .ref (b + c) :: stk) k n N kd γ σ τ := by
  intro p e R s m args below meth c0 C H locs ls hl hW hS
  obtain ⟨hP, hK, hz⟩ := hW
  refine va_iast (D := D.1) C.1 C.2.1 hK hP (wlE_D b N _) hS c 0 (cA := D.2 0) (n := len) (f := σ c) (by rw [wlE_get hN]; unfold zEE zEnt; rw [hk]) rfl hin hd (fun H1 locs1 hP1 hD1 hS1 => ?_)
  have e1 : (wl D b N kd γ σ τ).set c (b + c, .inl (D.2 0, len, .inl (upd (σ c) i.toNatClampNeg x))) = wl D b N kd γ (st2 σ c i.toNatClampNeg x) τ := by
    rw [wlE_set, show (.inl (D.2 0, len, .inl (upd (σ c) i.toNatClampNeg x)) : va_E) = zEnt D b (kd c) (γ c) (va_up (σ c) i.toNatClampNeg x) (τ c) by unfold zEnt; rw [hk]; rfl, zEE_σ]
    rfl
  rw [e1] at hP1
  exact a p e R s m args below meth c0 C H1 locs1 ls hl ⟨hP1, hK, Or.inl rfl⟩ hS1
theorem r_zast {c len : Nat} {i : Int32} {x : Int32} (hN : c < N) (hk : kd c = (1, len)) (hd : decode M.2.1 pc = .ok (.bastore, 1)) (hin : vp_in i len) (a : zA l D b M h 0 kc ks Z (pc + 1) lv stk k n N kd γ (st2 σ c i.toNatClampNeg (vp_nar .boolean x)) τ) : zA l D b M h 0 kc ks Z pc lv (.int x :: .int i :: .ref (b + c) :: stk) k n N kd γ σ τ := by
  intro p e R s m args below meth c0 C H locs ls hl hW hS
  obtain ⟨hP, hK, hz⟩ := hW
  refine va_zast (D := D.1) C.1 C.2.1 hK hP (wlE_D b N _) hS c 1 (cA := D.2 1) (n := len) (f := σ c) (by rw [wlE_get hN]; unfold zEE zEnt; rw [hk]) rfl hin hd (fun H1 locs1 hP1 hD1 hS1 => ?_)
  have e1 : (wl D b N kd γ σ τ).set c (b + c, .inl (D.2 1, len, .inl (upd (σ c) i.toNatClampNeg (vp_nar .boolean x)))) = wl D b N kd γ (st2 σ c i.toNatClampNeg (vp_nar .boolean x)) τ := by
    rw [wlE_set, show (.inl (D.2 1, len, .inl (upd (σ c) i.toNatClampNeg (vp_nar .boolean x))) : va_E) = zEnt D b (kd c) (γ c) (va_up (σ c) i.toNatClampNeg (vp_nar .boolean x)) (τ c) by unfold zEnt; rw [hk]; rfl, zEE_σ]
    rfl
  rw [e1] at hP1
  exact a p e R s m args below meth c0 C H1 locs1 ls hl ⟨hP1, hK, Or.inl rfl⟩ hS1
theorem r_last {c len : Nat} {i : Int32} {x : Int64} (hN : c < N) (hk : kd c = (2, len)) (hd : decode M.2.1 pc = .ok (.lastore, 1)) (hin : vp_in i len) (a : zA l D b M h 0 kc ks Z (pc + 1) lv stk k n N kd γ σ (st2 τ c i.toNatClampNeg x)) : zA l D b M h 0 kc ks Z pc lv (.long x :: .int i :: .ref (b + c) :: stk) k n N kd γ σ τ := by
  intro p e R s m args below meth c0 C H locs ls hl hW hS
  obtain ⟨hP, hK, hz⟩ := hW
  refine va_last (D := D.1) C.1 C.2.1 hK hP (wlE_D b N _) hS c 2 (cA := D.2 2) (n := len) (f := τ c) (by rw [wlE_get hN]; unfold zEE zEnt; rw [hk]) rfl hin hd (fun H1 locs1 hP1 hD1 hS1 => ?_)
  have e1 : (wl D b N kd γ σ τ).set c (b + c, .inl (D.2 2, len, .inr (.inl (vp_updL (τ c) i.toNatClampNeg x)))) = wl D b N kd γ σ (st2 τ c i.toNatClampNeg x) := by
    rw [wlE_set, show (.inl (D.2 2, len, .inr (.inl (vp_updL (τ c) i.toNatClampNeg x))) : va_E) = zEnt D b (kd c) (γ c) (σ c) (va_up (τ c) i.toNatClampNeg x) by unfold zEnt; rw [hk]; rfl, zEE_τ]
    rfl
  rw [e1] at hP1
  exact a p e R s m args below meth c0 C H1 locs1 ls hl ⟨hP1, hK, Or.inl rfl⟩ hS1
end ROWS2
end
section
/-! CONTRACTS (zS), ends of methods, calls, makers. -/
abbrev zPost : Type := Option Value → Nat → zKd → zGm → zSg → zLm → Prop
def zQc (D : zDD) (b fz : Nat) (Q : zPost) : Array Value → State → Outcome → State → Prop := fun _ st oc t => (∃ (r : Option Value) (N : Nat) (kd : zKd) (γ : zGm) (σ : zSg) (τ : zLm), oc = .returned r ∧ Q r N kd γ σ τ ∧ zWd D b fz N kd γ σ τ t t.heap) ∧ va_F (fun q => b ≤ q) st t
def zZm (D : zDD) (b fz mc ms : Nat) (Q : zPost) : zZZ := fun args s below => MQ below (zQc D b fz Q) args s mc ms (fun q => b ≤ q)
def wsM (M : zMI) : List Cond := .code M.1 M.2.1 M.2.2.1 M.2.2.2 :: lw_g
def rmM (h mc ms : Nat) : Room := { frames := h, cells := mc, slots := ms, locals := 40 * h }
def zPc (D : zDD) (b fz : Nat) (av : List Value) (N : Nat) (kd : zKd) (γ : zGm) (σ : zSg) (τ : zLm) : Array Value → State → Prop := va_Pc av (fun U => zWd D b fz N kd γ σ τ U U.heap ∧ b ≤ U.heap.size ∧ zNW U)
def zS (l : Launch) (D : zDD) (b : Nat) (M : zMI) (h fz mc ms : Nat) (av : List Value) (N : Nat) (kd : zKd) (γ : zGm) (σ : zSg) (τ : zLm) (Q : zPost) : Prop := Met l M.1 (wsM M) (rmM h mc ms) (zPc D b fz av N kd γ σ τ) (zQc D b fz Q) mc ms (fun q => b ≤ q)
theorem zPc_blind {D : zDD} {b fz : Nat} {av : List Value} {N : Nat} {kd : zKd} {γ : zGm} {σ : zSg} {τ : zLm} : FrameBlind (zPc D b fz av N kd γ σ τ) := fun a U g mk q => ⟨q.1, zWd.moved (u := U) (U := U.calling g mk a) (Vm.Alike.refl U.vm) q.2.1, q.2.2.1, zNW.same (u := U) (U := U.calling g mk a) rfl q.2.2.2⟩
theorem zS.of {l : Launch} {D : zDD} {b : Nat} {M : zMI} {h fz mc ms : Nat} {av : List Value} {N : Nat} {kd : zKd} {γ : zGm} {σ : zSg} {τ : zLm} {Q : zPost} (hy : plainName M.1.cls = true) (hn : (lg_sl av).length ≤ M.2.2.1) {lv : List (Nat × Value)} (hlv : lv_args 0 av = lv) (a : zA l D b M h fz mc ms (zZm D b fz mc ms Q) 0 lv [] 0 0 N kd γ σ τ) : zS l D b M h fz mc ms av N kd γ σ τ Q := by
  subst hlv
  refine Met.ofW (cc := M.2.1) (maxL := M.2.2.1) (ret := M.2.2.2) hy rfl ?_
  intro p e s m args below meth c s₁ B hml hv
  obtain ⟨rfl, hW, hbs, hNW⟩ := hv
  have hl := lv_entry av hn
  rw [lg_entry_eq]
  exact a p e _ s m _ below meth c ⟨B.exec, B.bytes, B.returns, hml, findClass_of_methodNamed B.named, fun w hw => atoms_spec (ws := wsM M) B.pre w (List.mem_cons_of_mem _ hw), B.notSynchronized, (name_of_methodNamed B.named B.method).1, hbs, Nat.le_refl _, Nat.le_refl _, Nat.le_refl _, Nat.le_refl _, hNW⟩ s.heap [] _ hl hW va_S.rf
section CALLS
variable {l : Launch} {D : zDD} {b : Nat} {M : zMI} {h fz kc ks : Nat} {Z : zZZ} {pc : Nat} {lv lv' : List (Nat × Value)} {stk st0 : List Value} {k n N : Nat} {kd : zKd} {γ : zGm} {σ : zSg} {τ : zLm} {Q : zPost} {mc ms : Nat}
theorem r_iret {v : Int32} (hr : M.2.2.2 = some .int) (hk : k ≤ mc) (hn : n ≤ ms) (hd : decode M.2.1 pc = .ok (.ireturn, 1)) (q : Q (some (.int v)) N kd γ σ τ) : zA l D b M h fz kc ks (zZm D b fz mc ms Q) pc lv [.int v] k n N kd γ σ τ := by
  intro p e R s m args below meth c C H locs ls hl hW hS
  refine W.widen hk hn ?_
  exact W.iret C.1 C.2.1 (C.2.2.1.trans hr) (fun t ht hWm => ⟨⟨some (.int v), N, kd, γ, σ, τ, rfl, q, by rw [ht]; exact hW.moved hWm.alike⟩, hS.F ht⟩) (fun q hq => hS.2.2 q hq) hd C.2.2.2.2.2.2.1
theorem r_zret {v : Int32} (hr : M.2.2.2 = some .boolean) (hk : k ≤ mc) (hn : n ≤ ms) (hd : decode M.2.1 pc = .ok (.ireturn, 1)) (hv : v = 0 ∨ v = 1) (q : Q (some (.int v)) N kd γ σ τ) : zA l D b M h fz kc ks (zZm D b fz mc ms Q) pc lv [.int v] k n N kd γ σ τ := by
  intro p e R s m args below meth c C H locs ls hl hW hS
  refine W.widen hk hn ?_
  have hnar : narrow .boolean (.int v) = .int v := by rcases hv with rfl | rfl <;> decide
  exact W.zret C.1 C.2.1 (C.2.2.1.trans hr) hnar (fun t ht hWm => ⟨⟨some (.int v), N, kd, γ, σ, τ, rfl, q, by rw [ht]; exact hW.moved hWm.alike⟩, hS.F ht⟩) (fun q hq => hS.2.2 q hq) hd C.2.2.2.2.2.2.1
theorem r_vret (hr : M.2.2.2 = none) (hk : k ≤ mc) (hn : n ≤ ms) (hd : decode M.2.1 pc = .ok (.return_, 1)) (q : Q none N kd γ σ τ) : zA l D b M h fz kc ks (zZm D b fz mc ms Q) pc lv [] k n N kd γ σ τ := by
  intro p e R s m args below meth c C H locs ls hl hW hS
  refine W.widen hk hn ?_
  exact W.vret C.1 C.2.1 (C.2.2.1.trans hr) (fun t ht hWm => ⟨⟨none, N, kd, γ, σ, τ, rfl, q, by rw [ht]; exact hW.moved hWm.alike⟩, hS.F ht⟩) (fun q hq => hS.2.2 q hq) hd C.2.2.2.2.2.2.1
/-- what the tables say of a method that is called -/
def okM (K : zMI) (np : Nat) : Prop := (K.1.cls ≠ "java/lang/invoke/MethodHandle" ∧ K.1.cls ≠ "java/lang/invoke/VarHandle" ∧ (parseMethodDescriptor K.1.desc).map (fun d => d.parameters.length) = some np) ∧ Cond.code K.1 K.2.1 K.2.2.1 K.2.2.2 ∈ lw_tbl ∧ Cond.initialized K.1.cls ∈ lw_tbl ∧ K.2.2.1 ≤ 21
theorem good_wsM {K : zMI} (h : Cond.code K.1 K.2.1 K.2.2.1 K.2.2.2 ∈ lw_tbl) : GoodIn lw_g (wsM K) := by
  intro w hw
  rcases List.mem_cons.mp hw with rfl | hw
  · have h1 := lw_gIn h rfl
    exact ⟨h1, lw_gGood h1⟩
  · exact ⟨hw, lw_gGood hw⟩
theorem callB4 {K : zMI} {h' mc' ms' np index : Nat} {p : Program} {R : Room} {s : State} {m : MethodId} {args : Array Value} {meth : Method} {c : Code} (C : zCx b M h kc ks p R s m args meth c) (hok : okM K np) (hw : Cond.methodLink M.1.cls index K.1 ∈ lw_tbl) (hh : h' < h) : CallB R s args M.1.cls index K.1 K.2.1 K.2.2.1 K.2.2.2 (wsM K) (rmM h' mc' ms') mc' ms' np := by
  obtain ⟨-, -, -, -, hown, hts, -, -, -, hf, hlo, -, -, -⟩ := C
  obtain ⟨hd, hc, hi, hL⟩ := hok
  refine callB_of np hts (good_wsM hc) rfl rfl rfl (hts _ (lw_gIn hi rfl)) (hts _ (lw_gIn hw rfl)) hd ⟨?_, ?_⟩
  · show h' + 1 ≤ R.frames
    omega
  · show 8 + (K.2.2.1 + 11) + 40 * h' ≤ R.locals
    omega
theorem go_call {p : Program} {e : Env} {R : Room} {s : State} {m : MethodId} {args a : Array Value} {below : List Frame} {meth : Method} {c : Code} {H : Heap} {locs : List Loc} {ls : Array Slot} {Qf : State → Prop} {mc' ms' : Nat}
    (hr : va_Run p l e R s m args below meth c H locs k n mc' ms' (F0 m pc ls st0) stk (zQc D b fz Q a) (fun q => b ≤ q)) (hS : va_S (fun q => b ≤ q) s.heap H locs)
    (kk : ∀ (r : Option Value) (N : Nat) (kd : zKd) (γ : zGm) (σ : zSg) (τ : zLm), Q r N kd γ σ τ → ∀ (H1 : Heap) (locs1 : List Loc), zWd D b fz N kd γ σ τ s H1 → va_S (fun q => b ≤ q) s.heap H1 locs1 → W p l e R s m args below meth c H1 locs1 (k + mc') (n + ms') Qf (F0 m (pc + 3) ls (r.toList ++ stk))) : W p l e R s m args below meth c H locs k n Qf (F0 m pc ls st0) := by
  intro T hT X
  obtain ⟨v, st₀, t, T', L, h0, X', hL, e1, e2, ⟨⟨r, N', kd', γ', σ', τ', hv, hq, hb⟩, hz, hk⟩, st⟩ := hr T hT X
  cases hv
  rw [h0] at hz hk
  have hvm : s.vm.Alike t.vm := by rw [← e2]; exact X'.warmed.alike
  obtain ⟨t2, a1, b1⟩ := kk _ N' kd' γ' σ' τ' hq T'.heap (locs ++ L) (by rw [e1]; exact hb.moved hvm.symm)
    ⟨Nat.le_trans hS.1 (by rw [e1]; exact hz), fun q h1 h2 => by rw [e1, hk q (Nat.lt_of_lt_of_le h1 hS.1) h2]; exact hS.2.1 q h1 h2, fun q hq => by
      rcases List.mem_append.mp hq with h | h
      · exact hS.2.2 q h
      · exact hL q h⟩ T' rfl X'
  exact ⟨t2, st t2 a1, b1⟩
theorem pre4 {av : List Value} {s : State} {H : Heap} {locs : List Loc} (hW : zWd D b fz N kd γ σ τ s H) (hbs : b ≤ s.heap.size) (hS : va_S (fun q => b ≤ q) s.heap H locs) (hNW : zNW s) : ∀ U : State, U.heap = H → s.WarmedH U.vm → zPc D b fz av N kd γ σ τ av.toArray U := by
  intro U hU hWm
  exact ⟨rfl, by rw [hU]; exact hW.moved hWm.alike, by rw [hU]; exact Nat.le_trans hbs hS.1, hNW.warm hWm⟩
theorem r_callV {K : zMI} {h' mc' ms' ci c0 : Nat} {C : String} {T : u_T} {nf index np : Nat} (As : List Value) (hok : okM K np) (hC : K.1.cls = C) (hin : Cond.instanceMethod K.1 ∈ lw_tbl) (hse : Cond.selects C K.1 K.1 ∈ lw_tbl) (hci : cls12[ci]? = some (C, T, nf)) (hN : c0 < N) (hk : (kd c0).1 = ci + 4) (hw : Cond.methodLink M.1.cls index K.1 ∈ lw_tbl) (hn : As.length = np) (hst : st0 = As.reverse ++ .ref (b + c0) :: stk) (hroom : (stk.map fun v => v.category).sum ≤ 8) (hd : decode M.2.1 pc = .ok (.invokevirtual index, 3)) (hh : h' < h) (hkc : k + mc' ≤ kc) (hks : n + ms' ≤ ks)
    (sp : zS l D b K h' fz mc' ms' (.ref (b + c0) :: As) N kd γ σ τ (fun r N' kd' γ' σ' τ' => zA l D b M h fz kc ks Z (pc + 3) lv (r.toList ++ stk) (k + mc') (n + ms') N' kd' γ' σ' τ')) : zA l D b M h fz kc ks Z pc lv st0 k n N kd γ σ τ := by
  intro p e R s m args below meth c Cc H locs ls hl hW hS
  have cb := callB4 (mc' := mc') (ms' := ms') Cc hok hw hh
  obtain ⟨hx, hbb, hr, hml, hown, hts, hlk, hnm, hbs, hf, hlo, hkc2, hks2, hNW⟩ := id Cc
  have hget : (wl D b N kd γ σ τ)[c0]? = some (b + c0, .inr (ci, fldsOf b ci (γ c0) (σ c0) (τ c0))) := by rw [wlE_get hN]; unfold zEE zEnt; rw [hk]
  refine go_call (va_runV (As := As) (rest := stk) (C := C) ⟨hx, hbb, hml, hown, hts⟩ sp ⟨cb, hts _ (lw_gIn hin rfl), hts _ (lw_gIn hse rfl)⟩ ⟨zPc_blind, va_recv hW.2.1 hW.1 hci hget, pre4 hW hbs hS hNW⟩ rfl hn hl.1 hst (lv_room hroom) hd ⟨Nat.le_trans hkc hkc2, Nat.le_trans hks hks2⟩) hS (fun r N' kd' γ' σ' τ' hq H1 locs1 hW1 hS1 => ?_)
  exact hq p e R s m args below meth c Cc H1 locs1 ls hl hW1 hS1
theorem r_callS {K : zMI} {h' mc' ms' : Nat} {index np : Nat} (As : List Value) (hok : okM K np) (hin : Cond.static K.1 ∈ lw_tbl) (hw : Cond.methodLink M.1.cls index K.1 ∈ lw_tbl) (hn : As.length = np) (hst : st0 = As.reverse ++ stk) (hroom : (stk.map fun v => v.category).sum ≤ 8) (hd : decode M.2.1 pc = .ok (.invokestatic index, 3)) (hh : h' < h) (hkc : k + mc' ≤ kc) (hks : n + ms' ≤ ks)
    (sp : zS l D b K h' fz mc' ms' As N kd γ σ τ (fun r N' kd' γ' σ' τ' => zA l D b M h fz kc ks Z (pc + 3) lv (r.toList ++ stk) (k + mc') (n + ms') N' kd' γ' σ' τ')) : zA l D b M h fz kc ks Z pc lv st0 k n N kd γ σ τ := by
  intro p e R s m args below meth c Cc H locs ls hl hW hS
  have cb := callB4 (mc' := mc') (ms' := ms') Cc hok hw hh
  obtain ⟨hx, hbb, hr, hml, hown, hts, hlk, hnm, hbs, hf, hlo, hkc2, hks2, hNW⟩ := id Cc
  refine go_call (va_runS (As := As) (rest := stk) ⟨hx, hbb, hml, hown, hts⟩ sp ⟨cb, hts _ (lw_gIn hin rfl)⟩ ⟨zPc_blind, pre4 hW hbs hS hNW⟩ rfl hn hl.1 hst (lv_room hroom) hd ⟨Nat.le_trans hkc hkc2, Nat.le_trans hks hks2⟩) hS (fun r N' kd' γ' σ' τ' hq H1 locs1 hW1 hS1 => ?_)
  exact hq p e R s m args below meth c Cc H1 locs1 ls hl hW1 hS1
theorem r_callI {K : zMI} {h' mc' ms' c0 : Nat} {index np : Nat} (As : List Value) (hok : okM K np) (hvo : K.2.2.2 = none) (hnm : K.1.name = "<init>") (hin : Cond.instanceMethod K.1 ∈ lw_tbl) (hw : Cond.methodLink M.1.cls index K.1 ∈ lw_tbl) (hn : As.length = np) (hst : st0 = As.reverse ++ .ref (b + c0) :: stk) (hroom : (stk.map fun v => v.category).sum ≤ 8) (hd : decode M.2.1 pc = .ok (.invokespecial index, 3)) (hh : h' < h) (hkc : k + mc' ≤ kc) (hks : n + ms' ≤ ks)
    (sp : zS l D b K h' fz mc' ms' (.ref (b + c0) :: As) N kd γ σ τ (fun r N' kd' γ' σ' τ' => zA l D b M h fz kc ks Z (pc + 3) lv (r.toList ++ stk) (k + mc') (n + ms') N' kd' γ' σ' τ')) : zA l D b M h fz kc ks Z pc lv st0 k n N kd γ σ τ := by
  intro p e R s m args below meth c Cc H locs ls hl hW hS
  have cb := callB4 (mc' := mc') (ms' := ms') Cc hok hw hh
  rw [hvo] at cb
  obtain ⟨hx, hbb, hr, hml, hown, hts, hlk, hnm2, hbs, hf, hlo, hkc2, hks2, hNW⟩ := id Cc
  refine go_call (va_runI (As := As) (rest := stk) ⟨hx, hbb, hml, hown, hts⟩ sp ⟨cb, hnm, hts _ (lw_gIn hin rfl)⟩ ⟨zPc_blind, pre4 hW hbs hS hNW⟩ rfl hn hl.1 hst (lv_room hroom) hd ⟨Nat.le_trans hkc hkc2, Nat.le_trans hks hks2⟩) hS (fun r N' kd' γ' σ' τ' hq H1 locs1 hW1 hS1 => ?_)
  exact hq p e R s m args below meth c Cc H1 locs1 ls hl hW1 hS1
theorem r_callIN {K : zMI} {h' mc' ms' c0 : Nat} {index np : Nat} {host : String} (As : List Value) (hok : okM K np) (hvo : K.2.2.2 = none) (hnm : K.1.name = "<init>") (hin : Cond.instanceMethod K.1 ∈ lw_tbl) (hw : Cond.methodLinkNest M.1.cls index K.1 host ∈ nestL) (hn : As.length = np) (hst : st0 = As.reverse ++ .ref (b + c0) :: stk) (hroom : (stk.map fun v => v.category).sum ≤ 8) (hd : decode M.2.1 pc = .ok (.invokespecial index, 3)) (hh : h' < h) (hkc : k + mc' ≤ kc) (hks : n + ms' ≤ ks)
    (sp : zS l D b K h' fz mc' ms' (.ref (b + c0) :: As) N kd γ σ τ (fun r N' kd' γ' σ' τ' => zA l D b M h fz kc ks Z (pc + 3) lv (r.toList ++ stk) (k + mc') (n + ms') N' kd' γ' σ' τ')) : zA l D b M h fz kc ks Z pc lv st0 k n N kd γ σ τ := by
  intro p e R s m args below meth c Cc H locs ls hl hW hS
  obtain ⟨hx, hbb, hr, hml, hown, hts, hlk, hnm2, hbs, hf, hlo, hkc2, hks2, hNW⟩ := id Cc
  obtain ⟨hd2, hcd, hi, hL⟩ := hok
  have cb : va_CN R s args M.1.cls index K.1 host K.2.1 K.2.2.1 none (wsM K) (rmM h' mc' ms') mc' ms' np := by
    refine va_cnB (ws' := lw_g) np hts (good_wsM hcd) (by rw [← hvo]; rfl) rfl rfl (hNW.1 _ hw) (hts _ (lw_gIn hi rfl)) hd2 ⟨?_, ?_⟩
    · show h' + 1 ≤ R.frames
      omega
    · show 8 + (K.2.2.1 + 11) + 40 * h' ≤ R.locals
      omega
  refine go_call (va_runIN (As := As) (rest := stk) ⟨hx, hbb, hml, hown, hts⟩ sp ⟨cb, hnm, hts _ (lw_gIn hin rfl)⟩ ⟨zPc_blind, pre4 hW hbs hS hNW⟩ rfl hn hl.1 hst (lv_room hroom) hd ⟨Nat.le_trans hkc hkc2, Nat.le_trans hks hks2⟩) hS (fun r N' kd' γ' σ' τ' hq H1 locs1 hW1 hS1 => ?_)
  exact hq p e R s m args below meth c Cc H1 locs1 ls hl hW1 hS1
end CALLS
end
section
/-! MAKERS: new objects and arrays; stores of references; Object's constructor; System.arraycopy. -/
def tyk (t : FieldType) : Bool := match t with
  | .int => true | .long => true | .object _ => true | .array _ => true | _ => false
theorem cTy_ok {t : Nat} : ∀ j, j < cN t → tyk (cTy t j) = true := by
  match t with
  | 0 => decide +kernel
  | 1 => decide +kernel
  | 2 => decide +kernel
  | 3 => decide +kernel
  | 4 => decide +kernel
  | 5 => decide +kernel
  | 6 => decide +kernel
  | 7 => decide +kernel
  | 8 => decide +kernel
  | 9 => decide +kernel
  | 10 => decide +kernel
  | 11 => decide +kernel
  | t + 12 => intro j hj; exact absurd hj (Nat.not_lt_zero j)
theorem flds_dflt {b t j : Nat} (hj : j < cN t) : defaultValue (cTy t j) = vp_V (fldsOf b t (fun _ => none) (fun _ => 0) (fun _ => 0)) j := by
  have h := cTy_ok (t := t) j hj
  unfold vp_V
  rw [List.getD_eq_getElem?_getD, flds_get hj, Option.getD_some]
  cases hx : cTy t j <;> rw [hx] at h <;> first | rfl | cases h
section MAKERS
variable {l : Launch} {D : zDD} {b : Nat} {M : zMI} {h fz kc ks : Nat} {Z : zZZ} {pc : Nat} {lv lv' : List (Nat × Value)} {stk st0 : List Value} {k n N : Nat} {kd : zKd} {γ : zGm} {σ : zSg} {τ : zLm} {Q : zPost} {mc ms : Nat}
theorem wl_pushed {H H1 : Heap} {ky : Nat × Nat} {g : Nat → Option Nat} {x : Nat → Int32} {y : Nat → Int64} (hP : va_P D.1 cls12 (wl D b N kd γ σ τ) H) (hz : H.size = b + N) (o1 : ∀ q, q < b + N → H1[q]? = H[q]?) (hat : va_at D.1 cls12 (b + N, zEnt D b ky g x y) H1) : va_P D.1 cls12 (wl D b (N + 1) (va_up kd N ky) (va_up γ N g) (va_up σ N x) (va_up τ N y)) H1 := by
  have hk : ∀ (k : Nat) (x : Nat × va_E), (wl D b N kd γ σ τ)[k]? = some x → H1[x.1]? = H[x.1]? := fun k x hx => o1 x.1 (by rw [← hz]; exact (hP k x hx).lt)
  have h1 := (hP.kept hk).app (w2 := [(b + N, zEnt D b ky g x y)]) (fun k x hx => by
    have hz : k < 1 := (List.getElem?_eq_some_iff.mp hx).1
    rw [show k = 0 by omega] at hx
    cases hx
    exact hat)
  rw [wlE_push, zEE_new] at h1
  exact h1
theorem r_new {ci : Nat} {C : String} {T : u_T} {nf index : Nat} (hci : cls12[ci]? = some (C, T, nf)) (hw : Cond.classLink M.1.cls index C ∈ lw_tbl) (hi : Cond.instantiable C nf ∈ lw_tbl) (hini : Cond.initialized C ∈ lw_tbl) (hd : decode M.2.1 pc = .ok (.new index, 3)) (hkc : k + 1 ≤ kc) (hks : n + nf ≤ ks)
    (a : zA l D b M h 1 kc ks Z (pc + 3) lv (.ref (b + N) :: stk) (k + 1) (n + nf) (N + 1) (va_up kd N (ci + 4, 0)) (va_up γ N (fun _ => none)) (va_up σ N (fun _ => 0)) (va_up τ N (fun _ => 0))) : zA l D b M h 1 kc ks Z pc lv stk k n N kd γ σ τ := by
  intro p e R s m args below meth c Cc H locs ls hl hW hS
  obtain ⟨hx, hbb, hr, hml, hown, hts, hlk, hnm, hbs, hf, hlo, hkc2, hks2, hNW⟩ := id Cc
  obtain ⟨hcn, hci2, hpt, hnm2⟩ := cls_N hci
  obtain ⟨hP, hK, hz⟩ := hW
  have hz : H.size = b + N := hz.resolve_left (by decide)
  have hKn := hK.1 ci _ hci
  refine W.newcK hx hbb hown (hts _ (lw_gIn hw rfl)) (hts _ (lw_gIn hi rfl)) (hts _ (lw_gIn hini rfl)) rfl hd (Nat.le_trans hkc hkc2) (Nat.le_trans hks hks2) hKn.2.1 hz fun H1 kC hkC e1 z1 o1 => ?_
  refine a p e R s m args below meth c Cc H1 locs ls hl ⟨wl_pushed hP hz o1 ?_, hK, Or.inr (by rw [z1]; omega)⟩ ⟨Nat.le_trans hS.1 (by omega), fun x h1 h2 => (o1 x (by have := hS.1; omega)).trans (hS.2.1 x h1 h2), hS.2.2⟩
  exact ⟨_, hci, (u_born (cTy ci) hts hci2 hKn hkC e1 hpt).to (fun j hj => flds_dflt (by rw [hcn]; exact hj))⟩
theorem r_newarr {atype : ArrayType} {ty : FieldType} {tag len : Nat} {v : Int32} (hty : newarray.typeOf atype = ty) (htag : (tag = 0 ∧ ty = .int) ∨ (tag = 1 ∧ ty = .boolean) ∨ (tag = 2 ∧ ty = .long)) (hw : Cond.arrayClass ty ∈ lw_tbl) (hv : ¬ v < 0) (hlen : v.toNatClampNeg = len) (hb8 : len ≤ 1000) (hd : decode M.2.1 pc = .ok (.newarray atype, 2)) (hkc : k + 1 ≤ kc) (hks : n + len ≤ ks)
    (a : zA l D b M h 1 kc ks Z (pc + 2) lv (.ref (b + N) :: stk) (k + 1) (n + len) (N + 1) (va_up kd N (tag, len)) (va_up γ N (fun _ => none)) (va_up σ N (fun _ => 0)) (va_up τ N (fun _ => 0))) : zA l D b M h 1 kc ks Z pc lv (.int v :: stk) k n N kd γ σ τ := by
  intro p e R s m args below meth c Cc H locs ls hl hW hS
  obtain ⟨hx, hbb, hr, hml, hown, hts, hlk, hnm, hbs, hf, hlo, hkc2, hks2, hNW⟩ := id Cc
  obtain ⟨hP, hK, hz⟩ := hW
  have hz : H.size = b + N := hz.resolve_left (by decide)
  subst hty
  have hcb : len * componentBytes (newarray.typeOf atype) ≤ 536870912 := by
    have : componentBytes (newarray.typeOf atype) ≤ 8 := by cases atype <;> decide
    have h2 := Nat.mul_le_mul hb8 this
    omega
  refine va_newaK hx hbb (hts _ (lw_gIn hw rfl)) rfl hd rfl hv hlen hcb (Nat.le_trans hkc hkc2) (Nat.le_trans hks hks2) hz fun H1 cA e1 z1 o1 hAr hNm => ?_
  refine a p e R s m args below meth c Cc H1 locs ls hl ⟨wl_pushed hP hz o1 ?_, hK, Or.inr (by rw [z1]; omega)⟩ ⟨Nat.le_trans hS.1 (by omega), fun x h1 h2 => (o1 x (by have := hS.1; omega)).trans (hS.2.1 x h1 h2), hS.2.2⟩
  rcases htag with ⟨rfl, ht⟩ | ⟨rfl, ht⟩ | ⟨rfl, ht⟩
  · have hA : cA = D.2 0 := by
      have h2 := (hK.2 0 _ rfl).2
      rw [ht] at hNm
      exact Option.some.inj (hNm.symm.trans h2)
    show H1[b + N]? = some (vp_cell (D.2 0) (len, .inl (fun _ => 0)))
    rw [e1, ht, hA]; rfl
  · have hA : cA = D.2 1 := by
      have h2 := (hK.2 1 _ rfl).2
      rw [ht] at hNm
      exact Option.some.inj (hNm.symm.trans h2)
    show H1[b + N]? = some (vp_cell (D.2 1) (len, .inl (fun _ => 0)))
    rw [e1, ht, hA]; rfl
  · have hA : cA = D.2 2 := by
      have h2 := (hK.2 2 _ rfl).2
      rw [ht] at hNm
      exact Option.some.inj (hNm.symm.trans h2)
    show H1[b + N]? = some (vp_cell (D.2 2) (len, .inr (.inl (fun _ => 0))))
    rw [e1, ht, hA]; rfl
theorem r_anew {index len : Nat} {v : Int32} (hw : Cond.classLink M.1.cls index RX8 ∈ lw_tbl) (hv : ¬ v < 0) (hlen : v.toNatClampNeg = len) (hb8 : len ≤ 1000) (hd : decode M.2.1 pc = .ok (.anewarray index, 3)) (hkc : k + 1 ≤ kc) (hks : n + len ≤ ks)
    (a : zA l D b M h 1 kc ks Z (pc + 3) lv (.ref (b + N) :: stk) (k + 1) (n + len) (N + 1) (va_up kd N (3, len)) (va_up γ N (fun _ => none)) (va_up σ N (fun _ => 0)) (va_up τ N (fun _ => 0))) : zA l D b M h 1 kc ks Z pc lv (.int v :: stk) k n N kd γ σ τ := by
  intro p e R s m args below meth c Cc H locs ls hl hW hS
  obtain ⟨hx, hbb, hr, hml, hown, hts, hlk, hnm, hbs, hf, hlo, hkc2, hks2, hNW⟩ := id Cc
  obtain ⟨hP, hK, hz⟩ := hW
  have hz : H.size = b + N := hz.resolve_left (by decide)
  subst hlen
  refine W.anew hx hbb hown (hts _ (lw_gIn hw rfl)) hNW.2.use rfl hd rfl hv (by omega) (Nat.le_trans hkc hkc2) (Nat.le_trans hks hks2) fun cA kA comp f1 f2 f3 f4 => ?_
  generalize hH1 : H.push ({ cls := cA, slots := Array.replicate v.toNatClampNeg .null, vm := .none } : Cell) = H1
  have z1 : H1.size = H.size + 1 := by rw [← hH1, Array.size_push]
  have e1 : H1[b + N]? = some (arrV cA v.toNatClampNeg (fun _ => .null)) := by rw [← hH1, ← hz, Array.getElem?_push_size, ← arrV_new]
  have o1 : ∀ q : Nat, q < b + N → H1[q]? = H[q]? := fun q hq => by rw [← hH1, Array.getElem?_push, if_neg (by omega)]
  have hA : cA = D.2 3 := by
    obtain ⟨kB, comp2, g1, g2, g3, g4⟩ := (hK.2 3 _ rfl).2
    exact Option.some.inj (f1.symm.trans g4)
  have hst : (F0 m (pc + 3) ls (.ref H.size :: stk)) = F0 m (pc + 3) ls (.ref (b + N) :: stk) := by rw [hz]
  show W p l e R s m args below meth c H1 locs (k + 1) (n + v.toNatClampNeg) (Z args s below) (F0 m (pc + 3) ls (.ref H.size :: stk))
  rw [hst]
  refine a p e R s m args below meth c Cc H1 locs ls hl ⟨wl_pushed hP hz o1 ?_, hK, Or.inr (by rw [z1]; omega)⟩ ⟨Nat.le_trans hS.1 (by omega), fun x h1 h2 => (o1 x (by have := hS.1; omega)).trans (hS.2.1 x h1 h2), hS.2.2⟩
  show H1[b + N]? = some (vp_cell (D.2 3) (v.toNatClampNeg, .inr (.inr (.inr (.inr (fun j => Option.map (fun c => b + c) none))))))
  rw [e1, hA]; rfl
theorem r_aast {c len c2 : Nat} {i : Int32} (hN : c < N) (hk : kd c = (3, len)) (hN2 : c2 < N) (hk2 : (kd c2).1 = 12) (hd : decode M.2.1 pc = .ok (.aastore, 1)) (hin : vp_in i len) (a : zA l D b M h fz kc ks Z (pc + 1) lv stk k n N kd (st2 γ c i.toNatClampNeg (some c2)) σ τ) : zA l D b M h fz kc ks Z pc lv (.ref (b + c2) :: .int i :: .ref (b + c) :: stk) k n N kd γ σ τ := by
  intro p e R s m args below meth c0 C H locs ls hl hW hS
  obtain ⟨hP, hK, hz⟩ := hW
  have hlt : i.toNatClampNeg < len := Nat.not_le.mp fun q => hin (Or.inr q)
  have h0 : ¬ i < 0 := fun q => hin (Or.inl q)
  have ha : (wl D b N kd γ σ τ)[c]? = some (b + c, .inl (D.2 3, len, .inr (.inr (.inr (.inr (fun j => (γ c j).map (fun q => b + q))))))) := by rw [wlE_get hN]; unfold zEE zEnt; rw [hk]
  have hv : (wl D b N kd γ σ τ)[c2]? = some (b + c2, .inr (8, fldsOf b 8 (γ c2) (σ c2) (τ c2))) := by rw [wlE_get hN2]; unfold zEE zEnt; rw [hk2]
  obtain ⟨r', hr', cellV, g1, g2, g3, -⟩ := hP c2 _ hv
  have hcls := (hK.1 8 _ rfl).2
  obtain ⟨kA, comp, k1, k2, k3, -⟩ := (hK.2 3 _ rfl).2
  have hcomp : comp = D.1.1 8 := Option.some.inj (k3.symm.trans hcls.1)
  subst hcomp
  obtain ⟨kC, hkC, -⟩ := hcls.2
  refine W.aast C.1 C.2.1 (hP c _ ha) (fun q h => by cases h) (fun h => by cases h) k1 k2 rfl hkC ⟨h0, by show _ < (arrV _ _ _).slots.size; rw [arrV_size]; exact hlt⟩ g1 (fun q h => by rw [g3] at h; cases h) (by rw [g2]; exact hkC) (by rw [g2]; exact va_assign hcls) rfl rfl hd fun H1 e1 z oq => ?_
  have hP1 : va_P D.1 cls12 ((wl D b N kd γ σ τ).set c (b + c, zEnt D b (kd c) (va_up (γ c) i.toNatClampNeg (some c2)) (σ c) (τ c))) H1 := by
    refine hP.set (wlE_D b N _) ha ?_ oq
    unfold zEnt
    rw [hk]
    show H1[b + c]? = some (vp_cell _ _)
    rw [e1]
    rw [vp_cell_q, vp_cell_q, arrV_store]
    congr 2
    funext q
    by_cases hq : q = i.toNatClampNeg
    · subst hq
      simp [updV, va_up, va_rf]
    · simp [updV, va_up, hq]
  rw [wlE_set, zEE_γ] at hP1
  exact a p e R s m args below meth c0 C H1 _ ls hl ⟨hP1, hK, hz.imp id (fun q => z.trans q)⟩ (hS.put z oq (by show b ≤ b + c; omega))
theorem r_oinit {c0 index : Nat} (hw : Cond.methodLink M.1.cls index objectInit ∈ lw_tbl) (hin : Cond.instanceMethod objectInit ∈ lw_tbl) (hcd : Cond.code objectInit ⟨#[0xb1]⟩ 1 none ∈ lw_tbl) (hd : decode M.2.1 pc = .ok (.invokespecial index, 3)) (hh : 1 ≤ h) (hroom : (stk.map fun v => v.category).sum ≤ 8) (a : zA l D b M h fz kc ks Z (pc + 3) lv stk k n N kd γ σ τ) : zA l D b M h fz kc ks Z pc lv (.ref c0 :: stk) k n N kd γ σ τ := by
  intro p e R s m args below meth c Cc H locs ls hl hW hS
  obtain ⟨hx, hbb, hr, hml, hown, hts, hlk, hnm, hbs, hf, hlo, hkc2, hks2, hNW⟩ := id Cc
  refine W.objInit hx hbb hown (hts _ (lw_gIn hw rfl)) (hts _ (lw_gIn hin rfl)) (hts _ (lw_gIn hcd rfl)) rfl (by rw [hml]; exact hl.1) rfl hd (by omega) ?_ ?_
  · show 2 * 0 + (stk.map fun v => v.category).sum + 12 ≤ R.locals
    omega
  · exact a p e R s m args below meth c Cc H locs ls hl hW hS
theorem r_copy {index c1 c2 n1 n2 : Nat} {sp dp cnt : Int32} (hw : Cond.methodLink M.1.cls index arraycopyName ∈ lw_tbl) (hnat : Cond.native arraycopyName ∈ lw_tbl) (hstat : Cond.static arraycopyName ∈ lw_tbl) (hini : Cond.initialized "java/lang/System" ∈ lw_tbl) (hN1 : c1 < N) (hN2 : c2 < N) (hk1 : kd c1 = (0, n1)) (hk2 : kd c2 = (0, n2)) (h1 : ¬ sp < 0) (h2 : ¬ dp < 0) (h3 : ¬ cnt < 0) (h4 : sp.toNatClampNeg + cnt.toNatClampNeg ≤ n1) (h5 : dp.toNatClampNeg + cnt.toNatClampNeg ≤ n2) (hh : 1 ≤ h) (hroom : (stk.map fun v => v.category).sum ≤ 8) (hd : decode M.2.1 pc = .ok (.invokestatic index, 3))
    (a : zA l D b M h 0 kc ks Z (pc + 3) lv stk k n N kd γ (va_up σ c2 (va_cpy (σ c1) (σ c2) sp.toNatClampNeg dp.toNatClampNeg cnt.toNatClampNeg)) τ) : zA l D b M h 0 kc ks Z pc lv (.int cnt :: .int dp :: .ref (b + c2) :: .int sp :: .ref (b + c1) :: stk) k n N kd γ σ τ := by
  intro p e R s m args below meth c Cc H locs ls hl hW hS
  obtain ⟨hx, hbb, hr, hml, hown, hts, hlk, hnm, hbs, hf, hlo, hkc2, hks2, hNW⟩ := id Cc
  obtain ⟨hP, hK, hz⟩ := hW
  refine va_copyi (D := D.1) (ty := .int) hx hbb (by rw [hml]; exact hl.1.symm) hown (hts _ (lw_gIn hw rfl)) (hts _ (lw_gIn hnat rfl)) (hts _ (lw_gIn hstat rfl)) (hts _ (lw_gIn hini rfl)) hK hP (wlE_D b N _) hS c1 c2 0 0 (c0 := D.2 0) (c1 := D.2 0) (n0 := n1) (n1 := n2) (f := σ c1) (g := σ c2) (by rw [wlE_get hN1]; unfold zEE zEnt; rw [hk1]) (by rw [wlE_get hN2]; unfold zEE zEnt; rw [hk2]) rfl rfl rfl h1 h2 h3 h4 h5 (fun i hi => rfl) (by omega) ?_ hd (fun H1 locs1 hP1 hD1 hS1 => ?_)
  · have : nativeFrameWords "java/lang/System" "arraycopy" 5 ≤ 20 := by decide
    omega
  · rw [wlE_set, show (Sum.inl (D.2 0, n2, Sum.inl (va_cpy (σ c1) (σ c2) sp.toNatClampNeg dp.toNatClampNeg cnt.toNatClampNeg)) : va_E) = zEnt D b (kd c2) (γ c2) (va_cpy (σ c1) (σ c2) sp.toNatClampNeg dp.toNatClampNeg cnt.toNatClampNeg) (τ c2) by unfold zEnt; rw [hk2], zEE_σ] at hP1
    exact a p e R s m args below meth c Cc H1 locs1 ls hl ⟨hP1, hK, Or.inl rfl⟩ hS1
end MAKERS
end
section
/-! THE GRAPH of the cells once all constructors have run; contracts and calls in it. -/
abbrev N0 : Nat := 144
def K0t (c : Nat) : Nat × Nat := match c with
  | 0 => (14, 0)
  | 1 => (11, 0)
  | 2 => (0, 240)
  | 3 => (10, 0)
  | 4 => (0, 6)
  | 5 => (0, 6)
  | 6 => (0, 6)
  | 7 => (0, 6)
  | 8 => (10, 0)
  | 9 => (0, 6)
  | 10 => (0, 6)
  | 11 => (0, 6)
  | 12 => (0, 6)
  | 13 => (12, 0)
  | 14 => (0, 6)
  | 15 => (0, 6)
  | 16 => (0, 6)
  | 17 => (0, 6)
  | 18 => (13, 0)
  | 19 => (0, 16)
  | 20 => (0, 16)
  | 21 => (7, 0)
  | 22 => (6, 0)
  | 23 => (9, 0)
  | 24 => (3, 16)
  | 25 => (3, 2)
  | 26 => (0, 2)
  | 27 => (1, 2)
  | 118 => (8, 0)
  | 119 => (0, 12)
  | 120 => (5, 0)
  | 121 => (0, 25)
  | 122 => (4, 0)
  | 123 => (0, 15)
  | 124 => (0, 15)
  | 125 => (15, 0)
  | 126 => (0, 240)
  | 127 => (0, 6)
  | 128 => (0, 6)
  | 129 => (0, 6)
  | 130 => (0, 6)
  | 131 => (0, 6)
  | 132 => (0, 6)
  | 133 => (0, 26)
  | 134 => (0, 416)
  | 135 => (0, 16)
  | 136 => (0, 6)
  | 137 => (1, 6)
  | 138 => (0, 25)
  | 139 => (0, 15)
  | 140 => (0, 15)
  | 141 => (1, 2)
  | 142 => (0, 52)
  | 143 => (2, 2)
  | _ => (0, 0)
def K0 : zKd := fun c => if 28 ≤ c ∧ c < 118 then (if (c - 28) % 5 = 0 then (12, 0) else (0, 6)) else K0t c
def scF (c j : Nat) : Option Nat := if 2 ≤ j ∧ j ≤ 5 then some (c + (j - 1)) else none
def G0t (c : Nat) : Nat → Option Nat := match c with
  | 0 => (fun j => match j with | 0 => some 1 | 1 => some 3 | 2 => some 8 | 3 => some 13 | 4 => some 18 | 5 => some 21 | 6 => some 22 | 7 => some 23 | 8 => some 118 | 9 => some 120 | 10 => some 122 | _ => none)
  | 1 => (fun j => match j with | 0 => some 2 | _ => none)
  | 3 => (fun j => match j with | 4 => some 4 | 5 => some 5 | 6 => some 6 | 7 => some 7 | _ => none)
  | 8 => (fun j => match j with | 4 => some 9 | 5 => some 10 | 6 => some 11 | 7 => some 12 | _ => none)
  | 18 => (fun j => match j with | 0 => some 19 | 1 => some 20 | _ => none)
  | 22 => (fun j => match j with | 0 => some 8 | 1 => some 13 | 2 => some 18 | 3 => some 21 | _ => none)
  | 23 => (fun j => match j with | 0 => some 24 | 1 => some 25 | 2 => some 26 | 3 => some 27 | _ => none)
  | 118 => (fun j => match j with | 0 => some 119 | _ => none)
  | 120 => (fun j => match j with | 5 => some 121 | _ => none)
  | 122 => (fun j => match j with | 1 => some 123 | 2 => some 124 | _ => none)
  | 125 => (fun j => match j with | 1 => some 126 | 10 => some 127 | 11 => some 128 | 12 => some 129 | 13 => some 130 | 18 => some 131 | 19 => some 132 | 20 => some 133 | 23 => some 134 | 25 => some 135 | 27 => some 136 | 28 => some 137 | 29 => some 138 | 31 => some 139 | 32 => some 140 | 33 => some 141 | 34 => some 142 | 35 => some 143 | _ => none)
  | 13 => scF 13
  | 24 => (fun j => if j < 16 then some (28 + 5 * j) else none)
  | 25 => (fun j => if j < 2 then some (108 + 5 * j) else none)
  | _ => (fun _ => none)
def G0 : zGm := fun c => if 28 ≤ c ∧ c < 118 then (if (c - 28) % 5 = 0 then scF c else (fun _ => none)) else G0t c
def isSc (c : Nat) : Prop := c = 13 ∨ (28 ≤ c ∧ c < 118 ∧ (c - 28) % 5 = 0)
theorem isSc_K {c : Nat} (h : isSc c) : K0 c = (12, 0) := by
  rcases h with rfl | ⟨h1, h2, h3⟩
  · rfl
  · unfold K0; rw [if_pos ⟨h1, h2⟩, if_pos h3]
theorem isSc_lt {c : Nat} (h : isSc c) : c + 4 < N0 := by
  rcases h with rfl | ⟨h1, h2, h3⟩
  · decide
  · show c + 4 < 144; omega
theorem isSc_A {c k : Nat} (h : isSc c) (h1 : 1 ≤ k) (h2 : k ≤ 4) : K0 (c + k) = (0, 6) := by
  rcases h with rfl | ⟨h3, h4, h5⟩
  · rcases (show k = 1 ∨ k = 2 ∨ k = 3 ∨ k = 4 by omega) with rfl | rfl | rfl | rfl <;> rfl
  · unfold K0; rw [if_pos (by omega), if_neg (by omega)]
theorem isSc_G {c j : Nat} (h : isSc c) (h1 : 2 ≤ j) (h2 : j ≤ 5) : G0 c j = some (c + (j - 1)) := by
  rcases h with rfl | ⟨h3, h4, h5⟩
  · show G0t 13 j = _
    show scF 13 j = _
    unfold scF; rw [if_pos ⟨h1, h2⟩]
  · unfold G0; rw [if_pos ⟨h3, h4⟩, if_pos h5]
    unfold scF; rw [if_pos ⟨h1, h2⟩]
theorem isSc_un {j : Nat} (h : j < 16) : isSc (28 + 5 * j) := Or.inr ⟨by omega, by omega, by omega⟩
theorem isSc_im {j : Nat} (h : j < 2) : isSc (108 + 5 * j) := Or.inr ⟨by omega, by omega, by omega⟩
theorem G0_24 {j : Nat} (h : j < 16) : G0 24 j = some (28 + 5 * j) := by
  show (if j < 16 then some (28 + 5 * j) else none) = _
  rw [if_pos h]
theorem G0_25 {j : Nat} (h : j < 2) : G0 25 j = some (108 + 5 * j) := by
  show (if j < 2 then some (108 + 5 * j) else none) = _
  rw [if_pos h]
theorem vp_lt {i : Int32} {n : Nat} (h : vp_in i n) : i.toNatClampNeg < n := Nat.not_le.mp fun q => h (Or.inr q)
theorem zS.mono {l : Launch} {D : zDD} {b : Nat} {M : zMI} {h fz mc ms : Nat} {av : List Value} {N : Nat} {kd : zKd} {γ : zGm} {σ : zSg} {τ : zLm} {Q Q' : zPost} (a : zS l D b M h fz mc ms av N kd γ σ τ Q) (hq : ∀ r N kd γ σ τ, Q r N kd γ σ τ → Q' r N kd γ σ τ) : zS l D b M h fz mc ms av N kd γ σ τ Q' := by
  intro p e ha hc hk s m args below hf happ hP hK
  obtain ⟨n, o, h1, h2, h3, ⟨⟨r, N', kd', γ', σ', τ', e1, e2, e3⟩, hF⟩, L⟩ := a p e ha hc hk s m args below hf happ hP hK
  exact ⟨n, o, h1, h2, h3, ⟨⟨r, N', kd', γ', σ', τ', e1, hq _ _ _ _ _ _ e2, e3⟩, hF⟩, L⟩
abbrev QI (γe : zGm) (Q : Int32 → zSg → zLm → Prop) : zPost := fun r N kd γ σ τ => N = N0 ∧ kd = K0 ∧ γ = γe ∧ ∃ x : Int32, r = some (.int x) ∧ Q x σ τ
abbrev QV (γe : zGm) (Q : zSg → zLm → Prop) : zPost := fun r N kd γ σ τ => N = N0 ∧ kd = K0 ∧ γ = γe ∧ r = none ∧ Q σ τ
abbrev AI (l : Launch) (D : zDD) (b : Nat) (M : zMI) (h : Nat) (γe : zGm) (Q : Int32 → zSg → zLm → Prop) (pc : Nat) (lv : List (Nat × Value)) (stk : List Value) (γ : zGm) (σ : zSg) (τ : zLm) : Prop := zA l D b M h 0 0 0 (zZm D b 0 0 0 (QI γe Q)) pc lv stk 0 0 N0 K0 γ σ τ
abbrev AV (l : Launch) (D : zDD) (b : Nat) (M : zMI) (h : Nat) (γe : zGm) (Q : zSg → zLm → Prop) (pc : Nat) (lv : List (Nat × Value)) (stk : List Value) (γ : zGm) (σ : zSg) (τ : zLm) : Prop := zA l D b M h 0 0 0 (zZm D b 0 0 0 (QV γe Q)) pc lv stk 0 0 N0 K0 γ σ τ
abbrev SI (l : Launch) (D : zDD) (b : Nat) (M : zMI) (h : Nat) (γ : zGm) (av : List Value) (σ : zSg) (τ : zLm) (Q : Int32 → zSg → zLm → Prop) : Prop := zS l D b M h 0 0 0 av N0 K0 γ σ τ (QI γ Q)
abbrev SV (l : Launch) (D : zDD) (b : Nat) (M : zMI) (h : Nat) (γ : zGm) (av : List Value) (σ : zSg) (τ : zLm) (Q : zSg → zLm → Prop) : Prop := zS l D b M h 0 0 0 av N0 K0 γ σ τ (QV γ Q)
def okV (K : zMI) (np ci : Nat) : Prop := ∃ (C : String) (T : u_T) (nf : Nat), okM K np ∧ K.1.cls = C ∧ Cond.instanceMethod K.1 ∈ lw_tbl ∧ Cond.selects C K.1 K.1 ∈ lw_tbl ∧ cls12[ci]? = some (C, T, nf)
def okS (K : zMI) (np : Nat) : Prop := okM K np ∧ Cond.static K.1 ∈ lw_tbl
section RUN
variable {l : Launch} {D : zDD} {b : Nat} {M : zMI} {h kc ks : Nat} {Z : zZZ} {pc : Nat} {lv lv' : List (Nat × Value)} {stk st0 : List Value} {γ : zGm} {σ : zSg} {τ : zLm}
variable {K : zMI} {h' ci c0 index np : Nat} {F : Int32 → zSg → zLm → Prop} {G : zSg → zLm → Prop}
theorem rc_VI (As : List Value) (hok : okV K np ci) (hN : c0 < N0) (hk : (K0 c0).1 = ci + 4) (hw : Cond.methodLink M.1.cls index K.1 ∈ lw_tbl) (hn : As.length = np) (hst : st0 = As.reverse ++ .ref (b + c0) :: stk) (hroom : (stk.map fun v => v.category).sum ≤ 8) (hd : decode M.2.1 pc = .ok (.invokevirtual index, 3)) (hh : h' < h)
    (sp : SI l D b K h' γ (.ref (b + c0) :: As) σ τ F) (kk : ∀ x σ' τ', F x σ' τ' → zA l D b M h 0 kc ks Z (pc + 3) lv (.int x :: stk) 0 0 N0 K0 γ σ' τ') : zA l D b M h 0 kc ks Z pc lv st0 0 0 N0 K0 γ σ τ := by
  obtain ⟨C, T, nf, hok1, hC, hin, hse, hci⟩ := hok
  refine r_callV (mc' := 0) (ms' := 0) As hok1 hC hin hse hci hN hk hw hn hst hroom hd hh (Nat.zero_le _) (Nat.zero_le _) (zS.mono sp ?_)
  rintro r N kd γ' σ' τ' ⟨rfl, rfl, rfl, x, rfl, hF⟩
  exact kk x σ' τ' hF
theorem rc_VV (As : List Value) (hok : okV K np ci) (hN : c0 < N0) (hk : (K0 c0).1 = ci + 4) (hw : Cond.methodLink M.1.cls index K.1 ∈ lw_tbl) (hn : As.length = np) (hst : st0 = As.reverse ++ .ref (b + c0) :: stk) (hroom : (stk.map fun v => v.category).sum ≤ 8) (hd : decode M.2.1 pc = .ok (.invokevirtual index, 3)) (hh : h' < h)
    (sp : SV l D b K h' γ (.ref (b + c0) :: As) σ τ G) (kk : ∀ σ' τ', G σ' τ' → zA l D b M h 0 kc ks Z (pc + 3) lv stk 0 0 N0 K0 γ σ' τ') : zA l D b M h 0 kc ks Z pc lv st0 0 0 N0 K0 γ σ τ := by
  obtain ⟨C, T, nf, hok1, hC, hin, hse, hci⟩ := hok
  refine r_callV (mc' := 0) (ms' := 0) As hok1 hC hin hse hci hN hk hw hn hst hroom hd hh (Nat.zero_le _) (Nat.zero_le _) (zS.mono sp ?_)
  rintro r N kd γ' σ' τ' ⟨rfl, rfl, rfl, rfl, hF⟩
  exact kk σ' τ' hF
theorem rc_SI (As : List Value) (hok : okS K np) (hw : Cond.methodLink M.1.cls index K.1 ∈ lw_tbl) (hn : As.length = np) (hst : st0 = As.reverse ++ stk) (hroom : (stk.map fun v => v.category).sum ≤ 8) (hd : decode M.2.1 pc = .ok (.invokestatic index, 3)) (hh : h' < h)
    (sp : SI l D b K h' γ As σ τ F) (kk : ∀ x σ' τ', F x σ' τ' → zA l D b M h 0 kc ks Z (pc + 3) lv (.int x :: stk) 0 0 N0 K0 γ σ' τ') : zA l D b M h 0 kc ks Z pc lv st0 0 0 N0 K0 γ σ τ := by
  refine r_callS (mc' := 0) (ms' := 0) As hok.1 hok.2 hw hn hst hroom hd hh (Nat.zero_le _) (Nat.zero_le _) (zS.mono sp ?_)
  rintro r N kd γ' σ' τ' ⟨rfl, rfl, rfl, x, rfl, hF⟩
  exact kk x σ' τ' hF
theorem r_nmI {fz k n N : Nat} {kd : zKd} {x : Int32} (a : ∀ y : Int32, y = x → zA l D b M h fz kc ks Z pc lv (.int y :: stk) k n N kd γ σ τ) : zA l D b M h fz kc ks Z pc lv (.int x :: stk) k n N kd γ σ τ := a x rfl
theorem r_nmL {fz k n N : Nat} {kd : zKd} {x : Int64} (a : ∀ y : Int64, y = x → zA l D b M h fz kc ks Z pc lv (.long y :: stk) k n N kd γ σ τ) : zA l D b M h fz kc ks Z pc lv (.long x :: stk) k n N kd γ σ τ := a x rfl
theorem r_nmS {fz k n N : Nat} {kd : zKd} (a : ∀ σ' : zSg, σ' = σ → zA l D b M h fz kc ks Z pc lv stk k n N kd γ σ' τ) : zA l D b M h fz kc ks Z pc lv stk k n N kd γ σ τ := a σ rfl
theorem r_inc {fz k n N : Nat} {kd : zKd} (q : Nat) {i : Nat} {z : Int} {x w : Int32} (hd : decode M.2.1 pc = .ok (.iinc i z, 3)) (hq : lv[q]? = some (i, .int x)) (hz : Int32.ofInt z = w) (hn : i < M.2.2.1) (hl0 : (i, Value.int (x + w)) :: lv.filter (fun q => !(q.1 == i) && !(q.1 + 1 == i && q.2.category == 2)) = lv') (a : zA l D b M h fz kc ks Z (pc + 3) lv' stk k n N kd γ σ τ) : zA l D b M h fz kc ks Z pc lv stk k n N kd γ σ τ := r_iinc q hd hq (by rw [hz]) hn hl0 a
end RUN
theorem sw_fin {hi : Nat} {x : Int32} (h : ¬ (x.toInt < 0 ∨ (hi : Int) < x.toInt)) : ∃ j : Nat, j ≤ hi ∧ x = nI j := by
  refine ⟨x.toInt.toNat, by omega, ?_⟩
  apply Int32.toInt_inj.mp
  have h1 : x.toInt.toNat < 2 ^ 31 := by
    have := x.toInt_lt
    omega
  rw [nI_toInt h1]
  omega
theorem sw_2 {x : Int32} (h : ¬ (x.toInt < 0 ∨ (2 : Int) < x.toInt)) : x = 0 ∨ x = 1 ∨ x = 2 := by
  obtain ⟨j, hj, rfl⟩ := sw_fin (hi := 2) h
  exact (by decide : ∀ j : Fin 3, nI j.1 = 0 ∨ nI j.1 = 1 ∨ nI j.1 = 2) ⟨j, by omega⟩
theorem sw_8 {x : Int32} (h : ¬ (x.toInt < 0 ∨ (8 : Int) < x.toInt)) : x = 0 ∨ x = 1 ∨ x = 2 ∨ x = 3 ∨ x = 4 ∨ x = 5 ∨ x = 6 ∨ x = 7 ∨ x = 8 := by
  obtain ⟨j, hj, rfl⟩ := sw_fin (hi := 8) h
  exact (by decide : ∀ j : Fin 9, nI j.1 = 0 ∨ nI j.1 = 1 ∨ nI j.1 = 2 ∨ nI j.1 = 3 ∨ nI j.1 = 4 ∨ nI j.1 = 5 ∨ nI j.1 = 6 ∨ nI j.1 = 7 ∨ nI j.1 = 8) ⟨j, by omega⟩
theorem sw_18 {x : Int32} (h : ¬ (x.toInt < 0 ∨ (18 : Int) < x.toInt)) : x = 0 ∨ x = 1 ∨ x = 2 ∨ x = 3 ∨ x = 4 ∨ x = 5 ∨ x = 6 ∨ x = 7 ∨ x = 8 ∨ x = 9 ∨ x = 10 ∨ x = 11 ∨ x = 12 ∨ x = 13 ∨ x = 14 ∨ x = 15 ∨ x = 16 ∨ x = 17 ∨ x = 18 := by
  obtain ⟨j, hj, rfl⟩ := sw_fin (hi := 18) h
  exact (by decide : ∀ j : Fin 19, nI j.1 = 0 ∨ nI j.1 = 1 ∨ nI j.1 = 2 ∨ nI j.1 = 3 ∨ nI j.1 = 4 ∨ nI j.1 = 5 ∨ nI j.1 = 6 ∨ nI j.1 = 7 ∨ nI j.1 = 8 ∨ nI j.1 = 9 ∨ nI j.1 = 10 ∨ nI j.1 = 11 ∨ nI j.1 = 12 ∨ nI j.1 = 13 ∨ nI j.1 = 14 ∨ nI j.1 = 15 ∨ nI j.1 = 16 ∨ nI j.1 = 17 ∨ nI j.1 = 18) ⟨j, by omega⟩
theorem sw_27 {x : Int32} (h : ¬ (x.toInt < 0 ∨ (27 : Int) < x.toInt)) : x = 0 ∨ x = 1 ∨ x = 2 ∨ x = 3 ∨ x = 4 ∨ x = 5 ∨ x = 6 ∨ x = 7 ∨ x = 8 ∨ x = 9 ∨ x = 10 ∨ x = 11 ∨ x = 12 ∨ x = 13 ∨ x = 14 ∨ x = 15 ∨ x = 16 ∨ x = 17 ∨ x = 18 ∨ x = 19 ∨ x = 20 ∨ x = 21 ∨ x = 22 ∨ x = 23 ∨ x = 24 ∨ x = 25 ∨ x = 26 ∨ x = 27 := by
  obtain ⟨j, hj, rfl⟩ := sw_fin (hi := 27) h
  exact (by decide : ∀ j : Fin 28, nI j.1 = 0 ∨ nI j.1 = 1 ∨ nI j.1 = 2 ∨ nI j.1 = 3 ∨ nI j.1 = 4 ∨ nI j.1 = 5 ∨ nI j.1 = 6 ∨ nI j.1 = 7 ∨ nI j.1 = 8 ∨ nI j.1 = 9 ∨ nI j.1 = 10 ∨ nI j.1 = 11 ∨ nI j.1 = 12 ∨ nI j.1 = 13 ∨ nI j.1 = 14 ∨ nI j.1 = 15 ∨ nI j.1 = 16 ∨ nI j.1 = 17 ∨ nI j.1 = 18 ∨ nI j.1 = 19 ∨ nI j.1 = 20 ∨ nI j.1 = 21 ∨ nI j.1 = 22 ∨ nI j.1 = 23 ∨ nI j.1 = 24 ∨ nI j.1 = 25 ∨ nI j.1 = 26 ∨ nI j.1 = 27) ⟨j, by omega⟩
end
