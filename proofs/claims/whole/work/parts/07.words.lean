/-! WORDS: methods, what the tables say of them, constants. -/
theorem tb_in {w : Cond} (h : w ∈ tables_1) : w ∈ lw_tbl := List.mem_append_right _ h
theorem tw_19 : (Jvm.Cond.methodLink "SuetTroublesLaw" (9 : Nat) ({ cls := "SuetTroubles", name := "<init>", desc := "()V" } : Jvm.MethodName)) ∈ lw_tbl := tb_in (List.mem_of_getElem? (i := 19) (by decide +kernel))
theorem tw_31 : (Jvm.Cond.fieldLink "SuetTroubles$Reader" (9 : Nat) "SuetTroubles$Reader" "letters" "[I") ∈ lw_tbl := tb_in (List.mem_of_getElem? (i := 31) (by decide +kernel))
theorem tw_32 : (Jvm.Cond.fieldLink "SuetTroubles$Reader" (15 : Nat) "SuetTroubles$Reader" "length" "I") ∈ lw_tbl := tb_in (List.mem_of_getElem? (i := 32) (by decide +kernel))
theorem tw_33 : (Jvm.Cond.fieldLink "SuetTroubles" (82 : Nat) "SuetTroubles$Reader" "length" "I") ∈ lw_tbl := tb_in (List.mem_of_getElem? (i := 33) (by decide +kernel))
theorem tw_34 : (Jvm.Cond.fieldLink "SuetTroubles$Reader" (25 : Nat) "SuetTroubles$Reader" "faultAt" "I") ∈ lw_tbl := tb_in (List.mem_of_getElem? (i := 34) (by decide +kernel))
theorem tw_35 : (Jvm.Cond.fieldLink "SuetTroubles" (94 : Nat) "SuetTroubles$Reader" "faultAt" "I") ∈ lw_tbl := tb_in (List.mem_of_getElem? (i := 35) (by decide +kernel))
theorem tw_36 : (Jvm.Cond.fieldLink "SuetTroubles$Reader" (19 : Nat) "SuetTroubles$Reader" "at" "I") ∈ lw_tbl := tb_in (List.mem_of_getElem? (i := 36) (by decide +kernel))
theorem tw_37 : (Jvm.Cond.fieldLink "SuetTroubles$Reader" (22 : Nat) "SuetTroubles$Reader" "fault" "I") ∈ lw_tbl := tb_in (List.mem_of_getElem? (i := 37) (by decide +kernel))
theorem tw_56 : (Jvm.Cond.fieldLink "SuetTroubles$Plan" (24 : Nat) "SuetTroubles$Plan" "fire" "I") ∈ lw_tbl := tb_in (List.mem_of_getElem? (i := 56) (by decide +kernel))
theorem tw_57 : (Jvm.Cond.fieldLink "SuetTroubles$Reader" (69 : Nat) "SuetTroubles$Plan" "fire" "I") ∈ lw_tbl := tb_in (List.mem_of_getElem? (i := 57) (by decide +kernel))
theorem tw_58 : (Jvm.Cond.fieldLink "SuetTroubles" (114 : Nat) "SuetTroubles$Plan" "fire" "I") ∈ lw_tbl := tb_in (List.mem_of_getElem? (i := 58) (by decide +kernel))
theorem tw_59 : (Jvm.Cond.fieldLink "SuetTroubles$Deeds" (112 : Nat) "SuetTroubles$Plan" "fire" "I") ∈ lw_tbl := tb_in (List.mem_of_getElem? (i := 59) (by decide +kernel))
theorem tw_60 : (Jvm.Cond.fieldLink "SuetTroubles$Reader" (72 : Nat) "SuetTroubles$Plan" "pots" "I") ∈ lw_tbl := tb_in (List.mem_of_getElem? (i := 60) (by decide +kernel))
theorem tw_61 : (Jvm.Cond.fieldLink "SuetTroubles" (117 : Nat) "SuetTroubles$Plan" "pots" "I") ∈ lw_tbl := tb_in (List.mem_of_getElem? (i := 61) (by decide +kernel))
theorem tw_62 : (Jvm.Cond.fieldLink "SuetTroubles$Plan" (34 : Nat) "SuetTroubles$Plan" "pots" "I") ∈ lw_tbl := tb_in (List.mem_of_getElem? (i := 62) (by decide +kernel))
theorem tw_63 : (Jvm.Cond.fieldLink "SuetTroubles$Deeds" (70 : Nat) "SuetTroubles$Plan" "pots" "I") ∈ lw_tbl := tb_in (List.mem_of_getElem? (i := 63) (by decide +kernel))
theorem tw_64 : (Jvm.Cond.fieldLink "SuetTroubles$Deeds" (39 : Nat) "SuetTroubles$Plan" "troubles" "I") ∈ lw_tbl := tb_in (List.mem_of_getElem? (i := 64) (by decide +kernel))
theorem tw_65 : (Jvm.Cond.fieldLink "SuetTroubles$Plan" (28 : Nat) "SuetTroubles$Plan" "troubles" "I") ∈ lw_tbl := tb_in (List.mem_of_getElem? (i := 65) (by decide +kernel))
theorem tw_66 : (Jvm.Cond.fieldLink "SuetTroubles" (111 : Nat) "SuetTroubles$Plan" "troubles" "I") ∈ lw_tbl := tb_in (List.mem_of_getElem? (i := 66) (by decide +kernel))
theorem tw_67 : (Jvm.Cond.fieldLink "SuetTroubles$Reader" (75 : Nat) "SuetTroubles$Plan" "troubles" "I") ∈ lw_tbl := tb_in (List.mem_of_getElem? (i := 67) (by decide +kernel))
theorem tw_68 : (Jvm.Cond.fieldLink "SuetTroubles$Cloth" (41 : Nat) "SuetTroubles$Plan" "troubles" "I") ∈ lw_tbl := tb_in (List.mem_of_getElem? (i := 68) (by decide +kernel))
theorem tw_69 : (Jvm.Cond.fieldLink "SuetTroubles$Plan" (31 : Nat) "SuetTroubles$Plan" "eaters" "I") ∈ lw_tbl := tb_in (List.mem_of_getElem? (i := 69) (by decide +kernel))
theorem tw_70 : (Jvm.Cond.fieldLink "SuetTroubles" (120 : Nat) "SuetTroubles$Plan" "eaters" "I") ∈ lw_tbl := tb_in (List.mem_of_getElem? (i := 70) (by decide +kernel))
theorem tw_71 : (Jvm.Cond.fieldLink "SuetTroubles$Reader" (82 : Nat) "SuetTroubles$Plan" "eaters" "I") ∈ lw_tbl := tb_in (List.mem_of_getElem? (i := 71) (by decide +kernel))
theorem tw_72 : (Jvm.Cond.fieldLink "SuetTroubles$Deeds" (87 : Nat) "SuetTroubles$Plan" "eaters" "I") ∈ lw_tbl := tb_in (List.mem_of_getElem? (i := 72) (by decide +kernel))
theorem tw_73 : (Jvm.Cond.fieldLink "SuetTroubles$Plan" (9 : Nat) "SuetTroubles$Plan" "kind" "[I") ∈ lw_tbl := tb_in (List.mem_of_getElem? (i := 73) (by decide +kernel))
theorem tw_74 : (Jvm.Cond.fieldLink "SuetTroubles" (169 : Nat) "SuetTroubles$Plan" "kind" "[I") ∈ lw_tbl := tb_in (List.mem_of_getElem? (i := 74) (by decide +kernel))
theorem tw_75 : (Jvm.Cond.fieldLink "SuetTroubles$Deeds" (109 : Nat) "SuetTroubles$Plan" "kind" "[I") ∈ lw_tbl := tb_in (List.mem_of_getElem? (i := 75) (by decide +kernel))
theorem tw_76 : (Jvm.Cond.fieldLink "SuetTroubles$Plan" (15 : Nat) "SuetTroubles$Plan" "hard" "[I") ∈ lw_tbl := tb_in (List.mem_of_getElem? (i := 76) (by decide +kernel))
theorem tw_77 : (Jvm.Cond.fieldLink "SuetTroubles$Scene" (31 : Nat) "SuetTroubles$Plan" "hard" "[I") ∈ lw_tbl := tb_in (List.mem_of_getElem? (i := 77) (by decide +kernel))
theorem tw_78 : (Jvm.Cond.fieldLink "SuetTroubles$Plan" (18 : Nat) "SuetTroubles$Plan" "shape" "[I") ∈ lw_tbl := tb_in (List.mem_of_getElem? (i := 78) (by decide +kernel))
theorem tw_79 : (Jvm.Cond.fieldLink "SuetTroubles$Scene" (40 : Nat) "SuetTroubles$Plan" "shape" "[I") ∈ lw_tbl := tb_in (List.mem_of_getElem? (i := 79) (by decide +kernel))
theorem tw_80 : (Jvm.Cond.fieldLink "SuetTroubles$Plan" (21 : Nat) "SuetTroubles$Plan" "strength" "[I") ∈ lw_tbl := tb_in (List.mem_of_getElem? (i := 80) (by decide +kernel))
theorem tw_81 : (Jvm.Cond.fieldLink "SuetTroubles" (198 : Nat) "SuetTroubles$Plan" "strength" "[I") ∈ lw_tbl := tb_in (List.mem_of_getElem? (i := 81) (by decide +kernel))
theorem tw_82 : (Jvm.Cond.fieldLink "SuetTroubles$Deeds" (81 : Nat) "SuetTroubles$Plan" "strength" "[I") ∈ lw_tbl := tb_in (List.mem_of_getElem? (i := 82) (by decide +kernel))
theorem tw_114 : (Jvm.Cond.fieldLink "SuetTroubles$Scene" (24 : Nat) "SuetTroubles$Scene" "hours" "I") ∈ lw_tbl := tb_in (List.mem_of_getElem? (i := 114) (by decide +kernel))
theorem tw_115 : (Jvm.Cond.fieldLink "SuetTroubles" (123 : Nat) "SuetTroubles$Scene" "hours" "I") ∈ lw_tbl := tb_in (List.mem_of_getElem? (i := 115) (by decide +kernel))
theorem tw_116 : (Jvm.Cond.fieldLink "SuetTroubles$Deeds" (115 : Nat) "SuetTroubles$Scene" "hours" "I") ∈ lw_tbl := tb_in (List.mem_of_getElem? (i := 116) (by decide +kernel))
theorem tw_117 : (Jvm.Cond.fieldLink "SuetTroubles$Scene" (28 : Nat) "SuetTroubles$Scene" "sheets" "I") ∈ lw_tbl := tb_in (List.mem_of_getElem? (i := 117) (by decide +kernel))
theorem tw_118 : (Jvm.Cond.fieldLink "SuetTroubles" (133 : Nat) "SuetTroubles$Scene" "sheets" "I") ∈ lw_tbl := tb_in (List.mem_of_getElem? (i := 118) (by decide +kernel))
theorem tw_119 : (Jvm.Cond.fieldLink "SuetTroubles$Deeds" (61 : Nat) "SuetTroubles$Scene" "sheets" "I") ∈ lw_tbl := tb_in (List.mem_of_getElem? (i := 119) (by decide +kernel))
theorem tw_120 : (Jvm.Cond.fieldLink "SuetTroubles$Scene" (9 : Nat) "SuetTroubles$Scene" "stage" "[I") ∈ lw_tbl := tb_in (List.mem_of_getElem? (i := 120) (by decide +kernel))
theorem tw_121 : (Jvm.Cond.fieldLink "SuetTroubles$Deeds" (43 : Nat) "SuetTroubles$Scene" "stage" "[I") ∈ lw_tbl := tb_in (List.mem_of_getElem? (i := 121) (by decide +kernel))
theorem tw_122 : (Jvm.Cond.fieldLink "SuetTroubles" (175 : Nat) "SuetTroubles$Scene" "stage" "[I") ∈ lw_tbl := tb_in (List.mem_of_getElem? (i := 122) (by decide +kernel))
theorem tw_123 : (Jvm.Cond.fieldLink "SuetTroubles$Scene" (15 : Nat) "SuetTroubles$Scene" "hard" "[I") ∈ lw_tbl := tb_in (List.mem_of_getElem? (i := 123) (by decide +kernel))
theorem tw_124 : (Jvm.Cond.fieldLink "SuetTroubles$Deeds" (47 : Nat) "SuetTroubles$Scene" "hard" "[I") ∈ lw_tbl := tb_in (List.mem_of_getElem? (i := 124) (by decide +kernel))
theorem tw_125 : (Jvm.Cond.fieldLink "SuetTroubles$Book" (22 : Nat) "SuetTroubles$Scene" "hard" "[I") ∈ lw_tbl := tb_in (List.mem_of_getElem? (i := 125) (by decide +kernel))
theorem tw_126 : (Jvm.Cond.fieldLink "SuetTroubles" (172 : Nat) "SuetTroubles$Scene" "hard" "[I") ∈ lw_tbl := tb_in (List.mem_of_getElem? (i := 126) (by decide +kernel))
theorem tw_127 : (Jvm.Cond.fieldLink "SuetTroubles$Scene" (18 : Nat) "SuetTroubles$Scene" "shape" "[I") ∈ lw_tbl := tb_in (List.mem_of_getElem? (i := 127) (by decide +kernel))
theorem tw_128 : (Jvm.Cond.fieldLink "SuetTroubles$Deeds" (54 : Nat) "SuetTroubles$Scene" "shape" "[I") ∈ lw_tbl := tb_in (List.mem_of_getElem? (i := 128) (by decide +kernel))
theorem tw_129 : (Jvm.Cond.fieldLink "SuetTroubles" (165 : Nat) "SuetTroubles$Scene" "shape" "[I") ∈ lw_tbl := tb_in (List.mem_of_getElem? (i := 129) (by decide +kernel))
theorem tw_130 : (Jvm.Cond.fieldLink "SuetTroubles$Cloth" (46 : Nat) "SuetTroubles$Scene" "shape" "[I") ∈ lw_tbl := tb_in (List.mem_of_getElem? (i := 130) (by decide +kernel))
theorem tw_131 : (Jvm.Cond.fieldLink "SuetTroubles$Scene" (21 : Nat) "SuetTroubles$Scene" "load" "[I") ∈ lw_tbl := tb_in (List.mem_of_getElem? (i := 131) (by decide +kernel))
theorem tw_132 : (Jvm.Cond.fieldLink "SuetTroubles" (201 : Nat) "SuetTroubles$Scene" "load" "[I") ∈ lw_tbl := tb_in (List.mem_of_getElem? (i := 132) (by decide +kernel))
theorem tw_133 : (Jvm.Cond.fieldLink "SuetTroubles$Deeds" (84 : Nat) "SuetTroubles$Scene" "load" "[I") ∈ lw_tbl := tb_in (List.mem_of_getElem? (i := 133) (by decide +kernel))
theorem tw_153 : (Jvm.Cond.fieldLink "SuetTroubles$Sheets" (11 : Nat) "SuetTroubles$Sheets" "cost" "[I") ∈ lw_tbl := tb_in (List.mem_of_getElem? (i := 153) (by decide +kernel))
theorem tw_154 : (Jvm.Cond.fieldLink "SuetTroubles$Sheets" (15 : Nat) "SuetTroubles$Sheets" "nextCost" "[I") ∈ lw_tbl := tb_in (List.mem_of_getElem? (i := 154) (by decide +kernel))
theorem tw_166 : (Jvm.Cond.fieldLink "SuetTroubles$Draws" (7 : Nat) "SuetTroubles$Draws" "value" "I") ∈ lw_tbl := tb_in (List.mem_of_getElem? (i := 166) (by decide +kernel))
theorem tw_167 : (Jvm.Cond.fieldLink "SuetTroubles$Past" (40 : Nat) "SuetTroubles$Draws" "value" "I") ∈ lw_tbl := tb_in (List.mem_of_getElem? (i := 167) (by decide +kernel))
theorem tw_168 : (Jvm.Cond.fieldLink "SuetTroubles" (303 : Nat) "SuetTroubles$Draws" "value" "I") ∈ lw_tbl := tb_in (List.mem_of_getElem? (i := 168) (by decide +kernel))
theorem tw_172 : (Jvm.Cond.fieldLink "SuetTroubles$Deeds" (12 : Nat) "SuetTroubles$Deeds" "plan" "LSuetTroubles$Plan;") ∈ lw_tbl := tb_in (List.mem_of_getElem? (i := 172) (by decide +kernel))
theorem tw_173 : (Jvm.Cond.fieldLink "SuetTroubles" (30 : Nat) "SuetTroubles$Deeds" "plan" "LSuetTroubles$Plan;") ∈ lw_tbl := tb_in (List.mem_of_getElem? (i := 173) (by decide +kernel))
theorem tw_174 : (Jvm.Cond.fieldLink "SuetTroubles$Deeds" (21 : Nat) "SuetTroubles$Deeds" "scene" "LSuetTroubles$Scene;") ∈ lw_tbl := tb_in (List.mem_of_getElem? (i := 174) (by decide +kernel))
theorem tw_175 : (Jvm.Cond.fieldLink "SuetTroubles" (34 : Nat) "SuetTroubles$Deeds" "scene" "LSuetTroubles$Scene;") ∈ lw_tbl := tb_in (List.mem_of_getElem? (i := 175) (by decide +kernel))
theorem tw_176 : (Jvm.Cond.fieldLink "SuetTroubles$Deeds" (28 : Nat) "SuetTroubles$Deeds" "sheets" "LSuetTroubles$Sheets;") ∈ lw_tbl := tb_in (List.mem_of_getElem? (i := 176) (by decide +kernel))
theorem tw_177 : (Jvm.Cond.fieldLink "SuetTroubles" (39 : Nat) "SuetTroubles$Deeds" "sheets" "LSuetTroubles$Sheets;") ∈ lw_tbl := tb_in (List.mem_of_getElem? (i := 177) (by decide +kernel))
theorem tw_178 : (Jvm.Cond.fieldLink "SuetTroubles$Deeds" (35 : Nat) "SuetTroubles$Deeds" "draws" "LSuetTroubles$Draws;") ∈ lw_tbl := tb_in (List.mem_of_getElem? (i := 178) (by decide +kernel))
theorem tw_179 : (Jvm.Cond.fieldLink "SuetTroubles" (44 : Nat) "SuetTroubles$Deeds" "draws" "LSuetTroubles$Draws;") ∈ lw_tbl := tb_in (List.mem_of_getElem? (i := 179) (by decide +kernel))
theorem tw_191 : (Jvm.Cond.methodLink "SuetTroubles" (51 : Nat) ({ cls := "SuetTroubles$Past", name := "<init>", desc := "()V" } : Jvm.MethodName)) ∈ lw_tbl := tb_in (List.mem_of_getElem? (i := 191) (by decide +kernel))
theorem tw_198 : (Jvm.Cond.fieldLink "SuetTroubles$Past" (11 : Nat) "SuetTroubles$Past" "undone" "[LSuetTroubles$Scene;") ∈ lw_tbl := tb_in (List.mem_of_getElem? (i := 198) (by decide +kernel))
theorem tw_199 : (Jvm.Cond.fieldLink "SuetTroubles$Past" (17 : Nat) "SuetTroubles$Past" "image" "[LSuetTroubles$Scene;") ∈ lw_tbl := tb_in (List.mem_of_getElem? (i := 199) (by decide +kernel))
theorem tw_200 : (Jvm.Cond.fieldLink "SuetTroubles$Past" (20 : Nat) "SuetTroubles$Past" "imageSeed" "[I") ∈ lw_tbl := tb_in (List.mem_of_getElem? (i := 200) (by decide +kernel))
theorem tw_201 : (Jvm.Cond.fieldLink "SuetTroubles$Past" (24 : Nat) "SuetTroubles$Past" "kept" "[Z") ∈ lw_tbl := tb_in (List.mem_of_getElem? (i := 201) (by decide +kernel))
theorem tw_202 : (Jvm.Cond.fieldLink "SuetTroubles" (312 : Nat) "SuetTroubles$Past" "kept" "[Z") ∈ lw_tbl := tb_in (List.mem_of_getElem? (i := 202) (by decide +kernel))
theorem tw_203 : (Jvm.Cond.fieldLink "SuetTroubles$Past" (29 : Nat) "SuetTroubles$Past" "oldest" "I") ∈ lw_tbl := tb_in (List.mem_of_getElem? (i := 203) (by decide +kernel))
theorem tw_204 : (Jvm.Cond.fieldLink "SuetTroubles$Past" (33 : Nat) "SuetTroubles$Past" "size" "I") ∈ lw_tbl := tb_in (List.mem_of_getElem? (i := 204) (by decide +kernel))
theorem tw_205 : (Jvm.Cond.fieldLink "SuetTroubles" (157 : Nat) "SuetTroubles$Past" "size" "I") ∈ lw_tbl := tb_in (List.mem_of_getElem? (i := 205) (by decide +kernel))
theorem tw_226 : (Jvm.Cond.fieldLink "SuetTroubles$Orders" (9 : Nat) "SuetTroubles$Orders" "time" "[I") ∈ lw_tbl := tb_in (List.mem_of_getElem? (i := 226) (by decide +kernel))
theorem tw_227 : (Jvm.Cond.fieldLink "SuetTroubles$Orders" (15 : Nat) "SuetTroubles$Orders" "sum" "I") ∈ lw_tbl := tb_in (List.mem_of_getElem? (i := 227) (by decide +kernel))
theorem tw_228 : (Jvm.Cond.fieldLink "SuetTroubles" (278 : Nat) "SuetTroubles$Orders" "sum" "I") ∈ lw_tbl := tb_in (List.mem_of_getElem? (i := 228) (by decide +kernel))
theorem tw_229 : (Jvm.Cond.fieldLink "SuetTroubles$Orders" (19 : Nat) "SuetTroubles$Orders" "figures" "I") ∈ lw_tbl := tb_in (List.mem_of_getElem? (i := 229) (by decide +kernel))
theorem tw_230 : (Jvm.Cond.fieldLink "SuetTroubles" (281 : Nat) "SuetTroubles$Orders" "figures" "I") ∈ lw_tbl := tb_in (List.mem_of_getElem? (i := 230) (by decide +kernel))
theorem tw_231 : (Jvm.Cond.fieldLink "SuetTroubles$Orders" (22 : Nat) "SuetTroubles$Orders" "startHour" "I") ∈ lw_tbl := tb_in (List.mem_of_getElem? (i := 231) (by decide +kernel))
theorem tw_247 : (Jvm.Cond.fieldLink "SuetTroubles$Cloth" (22 : Nat) "SuetTroubles$Cloth" "bumps" "I") ∈ lw_tbl := tb_in (List.mem_of_getElem? (i := 247) (by decide +kernel))
theorem tw_248 : (Jvm.Cond.fieldLink "SuetTroubles" (141 : Nat) "SuetTroubles$Cloth" "bumps" "I") ∈ lw_tbl := tb_in (List.mem_of_getElem? (i := 248) (by decide +kernel))
theorem tw_249 : (Jvm.Cond.fieldLink "SuetTroubles$Cloth" (15 : Nat) "SuetTroubles$Cloth" "full" "I") ∈ lw_tbl := tb_in (List.mem_of_getElem? (i := 249) (by decide +kernel))
theorem tw_250 : (Jvm.Cond.fieldLink "SuetTroubles$Cloth" (19 : Nat) "SuetTroubles$Cloth" "notFull" "I") ∈ lw_tbl := tb_in (List.mem_of_getElem? (i := 250) (by decide +kernel))
theorem tw_251 : (Jvm.Cond.fieldLink "SuetTroubles$Cloth" (29 : Nat) "SuetTroubles$Cloth" "withinSet" "I") ∈ lw_tbl := tb_in (List.mem_of_getElem? (i := 251) (by decide +kernel))
theorem tw_252 : (Jvm.Cond.fieldLink "SuetTroubles$Cloth" (32 : Nat) "SuetTroubles$Cloth" "pairCount" "I") ∈ lw_tbl := tb_in (List.mem_of_getElem? (i := 252) (by decide +kernel))
theorem tw_253 : (Jvm.Cond.fieldLink "SuetTroubles$Cloth" (9 : Nat) "SuetTroubles$Cloth" "fullPairs" "[I") ∈ lw_tbl := tb_in (List.mem_of_getElem? (i := 253) (by decide +kernel))
theorem tw_273 : (Jvm.Cond.fieldLink "SuetTroubles$Book" (18 : Nat) "SuetTroubles$Book" "entries" "I") ∈ lw_tbl := tb_in (List.mem_of_getElem? (i := 273) (by decide +kernel))
theorem tw_274 : (Jvm.Cond.fieldLink "SuetTroubles" (154 : Nat) "SuetTroubles$Book" "entries" "I") ∈ lw_tbl := tb_in (List.mem_of_getElem? (i := 274) (by decide +kernel))
theorem tw_275 : (Jvm.Cond.fieldLink "SuetTroubles$Book" (9 : Nat) "SuetTroubles$Book" "who" "[I") ∈ lw_tbl := tb_in (List.mem_of_getElem? (i := 275) (by decide +kernel))
theorem tw_276 : (Jvm.Cond.fieldLink "SuetTroubles$Book" (15 : Nat) "SuetTroubles$Book" "said" "[I") ∈ lw_tbl := tb_in (List.mem_of_getElem? (i := 276) (by decide +kernel))
theorem tw_284 : (Jvm.Cond.fieldLink "SuetTroubles" (10 : Nat) "SuetTroubles" "reader" "LSuetTroubles$Reader;") ∈ lw_tbl := tb_in (List.mem_of_getElem? (i := 284) (by decide +kernel))
theorem tw_285 : (Jvm.Cond.fieldLink "SuetTroubles" (19 : Nat) "SuetTroubles" "draft" "LSuetTroubles$Plan;") ∈ lw_tbl := tb_in (List.mem_of_getElem? (i := 285) (by decide +kernel))
theorem tw_286 : (Jvm.Cond.fieldLink "SuetTroubles" (26 : Nat) "SuetTroubles" "deeds" "LSuetTroubles$Deeds;") ∈ lw_tbl := tb_in (List.mem_of_getElem? (i := 286) (by decide +kernel))
theorem tw_287 : (Jvm.Cond.fieldLink "SuetTroubles" (33 : Nat) "SuetTroubles" "plan" "LSuetTroubles$Plan;") ∈ lw_tbl := tb_in (List.mem_of_getElem? (i := 287) (by decide +kernel))
theorem tw_288 : (Jvm.Cond.fieldLink "SuetTroubles" (38 : Nat) "SuetTroubles" "scene" "LSuetTroubles$Scene;") ∈ lw_tbl := tb_in (List.mem_of_getElem? (i := 288) (by decide +kernel))
theorem tw_289 : (Jvm.Cond.fieldLink "SuetTroubles" (43 : Nat) "SuetTroubles" "sheets" "LSuetTroubles$Sheets;") ∈ lw_tbl := tb_in (List.mem_of_getElem? (i := 289) (by decide +kernel))
theorem tw_290 : (Jvm.Cond.fieldLink "SuetTroubles" (48 : Nat) "SuetTroubles" "draws" "LSuetTroubles$Draws;") ∈ lw_tbl := tb_in (List.mem_of_getElem? (i := 290) (by decide +kernel))
theorem tw_291 : (Jvm.Cond.fieldLink "SuetTroubles" (52 : Nat) "SuetTroubles" "past" "LSuetTroubles$Past;") ∈ lw_tbl := tb_in (List.mem_of_getElem? (i := 291) (by decide +kernel))
theorem tw_292 : (Jvm.Cond.fieldLink "SuetTroubles" (59 : Nat) "SuetTroubles" "orders" "LSuetTroubles$Orders;") ∈ lw_tbl := tb_in (List.mem_of_getElem? (i := 292) (by decide +kernel))
theorem tw_293 : (Jvm.Cond.fieldLink "SuetTroubles" (66 : Nat) "SuetTroubles" "cloth" "LSuetTroubles$Cloth;") ∈ lw_tbl := tb_in (List.mem_of_getElem? (i := 293) (by decide +kernel))
theorem tw_294 : (Jvm.Cond.fieldLink "SuetTroubles" (73 : Nat) "SuetTroubles" "book" "LSuetTroubles$Book;") ∈ lw_tbl := tb_in (List.mem_of_getElem? (i := 294) (by decide +kernel))
theorem tw_295 : (Jvm.Cond.fieldLink "SuetTroubles" (77 : Nat) "SuetTroubles" "faultAt" "I") ∈ lw_tbl := tb_in (List.mem_of_getElem? (i := 295) (by decide +kernel))
theorem tw_321 : (Jvm.Cond.methodLink "SuetTroublesLaw" (13 : Nat) ({ cls := "SuetTroubles", name := "feed", desc := "(I)I" } : Jvm.MethodName)) ∈ lw_tbl := tb_in (List.mem_of_getElem? (i := 321) (by decide +kernel))
theorem tw_325 : (Jvm.Cond.constant "SuetTroubles" (81 : Nat) (-1000000002 : Int32)) ∈ lw_tbl := tb_in (List.mem_of_getElem? (i := 325) (by decide +kernel))
theorem tw_326 : (Jvm.Cond.constant "SuetTroubles" (85 : Nat) (-1000000004 : Int32)) ∈ lw_tbl := tb_in (List.mem_of_getElem? (i := 326) (by decide +kernel))
theorem tw_327 : (Jvm.Cond.methodLink "SuetTroubles" (86 : Nat) ({ cls := "SuetTroubles$Reader", name := "add", desc := "(I)I" } : Jvm.MethodName)) ∈ lw_tbl := tb_in (List.mem_of_getElem? (i := 327) (by decide +kernel))
theorem tw_331 : (Jvm.Cond.methodLink "SuetTroublesLaw" (18 : Nat) ({ cls := "SuetTroubles", name := "kitchen", desc := "()I" } : Jvm.MethodName)) ∈ lw_tbl := tb_in (List.mem_of_getElem? (i := 331) (by decide +kernel))
theorem tw_335 : (Jvm.Cond.methodLink "SuetTroubles" (90 : Nat) ({ cls := "SuetTroubles$Reader", name := "read", desc := "(LSuetTroubles$Plan;)I" } : Jvm.MethodName)) ∈ lw_tbl := tb_in (List.mem_of_getElem? (i := 335) (by decide +kernel))
theorem tw_339 : (Jvm.Cond.methodLink "SuetTroubles$Reader" (28 : Nat) ({ cls := "SuetTroubles$Plan", name := "clear", desc := "()V" } : Jvm.MethodName)) ∈ lw_tbl := tb_in (List.mem_of_getElem? (i := 339) (by decide +kernel))
theorem tw_343 : (Jvm.Cond.methodLink "SuetTroubles$Reader" (33 : Nat) ({ cls := "SuetTroubles$Reader", name := "skipBlanks", desc := "()V" } : Jvm.MethodName)) ∈ lw_tbl := tb_in (List.mem_of_getElem? (i := 343) (by decide +kernel))
theorem tw_347 : (Jvm.Cond.methodLink "SuetTroubles$Reader" (40 : Nat) ({ cls := "SuetTroubles$Reader", name := "here", desc := "()I" } : Jvm.MethodName)) ∈ lw_tbl := tb_in (List.mem_of_getElem? (i := 347) (by decide +kernel))
theorem tw_351 : (Jvm.Cond.methodLink "SuetTroubles$Reader" (36 : Nat) ({ cls := "SuetTroubles$Reader", name := "readClause", desc := "(LSuetTroubles$Plan;)V" } : Jvm.MethodName)) ∈ lw_tbl := tb_in (List.mem_of_getElem? (i := 351) (by decide +kernel))
theorem tw_355 : (Jvm.Cond.methodLink "SuetTroubles$Reader" (44 : Nat) ({ cls := "SuetTroubles$Reader", name := "readFire", desc := "(LSuetTroubles$Plan;)V" } : Jvm.MethodName)) ∈ lw_tbl := tb_in (List.mem_of_getElem? (i := 355) (by decide +kernel))
theorem tw_359 : (Jvm.Cond.methodLink "SuetTroubles$Reader" (47 : Nat) ({ cls := "SuetTroubles$Plan", name := "isThere", desc := "()Z" } : Jvm.MethodName)) ∈ lw_tbl := tb_in (List.mem_of_getElem? (i := 359) (by decide +kernel))
theorem tw_363 : (Jvm.Cond.methodLink "SuetTroubles$Reader" (57 : Nat) ({ cls := "SuetTroubles$Reader", name := "blame", desc := "(II)V" } : Jvm.MethodName)) ∈ lw_tbl := tb_in (List.mem_of_getElem? (i := 363) (by decide +kernel))
theorem tw_367 : (Jvm.Cond.methodLink "SuetTroubles$Reader" (61 : Nat) ({ cls := "SuetTroubles$Reader", name := "readNumber", desc := "(II)I" } : Jvm.MethodName)) ∈ lw_tbl := tb_in (List.mem_of_getElem? (i := 367) (by decide +kernel))
theorem tw_371 : (Jvm.Cond.methodLink "SuetTroubles$Reader" (88 : Nat) ({ cls := "SuetTroubles$Reader", name := "isFigure", desc := "(I)Z" } : Jvm.MethodName)) ∈ lw_tbl := tb_in (List.mem_of_getElem? (i := 371) (by decide +kernel))
theorem tw_374 : (Jvm.Cond.methodLink "SuetTroubles$Reader" (92 : Nat) ({ cls := "java/lang/Math", name := "min", desc := "(II)I" } : Jvm.MethodName)) ∈ lw_tbl := tb_in (List.mem_of_getElem? (i := 374) (by decide +kernel))
theorem tw_377 : (Jvm.Cond.methodLink "SuetTroubles$Reader" (65 : Nat) ({ cls := "SuetTroubles$Reader", name := "readSign", desc := "(I)V" } : Jvm.MethodName)) ∈ lw_tbl := tb_in (List.mem_of_getElem? (i := 377) (by decide +kernel))
theorem tw_381 : (Jvm.Cond.methodLink "SuetTroubles$Reader" (51 : Nat) ({ cls := "SuetTroubles$Reader", name := "readTrouble", desc := "(LSuetTroubles$Plan;)V" } : Jvm.MethodName)) ∈ lw_tbl := tb_in (List.mem_of_getElem? (i := 381) (by decide +kernel))
theorem tw_385 : (Jvm.Cond.methodLink "SuetTroubles$Reader" (78 : Nat) ({ cls := "SuetTroubles$Plan", name := "addTrouble", desc := "(III)V" } : Jvm.MethodName)) ∈ lw_tbl := tb_in (List.mem_of_getElem? (i := 385) (by decide +kernel))
theorem tw_389 : (Jvm.Cond.methodLink "SuetTroubles$Reader" (54 : Nat) ({ cls := "SuetTroubles$Reader", name := "readEater", desc := "(LSuetTroubles$Plan;)V" } : Jvm.MethodName)) ∈ lw_tbl := tb_in (List.mem_of_getElem? (i := 389) (by decide +kernel))
theorem tw_393 : (Jvm.Cond.methodLink "SuetTroubles$Reader" (85 : Nat) ({ cls := "SuetTroubles$Plan", name := "addEater", desc := "(I)V" } : Jvm.MethodName)) ∈ lw_tbl := tb_in (List.mem_of_getElem? (i := 393) (by decide +kernel))
theorem tw_397 : (Jvm.Cond.methodLink "SuetTroubles" (95 : Nat) ({ cls := "SuetTroubles$Plan", name := "become", desc := "(LSuetTroubles$Plan;)V" } : Jvm.MethodName)) ∈ lw_tbl := tb_in (List.mem_of_getElem? (i := 397) (by decide +kernel))
theorem tw_401 : (Jvm.Cond.methodLink "SuetTroubles$Plan" (37 : Nat) ({ cls := "java/lang/System", name := "arraycopy", desc := "(Ljava/lang/Object;ILjava/lang/Object;II)V" } : Jvm.MethodName)) ∈ lw_tbl := tb_in (List.mem_of_getElem? (i := 401) (by decide +kernel))
theorem tw_404 : (Jvm.Cond.methodLink "SuetTroubles" (99 : Nat) ({ cls := "SuetTroubles$Scene", name := "begin", desc := "(LSuetTroubles$Plan;)V" } : Jvm.MethodName)) ∈ lw_tbl := tb_in (List.mem_of_getElem? (i := 404) (by decide +kernel))
theorem tw_408 : (Jvm.Cond.methodLink "SuetTroubles$Scene" (34 : Nat) ({ cls := "java/lang/System", name := "arraycopy", desc := "(Ljava/lang/Object;ILjava/lang/Object;II)V" } : Jvm.MethodName)) ∈ lw_tbl := tb_in (List.mem_of_getElem? (i := 408) (by decide +kernel))
theorem tw_409 : (Jvm.Cond.methodLink "SuetTroubles" (104 : Nat) ({ cls := "SuetTroubles$Past", name := "forgetAll", desc := "()V" } : Jvm.MethodName)) ∈ lw_tbl := tb_in (List.mem_of_getElem? (i := 409) (by decide +kernel))
theorem tw_413 : (Jvm.Cond.methodLink "SuetTroubles$Past" (45 : Nat) ({ cls := "SuetTroubles$Past", name := "forgetUndone", desc := "()V" } : Jvm.MethodName)) ∈ lw_tbl := tb_in (List.mem_of_getElem? (i := 413) (by decide +kernel))
theorem tw_417 : (Jvm.Cond.methodLink "SuetTroubles" (107 : Nat) ({ cls := "SuetTroubles$Cloth", name := "clear", desc := "()V" } : Jvm.MethodName)) ∈ lw_tbl := tb_in (List.mem_of_getElem? (i := 417) (by decide +kernel))
theorem tw_421 : (Jvm.Cond.methodLink "SuetTroubles" (110 : Nat) ({ cls := "SuetTroubles$Book", name := "clear", desc := "()V" } : Jvm.MethodName)) ∈ lw_tbl := tb_in (List.mem_of_getElem? (i := 421) (by decide +kernel))
theorem tw_425 : (Jvm.Cond.methodLink "SuetTroublesLaw" (23 : Nat) ({ cls := "SuetTroubles", name := "fault", desc := "()I" } : Jvm.MethodName)) ∈ lw_tbl := tb_in (List.mem_of_getElem? (i := 425) (by decide +kernel))
theorem tw_429 : (Jvm.Cond.methodLink "SuetTroublesLaw" (27 : Nat) ({ cls := "SuetTroubles", name := "told", desc := "(I)I" } : Jvm.MethodName)) ∈ lw_tbl := tb_in (List.mem_of_getElem? (i := 429) (by decide +kernel))
theorem tw_433 : (Jvm.Cond.methodLink "SuetTroubles" (126 : Nat) ({ cls := "SuetTroubles$Deeds", name := "allThatAre", desc := "(I)I" } : Jvm.MethodName)) ∈ lw_tbl := tb_in (List.mem_of_getElem? (i := 433) (by decide +kernel))
theorem tw_437 : (Jvm.Cond.methodLink "SuetTroubles" (129 : Nat) ({ cls := "SuetTroubles$Deeds", name := "allGood", desc := "()I" } : Jvm.MethodName)) ∈ lw_tbl := tb_in (List.mem_of_getElem? (i := 437) (by decide +kernel))
theorem tw_441 : (Jvm.Cond.methodLink "SuetTroubles$Deeds" (50 : Nat) ({ cls := "SuetTroubles$Deeds", name := "isGood", desc := "(I)Z" } : Jvm.MethodName)) ∈ lw_tbl := tb_in (List.mem_of_getElem? (i := 441) (by decide +kernel))
theorem tw_445 : (Jvm.Cond.methodLink "SuetTroubles" (135 : Nat) ({ cls := "SuetTroubles$Deeds", name := "leftTogether", desc := "()I" } : Jvm.MethodName)) ∈ lw_tbl := tb_in (List.mem_of_getElem? (i := 445) (by decide +kernel))
theorem tw_449 : (Jvm.Cond.methodLink "SuetTroubles$Deeds" (90 : Nat) ({ cls := "SuetTroubles$Deeds", name := "leftOf", desc := "(I)I" } : Jvm.MethodName)) ∈ lw_tbl := tb_in (List.mem_of_getElem? (i := 449) (by decide +kernel))
theorem tw_453 : (Jvm.Cond.methodLink "SuetTroubles" (138 : Nat) ({ cls := "SuetTroubles$Deeds", name := "strongest", desc := "()I" } : Jvm.MethodName)) ∈ lw_tbl := tb_in (List.mem_of_getElem? (i := 453) (by decide +kernel))
theorem tw_457 : (Jvm.Cond.methodLink "SuetTroubles" (144 : Nat) ({ cls := "SuetTroubles$Cloth", name := "within", desc := "(LSuetTroubles$Plan;LSuetTroubles$Scene;)I" } : Jvm.MethodName)) ∈ lw_tbl := tb_in (List.mem_of_getElem? (i := 457) (by decide +kernel))
theorem tw_461 : (Jvm.Cond.methodLink "SuetTroubles$Cloth" (25 : Nat) ({ cls := "SuetTroubles$Cloth", name := "feelAll", desc := "(LSuetTroubles$Plan;LSuetTroubles$Scene;)V" } : Jvm.MethodName)) ∈ lw_tbl := tb_in (List.mem_of_getElem? (i := 461) (by decide +kernel))
theorem tw_465 : (Jvm.Cond.methodLink "SuetTroubles$Cloth" (51 : Nat) ({ cls := "SuetTroubles$Cloth", name := "feelMoves", desc := "(I)V" } : Jvm.MethodName)) ∈ lw_tbl := tb_in (List.mem_of_getElem? (i := 465) (by decide +kernel))
theorem tw_469 : (Jvm.Cond.methodLink "SuetTroubles$Cloth" (55 : Nat) ({ cls := "SuetTroubles$Shapes", name := "movesDown", desc := "(I)I" } : Jvm.MethodName)) ∈ lw_tbl := tb_in (List.mem_of_getElem? (i := 469) (by decide +kernel))
theorem tw_472 : (Jvm.Cond.methodLink "SuetTroubles$Shapes" (42 : Nat) ({ cls := "SuetTroubles$Shapes", name := "rowsUsed", desc := "(I)I" } : Jvm.MethodName)) ∈ lw_tbl := tb_in (List.mem_of_getElem? (i := 472) (by decide +kernel))
theorem tw_475 : (Jvm.Cond.methodLink "SuetTroubles$Shapes" (39 : Nat) ({ cls := "SuetTroubles$Shapes", name := "rowOf", desc := "(II)I" } : Jvm.MethodName)) ∈ lw_tbl := tb_in (List.mem_of_getElem? (i := 475) (by decide +kernel))
theorem tw_478 : (Jvm.Cond.methodLink "SuetTroubles$Shapes" (48 : Nat) ({ cls := "SuetTroubles$Shapes", name := "lastOf", desc := "(I)I" } : Jvm.MethodName)) ∈ lw_tbl := tb_in (List.mem_of_getElem? (i := 478) (by decide +kernel))
theorem tw_481 : (Jvm.Cond.methodLink "SuetTroubles$Shapes" (32 : Nat) ({ cls := "SuetTroubles$Shapes", name := "has", desc := "(II)Z" } : Jvm.MethodName)) ∈ lw_tbl := tb_in (List.mem_of_getElem? (i := 481) (by decide +kernel))
theorem tw_484 : (Jvm.Cond.methodLink "SuetTroubles$Cloth" (61 : Nat) ({ cls := "SuetTroubles$Shapes", name := "movesRight", desc := "(I)I" } : Jvm.MethodName)) ∈ lw_tbl := tb_in (List.mem_of_getElem? (i := 484) (by decide +kernel))
theorem tw_487 : (Jvm.Cond.methodLink "SuetTroubles$Shapes" (45 : Nat) ({ cls := "SuetTroubles$Shapes", name := "columnsUsed", desc := "(I)I" } : Jvm.MethodName)) ∈ lw_tbl := tb_in (List.mem_of_getElem? (i := 487) (by decide +kernel))
theorem tw_490 : (Jvm.Cond.methodLink "SuetTroubles$Cloth" (64 : Nat) ({ cls := "SuetTroubles$Cloth", name := "countPair", desc := "(I)V" } : Jvm.MethodName)) ∈ lw_tbl := tb_in (List.mem_of_getElem? (i := 490) (by decide +kernel))
theorem tw_494 : (Jvm.Cond.methodLink "SuetTroubles" (148 : Nat) ({ cls := "SuetTroubles$Cloth", name := "pairs", desc := "(LSuetTroubles$Plan;LSuetTroubles$Scene;)I" } : Jvm.MethodName)) ∈ lw_tbl := tb_in (List.mem_of_getElem? (i := 494) (by decide +kernel))
theorem tw_498 : (Jvm.Cond.methodLink "SuetTroubles" (151 : Nat) ({ cls := "SuetTroubles$Cloth", name := "weave", desc := "(LSuetTroubles$Plan;LSuetTroubles$Scene;)I" } : Jvm.MethodName)) ∈ lw_tbl := tb_in (List.mem_of_getElem? (i := 498) (by decide +kernel))
theorem tw_502 : (Jvm.Cond.methodLink "SuetTroubles$Cloth" (35 : Nat) ({ cls := "java/lang/Math", name := "max", desc := "(II)I" } : Jvm.MethodName)) ∈ lw_tbl := tb_in (List.mem_of_getElem? (i := 502) (by decide +kernel))
theorem tw_505 : (Jvm.Cond.methodLink "SuetTroublesLaw" (31 : Nat) ({ cls := "SuetTroubles", name := "trouble", desc := "(II)I" } : Jvm.MethodName)) ∈ lw_tbl := tb_in (List.mem_of_getElem? (i := 505) (by decide +kernel))
theorem tw_509 : (Jvm.Cond.methodLink "SuetTroubles" (160 : Nat) ({ cls := "SuetTroubles$Plan", name := "hasTrouble", desc := "(I)Z" } : Jvm.MethodName)) ∈ lw_tbl := tb_in (List.mem_of_getElem? (i := 509) (by decide +kernel))
theorem tw_513 : (Jvm.Cond.constant "SuetTroubles" (164 : Nat) (-1000000001 : Int32)) ∈ lw_tbl := tb_in (List.mem_of_getElem? (i := 513) (by decide +kernel))
theorem tw_514 : (Jvm.Cond.methodLink "SuetTroubles" (178 : Nat) ({ cls := "SuetTroubles$Shapes", name := "parts", desc := "(I)I" } : Jvm.MethodName)) ∈ lw_tbl := tb_in (List.mem_of_getElem? (i := 514) (by decide +kernel))
theorem tw_517 : (Jvm.Cond.methodLink "SuetTroubles$Shapes" (18 : Nat) ({ cls := "SuetTroubles$Shapes", name := "partFrom", desc := "(II)I" } : Jvm.MethodName)) ∈ lw_tbl := tb_in (List.mem_of_getElem? (i := 517) (by decide +kernel))
theorem tw_520 : (Jvm.Cond.methodLink "SuetTroubles$Shapes" (14 : Nat) ({ cls := "SuetTroubles$Shapes", name := "besideIt", desc := "(II)I" } : Jvm.MethodName)) ∈ lw_tbl := tb_in (List.mem_of_getElem? (i := 520) (by decide +kernel))
theorem tw_523 : (Jvm.Cond.constant "SuetTroubles$Shapes" (11 : Nat) (33554431 : Int32)) ∈ lw_tbl := tb_in (List.mem_of_getElem? (i := 523) (by decide +kernel))
theorem tw_524 : (Jvm.Cond.constant "SuetTroubles$Shapes" (12 : Nat) (-17318417 : Int32)) ∈ lw_tbl := tb_in (List.mem_of_getElem? (i := 524) (by decide +kernel))
theorem tw_525 : (Jvm.Cond.constant "SuetTroubles$Shapes" (13 : Nat) (-1082402 : Int32)) ∈ lw_tbl := tb_in (List.mem_of_getElem? (i := 525) (by decide +kernel))
theorem tw_526 : (Jvm.Cond.methodLink "SuetTroubles" (183 : Nat) ({ cls := "SuetTroubles$Shapes", name := "greatestPart", desc := "(I)I" } : Jvm.MethodName)) ∈ lw_tbl := tb_in (List.mem_of_getElem? (i := 526) (by decide +kernel))
theorem tw_529 : (Jvm.Cond.methodLink "SuetTroubles$Shapes" (21 : Nat) ({ cls := "java/lang/Integer", name := "bitCount", desc := "(I)I" } : Jvm.MethodName)) ∈ lw_tbl := tb_in (List.mem_of_getElem? (i := 529) (by decide +kernel))
theorem tw_532 : (Jvm.Cond.constant "java/lang/Integer" (265 : Nat) (1431655765 : Int32)) ∈ lw_tbl := tb_in (List.mem_of_getElem? (i := 532) (by decide +kernel))
theorem tw_533 : (Jvm.Cond.constant "java/lang/Integer" (266 : Nat) (858993459 : Int32)) ∈ lw_tbl := tb_in (List.mem_of_getElem? (i := 533) (by decide +kernel))
theorem tw_534 : (Jvm.Cond.constant "java/lang/Integer" (267 : Nat) (252645135 : Int32)) ∈ lw_tbl := tb_in (List.mem_of_getElem? (i := 534) (by decide +kernel))
theorem tw_535 : (Jvm.Cond.methodLink "SuetTroubles$Shapes" (27 : Nat) ({ cls := "java/lang/Math", name := "max", desc := "(II)I" } : Jvm.MethodName)) ∈ lw_tbl := tb_in (List.mem_of_getElem? (i := 535) (by decide +kernel))
theorem tw_536 : (Jvm.Cond.methodLink "SuetTroubles" (186 : Nat) ({ cls := "SuetTroubles$Shapes", name := "edge", desc := "(I)I" } : Jvm.MethodName)) ∈ lw_tbl := tb_in (List.mem_of_getElem? (i := 536) (by decide +kernel))
theorem tw_539 : (Jvm.Cond.methodLink "SuetTroubles" (189 : Nat) ({ cls := "SuetTroubles$Shapes", name := "hold", desc := "(I)I" } : Jvm.MethodName)) ∈ lw_tbl := tb_in (List.mem_of_getElem? (i := 539) (by decide +kernel))
theorem tw_542 : (Jvm.Cond.methodLink "SuetTroubles$Shapes" (36 : Nat) ({ cls := "SuetTroubles$Shapes", name := "openSides", desc := "(II)I" } : Jvm.MethodName)) ∈ lw_tbl := tb_in (List.mem_of_getElem? (i := 542) (by decide +kernel))
theorem tw_545 : (Jvm.Cond.methodLink "SuetTroubles" (192 : Nat) ({ cls := "SuetTroubles$Deeds", name := "isBearable", desc := "(I)Z" } : Jvm.MethodName)) ∈ lw_tbl := tb_in (List.mem_of_getElem? (i := 545) (by decide +kernel))
theorem tw_549 : (Jvm.Cond.methodLink "SuetTroubles$Deeds" (96 : Nat) ({ cls := "SuetTroubles$Deeds", name := "weight", desc := "(I)I" } : Jvm.MethodName)) ∈ lw_tbl := tb_in (List.mem_of_getElem? (i := 549) (by decide +kernel))
theorem tw_553 : (Jvm.Cond.methodLink "SuetTroubles$Deeds" (76 : Nat) ({ cls := "java/lang/Integer", name := "bitCount", desc := "(I)I" } : Jvm.MethodName)) ∈ lw_tbl := tb_in (List.mem_of_getElem? (i := 553) (by decide +kernel))
theorem tw_554 : (Jvm.Cond.methodLink "SuetTroubles$Deeds" (93 : Nat) ({ cls := "java/lang/Math", name := "max", desc := "(II)I" } : Jvm.MethodName)) ∈ lw_tbl := tb_in (List.mem_of_getElem? (i := 554) (by decide +kernel))
theorem tw_555 : (Jvm.Cond.methodLink "SuetTroubles$Deeds" (99 : Nat) ({ cls := "SuetTroubles$Deeds", name := "leftTogether", desc := "()I" } : Jvm.MethodName)) ∈ lw_tbl := tb_in (List.mem_of_getElem? (i := 555) (by decide +kernel))
theorem tw_556 : (Jvm.Cond.methodLink "SuetTroublesLaw" (36 : Nat) ({ cls := "SuetTroubles", name := "eater", desc := "(II)I" } : Jvm.MethodName)) ∈ lw_tbl := tb_in (List.mem_of_getElem? (i := 556) (by decide +kernel))
theorem tw_560 : (Jvm.Cond.methodLink "SuetTroubles" (195 : Nat) ({ cls := "SuetTroubles$Plan", name := "hasEater", desc := "(I)Z" } : Jvm.MethodName)) ∈ lw_tbl := tb_in (List.mem_of_getElem? (i := 560) (by decide +kernel))
theorem tw_564 : (Jvm.Cond.methodLink "SuetTroublesLaw" (40 : Nat) ({ cls := "SuetTroubles", name := "wrap", desc := "(I)I" } : Jvm.MethodName)) ∈ lw_tbl := tb_in (List.mem_of_getElem? (i := 564) (by decide +kernel))
theorem tw_568 : (Jvm.Cond.methodLink "SuetTroubles" (204 : Nat) ({ cls := "SuetTroubles$Deeds", name := "canBeWrapped", desc := "(I)Z" } : Jvm.MethodName)) ∈ lw_tbl := tb_in (List.mem_of_getElem? (i := 568) (by decide +kernel))
theorem tw_572 : (Jvm.Cond.constant "SuetTroubles" (207 : Nat) (-1000000003 : Int32)) ∈ lw_tbl := tb_in (List.mem_of_getElem? (i := 572) (by decide +kernel))
theorem tw_573 : (Jvm.Cond.methodLink "SuetTroubles" (208 : Nat) ({ cls := "SuetTroubles$Past", name := "remember", desc := "(LSuetTroubles$Scene;)V" } : Jvm.MethodName)) ∈ lw_tbl := tb_in (List.mem_of_getElem? (i := 573) (by decide +kernel))
theorem tw_577 : (Jvm.Cond.methodLink "SuetTroubles$Past" (36 : Nat) ({ cls := "SuetTroubles$Scene", name := "become", desc := "(LSuetTroubles$Scene;)V" } : Jvm.MethodName)) ∈ lw_tbl := tb_in (List.mem_of_getElem? (i := 577) (by decide +kernel))
theorem tw_581 : (Jvm.Cond.methodLink "SuetTroubles" (212 : Nat) ({ cls := "SuetTroubles$Deeds", name := "putInSuet", desc := "(I)I" } : Jvm.MethodName)) ∈ lw_tbl := tb_in (List.mem_of_getElem? (i := 581) (by decide +kernel))
theorem tw_585 : (Jvm.Cond.methodLink "SuetTroubles$Deeds" (57 : Nat) ({ cls := "SuetTroubles$Sheets", name := "fewest", desc := "(I)I" } : Jvm.MethodName)) ∈ lw_tbl := tb_in (List.mem_of_getElem? (i := 585) (by decide +kernel))
theorem tw_589 : (Jvm.Cond.methodLink "SuetTroubles$Sheets" (18 : Nat) ({ cls := "SuetTroubles$Shapes", name := "rowOf", desc := "(II)I" } : Jvm.MethodName)) ∈ lw_tbl := tb_in (List.mem_of_getElem? (i := 589) (by decide +kernel))
theorem tw_590 : (Jvm.Cond.methodLink "SuetTroubles$Sheets" (24 : Nat) ({ cls := "SuetTroubles$Sheets", name := "addRow", desc := "(I)V" } : Jvm.MethodName)) ∈ lw_tbl := tb_in (List.mem_of_getElem? (i := 590) (by decide +kernel))
theorem tw_594 : (Jvm.Cond.methodLink "SuetTroubles$Sheets" (28 : Nat) ({ cls := "SuetTroubles$Sheets", name := "covered", desc := "(I)I" } : Jvm.MethodName)) ∈ lw_tbl := tb_in (List.mem_of_getElem? (i := 594) (by decide +kernel))
theorem tw_597 : (Jvm.Cond.methodLink "SuetTroubles$Sheets" (32 : Nat) ({ cls := "java/lang/Math", name := "min", desc := "(II)I" } : Jvm.MethodName)) ∈ lw_tbl := tb_in (List.mem_of_getElem? (i := 597) (by decide +kernel))
theorem tw_598 : (Jvm.Cond.methodLink "SuetTroubles$Sheets" (37 : Nat) ({ cls := "java/lang/Integer", name := "bitCount", desc := "(I)I" } : Jvm.MethodName)) ∈ lw_tbl := tb_in (List.mem_of_getElem? (i := 598) (by decide +kernel))
theorem tw_599 : (Jvm.Cond.constant "SuetTroubles$Deeds" (63 : Nat) (999999 : Int32)) ∈ lw_tbl := tb_in (List.mem_of_getElem? (i := 599) (by decide +kernel))
theorem tw_600 : (Jvm.Cond.methodLink "SuetTroubles$Deeds" (64 : Nat) ({ cls := "java/lang/Math", name := "min", desc := "(II)I" } : Jvm.MethodName)) ∈ lw_tbl := tb_in (List.mem_of_getElem? (i := 600) (by decide +kernel))
theorem tw_601 : (Jvm.Cond.methodLink "SuetTroublesLaw" (44 : Nat) ({ cls := "SuetTroubles", name := "putOn", desc := "(I)I" } : Jvm.MethodName)) ∈ lw_tbl := tb_in (List.mem_of_getElem? (i := 601) (by decide +kernel))
theorem tw_605 : (Jvm.Cond.methodLink "SuetTroubles" (215 : Nat) ({ cls := "SuetTroubles$Deeds", name := "freePots", desc := "()I" } : Jvm.MethodName)) ∈ lw_tbl := tb_in (List.mem_of_getElem? (i := 605) (by decide +kernel))
theorem tw_609 : (Jvm.Cond.methodLink "SuetTroubles$Deeds" (73 : Nat) ({ cls := "SuetTroubles$Deeds", name := "allThatAre", desc := "(I)I" } : Jvm.MethodName)) ∈ lw_tbl := tb_in (List.mem_of_getElem? (i := 609) (by decide +kernel))
theorem tw_610 : (Jvm.Cond.methodLink "SuetTroublesLaw" (48 : Nat) ({ cls := "SuetTroubles", name := "takeOff", desc := "(I)I" } : Jvm.MethodName)) ∈ lw_tbl := tb_in (List.mem_of_getElem? (i := 610) (by decide +kernel))
theorem tw_614 : (Jvm.Cond.methodLink "SuetTroublesLaw" (52 : Nat) ({ cls := "SuetTroubles", name := "hour", desc := "(I)I" } : Jvm.MethodName)) ∈ lw_tbl := tb_in (List.mem_of_getElem? (i := 614) (by decide +kernel))
theorem tw_618 : (Jvm.Cond.methodLink "SuetTroubles" (218 : Nat) ({ cls := "SuetTroubles", name := "refusalOfHours", desc := "(I)I" } : Jvm.MethodName)) ∈ lw_tbl := tb_in (List.mem_of_getElem? (i := 618) (by decide +kernel))
theorem tw_622 : (Jvm.Cond.methodLink "SuetTroubles" (231 : Nat) ({ cls := "SuetTroubles$Plan", name := "isThere", desc := "()Z" } : Jvm.MethodName)) ∈ lw_tbl := tb_in (List.mem_of_getElem? (i := 622) (by decide +kernel))
theorem tw_623 : (Jvm.Cond.methodLink "SuetTroubles" (221 : Nat) ({ cls := "SuetTroubles$Deeds", name := "boil", desc := "()V" } : Jvm.MethodName)) ∈ lw_tbl := tb_in (List.mem_of_getElem? (i := 623) (by decide +kernel))
theorem tw_627 : (Jvm.Cond.methodLink "SuetTroubles$Deeds" (121 : Nat) ({ cls := "SuetTroubles$Deeds", name := "hardBehind", desc := "(II)I" } : Jvm.MethodName)) ∈ lw_tbl := tb_in (List.mem_of_getElem? (i := 627) (by decide +kernel))
theorem tw_631 : (Jvm.Cond.methodLink "SuetTroubles$Deeds" (118 : Nat) ({ cls := "SuetTroubles$Deeds", name := "softenedBy", desc := "(I)I" } : Jvm.MethodName)) ∈ lw_tbl := tb_in (List.mem_of_getElem? (i := 631) (by decide +kernel))
theorem tw_635 : (Jvm.Cond.methodLink "SuetTroublesLaw" (56 : Nat) ({ cls := "SuetTroubles", name := "bear", desc := "(I)I" } : Jvm.MethodName)) ∈ lw_tbl := tb_in (List.mem_of_getElem? (i := 635) (by decide +kernel))
theorem tw_639 : (Jvm.Cond.methodLink "SuetTroubles" (224 : Nat) ({ cls := "SuetTroubles$Deeds", name := "canBeBorne", desc := "(I)Z" } : Jvm.MethodName)) ∈ lw_tbl := tb_in (List.mem_of_getElem? (i := 639) (by decide +kernel))
theorem tw_643 : (Jvm.Cond.methodLink "SuetTroubles$Deeds" (103 : Nat) ({ cls := "SuetTroubles$Deeds", name := "isBearable", desc := "(I)Z" } : Jvm.MethodName)) ∈ lw_tbl := tb_in (List.mem_of_getElem? (i := 643) (by decide +kernel))
theorem tw_644 : (Jvm.Cond.methodLink "SuetTroubles" (227 : Nat) ({ cls := "SuetTroubles$Deeds", name := "shareOut", desc := "(I)V" } : Jvm.MethodName)) ∈ lw_tbl := tb_in (List.mem_of_getElem? (i := 644) (by decide +kernel))
theorem tw_648 : (Jvm.Cond.methodLink "SuetTroubles$Deeds" (106 : Nat) ({ cls := "SuetTroubles$Deeds", name := "strongest", desc := "()I" } : Jvm.MethodName)) ∈ lw_tbl := tb_in (List.mem_of_getElem? (i := 648) (by decide +kernel))
theorem tw_649 : (Jvm.Cond.methodLink "SuetTroublesLaw" (60 : Nat) ({ cls := "SuetTroubles", name := "rest", desc := "()I" } : Jvm.MethodName)) ∈ lw_tbl := tb_in (List.mem_of_getElem? (i := 649) (by decide +kernel))
theorem tw_653 : (Jvm.Cond.methodLink "SuetTroubles" (235 : Nat) ({ cls := "SuetTroubles$Deeds", name := "unload", desc := "()I" } : Jvm.MethodName)) ∈ lw_tbl := tb_in (List.mem_of_getElem? (i := 653) (by decide +kernel))
theorem tw_657 : (Jvm.Cond.methodLink "SuetTroublesLaw" (64 : Nat) ({ cls := "SuetTroubles", name := "cut", desc := "(II)I" } : Jvm.MethodName)) ∈ lw_tbl := tb_in (List.mem_of_getElem? (i := 657) (by decide +kernel))
theorem tw_661 : (Jvm.Cond.methodLink "SuetTroubles" (238 : Nat) ({ cls := "SuetTroubles$Shapes", name := "has", desc := "(II)Z" } : Jvm.MethodName)) ∈ lw_tbl := tb_in (List.mem_of_getElem? (i := 661) (by decide +kernel))
theorem tw_662 : (Jvm.Cond.methodLink "SuetTroubles" (242 : Nat) ({ cls := "java/lang/Integer", name := "bitCount", desc := "(I)I" } : Jvm.MethodName)) ∈ lw_tbl := tb_in (List.mem_of_getElem? (i := 662) (by decide +kernel))
theorem tw_663 : (Jvm.Cond.methodLink "SuetTroublesLaw" (68 : Nat) ({ cls := "SuetTroubles", name := "drift", desc := "(I)I" } : Jvm.MethodName)) ∈ lw_tbl := tb_in (List.mem_of_getElem? (i := 663) (by decide +kernel))
theorem tw_667 : (Jvm.Cond.methodLink "SuetTroubles" (247 : Nat) ({ cls := "SuetTroubles$Deeds", name := "actByDraws", desc := "()V" } : Jvm.MethodName)) ∈ lw_tbl := tb_in (List.mem_of_getElem? (i := 667) (by decide +kernel))
theorem tw_671 : (Jvm.Cond.methodLink "SuetTroubles$Deeds" (124 : Nat) ({ cls := "SuetTroubles$Draws", name := "draw", desc := "(I)I" } : Jvm.MethodName)) ∈ lw_tbl := tb_in (List.mem_of_getElem? (i := 671) (by decide +kernel))
theorem tw_675 : (Jvm.Cond.constant "SuetTroubles$Draws" (13 : Nat) (1103515245 : Int32)) ∈ lw_tbl := tb_in (List.mem_of_getElem? (i := 675) (by decide +kernel))
theorem tw_676 : (Jvm.Cond.constant "SuetTroubles$Draws" (14 : Nat) (2147483647 : Int32)) ∈ lw_tbl := tb_in (List.mem_of_getElem? (i := 676) (by decide +kernel))
theorem tw_677 : (Jvm.Cond.constant "SuetTroubles$Draws" (15 : Nat) (65536 : Int32)) ∈ lw_tbl := tb_in (List.mem_of_getElem? (i := 677) (by decide +kernel))
theorem tw_678 : (Jvm.Cond.methodLink "SuetTroubles$Deeds" (127 : Nat) ({ cls := "SuetTroubles$Deeds", name := "canBeWrapped", desc := "(I)Z" } : Jvm.MethodName)) ∈ lw_tbl := tb_in (List.mem_of_getElem? (i := 678) (by decide +kernel))
theorem tw_679 : (Jvm.Cond.methodLink "SuetTroubles$Deeds" (130 : Nat) ({ cls := "SuetTroubles$Deeds", name := "putInSuet", desc := "(I)I" } : Jvm.MethodName)) ∈ lw_tbl := tb_in (List.mem_of_getElem? (i := 679) (by decide +kernel))
theorem tw_680 : (Jvm.Cond.methodLink "SuetTroubles$Deeds" (133 : Nat) ({ cls := "SuetTroubles$Deeds", name := "freePots", desc := "()I" } : Jvm.MethodName)) ∈ lw_tbl := tb_in (List.mem_of_getElem? (i := 680) (by decide +kernel))
theorem tw_681 : (Jvm.Cond.methodLink "SuetTroubles$Deeds" (136 : Nat) ({ cls := "SuetTroubles$Deeds", name := "canBeBorne", desc := "(I)Z" } : Jvm.MethodName)) ∈ lw_tbl := tb_in (List.mem_of_getElem? (i := 681) (by decide +kernel))
theorem tw_682 : (Jvm.Cond.methodLink "SuetTroubles$Deeds" (139 : Nat) ({ cls := "SuetTroubles$Deeds", name := "shareOut", desc := "(I)V" } : Jvm.MethodName)) ∈ lw_tbl := tb_in (List.mem_of_getElem? (i := 682) (by decide +kernel))
theorem tw_683 : (Jvm.Cond.methodLink "SuetTroubles$Deeds" (143 : Nat) ({ cls := "SuetTroubles$Deeds", name := "unload", desc := "()I" } : Jvm.MethodName)) ∈ lw_tbl := tb_in (List.mem_of_getElem? (i := 683) (by decide +kernel))
theorem tw_684 : (Jvm.Cond.methodLink "SuetTroublesLaw" (72 : Nat) ({ cls := "SuetTroubles", name := "undo", desc := "()I" } : Jvm.MethodName)) ∈ lw_tbl := tb_in (List.mem_of_getElem? (i := 684) (by decide +kernel))
theorem tw_688 : (Jvm.Cond.methodLink "SuetTroubles" (250 : Nat) ({ cls := "SuetTroubles$Past", name := "stepBack", desc := "(LSuetTroubles$Scene;)V" } : Jvm.MethodName)) ∈ lw_tbl := tb_in (List.mem_of_getElem? (i := 688) (by decide +kernel))
theorem tw_692 : (Jvm.Cond.methodLink "SuetTroublesLaw" (76 : Nat) ({ cls := "SuetTroubles", name := "toWrap", desc := "(II)I" } : Jvm.MethodName)) ∈ lw_tbl := tb_in (List.mem_of_getElem? (i := 692) (by decide +kernel))
theorem tw_696 : (Jvm.Cond.methodLink "SuetTroubles" (253 : Nat) ({ cls := "SuetTroubles$Sheets", name := "fewest", desc := "(I)I" } : Jvm.MethodName)) ∈ lw_tbl := tb_in (List.mem_of_getElem? (i := 696) (by decide +kernel))
theorem tw_697 : (Jvm.Cond.methodLink "SuetTroubles" (258 : Nat) ({ cls := "SuetTroubles$Sheets", name := "first", desc := "(I)I" } : Jvm.MethodName)) ∈ lw_tbl := tb_in (List.mem_of_getElem? (i := 697) (by decide +kernel))
theorem tw_701 : (Jvm.Cond.methodLink "SuetTroubles$Sheets" (42 : Nat) ({ cls := "SuetTroubles$Sheets", name := "fewest", desc := "(I)I" } : Jvm.MethodName)) ∈ lw_tbl := tb_in (List.mem_of_getElem? (i := 701) (by decide +kernel))
theorem tw_702 : (Jvm.Cond.methodLink "SuetTroubles" (261 : Nat) ({ cls := "SuetTroubles$Shapes", name := "squareSide", desc := "(I)I" } : Jvm.MethodName)) ∈ lw_tbl := tb_in (List.mem_of_getElem? (i := 702) (by decide +kernel))
theorem tw_705 : (Jvm.Cond.methodLink "SuetTroubles$Shapes" (51 : Nat) ({ cls := "SuetTroubles$Shapes", name := "firstOf", desc := "(I)I" } : Jvm.MethodName)) ∈ lw_tbl := tb_in (List.mem_of_getElem? (i := 705) (by decide +kernel))
theorem tw_708 : (Jvm.Cond.methodLink "SuetTroublesLaw" (80 : Nat) ({ cls := "SuetTroubles", name := "soft", desc := "(II)I" } : Jvm.MethodName)) ∈ lw_tbl := tb_in (List.mem_of_getElem? (i := 708) (by decide +kernel))
theorem tw_712 : (Jvm.Cond.methodLink "SuetTroubles" (264 : Nat) ({ cls := "SuetTroubles$Deeds", name := "hardBehind", desc := "(II)I" } : Jvm.MethodName)) ∈ lw_tbl := tb_in (List.mem_of_getElem? (i := 712) (by decide +kernel))
theorem tw_713 : (Jvm.Cond.methodLink "SuetTroublesLaw" (84 : Nat) ({ cls := "SuetTroubles", name := "when", desc := "(I)I" } : Jvm.MethodName)) ∈ lw_tbl := tb_in (List.mem_of_getElem? (i := 713) (by decide +kernel))
theorem tw_717 : (Jvm.Cond.methodLink "SuetTroubles" (268 : Nat) ({ cls := "SuetTroubles$Deeds", name := "hoursTillGood", desc := "(II)I" } : Jvm.MethodName)) ∈ lw_tbl := tb_in (List.mem_of_getElem? (i := 717) (by decide +kernel))
theorem tw_721 : (Jvm.Cond.methodLink "SuetTroublesLaw" (88 : Nat) ({ cls := "SuetTroubles", name := "order", desc := "(II)I" } : Jvm.MethodName)) ∈ lw_tbl := tb_in (List.mem_of_getElem? (i := 721) (by decide +kernel))
theorem tw_725 : (Jvm.Cond.methodLink "SuetTroubles" (271 : Nat) ({ cls := "SuetTroubles$Plan", name := "allTroubles", desc := "()I" } : Jvm.MethodName)) ∈ lw_tbl := tb_in (List.mem_of_getElem? (i := 725) (by decide +kernel))
theorem tw_729 : (Jvm.Cond.methodLink "SuetTroubles" (274 : Nat) ({ cls := "SuetTroubles$Orders", name := "find", desc := "(ILSuetTroubles$Deeds;I)V" } : Jvm.MethodName)) ∈ lw_tbl := tb_in (List.mem_of_getElem? (i := 729) (by decide +kernel))
theorem tw_733 : (Jvm.Cond.methodLink "SuetTroubles$Orders" (25 : Nat) ({ cls := "SuetTroubles$Shapes", name := "has", desc := "(II)Z" } : Jvm.MethodName)) ∈ lw_tbl := tb_in (List.mem_of_getElem? (i := 733) (by decide +kernel))
theorem tw_734 : (Jvm.Cond.methodLink "SuetTroubles$Orders" (31 : Nat) ({ cls := "SuetTroubles$Deeds", name := "hoursTillGood", desc := "(II)I" } : Jvm.MethodName)) ∈ lw_tbl := tb_in (List.mem_of_getElem? (i := 734) (by decide +kernel))
theorem tw_735 : (Jvm.Cond.methodLink "SuetTroubles$Orders" (37 : Nat) ({ cls := "SuetTroubles$Orders", name := "tryNext", desc := "(LSuetTroubles$Orders;IIIII)V" } : Jvm.MethodName)) ∈ lw_tbl := tb_in (List.mem_of_getElem? (i := 735) (by decide +kernel))
theorem tw_738 : (Jvm.Cond.methodLink "SuetTroublesLaw" (92 : Nat) ({ cls := "SuetTroubles", name := "halves", desc := "(II)I" } : Jvm.MethodName)) ∈ lw_tbl := tb_in (List.mem_of_getElem? (i := 738) (by decide +kernel))
theorem tw_742 : (Jvm.Cond.methodLink "SuetTroubles" (284 : Nat) ({ cls := "SuetTroubles$Shapes", name := "halvingLine", desc := "(I)I" } : Jvm.MethodName)) ∈ lw_tbl := tb_in (List.mem_of_getElem? (i := 742) (by decide +kernel))
theorem tw_745 : (Jvm.Cond.methodLink "SuetTroubles$Shapes" (55 : Nat) ({ cls := "SuetTroubles$Shapes", name := "greaterHalf", desc := "(II)I" } : Jvm.MethodName)) ∈ lw_tbl := tb_in (List.mem_of_getElem? (i := 745) (by decide +kernel))
theorem tw_748 : (Jvm.Cond.constant "SuetTroubles$Shapes" (54 : Nat) (1082401 : Int32)) ∈ lw_tbl := tb_in (List.mem_of_getElem? (i := 748) (by decide +kernel))
theorem tw_749 : (Jvm.Cond.methodLink "SuetTroubles" (287 : Nat) ({ cls := "SuetTroubles$Shapes", name := "greaterHalf", desc := "(II)I" } : Jvm.MethodName)) ∈ lw_tbl := tb_in (List.mem_of_getElem? (i := 749) (by decide +kernel))
theorem tw_750 : (Jvm.Cond.methodLink "SuetTroublesLaw" (96 : Nat) ({ cls := "SuetTroubles", name := "mild", desc := "(II)I" } : Jvm.MethodName)) ∈ lw_tbl := tb_in (List.mem_of_getElem? (i := 750) (by decide +kernel))
theorem tw_754 : (Jvm.Cond.constantLong "SuetTroubles" (290 : Nat) (1000000000 : Int64)) ∈ lw_tbl := tb_in (List.mem_of_getElem? (i := 754) (by decide +kernel))
theorem tw_755 : (Jvm.Cond.constantLong "SuetTroubles" (292 : Nat) (100 : Int64)) ∈ lw_tbl := tb_in (List.mem_of_getElem? (i := 755) (by decide +kernel))
theorem tw_756 : (Jvm.Cond.methodLink "SuetTroublesLaw" (100 : Nat) ({ cls := "SuetTroubles", name := "bump", desc := "(IZ)I" } : Jvm.MethodName)) ∈ lw_tbl := tb_in (List.mem_of_getElem? (i := 756) (by decide +kernel))
theorem tw_760 : (Jvm.Cond.methodLink "SuetTroubles" (294 : Nat) ({ cls := "SuetTroubles$Cloth", name := "add", desc := "(IZ)I" } : Jvm.MethodName)) ∈ lw_tbl := tb_in (List.mem_of_getElem? (i := 760) (by decide +kernel))
theorem tw_764 : (Jvm.Cond.methodLink "SuetTroublesLaw" (105 : Nat) ({ cls := "SuetTroubles", name := "write", desc := "(II)I" } : Jvm.MethodName)) ∈ lw_tbl := tb_in (List.mem_of_getElem? (i := 764) (by decide +kernel))
theorem tw_768 : (Jvm.Cond.methodLink "SuetTroubles" (297 : Nat) ({ cls := "SuetTroubles$Book", name := "add", desc := "(II)I" } : Jvm.MethodName)) ∈ lw_tbl := tb_in (List.mem_of_getElem? (i := 768) (by decide +kernel))
theorem tw_772 : (Jvm.Cond.methodLink "SuetTroublesLaw" (109 : Nat) ({ cls := "SuetTroubles", name := "tear", desc := "()I" } : Jvm.MethodName)) ∈ lw_tbl := tb_in (List.mem_of_getElem? (i := 772) (by decide +kernel))
theorem tw_776 : (Jvm.Cond.methodLink "SuetTroublesLaw" (113 : Nat) ({ cls := "SuetTroubles", name := "judge", desc := "()I" } : Jvm.MethodName)) ∈ lw_tbl := tb_in (List.mem_of_getElem? (i := 776) (by decide +kernel))
theorem tw_780 : (Jvm.Cond.methodLink "SuetTroubles" (299 : Nat) ({ cls := "SuetTroubles$Book", name := "firstWrong", desc := "(LSuetTroubles$Scene;)I" } : Jvm.MethodName)) ∈ lw_tbl := tb_in (List.mem_of_getElem? (i := 780) (by decide +kernel))
theorem tw_784 : (Jvm.Cond.methodLink "SuetTroublesLaw" (117 : Nat) ({ cls := "SuetTroubles", name := "seed", desc := "(I)I" } : Jvm.MethodName)) ∈ lw_tbl := tb_in (List.mem_of_getElem? (i := 784) (by decide +kernel))
theorem tw_788 : (Jvm.Cond.methodLink "SuetTroublesLaw" (121 : Nat) ({ cls := "SuetTroubles", name := "keep", desc := "(I)I" } : Jvm.MethodName)) ∈ lw_tbl := tb_in (List.mem_of_getElem? (i := 788) (by decide +kernel))
theorem tw_792 : (Jvm.Cond.methodLink "SuetTroubles" (308 : Nat) ({ cls := "SuetTroubles$Past", name := "keepImage", desc := "(ILSuetTroubles$Scene;LSuetTroubles$Draws;)V" } : Jvm.MethodName)) ∈ lw_tbl := tb_in (List.mem_of_getElem? (i := 792) (by decide +kernel))
theorem tw_796 : (Jvm.Cond.methodLink "SuetTroublesLaw" (125 : Nat) ({ cls := "SuetTroubles", name := "goBack", desc := "(I)I" } : Jvm.MethodName)) ∈ lw_tbl := tb_in (List.mem_of_getElem? (i := 796) (by decide +kernel))
theorem tw_800 : (Jvm.Cond.methodLink "SuetTroubles" (316 : Nat) ({ cls := "SuetTroubles$Past", name := "showImage", desc := "(ILSuetTroubles$Scene;LSuetTroubles$Draws;)V" } : Jvm.MethodName)) ∈ lw_tbl := tb_in (List.mem_of_getElem? (i := 800) (by decide +kernel))
theorem tw_806 : (Jvm.Cond.methodLink "SuetTroublesLaw" (12 : Nat) ({ cls := "SuetTroublesModel", name := "<init>", desc := "()V" } : Jvm.MethodName)) ∈ lw_tbl := tb_in (List.mem_of_getElem? (i := 806) (by decide +kernel))
theorem tw_810 : (Jvm.Cond.fieldLink "SuetTroublesModel" (75 : Nat) "SuetTroublesModel" "letterMany" "I") ∈ lw_tbl := tb_in (List.mem_of_getElem? (i := 810) (by decide +kernel))
theorem tw_811 : (Jvm.Cond.fieldLink "SuetTroublesModel" (7 : Nat) "SuetTroublesModel" "text" "[I") ∈ lw_tbl := tb_in (List.mem_of_getElem? (i := 811) (by decide +kernel))
theorem tw_812 : (Jvm.Cond.fieldLink "SuetTroublesModel" (79 : Nat) "SuetTroublesModel" "readAt" "I") ∈ lw_tbl := tb_in (List.mem_of_getElem? (i := 812) (by decide +kernel))
theorem tw_813 : (Jvm.Cond.fieldLink "SuetTroublesModel" (97 : Nat) "SuetTroublesModel" "numberAt" "I") ∈ lw_tbl := tb_in (List.mem_of_getElem? (i := 813) (by decide +kernel))
theorem tw_814 : (Jvm.Cond.fieldLink "SuetTroublesModel" (86 : Nat) "SuetTroublesModel" "readFault" "I") ∈ lw_tbl := tb_in (List.mem_of_getElem? (i := 814) (by decide +kernel))
theorem tw_815 : (Jvm.Cond.fieldLink "SuetTroublesModel" (13 : Nat) "SuetTroublesModel" "faultAt" "I") ∈ lw_tbl := tb_in (List.mem_of_getElem? (i := 815) (by decide +kernel))
theorem tw_816 : (Jvm.Cond.fieldLink "SuetTroublesModel" (103 : Nat) "SuetTroublesModel" "readHeat" "I") ∈ lw_tbl := tb_in (List.mem_of_getElem? (i := 816) (by decide +kernel))
theorem tw_817 : (Jvm.Cond.fieldLink "SuetTroublesModel" (106 : Nat) "SuetTroublesModel" "readPots" "I") ∈ lw_tbl := tb_in (List.mem_of_getElem? (i := 817) (by decide +kernel))
theorem tw_818 : (Jvm.Cond.fieldLink "SuetTroublesModel" (113 : Nat) "SuetTroublesModel" "readTroubles" "I") ∈ lw_tbl := tb_in (List.mem_of_getElem? (i := 818) (by decide +kernel))
theorem tw_819 : (Jvm.Cond.fieldLink "SuetTroublesModel" (116 : Nat) "SuetTroublesModel" "readEaters" "I") ∈ lw_tbl := tb_in (List.mem_of_getElem? (i := 819) (by decide +kernel))
theorem tw_820 : (Jvm.Cond.fieldLink "SuetTroublesModel" (17 : Nat) "SuetTroublesModel" "readKind" "[I") ∈ lw_tbl := tb_in (List.mem_of_getElem? (i := 820) (by decide +kernel))
theorem tw_821 : (Jvm.Cond.fieldLink "SuetTroublesModel" (20 : Nat) "SuetTroublesModel" "readHard" "[I") ∈ lw_tbl := tb_in (List.mem_of_getElem? (i := 821) (by decide +kernel))
theorem tw_822 : (Jvm.Cond.fieldLink "SuetTroublesModel" (23 : Nat) "SuetTroublesModel" "readShape" "[I") ∈ lw_tbl := tb_in (List.mem_of_getElem? (i := 822) (by decide +kernel))
theorem tw_823 : (Jvm.Cond.fieldLink "SuetTroublesModel" (26 : Nat) "SuetTroublesModel" "readStrength" "[I") ∈ lw_tbl := tb_in (List.mem_of_getElem? (i := 823) (by decide +kernel))
theorem tw_824 : (Jvm.Cond.fieldLink "SuetTroublesModel" (135 : Nat) "SuetTroublesModel" "heat" "I") ∈ lw_tbl := tb_in (List.mem_of_getElem? (i := 824) (by decide +kernel))
theorem tw_825 : (Jvm.Cond.fieldLink "SuetTroublesModel" (138 : Nat) "SuetTroublesModel" "pots" "I") ∈ lw_tbl := tb_in (List.mem_of_getElem? (i := 825) (by decide +kernel))
theorem tw_826 : (Jvm.Cond.fieldLink "SuetTroublesModel" (141 : Nat) "SuetTroublesModel" "m" "I") ∈ lw_tbl := tb_in (List.mem_of_getElem? (i := 826) (by decide +kernel))
theorem tw_827 : (Jvm.Cond.fieldLink "SuetTroublesModel" (144 : Nat) "SuetTroublesModel" "n" "I") ∈ lw_tbl := tb_in (List.mem_of_getElem? (i := 827) (by decide +kernel))
theorem tw_828 : (Jvm.Cond.fieldLink "SuetTroublesModel" (29 : Nat) "SuetTroublesModel" "kinds" "[I") ∈ lw_tbl := tb_in (List.mem_of_getElem? (i := 828) (by decide +kernel))
theorem tw_829 : (Jvm.Cond.fieldLink "SuetTroublesModel" (32 : Nat) "SuetTroublesModel" "strengths" "[I") ∈ lw_tbl := tb_in (List.mem_of_getElem? (i := 829) (by decide +kernel))
theorem tw_830 : (Jvm.Cond.fieldLink "SuetTroublesModel" (35 : Nat) "SuetTroublesModel" "now" "[I") ∈ lw_tbl := tb_in (List.mem_of_getElem? (i := 830) (by decide +kernel))
theorem tw_831 : (Jvm.Cond.fieldLink "SuetTroublesModel" (147 : Nat) "SuetTroublesModel" "undoMany" "I") ∈ lw_tbl := tb_in (List.mem_of_getElem? (i := 831) (by decide +kernel))
theorem tw_832 : (Jvm.Cond.fieldLink "SuetTroublesModel" (223 : Nat) "SuetTroublesModel" "undoAt" "I") ∈ lw_tbl := tb_in (List.mem_of_getElem? (i := 832) (by decide +kernel))
theorem tw_833 : (Jvm.Cond.fieldLink "SuetTroublesModel" (38 : Nat) "SuetTroublesModel" "undos" "[I") ∈ lw_tbl := tb_in (List.mem_of_getElem? (i := 833) (by decide +kernel))
theorem tw_834 : (Jvm.Cond.fieldLink "SuetTroublesModel" (268 : Nat) "SuetTroublesModel" "seeded" "J") ∈ lw_tbl := tb_in (List.mem_of_getElem? (i := 834) (by decide +kernel))
theorem tw_835 : (Jvm.Cond.fieldLink "SuetTroublesModel" (41 : Nat) "SuetTroublesModel" "covers" "[I") ∈ lw_tbl := tb_in (List.mem_of_getElem? (i := 835) (by decide +kernel))
theorem tw_836 : (Jvm.Cond.fieldLink "SuetTroublesModel" (150 : Nat) "SuetTroublesModel" "bumpMany" "I") ∈ lw_tbl := tb_in (List.mem_of_getElem? (i := 836) (by decide +kernel))
theorem tw_837 : (Jvm.Cond.fieldLink "SuetTroublesModel" (44 : Nat) "SuetTroublesModel" "bumpCell" "[I") ∈ lw_tbl := tb_in (List.mem_of_getElem? (i := 837) (by decide +kernel))
theorem tw_838 : (Jvm.Cond.fieldLink "SuetTroublesModel" (47 : Nat) "SuetTroublesModel" "bumpIs" "[Z") ∈ lw_tbl := tb_in (List.mem_of_getElem? (i := 838) (by decide +kernel))
theorem tw_839 : (Jvm.Cond.fieldLink "SuetTroublesModel" (51 : Nat) "SuetTroublesModel" "fulls" "[I") ∈ lw_tbl := tb_in (List.mem_of_getElem? (i := 839) (by decide +kernel))
theorem tw_840 : (Jvm.Cond.fieldLink "SuetTroublesModel" (153 : Nat) "SuetTroublesModel" "bookMany" "I") ∈ lw_tbl := tb_in (List.mem_of_getElem? (i := 840) (by decide +kernel))
theorem tw_841 : (Jvm.Cond.fieldLink "SuetTroublesModel" (54 : Nat) "SuetTroublesModel" "bookTrouble" "[I") ∈ lw_tbl := tb_in (List.mem_of_getElem? (i := 841) (by decide +kernel))
theorem tw_842 : (Jvm.Cond.fieldLink "SuetTroublesModel" (57 : Nat) "SuetTroublesModel" "bookHard" "[I") ∈ lw_tbl := tb_in (List.mem_of_getElem? (i := 842) (by decide +kernel))
theorem tw_843 : (Jvm.Cond.fieldLink "SuetTroublesModel" (60 : Nat) "SuetTroublesModel" "isKept" "[Z") ∈ lw_tbl := tb_in (List.mem_of_getElem? (i := 843) (by decide +kernel))
theorem tw_844 : (Jvm.Cond.fieldLink "SuetTroublesModel" (63 : Nat) "SuetTroublesModel" "kept" "[I") ∈ lw_tbl := tb_in (List.mem_of_getElem? (i := 844) (by decide +kernel))
theorem tw_845 : (Jvm.Cond.fieldLink "SuetTroublesModel" (66 : Nat) "SuetTroublesModel" "keptSeed" "[J") ∈ lw_tbl := tb_in (List.mem_of_getElem? (i := 845) (by decide +kernel))
theorem tw_920 : (Jvm.Cond.methodLink "SuetTroublesLaw" (17 : Nat) ({ cls := "SuetTroublesModel", name := "feed", desc := "(I)I" } : Jvm.MethodName)) ∈ lw_tbl := tb_in (List.mem_of_getElem? (i := 920) (by decide +kernel))
theorem tw_924 : (Jvm.Cond.methodLink "SuetTroublesModel" (70 : Nat) ({ cls := "SuetTroublesModel", name := "in", desc := "(III)Z" } : Jvm.MethodName)) ∈ lw_tbl := tb_in (List.mem_of_getElem? (i := 924) (by decide +kernel))
theorem tw_927 : (Jvm.Cond.constant "SuetTroublesModel" (74 : Nat) (-1000000002 : Int32)) ∈ lw_tbl := tb_in (List.mem_of_getElem? (i := 927) (by decide +kernel))
theorem tw_928 : (Jvm.Cond.constant "SuetTroublesModel" (78 : Nat) (-1000000004 : Int32)) ∈ lw_tbl := tb_in (List.mem_of_getElem? (i := 928) (by decide +kernel))
theorem tw_929 : (Jvm.Cond.methodLink "SuetTroublesLaw" (22 : Nat) ({ cls := "SuetTroublesModel", name := "kitchen", desc := "()I" } : Jvm.MethodName)) ∈ lw_tbl := tb_in (List.mem_of_getElem? (i := 929) (by decide +kernel))
theorem tw_933 : (Jvm.Cond.methodLink "SuetTroublesModel" (132 : Nat) ({ cls := "SuetTroublesModel", name := "readsKitchen", desc := "()Z" } : Jvm.MethodName)) ∈ lw_tbl := tb_in (List.mem_of_getElem? (i := 933) (by decide +kernel))
theorem tw_937 : (Jvm.Cond.methodLink "SuetTroublesModel" (89 : Nat) ({ cls := "SuetTroublesModel", name := "nextLetter", desc := "()I" } : Jvm.MethodName)) ∈ lw_tbl := tb_in (List.mem_of_getElem? (i := 937) (by decide +kernel))
theorem tw_941 : (Jvm.Cond.methodLink "SuetTroublesModel" (82 : Nat) ({ cls := "SuetTroublesModel", name := "letterAt", desc := "(I)I" } : Jvm.MethodName)) ∈ lw_tbl := tb_in (List.mem_of_getElem? (i := 941) (by decide +kernel))
theorem tw_945 : (Jvm.Cond.methodLink "SuetTroublesModel" (129 : Nat) ({ cls := "SuetTroublesModel", name := "readsClause", desc := "()Z" } : Jvm.MethodName)) ∈ lw_tbl := tb_in (List.mem_of_getElem? (i := 945) (by decide +kernel))
theorem tw_949 : (Jvm.Cond.methodLink "SuetTroublesModel" (119 : Nat) ({ cls := "SuetTroublesModel", name := "readsHead", desc := "()Z" } : Jvm.MethodName)) ∈ lw_tbl := tb_in (List.mem_of_getElem? (i := 949) (by decide +kernel))
theorem tw_953 : (Jvm.Cond.methodLink "SuetTroublesModel" (100 : Nat) ({ cls := "SuetTroublesModel", name := "readsNumber", desc := "(II)I" } : Jvm.MethodName)) ∈ lw_tbl := tb_in (List.mem_of_getElem? (i := 953) (by decide +kernel))
theorem tw_957 : (Jvm.Cond.methodLink "SuetTroublesModel" (93 : Nat) ({ cls := "SuetTroublesModel", name := "fails", desc := "(II)I" } : Jvm.MethodName)) ∈ lw_tbl := tb_in (List.mem_of_getElem? (i := 957) (by decide +kernel))
theorem tw_961 : (Jvm.Cond.methodLink "SuetTroublesModel" (109 : Nat) ({ cls := "SuetTroublesModel", name := "readsSign", desc := "(I)Z" } : Jvm.MethodName)) ∈ lw_tbl := tb_in (List.mem_of_getElem? (i := 961) (by decide +kernel))
theorem tw_965 : (Jvm.Cond.methodLink "SuetTroublesModel" (123 : Nat) ({ cls := "SuetTroublesModel", name := "readsTrouble", desc := "()Z" } : Jvm.MethodName)) ∈ lw_tbl := tb_in (List.mem_of_getElem? (i := 965) (by decide +kernel))
theorem tw_969 : (Jvm.Cond.methodLink "SuetTroublesModel" (126 : Nat) ({ cls := "SuetTroublesModel", name := "readsEater", desc := "()Z" } : Jvm.MethodName)) ∈ lw_tbl := tb_in (List.mem_of_getElem? (i := 969) (by decide +kernel))
theorem tw_973 : (Jvm.Cond.methodLink "SuetTroublesLaw" (26 : Nat) ({ cls := "SuetTroublesModel", name := "fault", desc := "()I" } : Jvm.MethodName)) ∈ lw_tbl := tb_in (List.mem_of_getElem? (i := 973) (by decide +kernel))
theorem tw_977 : (Jvm.Cond.methodLink "SuetTroublesLaw" (30 : Nat) ({ cls := "SuetTroublesModel", name := "told", desc := "(I)I" } : Jvm.MethodName)) ∈ lw_tbl := tb_in (List.mem_of_getElem? (i := 977) (by decide +kernel))
theorem tw_981 : (Jvm.Cond.methodLink "SuetTroublesModel" (171 : Nat) ({ cls := "SuetTroublesModel", name := "are", desc := "(I)I" } : Jvm.MethodName)) ∈ lw_tbl := tb_in (List.mem_of_getElem? (i := 981) (by decide +kernel))
theorem tw_985 : (Jvm.Cond.methodLink "SuetTroublesModel" (174 : Nat) ({ cls := "SuetTroublesModel", name := "good", desc := "()I" } : Jvm.MethodName)) ∈ lw_tbl := tb_in (List.mem_of_getElem? (i := 985) (by decide +kernel))
theorem tw_989 : (Jvm.Cond.methodLink "SuetTroublesModel" (156 : Nat) ({ cls := "SuetTroublesModel", name := "isGood", desc := "(I)Z" } : Jvm.MethodName)) ∈ lw_tbl := tb_in (List.mem_of_getElem? (i := 989) (by decide +kernel))
theorem tw_993 : (Jvm.Cond.methodLink "SuetTroublesModel" (168 : Nat) ({ cls := "SuetTroublesModel", name := "leftAll", desc := "()I" } : Jvm.MethodName)) ∈ lw_tbl := tb_in (List.mem_of_getElem? (i := 993) (by decide +kernel))
theorem tw_997 : (Jvm.Cond.methodLink "SuetTroublesModel" (159 : Nat) ({ cls := "SuetTroublesModel", name := "left", desc := "(I)I" } : Jvm.MethodName)) ∈ lw_tbl := tb_in (List.mem_of_getElem? (i := 997) (by decide +kernel))
theorem tw_1001 : (Jvm.Cond.methodLink "SuetTroublesModel" (177 : Nat) ({ cls := "SuetTroublesModel", name := "strongest", desc := "()I" } : Jvm.MethodName)) ∈ lw_tbl := tb_in (List.mem_of_getElem? (i := 1001) (by decide +kernel))
theorem tw_1005 : (Jvm.Cond.methodLink "SuetTroublesModel" (180 : Nat) ({ cls := "SuetTroublesModel", name := "within", desc := "()I" } : Jvm.MethodName)) ∈ lw_tbl := tb_in (List.mem_of_getElem? (i := 1005) (by decide +kernel))
theorem tw_1009 : (Jvm.Cond.methodLink "SuetTroublesModel" (321 : Nat) ({ cls := "SuetTroublesModel", name := "fit", desc := "(I)I" } : Jvm.MethodName)) ∈ lw_tbl := tb_in (List.mem_of_getElem? (i := 1009) (by decide +kernel))
theorem tw_1013 : (Jvm.Cond.methodLink "SuetTroublesModel" (317 : Nat) ({ cls := "SuetTroublesModel", name := "moved", desc := "(III)I" } : Jvm.MethodName)) ∈ lw_tbl := tb_in (List.mem_of_getElem? (i := 1013) (by decide +kernel))
theorem tw_1016 : (Jvm.Cond.methodLink "SuetTroublesModel" (193 : Nat) ({ cls := "SuetTroublesModel", name := "has", desc := "(II)Z" } : Jvm.MethodName)) ∈ lw_tbl := tb_in (List.mem_of_getElem? (i := 1016) (by decide +kernel))
theorem tw_1019 : (Jvm.Cond.methodLink "SuetTroublesModel" (183 : Nat) ({ cls := "SuetTroublesModel", name := "fitMany", desc := "()I" } : Jvm.MethodName)) ∈ lw_tbl := tb_in (List.mem_of_getElem? (i := 1019) (by decide +kernel))
theorem tw_1023 : (Jvm.Cond.methodLink "SuetTroublesModel" (186 : Nat) ({ cls := "SuetTroublesModel", name := "weave", desc := "()I" } : Jvm.MethodName)) ∈ lw_tbl := tb_in (List.mem_of_getElem? (i := 1023) (by decide +kernel))
theorem tw_1027 : (Jvm.Cond.methodLink "SuetTroublesLaw" (35 : Nat) ({ cls := "SuetTroublesModel", name := "trouble", desc := "(II)I" } : Jvm.MethodName)) ∈ lw_tbl := tb_in (List.mem_of_getElem? (i := 1027) (by decide +kernel))
theorem tw_1031 : (Jvm.Cond.methodLink "SuetTroublesModel" (203 : Nat) ({ cls := "SuetTroublesModel", name := "isTrouble", desc := "(I)Z" } : Jvm.MethodName)) ∈ lw_tbl := tb_in (List.mem_of_getElem? (i := 1031) (by decide +kernel))
theorem tw_1035 : (Jvm.Cond.constant "SuetTroublesModel" (206 : Nat) (-1000000001 : Int32)) ∈ lw_tbl := tb_in (List.mem_of_getElem? (i := 1035) (by decide +kernel))
theorem tw_1036 : (Jvm.Cond.methodLink "SuetTroublesModel" (207 : Nat) ({ cls := "SuetTroublesModel", name := "parts", desc := "(IZ)I" } : Jvm.MethodName)) ∈ lw_tbl := tb_in (List.mem_of_getElem? (i := 1036) (by decide +kernel))
theorem tw_1039 : (Jvm.Cond.methodLink "SuetTroublesModel" (197 : Nat) ({ cls := "SuetTroublesModel", name := "partOf", desc := "(II)I" } : Jvm.MethodName)) ∈ lw_tbl := tb_in (List.mem_of_getElem? (i := 1039) (by decide +kernel))
theorem tw_1042 : (Jvm.Cond.methodLink "SuetTroublesModel" (190 : Nat) ({ cls := "SuetTroublesModel", name := "grown", desc := "(I)I" } : Jvm.MethodName)) ∈ lw_tbl := tb_in (List.mem_of_getElem? (i := 1042) (by decide +kernel))
theorem tw_1045 : (Jvm.Cond.constant "SuetTroublesModel" (189 : Nat) (33554431 : Int32)) ∈ lw_tbl := tb_in (List.mem_of_getElem? (i := 1045) (by decide +kernel))
theorem tw_1046 : (Jvm.Cond.methodLink "SuetTroublesModel" (162 : Nat) ({ cls := "SuetTroublesModel", name := "bits", desc := "(I)I" } : Jvm.MethodName)) ∈ lw_tbl := tb_in (List.mem_of_getElem? (i := 1046) (by decide +kernel))
theorem tw_1049 : (Jvm.Cond.methodLink "SuetTroublesModel" (211 : Nat) ({ cls := "SuetTroublesModel", name := "edge", desc := "(I)I" } : Jvm.MethodName)) ∈ lw_tbl := tb_in (List.mem_of_getElem? (i := 1049) (by decide +kernel))
theorem tw_1052 : (Jvm.Cond.methodLink "SuetTroublesModel" (200 : Nat) ({ cls := "SuetTroublesModel", name := "edgeOf", desc := "(II)I" } : Jvm.MethodName)) ∈ lw_tbl := tb_in (List.mem_of_getElem? (i := 1052) (by decide +kernel))
theorem tw_1055 : (Jvm.Cond.methodLink "SuetTroublesModel" (214 : Nat) ({ cls := "SuetTroublesModel", name := "hold", desc := "(I)I" } : Jvm.MethodName)) ∈ lw_tbl := tb_in (List.mem_of_getElem? (i := 1055) (by decide +kernel))
theorem tw_1058 : (Jvm.Cond.methodLink "SuetTroublesModel" (217 : Nat) ({ cls := "SuetTroublesModel", name := "isBearable", desc := "(I)Z" } : Jvm.MethodName)) ∈ lw_tbl := tb_in (List.mem_of_getElem? (i := 1058) (by decide +kernel))
theorem tw_1062 : (Jvm.Cond.methodLink "SuetTroublesModel" (165 : Nat) ({ cls := "SuetTroublesModel", name := "weight", desc := "(I)I" } : Jvm.MethodName)) ∈ lw_tbl := tb_in (List.mem_of_getElem? (i := 1062) (by decide +kernel))
theorem tw_1066 : (Jvm.Cond.methodLink "SuetTroublesLaw" (39 : Nat) ({ cls := "SuetTroublesModel", name := "eater", desc := "(II)I" } : Jvm.MethodName)) ∈ lw_tbl := tb_in (List.mem_of_getElem? (i := 1066) (by decide +kernel))
theorem tw_1070 : (Jvm.Cond.methodLink "SuetTroublesModel" (220 : Nat) ({ cls := "SuetTroublesModel", name := "isEater", desc := "(I)Z" } : Jvm.MethodName)) ∈ lw_tbl := tb_in (List.mem_of_getElem? (i := 1070) (by decide +kernel))
theorem tw_1074 : (Jvm.Cond.methodLink "SuetTroublesLaw" (43 : Nat) ({ cls := "SuetTroublesModel", name := "wrap", desc := "(I)I" } : Jvm.MethodName)) ∈ lw_tbl := tb_in (List.mem_of_getElem? (i := 1074) (by decide +kernel))
theorem tw_1078 : (Jvm.Cond.constant "SuetTroublesModel" (233 : Nat) (-1000000003 : Int32)) ∈ lw_tbl := tb_in (List.mem_of_getElem? (i := 1078) (by decide +kernel))
theorem tw_1079 : (Jvm.Cond.methodLink "SuetTroublesModel" (234 : Nat) ({ cls := "SuetTroublesModel", name := "remember", desc := "()V" } : Jvm.MethodName)) ∈ lw_tbl := tb_in (List.mem_of_getElem? (i := 1079) (by decide +kernel))
theorem tw_1083 : (Jvm.Cond.methodLink "SuetTroublesModel" (237 : Nat) ({ cls := "SuetTroublesModel", name := "wraps", desc := "(I)I" } : Jvm.MethodName)) ∈ lw_tbl := tb_in (List.mem_of_getElem? (i := 1083) (by decide +kernel))
theorem tw_1087 : (Jvm.Cond.methodLink "SuetTroublesModel" (229 : Nat) ({ cls := "SuetTroublesModel", name := "sheetsFor", desc := "(I)I" } : Jvm.MethodName)) ∈ lw_tbl := tb_in (List.mem_of_getElem? (i := 1087) (by decide +kernel))
theorem tw_1091 : (Jvm.Cond.methodLink "SuetTroublesModel" (226 : Nat) ({ cls := "SuetTroublesModel", name := "fewestSheets", desc := "(IZ)I" } : Jvm.MethodName)) ∈ lw_tbl := tb_in (List.mem_of_getElem? (i := 1091) (by decide +kernel))
theorem tw_1095 : (Jvm.Cond.methodLink "SuetTroublesModel" (287 : Nat) ({ cls := "SuetTroublesModel", name := "sheet", desc := "(I)I" } : Jvm.MethodName)) ∈ lw_tbl := tb_in (List.mem_of_getElem? (i := 1095) (by decide +kernel))
theorem tw_1098 : (Jvm.Cond.constant "SuetTroublesModel" (290 : Nat) (65536 : Int32)) ∈ lw_tbl := tb_in (List.mem_of_getElem? (i := 1098) (by decide +kernel))
theorem tw_1099 : (Jvm.Cond.constant "SuetTroublesModel" (232 : Nat) (999999 : Int32)) ∈ lw_tbl := tb_in (List.mem_of_getElem? (i := 1099) (by decide +kernel))
theorem tw_1100 : (Jvm.Cond.methodLink "SuetTroublesLaw" (47 : Nat) ({ cls := "SuetTroublesModel", name := "putOn", desc := "(I)I" } : Jvm.MethodName)) ∈ lw_tbl := tb_in (List.mem_of_getElem? (i := 1100) (by decide +kernel))
theorem tw_1104 : (Jvm.Cond.methodLink "SuetTroublesModel" (240 : Nat) ({ cls := "SuetTroublesModel", name := "potsFree", desc := "()I" } : Jvm.MethodName)) ∈ lw_tbl := tb_in (List.mem_of_getElem? (i := 1104) (by decide +kernel))
theorem tw_1108 : (Jvm.Cond.methodLink "SuetTroublesLaw" (51 : Nat) ({ cls := "SuetTroublesModel", name := "takeOff", desc := "(I)I" } : Jvm.MethodName)) ∈ lw_tbl := tb_in (List.mem_of_getElem? (i := 1108) (by decide +kernel))
theorem tw_1112 : (Jvm.Cond.methodLink "SuetTroublesLaw" (55 : Nat) ({ cls := "SuetTroublesModel", name := "hour", desc := "(I)I" } : Jvm.MethodName)) ∈ lw_tbl := tb_in (List.mem_of_getElem? (i := 1112) (by decide +kernel))
theorem tw_1116 : (Jvm.Cond.methodLink "SuetTroublesModel" (252 : Nat) ({ cls := "SuetTroublesModel", name := "needHours", desc := "(I)I" } : Jvm.MethodName)) ∈ lw_tbl := tb_in (List.mem_of_getElem? (i := 1116) (by decide +kernel))
theorem tw_1120 : (Jvm.Cond.methodLink "SuetTroublesModel" (249 : Nat) ({ cls := "SuetTroublesModel", name := "isKitchen", desc := "()Z" } : Jvm.MethodName)) ∈ lw_tbl := tb_in (List.mem_of_getElem? (i := 1120) (by decide +kernel))
theorem tw_1124 : (Jvm.Cond.methodLink "SuetTroublesModel" (255 : Nat) ({ cls := "SuetTroublesModel", name := "passes", desc := "()V" } : Jvm.MethodName)) ∈ lw_tbl := tb_in (List.mem_of_getElem? (i := 1124) (by decide +kernel))
theorem tw_1128 : (Jvm.Cond.methodLink "SuetTroublesModel" (243 : Nat) ({ cls := "SuetTroublesModel", name := "softens", desc := "(II)I" } : Jvm.MethodName)) ∈ lw_tbl := tb_in (List.mem_of_getElem? (i := 1128) (by decide +kernel))
theorem tw_1132 : (Jvm.Cond.methodLink "SuetTroublesModel" (246 : Nat) ({ cls := "SuetTroublesModel", name := "less", desc := "(II)I" } : Jvm.MethodName)) ∈ lw_tbl := tb_in (List.mem_of_getElem? (i := 1132) (by decide +kernel))
theorem tw_1135 : (Jvm.Cond.methodLink "SuetTroublesLaw" (59 : Nat) ({ cls := "SuetTroublesModel", name := "bear", desc := "(I)I" } : Jvm.MethodName)) ∈ lw_tbl := tb_in (List.mem_of_getElem? (i := 1135) (by decide +kernel))
theorem tw_1139 : (Jvm.Cond.methodLink "SuetTroublesModel" (258 : Nat) ({ cls := "SuetTroublesModel", name := "canBeBorne", desc := "(I)Z" } : Jvm.MethodName)) ∈ lw_tbl := tb_in (List.mem_of_getElem? (i := 1139) (by decide +kernel))
theorem tw_1143 : (Jvm.Cond.methodLink "SuetTroublesModel" (261 : Nat) ({ cls := "SuetTroublesModel", name := "bears", desc := "(I)V" } : Jvm.MethodName)) ∈ lw_tbl := tb_in (List.mem_of_getElem? (i := 1143) (by decide +kernel))
theorem tw_1147 : (Jvm.Cond.methodLink "SuetTroublesLaw" (63 : Nat) ({ cls := "SuetTroublesModel", name := "rest", desc := "()I" } : Jvm.MethodName)) ∈ lw_tbl := tb_in (List.mem_of_getElem? (i := 1147) (by decide +kernel))
theorem tw_1151 : (Jvm.Cond.methodLink "SuetTroublesModel" (265 : Nat) ({ cls := "SuetTroublesModel", name := "rests", desc := "()I" } : Jvm.MethodName)) ∈ lw_tbl := tb_in (List.mem_of_getElem? (i := 1151) (by decide +kernel))
theorem tw_1155 : (Jvm.Cond.methodLink "SuetTroublesLaw" (67 : Nat) ({ cls := "SuetTroublesModel", name := "cut", desc := "(II)I" } : Jvm.MethodName)) ∈ lw_tbl := tb_in (List.mem_of_getElem? (i := 1155) (by decide +kernel))
theorem tw_1159 : (Jvm.Cond.methodLink "SuetTroublesLaw" (71 : Nat) ({ cls := "SuetTroublesModel", name := "drift", desc := "(I)I" } : Jvm.MethodName)) ∈ lw_tbl := tb_in (List.mem_of_getElem? (i := 1159) (by decide +kernel))
theorem tw_1163 : (Jvm.Cond.methodLink "SuetTroublesModel" (280 : Nat) ({ cls := "SuetTroublesModel", name := "draw", desc := "(I)I" } : Jvm.MethodName)) ∈ lw_tbl := tb_in (List.mem_of_getElem? (i := 1163) (by decide +kernel))
theorem tw_1167 : (Jvm.Cond.constantLong "SuetTroublesModel" (272 : Nat) (1103515245 : Int64)) ∈ lw_tbl := tb_in (List.mem_of_getElem? (i := 1167) (by decide +kernel))
theorem tw_1168 : (Jvm.Cond.constantLong "SuetTroublesModel" (274 : Nat) (12345 : Int64)) ∈ lw_tbl := tb_in (List.mem_of_getElem? (i := 1168) (by decide +kernel))
theorem tw_1169 : (Jvm.Cond.constantLong "SuetTroublesModel" (276 : Nat) (2147483648 : Int64)) ∈ lw_tbl := tb_in (List.mem_of_getElem? (i := 1169) (by decide +kernel))
theorem tw_1170 : (Jvm.Cond.constantLong "SuetTroublesModel" (278 : Nat) (65536 : Int64)) ∈ lw_tbl := tb_in (List.mem_of_getElem? (i := 1170) (by decide +kernel))
theorem tw_1171 : (Jvm.Cond.methodLink "SuetTroublesModel" (283 : Nat) ({ cls := "SuetTroublesModel", name := "does", desc := "(II)V" } : Jvm.MethodName)) ∈ lw_tbl := tb_in (List.mem_of_getElem? (i := 1171) (by decide +kernel))
theorem tw_1175 : (Jvm.Cond.methodLink "SuetTroublesLaw" (75 : Nat) ({ cls := "SuetTroublesModel", name := "undo", desc := "()I" } : Jvm.MethodName)) ∈ lw_tbl := tb_in (List.mem_of_getElem? (i := 1175) (by decide +kernel))
theorem tw_1179 : (Jvm.Cond.methodLink "SuetTroublesLaw" (79 : Nat) ({ cls := "SuetTroublesModel", name := "toWrap", desc := "(II)I" } : Jvm.MethodName)) ∈ lw_tbl := tb_in (List.mem_of_getElem? (i := 1179) (by decide +kernel))
theorem tw_1183 : (Jvm.Cond.methodLink "SuetTroublesModel" (294 : Nat) ({ cls := "SuetTroublesModel", name := "sideOf", desc := "(I)I" } : Jvm.MethodName)) ∈ lw_tbl := tb_in (List.mem_of_getElem? (i := 1183) (by decide +kernel))
theorem tw_1186 : (Jvm.Cond.methodLink "SuetTroublesModel" (291 : Nat) ({ cls := "SuetTroublesModel", name := "span", desc := "(I)I" } : Jvm.MethodName)) ∈ lw_tbl := tb_in (List.mem_of_getElem? (i := 1186) (by decide +kernel))
theorem tw_1189 : (Jvm.Cond.methodLink "SuetTroublesLaw" (83 : Nat) ({ cls := "SuetTroublesModel", name := "soft", desc := "(II)I" } : Jvm.MethodName)) ∈ lw_tbl := tb_in (List.mem_of_getElem? (i := 1189) (by decide +kernel))
theorem tw_1193 : (Jvm.Cond.methodLink "SuetTroublesModel" (297 : Nat) ({ cls := "SuetTroublesModel", name := "softBehind", desc := "(II)I" } : Jvm.MethodName)) ∈ lw_tbl := tb_in (List.mem_of_getElem? (i := 1193) (by decide +kernel))
theorem tw_1197 : (Jvm.Cond.methodLink "SuetTroublesLaw" (87 : Nat) ({ cls := "SuetTroublesModel", name := "when", desc := "(I)I" } : Jvm.MethodName)) ∈ lw_tbl := tb_in (List.mem_of_getElem? (i := 1197) (by decide +kernel))
theorem tw_1201 : (Jvm.Cond.methodLink "SuetTroublesModel" (300 : Nat) ({ cls := "SuetTroublesModel", name := "softIn", desc := "(II)I" } : Jvm.MethodName)) ∈ lw_tbl := tb_in (List.mem_of_getElem? (i := 1201) (by decide +kernel))
theorem tw_1205 : (Jvm.Cond.methodLink "SuetTroublesLaw" (91 : Nat) ({ cls := "SuetTroublesModel", name := "order", desc := "(II)I" } : Jvm.MethodName)) ∈ lw_tbl := tb_in (List.mem_of_getElem? (i := 1205) (by decide +kernel))
theorem tw_1209 : (Jvm.Cond.constant "SuetTroublesModel" (303 : Nat) (1000000000 : Int32)) ∈ lw_tbl := tb_in (List.mem_of_getElem? (i := 1209) (by decide +kernel))
theorem tw_1210 : (Jvm.Cond.methodLink "SuetTroublesModel" (304 : Nat) ({ cls := "SuetTroublesModel", name := "sumOf", desc := "(II)I" } : Jvm.MethodName)) ∈ lw_tbl := tb_in (List.mem_of_getElem? (i := 1210) (by decide +kernel))
theorem tw_1214 : (Jvm.Cond.methodLink "SuetTroublesModel" (307 : Nat) ({ cls := "SuetTroublesModel", name := "nextFigures", desc := "(II)I" } : Jvm.MethodName)) ∈ lw_tbl := tb_in (List.mem_of_getElem? (i := 1214) (by decide +kernel))
theorem tw_1217 : (Jvm.Cond.methodLink "SuetTroublesLaw" (95 : Nat) ({ cls := "SuetTroublesModel", name := "halves", desc := "(II)I" } : Jvm.MethodName)) ∈ lw_tbl := tb_in (List.mem_of_getElem? (i := 1217) (by decide +kernel))
theorem tw_1221 : (Jvm.Cond.methodLink "SuetTroublesModel" (310 : Nat) ({ cls := "SuetTroublesModel", name := "ahead", desc := "(II)I" } : Jvm.MethodName)) ∈ lw_tbl := tb_in (List.mem_of_getElem? (i := 1221) (by decide +kernel))
theorem tw_1224 : (Jvm.Cond.methodLink "SuetTroublesLaw" (99 : Nat) ({ cls := "SuetTroublesModel", name := "mild", desc := "(II)I" } : Jvm.MethodName)) ∈ lw_tbl := tb_in (List.mem_of_getElem? (i := 1224) (by decide +kernel))
theorem tw_1228 : (Jvm.Cond.constantLong "SuetTroublesModel" (313 : Nat) (1000000000 : Int64)) ∈ lw_tbl := tb_in (List.mem_of_getElem? (i := 1228) (by decide +kernel))
theorem tw_1229 : (Jvm.Cond.constantLong "SuetTroublesModel" (315 : Nat) (100 : Int64)) ∈ lw_tbl := tb_in (List.mem_of_getElem? (i := 1229) (by decide +kernel))
theorem tw_1230 : (Jvm.Cond.methodLink "SuetTroublesLaw" (104 : Nat) ({ cls := "SuetTroublesModel", name := "bump", desc := "(IZ)I" } : Jvm.MethodName)) ∈ lw_tbl := tb_in (List.mem_of_getElem? (i := 1230) (by decide +kernel))
theorem tw_1234 : (Jvm.Cond.methodLink "SuetTroublesLaw" (108 : Nat) ({ cls := "SuetTroublesModel", name := "write", desc := "(II)I" } : Jvm.MethodName)) ∈ lw_tbl := tb_in (List.mem_of_getElem? (i := 1234) (by decide +kernel))
theorem tw_1238 : (Jvm.Cond.methodLink "SuetTroublesLaw" (112 : Nat) ({ cls := "SuetTroublesModel", name := "tear", desc := "()I" } : Jvm.MethodName)) ∈ lw_tbl := tb_in (List.mem_of_getElem? (i := 1238) (by decide +kernel))
theorem tw_1242 : (Jvm.Cond.methodLink "SuetTroublesLaw" (116 : Nat) ({ cls := "SuetTroublesModel", name := "judge", desc := "()I" } : Jvm.MethodName)) ∈ lw_tbl := tb_in (List.mem_of_getElem? (i := 1242) (by decide +kernel))
theorem tw_1246 : (Jvm.Cond.methodLink "SuetTroublesLaw" (120 : Nat) ({ cls := "SuetTroublesModel", name := "seed", desc := "(I)I" } : Jvm.MethodName)) ∈ lw_tbl := tb_in (List.mem_of_getElem? (i := 1246) (by decide +kernel))
theorem tw_1250 : (Jvm.Cond.methodLink "SuetTroublesLaw" (124 : Nat) ({ cls := "SuetTroublesModel", name := "keep", desc := "(I)I" } : Jvm.MethodName)) ∈ lw_tbl := tb_in (List.mem_of_getElem? (i := 1250) (by decide +kernel))
theorem tw_1254 : (Jvm.Cond.methodLink "SuetTroublesLaw" (128 : Nat) ({ cls := "SuetTroublesModel", name := "goBack", desc := "(I)I" } : Jvm.MethodName)) ∈ lw_tbl := tb_in (List.mem_of_getElem? (i := 1254) (by decide +kernel))
theorem tw_nat : Cond.native arraycopyName ∈ lw_tbl := tb_in (List.mem_of_getElem? (i := 403) (by decide +kernel))
theorem tw_stat : Cond.static arraycopyName ∈ lw_tbl := tb_in (List.mem_of_getElem? (i := 402) (by decide +kernel))
theorem tw_ini : Cond.initialized "java/lang/System" ∈ lw_tbl := tb_in (List.mem_of_getElem? (i := 14) (by decide +kernel))
abbrev M_X0_init : zMI := (yX0_init, cX0_init, 1, none)
abbrev M_X0_add : zMI := (yX0_add, cX0_add, 3, (some .int))
abbrev M_X0_clear : zMI := (yX0_clear, cX0_clear, 1, none)
abbrev M_X0_firstWrong : zMI := (yX0_firstWrong, cX0_firstWrong, 3, (some .int))
abbrev M_X1_init : zMI := (yX1_init, cX1_init, 1, none)
abbrev M_X1_add : zMI := (yX1_add, cX1_add, 3, (some .int))
abbrev M_X1_clear : zMI := (yX1_clear, cX1_clear, 1, none)
abbrev M_X1_within : zMI := (yX1_within, cX1_within, 3, (some .int))
abbrev M_X1_pairs : zMI := (yX1_pairs, cX1_pairs, 3, (some .int))
abbrev M_X1_weave : zMI := (yX1_weave, cX1_weave, 7, (some .int))
abbrev M_X1_feelAll : zMI := (yX1_feelAll, cX1_feelAll, 5, none)
abbrev M_X1_feelMoves : zMI := (yX1_feelMoves, cX1_feelMoves, 7, none)
abbrev M_X1_countPair : zMI := (yX1_countPair, cX1_countPair, 3, none)
abbrev M_X2_init : zMI := (yX2_init, cX2_init, 1, none)
abbrev M_X2_allThatAre : zMI := (yX2_allThatAre, cX2_allThatAre, 4, (some .int))
abbrev M_X2_isGood : zMI := (yX2_isGood, cX2_isGood, 2, (some .boolean))
abbrev M_X2_allGood : zMI := (yX2_allGood, cX2_allGood, 3, (some .int))
abbrev M_X2_canBeWrapped : zMI := (yX2_canBeWrapped, cX2_canBeWrapped, 2, (some .boolean))
abbrev M_X2_putInSuet : zMI := (yX2_putInSuet, cX2_putInSuet, 3, (some .int))
abbrev M_X2_freePots : zMI := (yX2_freePots, cX2_freePots, 1, (some .int))
abbrev M_X2_leftOf : zMI := (yX2_leftOf, cX2_leftOf, 2, (some .int))
abbrev M_X2_leftTogether : zMI := (yX2_leftTogether, cX2_leftTogether, 3, (some .int))
abbrev M_X2_strongest : zMI := (yX2_strongest, cX2_strongest, 3, (some .int))
abbrev M_X2_weight : zMI := (yX2_weight, cX2_weight, 2, (some .int))
abbrev M_X2_isBearable : zMI := (yX2_isBearable, cX2_isBearable, 2, (some .boolean))
abbrev M_X2_canBeBorne : zMI := (yX2_canBeBorne, cX2_canBeBorne, 2, (some .boolean))
abbrev M_X2_shareOut : zMI := (yX2_shareOut, cX2_shareOut, 5, none)
abbrev M_X2_unload : zMI := (yX2_unload, cX2_unload, 3, (some .int))
abbrev M_X2_softenedBy : zMI := (yX2_softenedBy, cX2_softenedBy, 2, (some .int))
abbrev M_X2_hardBehind : zMI := (yX2_hardBehind, cX2_hardBehind, 4, (some .int))
abbrev M_X2_hoursTillGood : zMI := (yX2_hoursTillGood, cX2_hoursTillGood, 6, (some .int))
abbrev M_X2_boil : zMI := (yX2_boil, cX2_boil, 2, none)
abbrev M_X2_actByDraws : zMI := (yX2_actByDraws, cX2_actByDraws, 3, none)
abbrev M_X3_init : zMI := (yX3_init, cX3_init, 1, none)
abbrev M_X3_draw : zMI := (yX3_draw, cX3_draw, 2, (some .int))
abbrev M_X4_init : zMI := (yX4_init, cX4_init, 1, none)
abbrev M_X4_find : zMI := (yX4_find, cX4_find, 5, none)
abbrev M_X4_tryNext : zMI := (yX4_tryNext, cX4_tryNext, 8, none)
abbrev M_X5_init : zMI := (yX5_init, cX5_init, 2, none)
abbrev M_X5_remember : zMI := (yX5_remember, cX5_remember, 2, none)
abbrev M_X5_stepBack : zMI := (yX5_stepBack, cX5_stepBack, 2, none)
abbrev M_X5_keepImage : zMI := (yX5_keepImage, cX5_keepImage, 4, none)
abbrev M_X5_showImage : zMI := (yX5_showImage, cX5_showImage, 4, none)
abbrev M_X5_forgetAll : zMI := (yX5_forgetAll, cX5_forgetAll, 2, none)
abbrev M_X5_forgetUndone : zMI := (yX5_forgetUndone, cX5_forgetUndone, 1, none)
abbrev M_X6_init : zMI := (yX6_init, cX6_init, 1, none)
abbrev M_X6_isThere : zMI := (yX6_isThere, cX6_isThere, 1, (some .boolean))
abbrev M_X6_hasTrouble : zMI := (yX6_hasTrouble, cX6_hasTrouble, 2, (some .boolean))
abbrev M_X6_hasEater : zMI := (yX6_hasEater, cX6_hasEater, 2, (some .boolean))
abbrev M_X6_allTroubles : zMI := (yX6_allTroubles, cX6_allTroubles, 1, (some .int))
abbrev M_X6_clear : zMI := (yX6_clear, cX6_clear, 1, none)
abbrev M_X6_addTrouble : zMI := (yX6_addTrouble, cX6_addTrouble, 4, none)
abbrev M_X6_addEater : zMI := (yX6_addEater, cX6_addEater, 2, none)
abbrev M_X6_become : zMI := (yX6_become, cX6_become, 2, none)
abbrev M_X7_init : zMI := (yX7_init, cX7_init, 1, none)
abbrev M_X7_add : zMI := (yX7_add, cX7_add, 2, (some .int))
abbrev M_X7_read : zMI := (yX7_read, cX7_read, 3, (some .int))
abbrev M_X7_readClause : zMI := (yX7_readClause, cX7_readClause, 3, none)
abbrev M_X7_readFire : zMI := (yX7_readFire, cX7_readFire, 4, none)
abbrev M_X7_readTrouble : zMI := (yX7_readTrouble, cX7_readTrouble, 6, none)
abbrev M_X7_readEater : zMI := (yX7_readEater, cX7_readEater, 3, none)
abbrev M_X7_readNumber : zMI := (yX7_readNumber, cX7_readNumber, 6, (some .int))
abbrev M_X7_readSign : zMI := (yX7_readSign, cX7_readSign, 2, none)
abbrev M_X7_skipBlanks : zMI := (yX7_skipBlanks, cX7_skipBlanks, 2, none)
abbrev M_X7_here : zMI := (yX7_here, cX7_here, 1, (some .int))
abbrev M_X7_isFigure : zMI := (yX7_isFigure, cX7_isFigure, 1, (some .boolean))
abbrev M_X7_blame : zMI := (yX7_blame, cX7_blame, 3, none)
abbrev M_X8_init : zMI := (yX8_init, cX8_init, 1, none)
abbrev M_X8_begin : zMI := (yX8_begin, cX8_begin, 3, none)
abbrev M_X8_become : zMI := (yX8_become, cX8_become, 2, none)
abbrev M_X9_has : zMI := (yX9_has, cX9_has, 2, (some .boolean))
abbrev M_X9_besideIt : zMI := (yX9_besideIt, cX9_besideIt, 2, (some .int))
abbrev M_X9_partFrom : zMI := (yX9_partFrom, cX9_partFrom, 6, (some .int))
abbrev M_X9_parts : zMI := (yX9_parts, cX9_parts, 4, (some .int))
abbrev M_X9_greatestPart : zMI := (yX9_greatestPart, cX9_greatestPart, 5, (some .int))
abbrev M_X9_edge : zMI := (yX9_edge, cX9_edge, 3, (some .int))
abbrev M_X9_hold : zMI := (yX9_hold, cX9_hold, 3, (some .int))
abbrev M_X9_openSides : zMI := (yX9_openSides, cX9_openSides, 4, (some .int))
abbrev M_X9_rowOf : zMI := (yX9_rowOf, cX9_rowOf, 2, (some .int))
abbrev M_X9_columnsUsed : zMI := (yX9_columnsUsed, cX9_columnsUsed, 3, (some .int))
abbrev M_X9_rowsUsed : zMI := (yX9_rowsUsed, cX9_rowsUsed, 3, (some .int))
abbrev M_X9_firstOf : zMI := (yX9_firstOf, cX9_firstOf, 2, (some .int))
abbrev M_X9_lastOf : zMI := (yX9_lastOf, cX9_lastOf, 2, (some .int))
abbrev M_X9_squareSide : zMI := (yX9_squareSide, cX9_squareSide, 3, (some .int))
abbrev M_X9_movesDown : zMI := (yX9_movesDown, cX9_movesDown, 1, (some .int))
abbrev M_X9_movesRight : zMI := (yX9_movesRight, cX9_movesRight, 1, (some .int))
abbrev M_X9_greaterHalf : zMI := (yX9_greaterHalf, cX9_greaterHalf, 4, (some .int))
abbrev M_X9_halvingLine : zMI := (yX9_halvingLine, cX9_halvingLine, 4, (some .int))
abbrev M_X10_init : zMI := (yX10_init, cX10_init, 1, none)
abbrev M_X10_fewest : zMI := (yX10_fewest, cX10_fewest, 5, (some .int))
abbrev M_X10_addRow : zMI := (yX10_addRow, cX10_addRow, 6, none)
abbrev M_X10_covered : zMI := (yX10_covered, cX10_covered, 1, (some .int))
abbrev M_X10_first : zMI := (yX10_first, cX10_first, 7, (some .int))
abbrev M_X11_init : zMI := (yX11_init, cX11_init, 1, none)
abbrev M_X11_feed : zMI := (yX11_feed, cX11_feed, 2, (some .int))
abbrev M_X11_kitchen : zMI := (yX11_kitchen, cX11_kitchen, 2, (some .int))
abbrev M_X11_fault : zMI := (yX11_fault, cX11_fault, 1, (some .int))
abbrev M_X11_told : zMI := (yX11_told, cX11_told, 2, (some .int))
abbrev M_X11_trouble : zMI := (yX11_trouble, cX11_trouble, 4, (some .int))
abbrev M_X11_eater : zMI := (yX11_eater, cX11_eater, 3, (some .int))
abbrev M_X11_wrap : zMI := (yX11_wrap, cX11_wrap, 2, (some .int))
abbrev M_X11_putOn : zMI := (yX11_putOn, cX11_putOn, 2, (some .int))
abbrev M_X11_takeOff : zMI := (yX11_takeOff, cX11_takeOff, 2, (some .int))
abbrev M_X11_hour : zMI := (yX11_hour, cX11_hour, 4, (some .int))
abbrev M_X11_bear : zMI := (yX11_bear, cX11_bear, 2, (some .int))
abbrev M_X11_rest : zMI := (yX11_rest, cX11_rest, 1, (some .int))
abbrev M_X11_cut : zMI := (yX11_cut, cX11_cut, 3, (some .int))
abbrev M_X11_drift : zMI := (yX11_drift, cX11_drift, 4, (some .int))
abbrev M_X11_undo : zMI := (yX11_undo, cX11_undo, 1, (some .int))
abbrev M_X11_refusalOfHours : zMI := (yX11_refusalOfHours, cX11_refusalOfHours, 2, (some .int))
abbrev M_X11_toWrap : zMI := (yX11_toWrap, cX11_toWrap, 4, (some .int))
abbrev M_X11_soft : zMI := (yX11_soft, cX11_soft, 3, (some .int))
abbrev M_X11_when : zMI := (yX11_when, cX11_when, 2, (some .int))
abbrev M_X11_order : zMI := (yX11_order, cX11_order, 3, (some .int))
abbrev M_X11_halves : zMI := (yX11_halves, cX11_halves, 5, (some .int))
abbrev M_X11_mild : zMI := (yX11_mild, cX11_mild, 6, (some .int))
abbrev M_X11_bump : zMI := (yX11_bump, cX11_bump, 3, (some .int))
abbrev M_X11_write : zMI := (yX11_write, cX11_write, 3, (some .int))
abbrev M_X11_tear : zMI := (yX11_tear, cX11_tear, 2, (some .int))
abbrev M_X11_judge : zMI := (yX11_judge, cX11_judge, 1, (some .int))
abbrev M_X11_seed : zMI := (yX11_seed, cX11_seed, 3, (some .int))
abbrev M_X11_keep : zMI := (yX11_keep, cX11_keep, 2, (some .int))
abbrev M_X11_goBack : zMI := (yX11_goBack, cX11_goBack, 2, (some .int))
abbrev M_X12_init : zMI := (yX12_init, cX12_init, 1, none)
abbrev M_X12_in : zMI := (yX12_in, cX12_in, 3, (some .boolean))
abbrev M_X12_has : zMI := (yX12_has, cX12_has, 2, (some .boolean))
abbrev M_X12_bits : zMI := (yX12_bits, cX12_bits, 3, (some .int))
abbrev M_X12_feed : zMI := (yX12_feed, cX12_feed, 2, (some .int))
abbrev M_X12_letterAt : zMI := (yX12_letterAt, cX12_letterAt, 2, (some .int))
abbrev M_X12_nextLetter : zMI := (yX12_nextLetter, cX12_nextLetter, 1, (some .int))
abbrev M_X12_fails : zMI := (yX12_fails, cX12_fails, 3, (some .int))
abbrev M_X12_readsNumber : zMI := (yX12_readsNumber, cX12_readsNumber, 4, (some .int))
abbrev M_X12_readsSign : zMI := (yX12_readsSign, cX12_readsSign, 2, (some .boolean))
abbrev M_X12_readsHead : zMI := (yX12_readsHead, cX12_readsHead, 3, (some .boolean))
abbrev M_X12_readsTrouble : zMI := (yX12_readsTrouble, cX12_readsTrouble, 5, (some .boolean))
abbrev M_X12_readsEater : zMI := (yX12_readsEater, cX12_readsEater, 2, (some .boolean))
abbrev M_X12_readsClause : zMI := (yX12_readsClause, cX12_readsClause, 4, (some .boolean))
abbrev M_X12_readsKitchen : zMI := (yX12_readsKitchen, cX12_readsKitchen, 2, (some .boolean))
abbrev M_X12_kitchen : zMI := (yX12_kitchen, cX12_kitchen, 3, (some .int))
abbrev M_X12_fault : zMI := (yX12_fault, cX12_fault, 1, (some .int))
abbrev M_X12_isKitchen : zMI := (yX12_isKitchen, cX12_isKitchen, 1, (some .boolean))
abbrev M_X12_isTrouble : zMI := (yX12_isTrouble, cX12_isTrouble, 2, (some .boolean))
abbrev M_X12_isEater : zMI := (yX12_isEater, cX12_isEater, 2, (some .boolean))
abbrev M_X12_are : zMI := (yX12_are, cX12_are, 4, (some .int))
abbrev M_X12_isGood : zMI := (yX12_isGood, cX12_isGood, 2, (some .boolean))
abbrev M_X12_good : zMI := (yX12_good, cX12_good, 3, (some .int))
abbrev M_X12_left : zMI := (yX12_left, cX12_left, 2, (some .int))
abbrev M_X12_leftAll : zMI := (yX12_leftAll, cX12_leftAll, 3, (some .int))
abbrev M_X12_strongest : zMI := (yX12_strongest, cX12_strongest, 3, (some .int))
abbrev M_X12_weight : zMI := (yX12_weight, cX12_weight, 3, (some .int))
abbrev M_X12_isBearable : zMI := (yX12_isBearable, cX12_isBearable, 2, (some .boolean))
abbrev M_X12_told : zMI := (yX12_told, cX12_told, 2, (some .int))
abbrev M_X12_grown : zMI := (yX12_grown, cX12_grown, 3, (some .int))
abbrev M_X12_partOf : zMI := (yX12_partOf, cX12_partOf, 4, (some .int))
abbrev M_X12_parts : zMI := (yX12_parts, cX12_parts, 7, (some .int))
abbrev M_X12_edgeOf : zMI := (yX12_edgeOf, cX12_edgeOf, 3, (some .int))
abbrev M_X12_edge : zMI := (yX12_edge, cX12_edge, 3, (some .int))
abbrev M_X12_hold : zMI := (yX12_hold, cX12_hold, 3, (some .int))
abbrev M_X12_trouble : zMI := (yX12_trouble, cX12_trouble, 4, (some .int))
abbrev M_X12_eater : zMI := (yX12_eater, cX12_eater, 3, (some .int))
abbrev M_X12_remember : zMI := (yX12_remember, cX12_remember, 2, none)
abbrev M_X12_sheetsFor : zMI := (yX12_sheetsFor, cX12_sheetsFor, 2, (some .int))
abbrev M_X12_wraps : zMI := (yX12_wraps, cX12_wraps, 4, (some .int))
abbrev M_X12_wrap : zMI := (yX12_wrap, cX12_wrap, 2, (some .int))
abbrev M_X12_potsFree : zMI := (yX12_potsFree, cX12_potsFree, 1, (some .int))
abbrev M_X12_putOn : zMI := (yX12_putOn, cX12_putOn, 2, (some .int))
abbrev M_X12_takeOff : zMI := (yX12_takeOff, cX12_takeOff, 2, (some .int))
abbrev M_X12_softens : zMI := (yX12_softens, cX12_softens, 4, (some .int))
abbrev M_X12_less : zMI := (yX12_less, cX12_less, 2, (some .int))
abbrev M_X12_passes : zMI := (yX12_passes, cX12_passes, 2, none)
abbrev M_X12_needHours : zMI := (yX12_needHours, cX12_needHours, 2, (some .int))
abbrev M_X12_hour : zMI := (yX12_hour, cX12_hour, 4, (some .int))
abbrev M_X12_canBeBorne : zMI := (yX12_canBeBorne, cX12_canBeBorne, 2, (some .boolean))
abbrev M_X12_bears : zMI := (yX12_bears, cX12_bears, 3, none)
abbrev M_X12_bear : zMI := (yX12_bear, cX12_bear, 2, (some .int))
abbrev M_X12_rests : zMI := (yX12_rests, cX12_rests, 3, (some .int))
abbrev M_X12_rest : zMI := (yX12_rest, cX12_rest, 1, (some .int))
abbrev M_X12_cut : zMI := (yX12_cut, cX12_cut, 4, (some .int))
abbrev M_X12_draw : zMI := (yX12_draw, cX12_draw, 2, (some .int))
abbrev M_X12_does : zMI := (yX12_does, cX12_does, 4, none)
abbrev M_X12_drift : zMI := (yX12_drift, cX12_drift, 5, (some .int))
abbrev M_X12_undo : zMI := (yX12_undo, cX12_undo, 2, (some .int))
abbrev M_X12_sheet : zMI := (yX12_sheet, cX12_sheet, 2, (some .int))
abbrev M_X12_fewestSheets : zMI := (yX12_fewestSheets, cX12_fewestSheets, 10, (some .int))
abbrev M_X12_sideOf : zMI := (yX12_sideOf, cX12_sideOf, 5, (some .int))
abbrev M_X12_span : zMI := (yX12_span, cX12_span, 4, (some .int))
abbrev M_X12_toWrap : zMI := (yX12_toWrap, cX12_toWrap, 4, (some .int))
abbrev M_X12_softBehind : zMI := (yX12_softBehind, cX12_softBehind, 5, (some .int))
abbrev M_X12_soft : zMI := (yX12_soft, cX12_soft, 3, (some .int))
abbrev M_X12_softIn : zMI := (yX12_softIn, cX12_softIn, 5, (some .int))
abbrev M_X12_when : zMI := (yX12_when, cX12_when, 2, (some .int))
abbrev M_X12_sumOf : zMI := (yX12_sumOf, cX12_sumOf, 10, (some .int))
abbrev M_X12_nextFigures : zMI := (yX12_nextFigures, cX12_nextFigures, 4, (some .int))
abbrev M_X12_order : zMI := (yX12_order, cX12_order, 10, (some .int))
abbrev M_X12_ahead : zMI := (yX12_ahead, cX12_ahead, 5, (some .int))
abbrev M_X12_halves : zMI := (yX12_halves, cX12_halves, 10, (some .int))
abbrev M_X12_mild : zMI := (yX12_mild, cX12_mild, 6, (some .int))
abbrev M_X12_bump : zMI := (yX12_bump, cX12_bump, 3, (some .int))
abbrev M_X12_moved : zMI := (yX12_moved, cX12_moved, 8, (some .int))
abbrev M_X12_fit : zMI := (yX12_fit, cX12_fit, 6, (some .int))
abbrev M_X12_within : zMI := (yX12_within, cX12_within, 3, (some .int))
abbrev M_X12_fitMany : zMI := (yX12_fitMany, cX12_fitMany, 3, (some .int))
abbrev M_X12_weave : zMI := (yX12_weave, cX12_weave, 6, (some .int))
abbrev M_X12_write : zMI := (yX12_write, cX12_write, 3, (some .int))
abbrev M_X12_tear : zMI := (yX12_tear, cX12_tear, 2, (some .int))
abbrev M_X12_judge : zMI := (yX12_judge, cX12_judge, 2, (some .int))
abbrev M_X12_seed : zMI := (yX12_seed, cX12_seed, 3, (some .int))
abbrev M_X12_keep : zMI := (yX12_keep, cX12_keep, 3, (some .int))
abbrev M_X12_goBack : zMI := (yX12_goBack, cX12_goBack, 3, (some .int))
abbrev M_J6_bitCount_0f7a4 : zMI := (yJ6_bitCount_0f7a4, cJ6_bitCount_0f7a4, 1, (some .int))
abbrev M_J9_max_7cf53 : zMI := (yJ9_max_7cf53, cJ9_max_7cf53, 2, (some .int))
abbrev M_J9_min_7cf53 : zMI := (yJ9_min_7cf53, cJ9_min_7cf53, 2, (some .int))
theorem okm_X0_add : okM M_X0_add 2 := ⟨⟨by decide +kernel, by decide +kernel, by decide +kernel⟩, tb_in (List.mem_of_getElem? (i := 771) (by decide +kernel)), tb_in (List.mem_of_getElem? (i := 11) (by decide +kernel)), by decide⟩
theorem okv_X0_add : okV M_X0_add 2 0 := ⟨RX0, TX0, 3, okm_X0_add, rfl, tb_in (List.mem_of_getElem? (i := 769) (by decide +kernel)), tb_in (List.mem_of_getElem? (i := 770) (by decide +kernel)), rfl⟩
theorem okm_X0_clear : okM M_X0_clear 0 := ⟨⟨by decide +kernel, by decide +kernel, by decide +kernel⟩, tb_in (List.mem_of_getElem? (i := 424) (by decide +kernel)), tb_in (List.mem_of_getElem? (i := 11) (by decide +kernel)), by decide⟩
theorem okv_X0_clear : okV M_X0_clear 0 0 := ⟨RX0, TX0, 3, okm_X0_clear, rfl, tb_in (List.mem_of_getElem? (i := 422) (by decide +kernel)), tb_in (List.mem_of_getElem? (i := 423) (by decide +kernel)), rfl⟩
theorem okm_X0_firstWrong : okM M_X0_firstWrong 1 := ⟨⟨by decide +kernel, by decide +kernel, by decide +kernel⟩, tb_in (List.mem_of_getElem? (i := 783) (by decide +kernel)), tb_in (List.mem_of_getElem? (i := 11) (by decide +kernel)), by decide⟩
theorem okv_X0_firstWrong : okV M_X0_firstWrong 1 0 := ⟨RX0, TX0, 3, okm_X0_firstWrong, rfl, tb_in (List.mem_of_getElem? (i := 781) (by decide +kernel)), tb_in (List.mem_of_getElem? (i := 782) (by decide +kernel)), rfl⟩
theorem okm_X1_add : okM M_X1_add 2 := ⟨⟨by decide +kernel, by decide +kernel, by decide +kernel⟩, tb_in (List.mem_of_getElem? (i := 763) (by decide +kernel)), tb_in (List.mem_of_getElem? (i := 10) (by decide +kernel)), by decide⟩
theorem okv_X1_add : okV M_X1_add 2 1 := ⟨RX1, TX1, 6, okm_X1_add, rfl, tb_in (List.mem_of_getElem? (i := 761) (by decide +kernel)), tb_in (List.mem_of_getElem? (i := 762) (by decide +kernel)), rfl⟩
theorem okm_X1_clear : okM M_X1_clear 0 := ⟨⟨by decide +kernel, by decide +kernel, by decide +kernel⟩, tb_in (List.mem_of_getElem? (i := 420) (by decide +kernel)), tb_in (List.mem_of_getElem? (i := 10) (by decide +kernel)), by decide⟩
theorem okv_X1_clear : okV M_X1_clear 0 1 := ⟨RX1, TX1, 6, okm_X1_clear, rfl, tb_in (List.mem_of_getElem? (i := 418) (by decide +kernel)), tb_in (List.mem_of_getElem? (i := 419) (by decide +kernel)), rfl⟩
theorem okm_X1_within : okM M_X1_within 2 := ⟨⟨by decide +kernel, by decide +kernel, by decide +kernel⟩, tb_in (List.mem_of_getElem? (i := 460) (by decide +kernel)), tb_in (List.mem_of_getElem? (i := 10) (by decide +kernel)), by decide⟩
theorem okv_X1_within : okV M_X1_within 2 1 := ⟨RX1, TX1, 6, okm_X1_within, rfl, tb_in (List.mem_of_getElem? (i := 458) (by decide +kernel)), tb_in (List.mem_of_getElem? (i := 459) (by decide +kernel)), rfl⟩
theorem okm_X1_pairs : okM M_X1_pairs 2 := ⟨⟨by decide +kernel, by decide +kernel, by decide +kernel⟩, tb_in (List.mem_of_getElem? (i := 497) (by decide +kernel)), tb_in (List.mem_of_getElem? (i := 10) (by decide +kernel)), by decide⟩
theorem okv_X1_pairs : okV M_X1_pairs 2 1 := ⟨RX1, TX1, 6, okm_X1_pairs, rfl, tb_in (List.mem_of_getElem? (i := 495) (by decide +kernel)), tb_in (List.mem_of_getElem? (i := 496) (by decide +kernel)), rfl⟩
theorem okm_X1_weave : okM M_X1_weave 2 := ⟨⟨by decide +kernel, by decide +kernel, by decide +kernel⟩, tb_in (List.mem_of_getElem? (i := 501) (by decide +kernel)), tb_in (List.mem_of_getElem? (i := 10) (by decide +kernel)), by decide⟩
theorem okv_X1_weave : okV M_X1_weave 2 1 := ⟨RX1, TX1, 6, okm_X1_weave, rfl, tb_in (List.mem_of_getElem? (i := 499) (by decide +kernel)), tb_in (List.mem_of_getElem? (i := 500) (by decide +kernel)), rfl⟩
theorem okm_X1_feelAll : okM M_X1_feelAll 2 := ⟨⟨by decide +kernel, by decide +kernel, by decide +kernel⟩, tb_in (List.mem_of_getElem? (i := 464) (by decide +kernel)), tb_in (List.mem_of_getElem? (i := 10) (by decide +kernel)), by decide⟩
theorem okv_X1_feelAll : okV M_X1_feelAll 2 1 := ⟨RX1, TX1, 6, okm_X1_feelAll, rfl, tb_in (List.mem_of_getElem? (i := 463) (by decide +kernel)), List.mem_append_left _ (List.mem_of_getElem? (i := 10) (by decide +kernel)), rfl⟩
theorem okm_X1_feelMoves : okM M_X1_feelMoves 1 := ⟨⟨by decide +kernel, by decide +kernel, by decide +kernel⟩, tb_in (List.mem_of_getElem? (i := 468) (by decide +kernel)), tb_in (List.mem_of_getElem? (i := 10) (by decide +kernel)), by decide⟩
theorem okv_X1_feelMoves : okV M_X1_feelMoves 1 1 := ⟨RX1, TX1, 6, okm_X1_feelMoves, rfl, tb_in (List.mem_of_getElem? (i := 467) (by decide +kernel)), List.mem_append_left _ (List.mem_of_getElem? (i := 11) (by decide +kernel)), rfl⟩
theorem okm_X1_countPair : okM M_X1_countPair 1 := ⟨⟨by decide +kernel, by decide +kernel, by decide +kernel⟩, tb_in (List.mem_of_getElem? (i := 493) (by decide +kernel)), tb_in (List.mem_of_getElem? (i := 10) (by decide +kernel)), by decide⟩
theorem okv_X1_countPair : okV M_X1_countPair 1 1 := ⟨RX1, TX1, 6, okm_X1_countPair, rfl, tb_in (List.mem_of_getElem? (i := 492) (by decide +kernel)), List.mem_append_left _ (List.mem_of_getElem? (i := 12) (by decide +kernel)), rfl⟩
theorem okm_X2_allThatAre : okM M_X2_allThatAre 1 := ⟨⟨by decide +kernel, by decide +kernel, by decide +kernel⟩, tb_in (List.mem_of_getElem? (i := 436) (by decide +kernel)), tb_in (List.mem_of_getElem? (i := 4) (by decide +kernel)), by decide⟩
theorem okv_X2_allThatAre : okV M_X2_allThatAre 1 2 := ⟨RX2, TX2, 4, okm_X2_allThatAre, rfl, tb_in (List.mem_of_getElem? (i := 434) (by decide +kernel)), tb_in (List.mem_of_getElem? (i := 435) (by decide +kernel)), rfl⟩
theorem okm_X2_isGood : okM M_X2_isGood 1 := ⟨⟨by decide +kernel, by decide +kernel, by decide +kernel⟩, tb_in (List.mem_of_getElem? (i := 444) (by decide +kernel)), tb_in (List.mem_of_getElem? (i := 4) (by decide +kernel)), by decide⟩
theorem okv_X2_isGood : okV M_X2_isGood 1 2 := ⟨RX2, TX2, 4, okm_X2_isGood, rfl, tb_in (List.mem_of_getElem? (i := 442) (by decide +kernel)), tb_in (List.mem_of_getElem? (i := 443) (by decide +kernel)), rfl⟩
theorem okm_X2_allGood : okM M_X2_allGood 0 := ⟨⟨by decide +kernel, by decide +kernel, by decide +kernel⟩, tb_in (List.mem_of_getElem? (i := 440) (by decide +kernel)), tb_in (List.mem_of_getElem? (i := 4) (by decide +kernel)), by decide⟩
theorem okv_X2_allGood : okV M_X2_allGood 0 2 := ⟨RX2, TX2, 4, okm_X2_allGood, rfl, tb_in (List.mem_of_getElem? (i := 438) (by decide +kernel)), tb_in (List.mem_of_getElem? (i := 439) (by decide +kernel)), rfl⟩
theorem okm_X2_canBeWrapped : okM M_X2_canBeWrapped 1 := ⟨⟨by decide +kernel, by decide +kernel, by decide +kernel⟩, tb_in (List.mem_of_getElem? (i := 571) (by decide +kernel)), tb_in (List.mem_of_getElem? (i := 4) (by decide +kernel)), by decide⟩
theorem okv_X2_canBeWrapped : okV M_X2_canBeWrapped 1 2 := ⟨RX2, TX2, 4, okm_X2_canBeWrapped, rfl, tb_in (List.mem_of_getElem? (i := 569) (by decide +kernel)), tb_in (List.mem_of_getElem? (i := 570) (by decide +kernel)), rfl⟩
theorem okm_X2_putInSuet : okM M_X2_putInSuet 1 := ⟨⟨by decide +kernel, by decide +kernel, by decide +kernel⟩, tb_in (List.mem_of_getElem? (i := 584) (by decide +kernel)), tb_in (List.mem_of_getElem? (i := 4) (by decide +kernel)), by decide⟩
theorem okv_X2_putInSuet : okV M_X2_putInSuet 1 2 := ⟨RX2, TX2, 4, okm_X2_putInSuet, rfl, tb_in (List.mem_of_getElem? (i := 582) (by decide +kernel)), tb_in (List.mem_of_getElem? (i := 583) (by decide +kernel)), rfl⟩
theorem okm_X2_freePots : okM M_X2_freePots 0 := ⟨⟨by decide +kernel, by decide +kernel, by decide +kernel⟩, tb_in (List.mem_of_getElem? (i := 608) (by decide +kernel)), tb_in (List.mem_of_getElem? (i := 4) (by decide +kernel)), by decide⟩
theorem okv_X2_freePots : okV M_X2_freePots 0 2 := ⟨RX2, TX2, 4, okm_X2_freePots, rfl, tb_in (List.mem_of_getElem? (i := 606) (by decide +kernel)), tb_in (List.mem_of_getElem? (i := 607) (by decide +kernel)), rfl⟩
theorem okm_X2_leftOf : okM M_X2_leftOf 1 := ⟨⟨by decide +kernel, by decide +kernel, by decide +kernel⟩, tb_in (List.mem_of_getElem? (i := 452) (by decide +kernel)), tb_in (List.mem_of_getElem? (i := 4) (by decide +kernel)), by decide⟩
theorem okv_X2_leftOf : okV M_X2_leftOf 1 2 := ⟨RX2, TX2, 4, okm_X2_leftOf, rfl, tb_in (List.mem_of_getElem? (i := 450) (by decide +kernel)), tb_in (List.mem_of_getElem? (i := 451) (by decide +kernel)), rfl⟩
theorem okm_X2_leftTogether : okM M_X2_leftTogether 0 := ⟨⟨by decide +kernel, by decide +kernel, by decide +kernel⟩, tb_in (List.mem_of_getElem? (i := 448) (by decide +kernel)), tb_in (List.mem_of_getElem? (i := 4) (by decide +kernel)), by decide⟩
theorem okv_X2_leftTogether : okV M_X2_leftTogether 0 2 := ⟨RX2, TX2, 4, okm_X2_leftTogether, rfl, tb_in (List.mem_of_getElem? (i := 446) (by decide +kernel)), tb_in (List.mem_of_getElem? (i := 447) (by decide +kernel)), rfl⟩
theorem okm_X2_strongest : okM M_X2_strongest 0 := ⟨⟨by decide +kernel, by decide +kernel, by decide +kernel⟩, tb_in (List.mem_of_getElem? (i := 456) (by decide +kernel)), tb_in (List.mem_of_getElem? (i := 4) (by decide +kernel)), by decide⟩
theorem okv_X2_strongest : okV M_X2_strongest 0 2 := ⟨RX2, TX2, 4, okm_X2_strongest, rfl, tb_in (List.mem_of_getElem? (i := 454) (by decide +kernel)), tb_in (List.mem_of_getElem? (i := 455) (by decide +kernel)), rfl⟩
theorem okm_X2_weight : okM M_X2_weight 1 := ⟨⟨by decide +kernel, by decide +kernel, by decide +kernel⟩, tb_in (List.mem_of_getElem? (i := 552) (by decide +kernel)), tb_in (List.mem_of_getElem? (i := 4) (by decide +kernel)), by decide⟩
theorem okv_X2_weight : okV M_X2_weight 1 2 := ⟨RX2, TX2, 4, okm_X2_weight, rfl, tb_in (List.mem_of_getElem? (i := 550) (by decide +kernel)), tb_in (List.mem_of_getElem? (i := 551) (by decide +kernel)), rfl⟩
theorem okm_X2_isBearable : okM M_X2_isBearable 1 := ⟨⟨by decide +kernel, by decide +kernel, by decide +kernel⟩, tb_in (List.mem_of_getElem? (i := 548) (by decide +kernel)), tb_in (List.mem_of_getElem? (i := 4) (by decide +kernel)), by decide⟩
theorem okv_X2_isBearable : okV M_X2_isBearable 1 2 := ⟨RX2, TX2, 4, okm_X2_isBearable, rfl, tb_in (List.mem_of_getElem? (i := 546) (by decide +kernel)), tb_in (List.mem_of_getElem? (i := 547) (by decide +kernel)), rfl⟩
theorem okm_X2_canBeBorne : okM M_X2_canBeBorne 1 := ⟨⟨by decide +kernel, by decide +kernel, by decide +kernel⟩, tb_in (List.mem_of_getElem? (i := 642) (by decide +kernel)), tb_in (List.mem_of_getElem? (i := 4) (by decide +kernel)), by decide⟩
theorem okv_X2_canBeBorne : okV M_X2_canBeBorne 1 2 := ⟨RX2, TX2, 4, okm_X2_canBeBorne, rfl, tb_in (List.mem_of_getElem? (i := 640) (by decide +kernel)), tb_in (List.mem_of_getElem? (i := 641) (by decide +kernel)), rfl⟩
theorem okm_X2_shareOut : okM M_X2_shareOut 1 := ⟨⟨by decide +kernel, by decide +kernel, by decide +kernel⟩, tb_in (List.mem_of_getElem? (i := 647) (by decide +kernel)), tb_in (List.mem_of_getElem? (i := 4) (by decide +kernel)), by decide⟩
theorem okv_X2_shareOut : okV M_X2_shareOut 1 2 := ⟨RX2, TX2, 4, okm_X2_shareOut, rfl, tb_in (List.mem_of_getElem? (i := 645) (by decide +kernel)), tb_in (List.mem_of_getElem? (i := 646) (by decide +kernel)), rfl⟩
theorem okm_X2_unload : okM M_X2_unload 0 := ⟨⟨by decide +kernel, by decide +kernel, by decide +kernel⟩, tb_in (List.mem_of_getElem? (i := 656) (by decide +kernel)), tb_in (List.mem_of_getElem? (i := 4) (by decide +kernel)), by decide⟩
theorem okv_X2_unload : okV M_X2_unload 0 2 := ⟨RX2, TX2, 4, okm_X2_unload, rfl, tb_in (List.mem_of_getElem? (i := 654) (by decide +kernel)), tb_in (List.mem_of_getElem? (i := 655) (by decide +kernel)), rfl⟩
theorem okm_X2_softenedBy : okM M_X2_softenedBy 1 := ⟨⟨by decide +kernel, by decide +kernel, by decide +kernel⟩, tb_in (List.mem_of_getElem? (i := 634) (by decide +kernel)), tb_in (List.mem_of_getElem? (i := 4) (by decide +kernel)), by decide⟩
theorem okv_X2_softenedBy : okV M_X2_softenedBy 1 2 := ⟨RX2, TX2, 4, okm_X2_softenedBy, rfl, tb_in (List.mem_of_getElem? (i := 633) (by decide +kernel)), List.mem_append_left _ (List.mem_of_getElem? (i := 15) (by decide +kernel)), rfl⟩
theorem okm_X2_hardBehind : okM M_X2_hardBehind 2 := ⟨⟨by decide +kernel, by decide +kernel, by decide +kernel⟩, tb_in (List.mem_of_getElem? (i := 630) (by decide +kernel)), tb_in (List.mem_of_getElem? (i := 4) (by decide +kernel)), by decide⟩
theorem okv_X2_hardBehind : okV M_X2_hardBehind 2 2 := ⟨RX2, TX2, 4, okm_X2_hardBehind, rfl, tb_in (List.mem_of_getElem? (i := 628) (by decide +kernel)), tb_in (List.mem_of_getElem? (i := 629) (by decide +kernel)), rfl⟩
theorem okm_X2_hoursTillGood : okM M_X2_hoursTillGood 2 := ⟨⟨by decide +kernel, by decide +kernel, by decide +kernel⟩, tb_in (List.mem_of_getElem? (i := 720) (by decide +kernel)), tb_in (List.mem_of_getElem? (i := 4) (by decide +kernel)), by decide⟩
theorem okv_X2_hoursTillGood : okV M_X2_hoursTillGood 2 2 := ⟨RX2, TX2, 4, okm_X2_hoursTillGood, rfl, tb_in (List.mem_of_getElem? (i := 718) (by decide +kernel)), tb_in (List.mem_of_getElem? (i := 719) (by decide +kernel)), rfl⟩
theorem okm_X2_boil : okM M_X2_boil 0 := ⟨⟨by decide +kernel, by decide +kernel, by decide +kernel⟩, tb_in (List.mem_of_getElem? (i := 626) (by decide +kernel)), tb_in (List.mem_of_getElem? (i := 4) (by decide +kernel)), by decide⟩
theorem okv_X2_boil : okV M_X2_boil 0 2 := ⟨RX2, TX2, 4, okm_X2_boil, rfl, tb_in (List.mem_of_getElem? (i := 624) (by decide +kernel)), tb_in (List.mem_of_getElem? (i := 625) (by decide +kernel)), rfl⟩
theorem okm_X2_actByDraws : okM M_X2_actByDraws 0 := ⟨⟨by decide +kernel, by decide +kernel, by decide +kernel⟩, tb_in (List.mem_of_getElem? (i := 670) (by decide +kernel)), tb_in (List.mem_of_getElem? (i := 4) (by decide +kernel)), by decide⟩
theorem okv_X2_actByDraws : okV M_X2_actByDraws 0 2 := ⟨RX2, TX2, 4, okm_X2_actByDraws, rfl, tb_in (List.mem_of_getElem? (i := 668) (by decide +kernel)), tb_in (List.mem_of_getElem? (i := 669) (by decide +kernel)), rfl⟩
theorem okm_X3_draw : okM M_X3_draw 1 := ⟨⟨by decide +kernel, by decide +kernel, by decide +kernel⟩, tb_in (List.mem_of_getElem? (i := 674) (by decide +kernel)), tb_in (List.mem_of_getElem? (i := 7) (by decide +kernel)), by decide⟩
theorem okv_X3_draw : okV M_X3_draw 1 3 := ⟨RX3, TX3, 1, okm_X3_draw, rfl, tb_in (List.mem_of_getElem? (i := 672) (by decide +kernel)), tb_in (List.mem_of_getElem? (i := 673) (by decide +kernel)), rfl⟩
theorem okm_X4_find : okM M_X4_find 3 := ⟨⟨by decide +kernel, by decide +kernel, by decide +kernel⟩, tb_in (List.mem_of_getElem? (i := 732) (by decide +kernel)), tb_in (List.mem_of_getElem? (i := 9) (by decide +kernel)), by decide⟩
theorem okv_X4_find : okV M_X4_find 3 4 := ⟨RX4, TX4, 4, okm_X4_find, rfl, tb_in (List.mem_of_getElem? (i := 730) (by decide +kernel)), tb_in (List.mem_of_getElem? (i := 731) (by decide +kernel)), rfl⟩
theorem okm_X4_tryNext : okM M_X4_tryNext 6 := ⟨⟨by decide +kernel, by decide +kernel, by decide +kernel⟩, tb_in (List.mem_of_getElem? (i := 737) (by decide +kernel)), tb_in (List.mem_of_getElem? (i := 9) (by decide +kernel)), by decide⟩
theorem oks_X4_tryNext : okS M_X4_tryNext 6 := ⟨okm_X4_tryNext, tb_in (List.mem_of_getElem? (i := 736) (by decide +kernel))⟩
theorem okm_X5_remember : okM M_X5_remember 1 := ⟨⟨by decide +kernel, by decide +kernel, by decide +kernel⟩, tb_in (List.mem_of_getElem? (i := 576) (by decide +kernel)), tb_in (List.mem_of_getElem? (i := 8) (by decide +kernel)), by decide⟩
theorem okv_X5_remember : okV M_X5_remember 1 5 := ⟨RX5, TX5, 6, okm_X5_remember, rfl, tb_in (List.mem_of_getElem? (i := 574) (by decide +kernel)), tb_in (List.mem_of_getElem? (i := 575) (by decide +kernel)), rfl⟩
theorem okm_X5_stepBack : okM M_X5_stepBack 1 := ⟨⟨by decide +kernel, by decide +kernel, by decide +kernel⟩, tb_in (List.mem_of_getElem? (i := 691) (by decide +kernel)), tb_in (List.mem_of_getElem? (i := 8) (by decide +kernel)), by decide⟩
theorem okv_X5_stepBack : okV M_X5_stepBack 1 5 := ⟨RX5, TX5, 6, okm_X5_stepBack, rfl, tb_in (List.mem_of_getElem? (i := 689) (by decide +kernel)), tb_in (List.mem_of_getElem? (i := 690) (by decide +kernel)), rfl⟩
theorem okm_X5_keepImage : okM M_X5_keepImage 3 := ⟨⟨by decide +kernel, by decide +kernel, by decide +kernel⟩, tb_in (List.mem_of_getElem? (i := 795) (by decide +kernel)), tb_in (List.mem_of_getElem? (i := 8) (by decide +kernel)), by decide⟩
theorem okv_X5_keepImage : okV M_X5_keepImage 3 5 := ⟨RX5, TX5, 6, okm_X5_keepImage, rfl, tb_in (List.mem_of_getElem? (i := 793) (by decide +kernel)), tb_in (List.mem_of_getElem? (i := 794) (by decide +kernel)), rfl⟩
theorem okm_X5_showImage : okM M_X5_showImage 3 := ⟨⟨by decide +kernel, by decide +kernel, by decide +kernel⟩, tb_in (List.mem_of_getElem? (i := 803) (by decide +kernel)), tb_in (List.mem_of_getElem? (i := 8) (by decide +kernel)), by decide⟩
theorem okv_X5_showImage : okV M_X5_showImage 3 5 := ⟨RX5, TX5, 6, okm_X5_showImage, rfl, tb_in (List.mem_of_getElem? (i := 801) (by decide +kernel)), tb_in (List.mem_of_getElem? (i := 802) (by decide +kernel)), rfl⟩
theorem okm_X5_forgetAll : okM M_X5_forgetAll 0 := ⟨⟨by decide +kernel, by decide +kernel, by decide +kernel⟩, tb_in (List.mem_of_getElem? (i := 412) (by decide +kernel)), tb_in (List.mem_of_getElem? (i := 8) (by decide +kernel)), by decide⟩
theorem okv_X5_forgetAll : okV M_X5_forgetAll 0 5 := ⟨RX5, TX5, 6, okm_X5_forgetAll, rfl, tb_in (List.mem_of_getElem? (i := 410) (by decide +kernel)), tb_in (List.mem_of_getElem? (i := 411) (by decide +kernel)), rfl⟩
theorem okm_X5_forgetUndone : okM M_X5_forgetUndone 0 := ⟨⟨by decide +kernel, by decide +kernel, by decide +kernel⟩, tb_in (List.mem_of_getElem? (i := 416) (by decide +kernel)), tb_in (List.mem_of_getElem? (i := 8) (by decide +kernel)), by decide⟩
theorem okv_X5_forgetUndone : okV M_X5_forgetUndone 0 5 := ⟨RX5, TX5, 6, okm_X5_forgetUndone, rfl, tb_in (List.mem_of_getElem? (i := 415) (by decide +kernel)), List.mem_append_left _ (List.mem_of_getElem? (i := 9) (by decide +kernel)), rfl⟩
theorem okm_X6_isThere : okM M_X6_isThere 0 := ⟨⟨by decide +kernel, by decide +kernel, by decide +kernel⟩, tb_in (List.mem_of_getElem? (i := 362) (by decide +kernel)), tb_in (List.mem_of_getElem? (i := 3) (by decide +kernel)), by decide⟩
theorem okv_X6_isThere : okV M_X6_isThere 0 6 := ⟨RX6, TX6, 8, okm_X6_isThere, rfl, tb_in (List.mem_of_getElem? (i := 360) (by decide +kernel)), tb_in (List.mem_of_getElem? (i := 361) (by decide +kernel)), rfl⟩
theorem okm_X6_hasTrouble : okM M_X6_hasTrouble 1 := ⟨⟨by decide +kernel, by decide +kernel, by decide +kernel⟩, tb_in (List.mem_of_getElem? (i := 512) (by decide +kernel)), tb_in (List.mem_of_getElem? (i := 3) (by decide +kernel)), by decide⟩
theorem okv_X6_hasTrouble : okV M_X6_hasTrouble 1 6 := ⟨RX6, TX6, 8, okm_X6_hasTrouble, rfl, tb_in (List.mem_of_getElem? (i := 510) (by decide +kernel)), tb_in (List.mem_of_getElem? (i := 511) (by decide +kernel)), rfl⟩
theorem okm_X6_hasEater : okM M_X6_hasEater 1 := ⟨⟨by decide +kernel, by decide +kernel, by decide +kernel⟩, tb_in (List.mem_of_getElem? (i := 563) (by decide +kernel)), tb_in (List.mem_of_getElem? (i := 3) (by decide +kernel)), by decide⟩
theorem okv_X6_hasEater : okV M_X6_hasEater 1 6 := ⟨RX6, TX6, 8, okm_X6_hasEater, rfl, tb_in (List.mem_of_getElem? (i := 561) (by decide +kernel)), tb_in (List.mem_of_getElem? (i := 562) (by decide +kernel)), rfl⟩
theorem okm_X6_allTroubles : okM M_X6_allTroubles 0 := ⟨⟨by decide +kernel, by decide +kernel, by decide +kernel⟩, tb_in (List.mem_of_getElem? (i := 728) (by decide +kernel)), tb_in (List.mem_of_getElem? (i := 3) (by decide +kernel)), by decide⟩
theorem okv_X6_allTroubles : okV M_X6_allTroubles 0 6 := ⟨RX6, TX6, 8, okm_X6_allTroubles, rfl, tb_in (List.mem_of_getElem? (i := 726) (by decide +kernel)), tb_in (List.mem_of_getElem? (i := 727) (by decide +kernel)), rfl⟩
theorem okm_X6_clear : okM M_X6_clear 0 := ⟨⟨by decide +kernel, by decide +kernel, by decide +kernel⟩, tb_in (List.mem_of_getElem? (i := 342) (by decide +kernel)), tb_in (List.mem_of_getElem? (i := 3) (by decide +kernel)), by decide⟩
theorem okv_X6_clear : okV M_X6_clear 0 6 := ⟨RX6, TX6, 8, okm_X6_clear, rfl, tb_in (List.mem_of_getElem? (i := 340) (by decide +kernel)), tb_in (List.mem_of_getElem? (i := 341) (by decide +kernel)), rfl⟩
theorem okm_X6_addTrouble : okM M_X6_addTrouble 3 := ⟨⟨by decide +kernel, by decide +kernel, by decide +kernel⟩, tb_in (List.mem_of_getElem? (i := 388) (by decide +kernel)), tb_in (List.mem_of_getElem? (i := 3) (by decide +kernel)), by decide⟩
theorem okv_X6_addTrouble : okV M_X6_addTrouble 3 6 := ⟨RX6, TX6, 8, okm_X6_addTrouble, rfl, tb_in (List.mem_of_getElem? (i := 386) (by decide +kernel)), tb_in (List.mem_of_getElem? (i := 387) (by decide +kernel)), rfl⟩
theorem okm_X6_addEater : okM M_X6_addEater 1 := ⟨⟨by decide +kernel, by decide +kernel, by decide +kernel⟩, tb_in (List.mem_of_getElem? (i := 396) (by decide +kernel)), tb_in (List.mem_of_getElem? (i := 3) (by decide +kernel)), by decide⟩
theorem okv_X6_addEater : okV M_X6_addEater 1 6 := ⟨RX6, TX6, 8, okm_X6_addEater, rfl, tb_in (List.mem_of_getElem? (i := 394) (by decide +kernel)), tb_in (List.mem_of_getElem? (i := 395) (by decide +kernel)), rfl⟩
theorem okm_X6_become : okM M_X6_become 1 := ⟨⟨by decide +kernel, by decide +kernel, by decide +kernel⟩, tb_in (List.mem_of_getElem? (i := 400) (by decide +kernel)), tb_in (List.mem_of_getElem? (i := 3) (by decide +kernel)), by decide⟩
theorem okv_X6_become : okV M_X6_become 1 6 := ⟨RX6, TX6, 8, okm_X6_become, rfl, tb_in (List.mem_of_getElem? (i := 398) (by decide +kernel)), tb_in (List.mem_of_getElem? (i := 399) (by decide +kernel)), rfl⟩
theorem okm_X7_add : okM M_X7_add 1 := ⟨⟨by decide +kernel, by decide +kernel, by decide +kernel⟩, tb_in (List.mem_of_getElem? (i := 330) (by decide +kernel)), tb_in (List.mem_of_getElem? (i := 2) (by decide +kernel)), by decide⟩
theorem okv_X7_add : okV M_X7_add 1 7 := ⟨RX7, TX7, 5, okm_X7_add, rfl, tb_in (List.mem_of_getElem? (i := 328) (by decide +kernel)), tb_in (List.mem_of_getElem? (i := 329) (by decide +kernel)), rfl⟩
theorem okm_X7_read : okM M_X7_read 1 := ⟨⟨by decide +kernel, by decide +kernel, by decide +kernel⟩, tb_in (List.mem_of_getElem? (i := 338) (by decide +kernel)), tb_in (List.mem_of_getElem? (i := 2) (by decide +kernel)), by decide⟩
theorem okv_X7_read : okV M_X7_read 1 7 := ⟨RX7, TX7, 5, okm_X7_read, rfl, tb_in (List.mem_of_getElem? (i := 336) (by decide +kernel)), tb_in (List.mem_of_getElem? (i := 337) (by decide +kernel)), rfl⟩
theorem okm_X7_readClause : okM M_X7_readClause 1 := ⟨⟨by decide +kernel, by decide +kernel, by decide +kernel⟩, tb_in (List.mem_of_getElem? (i := 354) (by decide +kernel)), tb_in (List.mem_of_getElem? (i := 2) (by decide +kernel)), by decide⟩
theorem okv_X7_readClause : okV M_X7_readClause 1 7 := ⟨RX7, TX7, 5, okm_X7_readClause, rfl, tb_in (List.mem_of_getElem? (i := 353) (by decide +kernel)), List.mem_append_left _ (List.mem_of_getElem? (i := 2) (by decide +kernel)), rfl⟩
theorem okm_X7_readFire : okM M_X7_readFire 1 := ⟨⟨by decide +kernel, by decide +kernel, by decide +kernel⟩, tb_in (List.mem_of_getElem? (i := 358) (by decide +kernel)), tb_in (List.mem_of_getElem? (i := 2) (by decide +kernel)), by decide⟩
theorem okv_X7_readFire : okV M_X7_readFire 1 7 := ⟨RX7, TX7, 5, okm_X7_readFire, rfl, tb_in (List.mem_of_getElem? (i := 357) (by decide +kernel)), List.mem_append_left _ (List.mem_of_getElem? (i := 3) (by decide +kernel)), rfl⟩
theorem okm_X7_readTrouble : okM M_X7_readTrouble 1 := ⟨⟨by decide +kernel, by decide +kernel, by decide +kernel⟩, tb_in (List.mem_of_getElem? (i := 384) (by decide +kernel)), tb_in (List.mem_of_getElem? (i := 2) (by decide +kernel)), by decide⟩
theorem okv_X7_readTrouble : okV M_X7_readTrouble 1 7 := ⟨RX7, TX7, 5, okm_X7_readTrouble, rfl, tb_in (List.mem_of_getElem? (i := 383) (by decide +kernel)), List.mem_append_left _ (List.mem_of_getElem? (i := 7) (by decide +kernel)), rfl⟩
theorem okm_X7_readEater : okM M_X7_readEater 1 := ⟨⟨by decide +kernel, by decide +kernel, by decide +kernel⟩, tb_in (List.mem_of_getElem? (i := 392) (by decide +kernel)), tb_in (List.mem_of_getElem? (i := 2) (by decide +kernel)), by decide⟩
theorem okv_X7_readEater : okV M_X7_readEater 1 7 := ⟨RX7, TX7, 5, okm_X7_readEater, rfl, tb_in (List.mem_of_getElem? (i := 391) (by decide +kernel)), List.mem_append_left _ (List.mem_of_getElem? (i := 8) (by decide +kernel)), rfl⟩
theorem okm_X7_readNumber : okM M_X7_readNumber 2 := ⟨⟨by decide +kernel, by decide +kernel, by decide +kernel⟩, tb_in (List.mem_of_getElem? (i := 370) (by decide +kernel)), tb_in (List.mem_of_getElem? (i := 2) (by decide +kernel)), by decide⟩
theorem okv_X7_readNumber : okV M_X7_readNumber 2 7 := ⟨RX7, TX7, 5, okm_X7_readNumber, rfl, tb_in (List.mem_of_getElem? (i := 369) (by decide +kernel)), List.mem_append_left _ (List.mem_of_getElem? (i := 5) (by decide +kernel)), rfl⟩
theorem okm_X7_readSign : okM M_X7_readSign 1 := ⟨⟨by decide +kernel, by decide +kernel, by decide +kernel⟩, tb_in (List.mem_of_getElem? (i := 380) (by decide +kernel)), tb_in (List.mem_of_getElem? (i := 2) (by decide +kernel)), by decide⟩
theorem okv_X7_readSign : okV M_X7_readSign 1 7 := ⟨RX7, TX7, 5, okm_X7_readSign, rfl, tb_in (List.mem_of_getElem? (i := 379) (by decide +kernel)), List.mem_append_left _ (List.mem_of_getElem? (i := 6) (by decide +kernel)), rfl⟩
theorem okm_X7_skipBlanks : okM M_X7_skipBlanks 0 := ⟨⟨by decide +kernel, by decide +kernel, by decide +kernel⟩, tb_in (List.mem_of_getElem? (i := 346) (by decide +kernel)), tb_in (List.mem_of_getElem? (i := 2) (by decide +kernel)), by decide⟩
theorem okv_X7_skipBlanks : okV M_X7_skipBlanks 0 7 := ⟨RX7, TX7, 5, okm_X7_skipBlanks, rfl, tb_in (List.mem_of_getElem? (i := 345) (by decide +kernel)), List.mem_append_left _ (List.mem_of_getElem? (i := 0) (by decide +kernel)), rfl⟩
theorem okm_X7_here : okM M_X7_here 0 := ⟨⟨by decide +kernel, by decide +kernel, by decide +kernel⟩, tb_in (List.mem_of_getElem? (i := 350) (by decide +kernel)), tb_in (List.mem_of_getElem? (i := 2) (by decide +kernel)), by decide⟩
theorem okv_X7_here : okV M_X7_here 0 7 := ⟨RX7, TX7, 5, okm_X7_here, rfl, tb_in (List.mem_of_getElem? (i := 349) (by decide +kernel)), List.mem_append_left _ (List.mem_of_getElem? (i := 1) (by decide +kernel)), rfl⟩
theorem okm_X7_isFigure : okM M_X7_isFigure 1 := ⟨⟨by decide +kernel, by decide +kernel, by decide +kernel⟩, tb_in (List.mem_of_getElem? (i := 373) (by decide +kernel)), tb_in (List.mem_of_getElem? (i := 2) (by decide +kernel)), by decide⟩
theorem oks_X7_isFigure : okS M_X7_isFigure 1 := ⟨okm_X7_isFigure, tb_in (List.mem_of_getElem? (i := 372) (by decide +kernel))⟩
theorem okm_X7_blame : okM M_X7_blame 2 := ⟨⟨by decide +kernel, by decide +kernel, by decide +kernel⟩, tb_in (List.mem_of_getElem? (i := 366) (by decide +kernel)), tb_in (List.mem_of_getElem? (i := 2) (by decide +kernel)), by decide⟩
theorem okv_X7_blame : okV M_X7_blame 2 7 := ⟨RX7, TX7, 5, okm_X7_blame, rfl, tb_in (List.mem_of_getElem? (i := 365) (by decide +kernel)), List.mem_append_left _ (List.mem_of_getElem? (i := 4) (by decide +kernel)), rfl⟩
theorem okm_X8_begin : okM M_X8_begin 1 := ⟨⟨by decide +kernel, by decide +kernel, by decide +kernel⟩, tb_in (List.mem_of_getElem? (i := 407) (by decide +kernel)), tb_in (List.mem_of_getElem? (i := 5) (by decide +kernel)), by decide⟩
theorem okv_X8_begin : okV M_X8_begin 1 8 := ⟨RX8, TX8, 6, okm_X8_begin, rfl, tb_in (List.mem_of_getElem? (i := 405) (by decide +kernel)), tb_in (List.mem_of_getElem? (i := 406) (by decide +kernel)), rfl⟩
theorem okm_X8_become : okM M_X8_become 1 := ⟨⟨by decide +kernel, by decide +kernel, by decide +kernel⟩, tb_in (List.mem_of_getElem? (i := 580) (by decide +kernel)), tb_in (List.mem_of_getElem? (i := 5) (by decide +kernel)), by decide⟩
theorem okv_X8_become : okV M_X8_become 1 8 := ⟨RX8, TX8, 6, okm_X8_become, rfl, tb_in (List.mem_of_getElem? (i := 578) (by decide +kernel)), tb_in (List.mem_of_getElem? (i := 579) (by decide +kernel)), rfl⟩
theorem okm_X9_has : okM M_X9_has 2 := ⟨⟨by decide +kernel, by decide +kernel, by decide +kernel⟩, tb_in (List.mem_of_getElem? (i := 483) (by decide +kernel)), tb_in (List.mem_of_getElem? (i := 15) (by decide +kernel)), by decide⟩
theorem oks_X9_has : okS M_X9_has 2 := ⟨okm_X9_has, tb_in (List.mem_of_getElem? (i := 482) (by decide +kernel))⟩
theorem okm_X9_besideIt : okM M_X9_besideIt 2 := ⟨⟨by decide +kernel, by decide +kernel, by decide +kernel⟩, tb_in (List.mem_of_getElem? (i := 522) (by decide +kernel)), tb_in (List.mem_of_getElem? (i := 15) (by decide +kernel)), by decide⟩
theorem oks_X9_besideIt : okS M_X9_besideIt 2 := ⟨okm_X9_besideIt, tb_in (List.mem_of_getElem? (i := 521) (by decide +kernel))⟩
theorem okm_X9_partFrom : okM M_X9_partFrom 2 := ⟨⟨by decide +kernel, by decide +kernel, by decide +kernel⟩, tb_in (List.mem_of_getElem? (i := 519) (by decide +kernel)), tb_in (List.mem_of_getElem? (i := 15) (by decide +kernel)), by decide⟩
theorem oks_X9_partFrom : okS M_X9_partFrom 2 := ⟨okm_X9_partFrom, tb_in (List.mem_of_getElem? (i := 518) (by decide +kernel))⟩
theorem okm_X9_parts : okM M_X9_parts 1 := ⟨⟨by decide +kernel, by decide +kernel, by decide +kernel⟩, tb_in (List.mem_of_getElem? (i := 516) (by decide +kernel)), tb_in (List.mem_of_getElem? (i := 15) (by decide +kernel)), by decide⟩
theorem oks_X9_parts : okS M_X9_parts 1 := ⟨okm_X9_parts, tb_in (List.mem_of_getElem? (i := 515) (by decide +kernel))⟩
theorem okm_X9_greatestPart : okM M_X9_greatestPart 1 := ⟨⟨by decide +kernel, by decide +kernel, by decide +kernel⟩, tb_in (List.mem_of_getElem? (i := 528) (by decide +kernel)), tb_in (List.mem_of_getElem? (i := 15) (by decide +kernel)), by decide⟩
theorem oks_X9_greatestPart : okS M_X9_greatestPart 1 := ⟨okm_X9_greatestPart, tb_in (List.mem_of_getElem? (i := 527) (by decide +kernel))⟩
theorem okm_X9_edge : okM M_X9_edge 1 := ⟨⟨by decide +kernel, by decide +kernel, by decide +kernel⟩, tb_in (List.mem_of_getElem? (i := 538) (by decide +kernel)), tb_in (List.mem_of_getElem? (i := 15) (by decide +kernel)), by decide⟩
theorem oks_X9_edge : okS M_X9_edge 1 := ⟨okm_X9_edge, tb_in (List.mem_of_getElem? (i := 537) (by decide +kernel))⟩
theorem okm_X9_hold : okM M_X9_hold 1 := ⟨⟨by decide +kernel, by decide +kernel, by decide +kernel⟩, tb_in (List.mem_of_getElem? (i := 541) (by decide +kernel)), tb_in (List.mem_of_getElem? (i := 15) (by decide +kernel)), by decide⟩
theorem oks_X9_hold : okS M_X9_hold 1 := ⟨okm_X9_hold, tb_in (List.mem_of_getElem? (i := 540) (by decide +kernel))⟩
theorem okm_X9_openSides : okM M_X9_openSides 2 := ⟨⟨by decide +kernel, by decide +kernel, by decide +kernel⟩, tb_in (List.mem_of_getElem? (i := 544) (by decide +kernel)), tb_in (List.mem_of_getElem? (i := 15) (by decide +kernel)), by decide⟩
theorem oks_X9_openSides : okS M_X9_openSides 2 := ⟨okm_X9_openSides, tb_in (List.mem_of_getElem? (i := 543) (by decide +kernel))⟩
theorem okm_X9_rowOf : okM M_X9_rowOf 2 := ⟨⟨by decide +kernel, by decide +kernel, by decide +kernel⟩, tb_in (List.mem_of_getElem? (i := 477) (by decide +kernel)), tb_in (List.mem_of_getElem? (i := 15) (by decide +kernel)), by decide⟩
theorem oks_X9_rowOf : okS M_X9_rowOf 2 := ⟨okm_X9_rowOf, tb_in (List.mem_of_getElem? (i := 476) (by decide +kernel))⟩
theorem okm_X9_columnsUsed : okM M_X9_columnsUsed 1 := ⟨⟨by decide +kernel, by decide +kernel, by decide +kernel⟩, tb_in (List.mem_of_getElem? (i := 489) (by decide +kernel)), tb_in (List.mem_of_getElem? (i := 15) (by decide +kernel)), by decide⟩
theorem oks_X9_columnsUsed : okS M_X9_columnsUsed 1 := ⟨okm_X9_columnsUsed, tb_in (List.mem_of_getElem? (i := 488) (by decide +kernel))⟩
theorem okm_X9_rowsUsed : okM M_X9_rowsUsed 1 := ⟨⟨by decide +kernel, by decide +kernel, by decide +kernel⟩, tb_in (List.mem_of_getElem? (i := 474) (by decide +kernel)), tb_in (List.mem_of_getElem? (i := 15) (by decide +kernel)), by decide⟩
theorem oks_X9_rowsUsed : okS M_X9_rowsUsed 1 := ⟨okm_X9_rowsUsed, tb_in (List.mem_of_getElem? (i := 473) (by decide +kernel))⟩
theorem okm_X9_firstOf : okM M_X9_firstOf 1 := ⟨⟨by decide +kernel, by decide +kernel, by decide +kernel⟩, tb_in (List.mem_of_getElem? (i := 707) (by decide +kernel)), tb_in (List.mem_of_getElem? (i := 15) (by decide +kernel)), by decide⟩
theorem oks_X9_firstOf : okS M_X9_firstOf 1 := ⟨okm_X9_firstOf, tb_in (List.mem_of_getElem? (i := 706) (by decide +kernel))⟩
theorem okm_X9_lastOf : okM M_X9_lastOf 1 := ⟨⟨by decide +kernel, by decide +kernel, by decide +kernel⟩, tb_in (List.mem_of_getElem? (i := 480) (by decide +kernel)), tb_in (List.mem_of_getElem? (i := 15) (by decide +kernel)), by decide⟩
theorem oks_X9_lastOf : okS M_X9_lastOf 1 := ⟨okm_X9_lastOf, tb_in (List.mem_of_getElem? (i := 479) (by decide +kernel))⟩
theorem okm_X9_squareSide : okM M_X9_squareSide 1 := ⟨⟨by decide +kernel, by decide +kernel, by decide +kernel⟩, tb_in (List.mem_of_getElem? (i := 704) (by decide +kernel)), tb_in (List.mem_of_getElem? (i := 15) (by decide +kernel)), by decide⟩
theorem oks_X9_squareSide : okS M_X9_squareSide 1 := ⟨okm_X9_squareSide, tb_in (List.mem_of_getElem? (i := 703) (by decide +kernel))⟩
theorem okm_X9_movesDown : okM M_X9_movesDown 1 := ⟨⟨by decide +kernel, by decide +kernel, by decide +kernel⟩, tb_in (List.mem_of_getElem? (i := 471) (by decide +kernel)), tb_in (List.mem_of_getElem? (i := 15) (by decide +kernel)), by decide⟩
theorem oks_X9_movesDown : okS M_X9_movesDown 1 := ⟨okm_X9_movesDown, tb_in (List.mem_of_getElem? (i := 470) (by decide +kernel))⟩
theorem okm_X9_movesRight : okM M_X9_movesRight 1 := ⟨⟨by decide +kernel, by decide +kernel, by decide +kernel⟩, tb_in (List.mem_of_getElem? (i := 486) (by decide +kernel)), tb_in (List.mem_of_getElem? (i := 15) (by decide +kernel)), by decide⟩
theorem oks_X9_movesRight : okS M_X9_movesRight 1 := ⟨okm_X9_movesRight, tb_in (List.mem_of_getElem? (i := 485) (by decide +kernel))⟩
theorem okm_X9_greaterHalf : okM M_X9_greaterHalf 2 := ⟨⟨by decide +kernel, by decide +kernel, by decide +kernel⟩, tb_in (List.mem_of_getElem? (i := 747) (by decide +kernel)), tb_in (List.mem_of_getElem? (i := 15) (by decide +kernel)), by decide⟩
theorem oks_X9_greaterHalf : okS M_X9_greaterHalf 2 := ⟨okm_X9_greaterHalf, tb_in (List.mem_of_getElem? (i := 746) (by decide +kernel))⟩
theorem okm_X9_halvingLine : okM M_X9_halvingLine 1 := ⟨⟨by decide +kernel, by decide +kernel, by decide +kernel⟩, tb_in (List.mem_of_getElem? (i := 744) (by decide +kernel)), tb_in (List.mem_of_getElem? (i := 15) (by decide +kernel)), by decide⟩
theorem oks_X9_halvingLine : okS M_X9_halvingLine 1 := ⟨okm_X9_halvingLine, tb_in (List.mem_of_getElem? (i := 743) (by decide +kernel))⟩
theorem okm_X10_fewest : okM M_X10_fewest 1 := ⟨⟨by decide +kernel, by decide +kernel, by decide +kernel⟩, tb_in (List.mem_of_getElem? (i := 588) (by decide +kernel)), tb_in (List.mem_of_getElem? (i := 6) (by decide +kernel)), by decide⟩
theorem okv_X10_fewest : okV M_X10_fewest 1 9 := ⟨RX10, TX10, 2, okm_X10_fewest, rfl, tb_in (List.mem_of_getElem? (i := 586) (by decide +kernel)), tb_in (List.mem_of_getElem? (i := 587) (by decide +kernel)), rfl⟩
theorem okm_X10_addRow : okM M_X10_addRow 1 := ⟨⟨by decide +kernel, by decide +kernel, by decide +kernel⟩, tb_in (List.mem_of_getElem? (i := 593) (by decide +kernel)), tb_in (List.mem_of_getElem? (i := 6) (by decide +kernel)), by decide⟩
theorem okv_X10_addRow : okV M_X10_addRow 1 9 := ⟨RX10, TX10, 2, okm_X10_addRow, rfl, tb_in (List.mem_of_getElem? (i := 592) (by decide +kernel)), List.mem_append_left _ (List.mem_of_getElem? (i := 13) (by decide +kernel)), rfl⟩
theorem okm_X10_covered : okM M_X10_covered 1 := ⟨⟨by decide +kernel, by decide +kernel, by decide +kernel⟩, tb_in (List.mem_of_getElem? (i := 596) (by decide +kernel)), tb_in (List.mem_of_getElem? (i := 6) (by decide +kernel)), by decide⟩
theorem oks_X10_covered : okS M_X10_covered 1 := ⟨okm_X10_covered, tb_in (List.mem_of_getElem? (i := 595) (by decide +kernel))⟩
theorem okm_X10_first : okM M_X10_first 1 := ⟨⟨by decide +kernel, by decide +kernel, by decide +kernel⟩, tb_in (List.mem_of_getElem? (i := 700) (by decide +kernel)), tb_in (List.mem_of_getElem? (i := 6) (by decide +kernel)), by decide⟩
theorem okv_X10_first : okV M_X10_first 1 9 := ⟨RX10, TX10, 2, okm_X10_first, rfl, tb_in (List.mem_of_getElem? (i := 698) (by decide +kernel)), tb_in (List.mem_of_getElem? (i := 699) (by decide +kernel)), rfl⟩
theorem okm_X11_feed : okM M_X11_feed 1 := ⟨⟨by decide +kernel, by decide +kernel, by decide +kernel⟩, tb_in (List.mem_of_getElem? (i := 324) (by decide +kernel)), tb_in (List.mem_of_getElem? (i := 1) (by decide +kernel)), by decide⟩
theorem okv_X11_feed : okV M_X11_feed 1 10 := ⟨RX11, TX11, 12, okm_X11_feed, rfl, tb_in (List.mem_of_getElem? (i := 322) (by decide +kernel)), tb_in (List.mem_of_getElem? (i := 323) (by decide +kernel)), rfl⟩
theorem okm_X11_kitchen : okM M_X11_kitchen 0 := ⟨⟨by decide +kernel, by decide +kernel, by decide +kernel⟩, tb_in (List.mem_of_getElem? (i := 334) (by decide +kernel)), tb_in (List.mem_of_getElem? (i := 1) (by decide +kernel)), by decide⟩
theorem okv_X11_kitchen : okV M_X11_kitchen 0 10 := ⟨RX11, TX11, 12, okm_X11_kitchen, rfl, tb_in (List.mem_of_getElem? (i := 332) (by decide +kernel)), tb_in (List.mem_of_getElem? (i := 333) (by decide +kernel)), rfl⟩
theorem okm_X11_fault : okM M_X11_fault 0 := ⟨⟨by decide +kernel, by decide +kernel, by decide +kernel⟩, tb_in (List.mem_of_getElem? (i := 428) (by decide +kernel)), tb_in (List.mem_of_getElem? (i := 1) (by decide +kernel)), by decide⟩
theorem okv_X11_fault : okV M_X11_fault 0 10 := ⟨RX11, TX11, 12, okm_X11_fault, rfl, tb_in (List.mem_of_getElem? (i := 426) (by decide +kernel)), tb_in (List.mem_of_getElem? (i := 427) (by decide +kernel)), rfl⟩
theorem okm_X11_told : okM M_X11_told 1 := ⟨⟨by decide +kernel, by decide +kernel, by decide +kernel⟩, tb_in (List.mem_of_getElem? (i := 432) (by decide +kernel)), tb_in (List.mem_of_getElem? (i := 1) (by decide +kernel)), by decide⟩
theorem okv_X11_told : okV M_X11_told 1 10 := ⟨RX11, TX11, 12, okm_X11_told, rfl, tb_in (List.mem_of_getElem? (i := 430) (by decide +kernel)), tb_in (List.mem_of_getElem? (i := 431) (by decide +kernel)), rfl⟩
theorem okm_X11_trouble : okM M_X11_trouble 2 := ⟨⟨by decide +kernel, by decide +kernel, by decide +kernel⟩, tb_in (List.mem_of_getElem? (i := 508) (by decide +kernel)), tb_in (List.mem_of_getElem? (i := 1) (by decide +kernel)), by decide⟩
theorem okv_X11_trouble : okV M_X11_trouble 2 10 := ⟨RX11, TX11, 12, okm_X11_trouble, rfl, tb_in (List.mem_of_getElem? (i := 506) (by decide +kernel)), tb_in (List.mem_of_getElem? (i := 507) (by decide +kernel)), rfl⟩
theorem okm_X11_eater : okM M_X11_eater 2 := ⟨⟨by decide +kernel, by decide +kernel, by decide +kernel⟩, tb_in (List.mem_of_getElem? (i := 559) (by decide +kernel)), tb_in (List.mem_of_getElem? (i := 1) (by decide +kernel)), by decide⟩
theorem okv_X11_eater : okV M_X11_eater 2 10 := ⟨RX11, TX11, 12, okm_X11_eater, rfl, tb_in (List.mem_of_getElem? (i := 557) (by decide +kernel)), tb_in (List.mem_of_getElem? (i := 558) (by decide +kernel)), rfl⟩
theorem okm_X11_wrap : okM M_X11_wrap 1 := ⟨⟨by decide +kernel, by decide +kernel, by decide +kernel⟩, tb_in (List.mem_of_getElem? (i := 567) (by decide +kernel)), tb_in (List.mem_of_getElem? (i := 1) (by decide +kernel)), by decide⟩
theorem okv_X11_wrap : okV M_X11_wrap 1 10 := ⟨RX11, TX11, 12, okm_X11_wrap, rfl, tb_in (List.mem_of_getElem? (i := 565) (by decide +kernel)), tb_in (List.mem_of_getElem? (i := 566) (by decide +kernel)), rfl⟩
theorem okm_X11_putOn : okM M_X11_putOn 1 := ⟨⟨by decide +kernel, by decide +kernel, by decide +kernel⟩, tb_in (List.mem_of_getElem? (i := 604) (by decide +kernel)), tb_in (List.mem_of_getElem? (i := 1) (by decide +kernel)), by decide⟩
theorem okv_X11_putOn : okV M_X11_putOn 1 10 := ⟨RX11, TX11, 12, okm_X11_putOn, rfl, tb_in (List.mem_of_getElem? (i := 602) (by decide +kernel)), tb_in (List.mem_of_getElem? (i := 603) (by decide +kernel)), rfl⟩
theorem okm_X11_takeOff : okM M_X11_takeOff 1 := ⟨⟨by decide +kernel, by decide +kernel, by decide +kernel⟩, tb_in (List.mem_of_getElem? (i := 613) (by decide +kernel)), tb_in (List.mem_of_getElem? (i := 1) (by decide +kernel)), by decide⟩
theorem okv_X11_takeOff : okV M_X11_takeOff 1 10 := ⟨RX11, TX11, 12, okm_X11_takeOff, rfl, tb_in (List.mem_of_getElem? (i := 611) (by decide +kernel)), tb_in (List.mem_of_getElem? (i := 612) (by decide +kernel)), rfl⟩
theorem okm_X11_hour : okM M_X11_hour 1 := ⟨⟨by decide +kernel, by decide +kernel, by decide +kernel⟩, tb_in (List.mem_of_getElem? (i := 617) (by decide +kernel)), tb_in (List.mem_of_getElem? (i := 1) (by decide +kernel)), by decide⟩
theorem okv_X11_hour : okV M_X11_hour 1 10 := ⟨RX11, TX11, 12, okm_X11_hour, rfl, tb_in (List.mem_of_getElem? (i := 615) (by decide +kernel)), tb_in (List.mem_of_getElem? (i := 616) (by decide +kernel)), rfl⟩
theorem okm_X11_bear : okM M_X11_bear 1 := ⟨⟨by decide +kernel, by decide +kernel, by decide +kernel⟩, tb_in (List.mem_of_getElem? (i := 638) (by decide +kernel)), tb_in (List.mem_of_getElem? (i := 1) (by decide +kernel)), by decide⟩
theorem okv_X11_bear : okV M_X11_bear 1 10 := ⟨RX11, TX11, 12, okm_X11_bear, rfl, tb_in (List.mem_of_getElem? (i := 636) (by decide +kernel)), tb_in (List.mem_of_getElem? (i := 637) (by decide +kernel)), rfl⟩
theorem okm_X11_rest : okM M_X11_rest 0 := ⟨⟨by decide +kernel, by decide +kernel, by decide +kernel⟩, tb_in (List.mem_of_getElem? (i := 652) (by decide +kernel)), tb_in (List.mem_of_getElem? (i := 1) (by decide +kernel)), by decide⟩
theorem okv_X11_rest : okV M_X11_rest 0 10 := ⟨RX11, TX11, 12, okm_X11_rest, rfl, tb_in (List.mem_of_getElem? (i := 650) (by decide +kernel)), tb_in (List.mem_of_getElem? (i := 651) (by decide +kernel)), rfl⟩
theorem okm_X11_cut : okM M_X11_cut 2 := ⟨⟨by decide +kernel, by decide +kernel, by decide +kernel⟩, tb_in (List.mem_of_getElem? (i := 660) (by decide +kernel)), tb_in (List.mem_of_getElem? (i := 1) (by decide +kernel)), by decide⟩
theorem okv_X11_cut : okV M_X11_cut 2 10 := ⟨RX11, TX11, 12, okm_X11_cut, rfl, tb_in (List.mem_of_getElem? (i := 658) (by decide +kernel)), tb_in (List.mem_of_getElem? (i := 659) (by decide +kernel)), rfl⟩
theorem okm_X11_drift : okM M_X11_drift 1 := ⟨⟨by decide +kernel, by decide +kernel, by decide +kernel⟩, tb_in (List.mem_of_getElem? (i := 666) (by decide +kernel)), tb_in (List.mem_of_getElem? (i := 1) (by decide +kernel)), by decide⟩
theorem okv_X11_drift : okV M_X11_drift 1 10 := ⟨RX11, TX11, 12, okm_X11_drift, rfl, tb_in (List.mem_of_getElem? (i := 664) (by decide +kernel)), tb_in (List.mem_of_getElem? (i := 665) (by decide +kernel)), rfl⟩
theorem okm_X11_undo : okM M_X11_undo 0 := ⟨⟨by decide +kernel, by decide +kernel, by decide +kernel⟩, tb_in (List.mem_of_getElem? (i := 687) (by decide +kernel)), tb_in (List.mem_of_getElem? (i := 1) (by decide +kernel)), by decide⟩
theorem okv_X11_undo : okV M_X11_undo 0 10 := ⟨RX11, TX11, 12, okm_X11_undo, rfl, tb_in (List.mem_of_getElem? (i := 685) (by decide +kernel)), tb_in (List.mem_of_getElem? (i := 686) (by decide +kernel)), rfl⟩
theorem okm_X11_refusalOfHours : okM M_X11_refusalOfHours 1 := ⟨⟨by decide +kernel, by decide +kernel, by decide +kernel⟩, tb_in (List.mem_of_getElem? (i := 621) (by decide +kernel)), tb_in (List.mem_of_getElem? (i := 1) (by decide +kernel)), by decide⟩
theorem okv_X11_refusalOfHours : okV M_X11_refusalOfHours 1 10 := ⟨RX11, TX11, 12, okm_X11_refusalOfHours, rfl, tb_in (List.mem_of_getElem? (i := 620) (by decide +kernel)), List.mem_append_left _ (List.mem_of_getElem? (i := 14) (by decide +kernel)), rfl⟩
theorem okm_X11_toWrap : okM M_X11_toWrap 2 := ⟨⟨by decide +kernel, by decide +kernel, by decide +kernel⟩, tb_in (List.mem_of_getElem? (i := 695) (by decide +kernel)), tb_in (List.mem_of_getElem? (i := 1) (by decide +kernel)), by decide⟩
theorem okv_X11_toWrap : okV M_X11_toWrap 2 10 := ⟨RX11, TX11, 12, okm_X11_toWrap, rfl, tb_in (List.mem_of_getElem? (i := 693) (by decide +kernel)), tb_in (List.mem_of_getElem? (i := 694) (by decide +kernel)), rfl⟩
theorem okm_X11_soft : okM M_X11_soft 2 := ⟨⟨by decide +kernel, by decide +kernel, by decide +kernel⟩, tb_in (List.mem_of_getElem? (i := 711) (by decide +kernel)), tb_in (List.mem_of_getElem? (i := 1) (by decide +kernel)), by decide⟩
theorem okv_X11_soft : okV M_X11_soft 2 10 := ⟨RX11, TX11, 12, okm_X11_soft, rfl, tb_in (List.mem_of_getElem? (i := 709) (by decide +kernel)), tb_in (List.mem_of_getElem? (i := 710) (by decide +kernel)), rfl⟩
theorem okm_X11_when : okM M_X11_when 1 := ⟨⟨by decide +kernel, by decide +kernel, by decide +kernel⟩, tb_in (List.mem_of_getElem? (i := 716) (by decide +kernel)), tb_in (List.mem_of_getElem? (i := 1) (by decide +kernel)), by decide⟩
theorem okv_X11_when : okV M_X11_when 1 10 := ⟨RX11, TX11, 12, okm_X11_when, rfl, tb_in (List.mem_of_getElem? (i := 714) (by decide +kernel)), tb_in (List.mem_of_getElem? (i := 715) (by decide +kernel)), rfl⟩
theorem okm_X11_order : okM M_X11_order 2 := ⟨⟨by decide +kernel, by decide +kernel, by decide +kernel⟩, tb_in (List.mem_of_getElem? (i := 724) (by decide +kernel)), tb_in (List.mem_of_getElem? (i := 1) (by decide +kernel)), by decide⟩
theorem okv_X11_order : okV M_X11_order 2 10 := ⟨RX11, TX11, 12, okm_X11_order, rfl, tb_in (List.mem_of_getElem? (i := 722) (by decide +kernel)), tb_in (List.mem_of_getElem? (i := 723) (by decide +kernel)), rfl⟩
theorem okm_X11_halves : okM M_X11_halves 2 := ⟨⟨by decide +kernel, by decide +kernel, by decide +kernel⟩, tb_in (List.mem_of_getElem? (i := 741) (by decide +kernel)), tb_in (List.mem_of_getElem? (i := 1) (by decide +kernel)), by decide⟩
theorem okv_X11_halves : okV M_X11_halves 2 10 := ⟨RX11, TX11, 12, okm_X11_halves, rfl, tb_in (List.mem_of_getElem? (i := 739) (by decide +kernel)), tb_in (List.mem_of_getElem? (i := 740) (by decide +kernel)), rfl⟩
theorem okm_X11_mild : okM M_X11_mild 2 := ⟨⟨by decide +kernel, by decide +kernel, by decide +kernel⟩, tb_in (List.mem_of_getElem? (i := 753) (by decide +kernel)), tb_in (List.mem_of_getElem? (i := 1) (by decide +kernel)), by decide⟩
theorem okv_X11_mild : okV M_X11_mild 2 10 := ⟨RX11, TX11, 12, okm_X11_mild, rfl, tb_in (List.mem_of_getElem? (i := 751) (by decide +kernel)), tb_in (List.mem_of_getElem? (i := 752) (by decide +kernel)), rfl⟩
theorem okm_X11_bump : okM M_X11_bump 2 := ⟨⟨by decide +kernel, by decide +kernel, by decide +kernel⟩, tb_in (List.mem_of_getElem? (i := 759) (by decide +kernel)), tb_in (List.mem_of_getElem? (i := 1) (by decide +kernel)), by decide⟩
theorem okv_X11_bump : okV M_X11_bump 2 10 := ⟨RX11, TX11, 12, okm_X11_bump, rfl, tb_in (List.mem_of_getElem? (i := 757) (by decide +kernel)), tb_in (List.mem_of_getElem? (i := 758) (by decide +kernel)), rfl⟩
theorem okm_X11_write : okM M_X11_write 2 := ⟨⟨by decide +kernel, by decide +kernel, by decide +kernel⟩, tb_in (List.mem_of_getElem? (i := 767) (by decide +kernel)), tb_in (List.mem_of_getElem? (i := 1) (by decide +kernel)), by decide⟩
theorem okv_X11_write : okV M_X11_write 2 10 := ⟨RX11, TX11, 12, okm_X11_write, rfl, tb_in (List.mem_of_getElem? (i := 765) (by decide +kernel)), tb_in (List.mem_of_getElem? (i := 766) (by decide +kernel)), rfl⟩
theorem okm_X11_tear : okM M_X11_tear 0 := ⟨⟨by decide +kernel, by decide +kernel, by decide +kernel⟩, tb_in (List.mem_of_getElem? (i := 775) (by decide +kernel)), tb_in (List.mem_of_getElem? (i := 1) (by decide +kernel)), by decide⟩
theorem okv_X11_tear : okV M_X11_tear 0 10 := ⟨RX11, TX11, 12, okm_X11_tear, rfl, tb_in (List.mem_of_getElem? (i := 773) (by decide +kernel)), tb_in (List.mem_of_getElem? (i := 774) (by decide +kernel)), rfl⟩
theorem okm_X11_judge : okM M_X11_judge 0 := ⟨⟨by decide +kernel, by decide +kernel, by decide +kernel⟩, tb_in (List.mem_of_getElem? (i := 779) (by decide +kernel)), tb_in (List.mem_of_getElem? (i := 1) (by decide +kernel)), by decide⟩
theorem okv_X11_judge : okV M_X11_judge 0 10 := ⟨RX11, TX11, 12, okm_X11_judge, rfl, tb_in (List.mem_of_getElem? (i := 777) (by decide +kernel)), tb_in (List.mem_of_getElem? (i := 778) (by decide +kernel)), rfl⟩
theorem okm_X11_seed : okM M_X11_seed 1 := ⟨⟨by decide +kernel, by decide +kernel, by decide +kernel⟩, tb_in (List.mem_of_getElem? (i := 787) (by decide +kernel)), tb_in (List.mem_of_getElem? (i := 1) (by decide +kernel)), by decide⟩
theorem okv_X11_seed : okV M_X11_seed 1 10 := ⟨RX11, TX11, 12, okm_X11_seed, rfl, tb_in (List.mem_of_getElem? (i := 785) (by decide +kernel)), tb_in (List.mem_of_getElem? (i := 786) (by decide +kernel)), rfl⟩
theorem okm_X11_keep : okM M_X11_keep 1 := ⟨⟨by decide +kernel, by decide +kernel, by decide +kernel⟩, tb_in (List.mem_of_getElem? (i := 791) (by decide +kernel)), tb_in (List.mem_of_getElem? (i := 1) (by decide +kernel)), by decide⟩
theorem okv_X11_keep : okV M_X11_keep 1 10 := ⟨RX11, TX11, 12, okm_X11_keep, rfl, tb_in (List.mem_of_getElem? (i := 789) (by decide +kernel)), tb_in (List.mem_of_getElem? (i := 790) (by decide +kernel)), rfl⟩
theorem okm_X11_goBack : okM M_X11_goBack 1 := ⟨⟨by decide +kernel, by decide +kernel, by decide +kernel⟩, tb_in (List.mem_of_getElem? (i := 799) (by decide +kernel)), tb_in (List.mem_of_getElem? (i := 1) (by decide +kernel)), by decide⟩
theorem okv_X11_goBack : okV M_X11_goBack 1 10 := ⟨RX11, TX11, 12, okm_X11_goBack, rfl, tb_in (List.mem_of_getElem? (i := 797) (by decide +kernel)), tb_in (List.mem_of_getElem? (i := 798) (by decide +kernel)), rfl⟩
theorem okm_X12_in : okM M_X12_in 3 := ⟨⟨by decide +kernel, by decide +kernel, by decide +kernel⟩, tb_in (List.mem_of_getElem? (i := 926) (by decide +kernel)), tb_in (List.mem_of_getElem? (i := 12) (by decide +kernel)), by decide⟩
theorem oks_X12_in : okS M_X12_in 3 := ⟨okm_X12_in, tb_in (List.mem_of_getElem? (i := 925) (by decide +kernel))⟩
theorem okm_X12_has : okM M_X12_has 2 := ⟨⟨by decide +kernel, by decide +kernel, by decide +kernel⟩, tb_in (List.mem_of_getElem? (i := 1018) (by decide +kernel)), tb_in (List.mem_of_getElem? (i := 12) (by decide +kernel)), by decide⟩
theorem oks_X12_has : okS M_X12_has 2 := ⟨okm_X12_has, tb_in (List.mem_of_getElem? (i := 1017) (by decide +kernel))⟩
theorem okm_X12_bits : okM M_X12_bits 1 := ⟨⟨by decide +kernel, by decide +kernel, by decide +kernel⟩, tb_in (List.mem_of_getElem? (i := 1048) (by decide +kernel)), tb_in (List.mem_of_getElem? (i := 12) (by decide +kernel)), by decide⟩
theorem oks_X12_bits : okS M_X12_bits 1 := ⟨okm_X12_bits, tb_in (List.mem_of_getElem? (i := 1047) (by decide +kernel))⟩
theorem okm_X12_feed : okM M_X12_feed 1 := ⟨⟨by decide +kernel, by decide +kernel, by decide +kernel⟩, tb_in (List.mem_of_getElem? (i := 923) (by decide +kernel)), tb_in (List.mem_of_getElem? (i := 12) (by decide +kernel)), by decide⟩
theorem okv_X12_feed : okV M_X12_feed 1 11 := ⟨RX12, TX12, 36, okm_X12_feed, rfl, tb_in (List.mem_of_getElem? (i := 921) (by decide +kernel)), tb_in (List.mem_of_getElem? (i := 922) (by decide +kernel)), rfl⟩
theorem okm_X12_letterAt : okM M_X12_letterAt 1 := ⟨⟨by decide +kernel, by decide +kernel, by decide +kernel⟩, tb_in (List.mem_of_getElem? (i := 944) (by decide +kernel)), tb_in (List.mem_of_getElem? (i := 12) (by decide +kernel)), by decide⟩
theorem okv_X12_letterAt : okV M_X12_letterAt 1 11 := ⟨RX12, TX12, 36, okm_X12_letterAt, rfl, tb_in (List.mem_of_getElem? (i := 943) (by decide +kernel)), List.mem_append_left _ (List.mem_of_getElem? (i := 18) (by decide +kernel)), rfl⟩
theorem okm_X12_nextLetter : okM M_X12_nextLetter 0 := ⟨⟨by decide +kernel, by decide +kernel, by decide +kernel⟩, tb_in (List.mem_of_getElem? (i := 940) (by decide +kernel)), tb_in (List.mem_of_getElem? (i := 12) (by decide +kernel)), by decide⟩
theorem okv_X12_nextLetter : okV M_X12_nextLetter 0 11 := ⟨RX12, TX12, 36, okm_X12_nextLetter, rfl, tb_in (List.mem_of_getElem? (i := 939) (by decide +kernel)), List.mem_append_left _ (List.mem_of_getElem? (i := 17) (by decide +kernel)), rfl⟩
theorem okm_X12_fails : okM M_X12_fails 2 := ⟨⟨by decide +kernel, by decide +kernel, by decide +kernel⟩, tb_in (List.mem_of_getElem? (i := 960) (by decide +kernel)), tb_in (List.mem_of_getElem? (i := 12) (by decide +kernel)), by decide⟩
theorem okv_X12_fails : okV M_X12_fails 2 11 := ⟨RX12, TX12, 36, okm_X12_fails, rfl, tb_in (List.mem_of_getElem? (i := 959) (by decide +kernel)), List.mem_append_left _ (List.mem_of_getElem? (i := 22) (by decide +kernel)), rfl⟩
theorem okm_X12_readsNumber : okM M_X12_readsNumber 2 := ⟨⟨by decide +kernel, by decide +kernel, by decide +kernel⟩, tb_in (List.mem_of_getElem? (i := 956) (by decide +kernel)), tb_in (List.mem_of_getElem? (i := 12) (by decide +kernel)), by decide⟩
theorem okv_X12_readsNumber : okV M_X12_readsNumber 2 11 := ⟨RX12, TX12, 36, okm_X12_readsNumber, rfl, tb_in (List.mem_of_getElem? (i := 955) (by decide +kernel)), List.mem_append_left _ (List.mem_of_getElem? (i := 21) (by decide +kernel)), rfl⟩
theorem okm_X12_readsSign : okM M_X12_readsSign 1 := ⟨⟨by decide +kernel, by decide +kernel, by decide +kernel⟩, tb_in (List.mem_of_getElem? (i := 964) (by decide +kernel)), tb_in (List.mem_of_getElem? (i := 12) (by decide +kernel)), by decide⟩
theorem okv_X12_readsSign : okV M_X12_readsSign 1 11 := ⟨RX12, TX12, 36, okm_X12_readsSign, rfl, tb_in (List.mem_of_getElem? (i := 963) (by decide +kernel)), List.mem_append_left _ (List.mem_of_getElem? (i := 23) (by decide +kernel)), rfl⟩
theorem okm_X12_readsHead : okM M_X12_readsHead 0 := ⟨⟨by decide +kernel, by decide +kernel, by decide +kernel⟩, tb_in (List.mem_of_getElem? (i := 952) (by decide +kernel)), tb_in (List.mem_of_getElem? (i := 12) (by decide +kernel)), by decide⟩
theorem okv_X12_readsHead : okV M_X12_readsHead 0 11 := ⟨RX12, TX12, 36, okm_X12_readsHead, rfl, tb_in (List.mem_of_getElem? (i := 951) (by decide +kernel)), List.mem_append_left _ (List.mem_of_getElem? (i := 20) (by decide +kernel)), rfl⟩
theorem okm_X12_readsTrouble : okM M_X12_readsTrouble 0 := ⟨⟨by decide +kernel, by decide +kernel, by decide +kernel⟩, tb_in (List.mem_of_getElem? (i := 968) (by decide +kernel)), tb_in (List.mem_of_getElem? (i := 12) (by decide +kernel)), by decide⟩
theorem okv_X12_readsTrouble : okV M_X12_readsTrouble 0 11 := ⟨RX12, TX12, 36, okm_X12_readsTrouble, rfl, tb_in (List.mem_of_getElem? (i := 967) (by decide +kernel)), List.mem_append_left _ (List.mem_of_getElem? (i := 24) (by decide +kernel)), rfl⟩
theorem okm_X12_readsEater : okM M_X12_readsEater 0 := ⟨⟨by decide +kernel, by decide +kernel, by decide +kernel⟩, tb_in (List.mem_of_getElem? (i := 972) (by decide +kernel)), tb_in (List.mem_of_getElem? (i := 12) (by decide +kernel)), by decide⟩
theorem okv_X12_readsEater : okV M_X12_readsEater 0 11 := ⟨RX12, TX12, 36, okm_X12_readsEater, rfl, tb_in (List.mem_of_getElem? (i := 971) (by decide +kernel)), List.mem_append_left _ (List.mem_of_getElem? (i := 25) (by decide +kernel)), rfl⟩
theorem okm_X12_readsClause : okM M_X12_readsClause 0 := ⟨⟨by decide +kernel, by decide +kernel, by decide +kernel⟩, tb_in (List.mem_of_getElem? (i := 948) (by decide +kernel)), tb_in (List.mem_of_getElem? (i := 12) (by decide +kernel)), by decide⟩
theorem okv_X12_readsClause : okV M_X12_readsClause 0 11 := ⟨RX12, TX12, 36, okm_X12_readsClause, rfl, tb_in (List.mem_of_getElem? (i := 947) (by decide +kernel)), List.mem_append_left _ (List.mem_of_getElem? (i := 19) (by decide +kernel)), rfl⟩
theorem okm_X12_readsKitchen : okM M_X12_readsKitchen 0 := ⟨⟨by decide +kernel, by decide +kernel, by decide +kernel⟩, tb_in (List.mem_of_getElem? (i := 936) (by decide +kernel)), tb_in (List.mem_of_getElem? (i := 12) (by decide +kernel)), by decide⟩
theorem okv_X12_readsKitchen : okV M_X12_readsKitchen 0 11 := ⟨RX12, TX12, 36, okm_X12_readsKitchen, rfl, tb_in (List.mem_of_getElem? (i := 935) (by decide +kernel)), List.mem_append_left _ (List.mem_of_getElem? (i := 16) (by decide +kernel)), rfl⟩
theorem okm_X12_kitchen : okM M_X12_kitchen 0 := ⟨⟨by decide +kernel, by decide +kernel, by decide +kernel⟩, tb_in (List.mem_of_getElem? (i := 932) (by decide +kernel)), tb_in (List.mem_of_getElem? (i := 12) (by decide +kernel)), by decide⟩
theorem okv_X12_kitchen : okV M_X12_kitchen 0 11 := ⟨RX12, TX12, 36, okm_X12_kitchen, rfl, tb_in (List.mem_of_getElem? (i := 930) (by decide +kernel)), tb_in (List.mem_of_getElem? (i := 931) (by decide +kernel)), rfl⟩
theorem okm_X12_fault : okM M_X12_fault 0 := ⟨⟨by decide +kernel, by decide +kernel, by decide +kernel⟩, tb_in (List.mem_of_getElem? (i := 976) (by decide +kernel)), tb_in (List.mem_of_getElem? (i := 12) (by decide +kernel)), by decide⟩
theorem okv_X12_fault : okV M_X12_fault 0 11 := ⟨RX12, TX12, 36, okm_X12_fault, rfl, tb_in (List.mem_of_getElem? (i := 974) (by decide +kernel)), tb_in (List.mem_of_getElem? (i := 975) (by decide +kernel)), rfl⟩
theorem okm_X12_isKitchen : okM M_X12_isKitchen 0 := ⟨⟨by decide +kernel, by decide +kernel, by decide +kernel⟩, tb_in (List.mem_of_getElem? (i := 1123) (by decide +kernel)), tb_in (List.mem_of_getElem? (i := 12) (by decide +kernel)), by decide⟩
theorem okv_X12_isKitchen : okV M_X12_isKitchen 0 11 := ⟨RX12, TX12, 36, okm_X12_isKitchen, rfl, tb_in (List.mem_of_getElem? (i := 1122) (by decide +kernel)), List.mem_append_left _ (List.mem_of_getElem? (i := 46) (by decide +kernel)), rfl⟩
theorem okm_X12_isTrouble : okM M_X12_isTrouble 1 := ⟨⟨by decide +kernel, by decide +kernel, by decide +kernel⟩, tb_in (List.mem_of_getElem? (i := 1034) (by decide +kernel)), tb_in (List.mem_of_getElem? (i := 12) (by decide +kernel)), by decide⟩
theorem okv_X12_isTrouble : okV M_X12_isTrouble 1 11 := ⟨RX12, TX12, 36, okm_X12_isTrouble, rfl, tb_in (List.mem_of_getElem? (i := 1033) (by decide +kernel)), List.mem_append_left _ (List.mem_of_getElem? (i := 36) (by decide +kernel)), rfl⟩
theorem okm_X12_isEater : okM M_X12_isEater 1 := ⟨⟨by decide +kernel, by decide +kernel, by decide +kernel⟩, tb_in (List.mem_of_getElem? (i := 1073) (by decide +kernel)), tb_in (List.mem_of_getElem? (i := 12) (by decide +kernel)), by decide⟩
theorem okv_X12_isEater : okV M_X12_isEater 1 11 := ⟨RX12, TX12, 36, okm_X12_isEater, rfl, tb_in (List.mem_of_getElem? (i := 1072) (by decide +kernel)), List.mem_append_left _ (List.mem_of_getElem? (i := 39) (by decide +kernel)), rfl⟩
theorem okm_X12_are : okM M_X12_are 1 := ⟨⟨by decide +kernel, by decide +kernel, by decide +kernel⟩, tb_in (List.mem_of_getElem? (i := 984) (by decide +kernel)), tb_in (List.mem_of_getElem? (i := 12) (by decide +kernel)), by decide⟩
theorem okv_X12_are : okV M_X12_are 1 11 := ⟨RX12, TX12, 36, okm_X12_are, rfl, tb_in (List.mem_of_getElem? (i := 983) (by decide +kernel)), List.mem_append_left _ (List.mem_of_getElem? (i := 26) (by decide +kernel)), rfl⟩
theorem okm_X12_isGood : okM M_X12_isGood 1 := ⟨⟨by decide +kernel, by decide +kernel, by decide +kernel⟩, tb_in (List.mem_of_getElem? (i := 992) (by decide +kernel)), tb_in (List.mem_of_getElem? (i := 12) (by decide +kernel)), by decide⟩
theorem okv_X12_isGood : okV M_X12_isGood 1 11 := ⟨RX12, TX12, 36, okm_X12_isGood, rfl, tb_in (List.mem_of_getElem? (i := 991) (by decide +kernel)), List.mem_append_left _ (List.mem_of_getElem? (i := 28) (by decide +kernel)), rfl⟩
theorem okm_X12_good : okM M_X12_good 0 := ⟨⟨by decide +kernel, by decide +kernel, by decide +kernel⟩, tb_in (List.mem_of_getElem? (i := 988) (by decide +kernel)), tb_in (List.mem_of_getElem? (i := 12) (by decide +kernel)), by decide⟩
theorem okv_X12_good : okV M_X12_good 0 11 := ⟨RX12, TX12, 36, okm_X12_good, rfl, tb_in (List.mem_of_getElem? (i := 987) (by decide +kernel)), List.mem_append_left _ (List.mem_of_getElem? (i := 27) (by decide +kernel)), rfl⟩
theorem okm_X12_left : okM M_X12_left 1 := ⟨⟨by decide +kernel, by decide +kernel, by decide +kernel⟩, tb_in (List.mem_of_getElem? (i := 1000) (by decide +kernel)), tb_in (List.mem_of_getElem? (i := 12) (by decide +kernel)), by decide⟩
theorem okv_X12_left : okV M_X12_left 1 11 := ⟨RX12, TX12, 36, okm_X12_left, rfl, tb_in (List.mem_of_getElem? (i := 999) (by decide +kernel)), List.mem_append_left _ (List.mem_of_getElem? (i := 30) (by decide +kernel)), rfl⟩
theorem okm_X12_leftAll : okM M_X12_leftAll 0 := ⟨⟨by decide +kernel, by decide +kernel, by decide +kernel⟩, tb_in (List.mem_of_getElem? (i := 996) (by decide +kernel)), tb_in (List.mem_of_getElem? (i := 12) (by decide +kernel)), by decide⟩
theorem okv_X12_leftAll : okV M_X12_leftAll 0 11 := ⟨RX12, TX12, 36, okm_X12_leftAll, rfl, tb_in (List.mem_of_getElem? (i := 995) (by decide +kernel)), List.mem_append_left _ (List.mem_of_getElem? (i := 29) (by decide +kernel)), rfl⟩
theorem okm_X12_strongest : okM M_X12_strongest 0 := ⟨⟨by decide +kernel, by decide +kernel, by decide +kernel⟩, tb_in (List.mem_of_getElem? (i := 1004) (by decide +kernel)), tb_in (List.mem_of_getElem? (i := 12) (by decide +kernel)), by decide⟩
theorem okv_X12_strongest : okV M_X12_strongest 0 11 := ⟨RX12, TX12, 36, okm_X12_strongest, rfl, tb_in (List.mem_of_getElem? (i := 1003) (by decide +kernel)), List.mem_append_left _ (List.mem_of_getElem? (i := 31) (by decide +kernel)), rfl⟩
theorem okm_X12_weight : okM M_X12_weight 1 := ⟨⟨by decide +kernel, by decide +kernel, by decide +kernel⟩, tb_in (List.mem_of_getElem? (i := 1065) (by decide +kernel)), tb_in (List.mem_of_getElem? (i := 12) (by decide +kernel)), by decide⟩
theorem okv_X12_weight : okV M_X12_weight 1 11 := ⟨RX12, TX12, 36, okm_X12_weight, rfl, tb_in (List.mem_of_getElem? (i := 1064) (by decide +kernel)), List.mem_append_left _ (List.mem_of_getElem? (i := 38) (by decide +kernel)), rfl⟩
theorem okm_X12_isBearable : okM M_X12_isBearable 1 := ⟨⟨by decide +kernel, by decide +kernel, by decide +kernel⟩, tb_in (List.mem_of_getElem? (i := 1061) (by decide +kernel)), tb_in (List.mem_of_getElem? (i := 12) (by decide +kernel)), by decide⟩
theorem okv_X12_isBearable : okV M_X12_isBearable 1 11 := ⟨RX12, TX12, 36, okm_X12_isBearable, rfl, tb_in (List.mem_of_getElem? (i := 1060) (by decide +kernel)), List.mem_append_left _ (List.mem_of_getElem? (i := 37) (by decide +kernel)), rfl⟩
theorem okm_X12_told : okM M_X12_told 1 := ⟨⟨by decide +kernel, by decide +kernel, by decide +kernel⟩, tb_in (List.mem_of_getElem? (i := 980) (by decide +kernel)), tb_in (List.mem_of_getElem? (i := 12) (by decide +kernel)), by decide⟩
theorem okv_X12_told : okV M_X12_told 1 11 := ⟨RX12, TX12, 36, okm_X12_told, rfl, tb_in (List.mem_of_getElem? (i := 978) (by decide +kernel)), tb_in (List.mem_of_getElem? (i := 979) (by decide +kernel)), rfl⟩
theorem okm_X12_grown : okM M_X12_grown 1 := ⟨⟨by decide +kernel, by decide +kernel, by decide +kernel⟩, tb_in (List.mem_of_getElem? (i := 1044) (by decide +kernel)), tb_in (List.mem_of_getElem? (i := 12) (by decide +kernel)), by decide⟩
theorem oks_X12_grown : okS M_X12_grown 1 := ⟨okm_X12_grown, tb_in (List.mem_of_getElem? (i := 1043) (by decide +kernel))⟩
theorem okm_X12_partOf : okM M_X12_partOf 2 := ⟨⟨by decide +kernel, by decide +kernel, by decide +kernel⟩, tb_in (List.mem_of_getElem? (i := 1041) (by decide +kernel)), tb_in (List.mem_of_getElem? (i := 12) (by decide +kernel)), by decide⟩
theorem oks_X12_partOf : okS M_X12_partOf 2 := ⟨okm_X12_partOf, tb_in (List.mem_of_getElem? (i := 1040) (by decide +kernel))⟩
theorem okm_X12_parts : okM M_X12_parts 2 := ⟨⟨by decide +kernel, by decide +kernel, by decide +kernel⟩, tb_in (List.mem_of_getElem? (i := 1038) (by decide +kernel)), tb_in (List.mem_of_getElem? (i := 12) (by decide +kernel)), by decide⟩
theorem oks_X12_parts : okS M_X12_parts 2 := ⟨okm_X12_parts, tb_in (List.mem_of_getElem? (i := 1037) (by decide +kernel))⟩
theorem okm_X12_edgeOf : okM M_X12_edgeOf 2 := ⟨⟨by decide +kernel, by decide +kernel, by decide +kernel⟩, tb_in (List.mem_of_getElem? (i := 1054) (by decide +kernel)), tb_in (List.mem_of_getElem? (i := 12) (by decide +kernel)), by decide⟩
theorem oks_X12_edgeOf : okS M_X12_edgeOf 2 := ⟨okm_X12_edgeOf, tb_in (List.mem_of_getElem? (i := 1053) (by decide +kernel))⟩
theorem okm_X12_edge : okM M_X12_edge 1 := ⟨⟨by decide +kernel, by decide +kernel, by decide +kernel⟩, tb_in (List.mem_of_getElem? (i := 1051) (by decide +kernel)), tb_in (List.mem_of_getElem? (i := 12) (by decide +kernel)), by decide⟩
theorem oks_X12_edge : okS M_X12_edge 1 := ⟨okm_X12_edge, tb_in (List.mem_of_getElem? (i := 1050) (by decide +kernel))⟩
theorem okm_X12_hold : okM M_X12_hold 1 := ⟨⟨by decide +kernel, by decide +kernel, by decide +kernel⟩, tb_in (List.mem_of_getElem? (i := 1057) (by decide +kernel)), tb_in (List.mem_of_getElem? (i := 12) (by decide +kernel)), by decide⟩
theorem oks_X12_hold : okS M_X12_hold 1 := ⟨okm_X12_hold, tb_in (List.mem_of_getElem? (i := 1056) (by decide +kernel))⟩
theorem okm_X12_trouble : okM M_X12_trouble 2 := ⟨⟨by decide +kernel, by decide +kernel, by decide +kernel⟩, tb_in (List.mem_of_getElem? (i := 1030) (by decide +kernel)), tb_in (List.mem_of_getElem? (i := 12) (by decide +kernel)), by decide⟩
theorem okv_X12_trouble : okV M_X12_trouble 2 11 := ⟨RX12, TX12, 36, okm_X12_trouble, rfl, tb_in (List.mem_of_getElem? (i := 1028) (by decide +kernel)), tb_in (List.mem_of_getElem? (i := 1029) (by decide +kernel)), rfl⟩
theorem okm_X12_eater : okM M_X12_eater 2 := ⟨⟨by decide +kernel, by decide +kernel, by decide +kernel⟩, tb_in (List.mem_of_getElem? (i := 1069) (by decide +kernel)), tb_in (List.mem_of_getElem? (i := 12) (by decide +kernel)), by decide⟩
theorem okv_X12_eater : okV M_X12_eater 2 11 := ⟨RX12, TX12, 36, okm_X12_eater, rfl, tb_in (List.mem_of_getElem? (i := 1067) (by decide +kernel)), tb_in (List.mem_of_getElem? (i := 1068) (by decide +kernel)), rfl⟩
theorem okm_X12_remember : okM M_X12_remember 0 := ⟨⟨by decide +kernel, by decide +kernel, by decide +kernel⟩, tb_in (List.mem_of_getElem? (i := 1082) (by decide +kernel)), tb_in (List.mem_of_getElem? (i := 12) (by decide +kernel)), by decide⟩
theorem okv_X12_remember : okV M_X12_remember 0 11 := ⟨RX12, TX12, 36, okm_X12_remember, rfl, tb_in (List.mem_of_getElem? (i := 1081) (by decide +kernel)), List.mem_append_left _ (List.mem_of_getElem? (i := 40) (by decide +kernel)), rfl⟩
theorem okm_X12_sheetsFor : okM M_X12_sheetsFor 1 := ⟨⟨by decide +kernel, by decide +kernel, by decide +kernel⟩, tb_in (List.mem_of_getElem? (i := 1090) (by decide +kernel)), tb_in (List.mem_of_getElem? (i := 12) (by decide +kernel)), by decide⟩
theorem okv_X12_sheetsFor : okV M_X12_sheetsFor 1 11 := ⟨RX12, TX12, 36, okm_X12_sheetsFor, rfl, tb_in (List.mem_of_getElem? (i := 1089) (by decide +kernel)), List.mem_append_left _ (List.mem_of_getElem? (i := 42) (by decide +kernel)), rfl⟩
theorem okm_X12_wraps : okM M_X12_wraps 1 := ⟨⟨by decide +kernel, by decide +kernel, by decide +kernel⟩, tb_in (List.mem_of_getElem? (i := 1086) (by decide +kernel)), tb_in (List.mem_of_getElem? (i := 12) (by decide +kernel)), by decide⟩
theorem okv_X12_wraps : okV M_X12_wraps 1 11 := ⟨RX12, TX12, 36, okm_X12_wraps, rfl, tb_in (List.mem_of_getElem? (i := 1085) (by decide +kernel)), List.mem_append_left _ (List.mem_of_getElem? (i := 41) (by decide +kernel)), rfl⟩
theorem okm_X12_wrap : okM M_X12_wrap 1 := ⟨⟨by decide +kernel, by decide +kernel, by decide +kernel⟩, tb_in (List.mem_of_getElem? (i := 1077) (by decide +kernel)), tb_in (List.mem_of_getElem? (i := 12) (by decide +kernel)), by decide⟩
theorem okv_X12_wrap : okV M_X12_wrap 1 11 := ⟨RX12, TX12, 36, okm_X12_wrap, rfl, tb_in (List.mem_of_getElem? (i := 1075) (by decide +kernel)), tb_in (List.mem_of_getElem? (i := 1076) (by decide +kernel)), rfl⟩
theorem okm_X12_potsFree : okM M_X12_potsFree 0 := ⟨⟨by decide +kernel, by decide +kernel, by decide +kernel⟩, tb_in (List.mem_of_getElem? (i := 1107) (by decide +kernel)), tb_in (List.mem_of_getElem? (i := 12) (by decide +kernel)), by decide⟩
theorem okv_X12_potsFree : okV M_X12_potsFree 0 11 := ⟨RX12, TX12, 36, okm_X12_potsFree, rfl, tb_in (List.mem_of_getElem? (i := 1106) (by decide +kernel)), List.mem_append_left _ (List.mem_of_getElem? (i := 44) (by decide +kernel)), rfl⟩
theorem okm_X12_putOn : okM M_X12_putOn 1 := ⟨⟨by decide +kernel, by decide +kernel, by decide +kernel⟩, tb_in (List.mem_of_getElem? (i := 1103) (by decide +kernel)), tb_in (List.mem_of_getElem? (i := 12) (by decide +kernel)), by decide⟩
theorem okv_X12_putOn : okV M_X12_putOn 1 11 := ⟨RX12, TX12, 36, okm_X12_putOn, rfl, tb_in (List.mem_of_getElem? (i := 1101) (by decide +kernel)), tb_in (List.mem_of_getElem? (i := 1102) (by decide +kernel)), rfl⟩
theorem okm_X12_takeOff : okM M_X12_takeOff 1 := ⟨⟨by decide +kernel, by decide +kernel, by decide +kernel⟩, tb_in (List.mem_of_getElem? (i := 1111) (by decide +kernel)), tb_in (List.mem_of_getElem? (i := 12) (by decide +kernel)), by decide⟩
theorem okv_X12_takeOff : okV M_X12_takeOff 1 11 := ⟨RX12, TX12, 36, okm_X12_takeOff, rfl, tb_in (List.mem_of_getElem? (i := 1109) (by decide +kernel)), tb_in (List.mem_of_getElem? (i := 1110) (by decide +kernel)), rfl⟩
theorem okm_X12_softens : okM M_X12_softens 2 := ⟨⟨by decide +kernel, by decide +kernel, by decide +kernel⟩, tb_in (List.mem_of_getElem? (i := 1131) (by decide +kernel)), tb_in (List.mem_of_getElem? (i := 12) (by decide +kernel)), by decide⟩
theorem okv_X12_softens : okV M_X12_softens 2 11 := ⟨RX12, TX12, 36, okm_X12_softens, rfl, tb_in (List.mem_of_getElem? (i := 1130) (by decide +kernel)), List.mem_append_left _ (List.mem_of_getElem? (i := 48) (by decide +kernel)), rfl⟩
theorem okm_X12_less : okM M_X12_less 2 := ⟨⟨by decide +kernel, by decide +kernel, by decide +kernel⟩, tb_in (List.mem_of_getElem? (i := 1134) (by decide +kernel)), tb_in (List.mem_of_getElem? (i := 12) (by decide +kernel)), by decide⟩
theorem oks_X12_less : okS M_X12_less 2 := ⟨okm_X12_less, tb_in (List.mem_of_getElem? (i := 1133) (by decide +kernel))⟩
theorem okm_X12_passes : okM M_X12_passes 0 := ⟨⟨by decide +kernel, by decide +kernel, by decide +kernel⟩, tb_in (List.mem_of_getElem? (i := 1127) (by decide +kernel)), tb_in (List.mem_of_getElem? (i := 12) (by decide +kernel)), by decide⟩
theorem okv_X12_passes : okV M_X12_passes 0 11 := ⟨RX12, TX12, 36, okm_X12_passes, rfl, tb_in (List.mem_of_getElem? (i := 1126) (by decide +kernel)), List.mem_append_left _ (List.mem_of_getElem? (i := 47) (by decide +kernel)), rfl⟩
theorem okm_X12_needHours : okM M_X12_needHours 1 := ⟨⟨by decide +kernel, by decide +kernel, by decide +kernel⟩, tb_in (List.mem_of_getElem? (i := 1119) (by decide +kernel)), tb_in (List.mem_of_getElem? (i := 12) (by decide +kernel)), by decide⟩
theorem okv_X12_needHours : okV M_X12_needHours 1 11 := ⟨RX12, TX12, 36, okm_X12_needHours, rfl, tb_in (List.mem_of_getElem? (i := 1118) (by decide +kernel)), List.mem_append_left _ (List.mem_of_getElem? (i := 45) (by decide +kernel)), rfl⟩
theorem okm_X12_hour : okM M_X12_hour 1 := ⟨⟨by decide +kernel, by decide +kernel, by decide +kernel⟩, tb_in (List.mem_of_getElem? (i := 1115) (by decide +kernel)), tb_in (List.mem_of_getElem? (i := 12) (by decide +kernel)), by decide⟩
theorem okv_X12_hour : okV M_X12_hour 1 11 := ⟨RX12, TX12, 36, okm_X12_hour, rfl, tb_in (List.mem_of_getElem? (i := 1113) (by decide +kernel)), tb_in (List.mem_of_getElem? (i := 1114) (by decide +kernel)), rfl⟩
theorem okm_X12_canBeBorne : okM M_X12_canBeBorne 1 := ⟨⟨by decide +kernel, by decide +kernel, by decide +kernel⟩, tb_in (List.mem_of_getElem? (i := 1142) (by decide +kernel)), tb_in (List.mem_of_getElem? (i := 12) (by decide +kernel)), by decide⟩
theorem okv_X12_canBeBorne : okV M_X12_canBeBorne 1 11 := ⟨RX12, TX12, 36, okm_X12_canBeBorne, rfl, tb_in (List.mem_of_getElem? (i := 1141) (by decide +kernel)), List.mem_append_left _ (List.mem_of_getElem? (i := 49) (by decide +kernel)), rfl⟩
theorem okm_X12_bears : okM M_X12_bears 1 := ⟨⟨by decide +kernel, by decide +kernel, by decide +kernel⟩, tb_in (List.mem_of_getElem? (i := 1146) (by decide +kernel)), tb_in (List.mem_of_getElem? (i := 12) (by decide +kernel)), by decide⟩
theorem okv_X12_bears : okV M_X12_bears 1 11 := ⟨RX12, TX12, 36, okm_X12_bears, rfl, tb_in (List.mem_of_getElem? (i := 1145) (by decide +kernel)), List.mem_append_left _ (List.mem_of_getElem? (i := 50) (by decide +kernel)), rfl⟩
theorem okm_X12_bear : okM M_X12_bear 1 := ⟨⟨by decide +kernel, by decide +kernel, by decide +kernel⟩, tb_in (List.mem_of_getElem? (i := 1138) (by decide +kernel)), tb_in (List.mem_of_getElem? (i := 12) (by decide +kernel)), by decide⟩
theorem okv_X12_bear : okV M_X12_bear 1 11 := ⟨RX12, TX12, 36, okm_X12_bear, rfl, tb_in (List.mem_of_getElem? (i := 1136) (by decide +kernel)), tb_in (List.mem_of_getElem? (i := 1137) (by decide +kernel)), rfl⟩
theorem okm_X12_rests : okM M_X12_rests 0 := ⟨⟨by decide +kernel, by decide +kernel, by decide +kernel⟩, tb_in (List.mem_of_getElem? (i := 1154) (by decide +kernel)), tb_in (List.mem_of_getElem? (i := 12) (by decide +kernel)), by decide⟩
theorem okv_X12_rests : okV M_X12_rests 0 11 := ⟨RX12, TX12, 36, okm_X12_rests, rfl, tb_in (List.mem_of_getElem? (i := 1153) (by decide +kernel)), List.mem_append_left _ (List.mem_of_getElem? (i := 51) (by decide +kernel)), rfl⟩
theorem okm_X12_rest : okM M_X12_rest 0 := ⟨⟨by decide +kernel, by decide +kernel, by decide +kernel⟩, tb_in (List.mem_of_getElem? (i := 1150) (by decide +kernel)), tb_in (List.mem_of_getElem? (i := 12) (by decide +kernel)), by decide⟩
theorem okv_X12_rest : okV M_X12_rest 0 11 := ⟨RX12, TX12, 36, okm_X12_rest, rfl, tb_in (List.mem_of_getElem? (i := 1148) (by decide +kernel)), tb_in (List.mem_of_getElem? (i := 1149) (by decide +kernel)), rfl⟩
theorem okm_X12_cut : okM M_X12_cut 2 := ⟨⟨by decide +kernel, by decide +kernel, by decide +kernel⟩, tb_in (List.mem_of_getElem? (i := 1158) (by decide +kernel)), tb_in (List.mem_of_getElem? (i := 12) (by decide +kernel)), by decide⟩
theorem okv_X12_cut : okV M_X12_cut 2 11 := ⟨RX12, TX12, 36, okm_X12_cut, rfl, tb_in (List.mem_of_getElem? (i := 1156) (by decide +kernel)), tb_in (List.mem_of_getElem? (i := 1157) (by decide +kernel)), rfl⟩
theorem okm_X12_draw : okM M_X12_draw 1 := ⟨⟨by decide +kernel, by decide +kernel, by decide +kernel⟩, tb_in (List.mem_of_getElem? (i := 1166) (by decide +kernel)), tb_in (List.mem_of_getElem? (i := 12) (by decide +kernel)), by decide⟩
theorem okv_X12_draw : okV M_X12_draw 1 11 := ⟨RX12, TX12, 36, okm_X12_draw, rfl, tb_in (List.mem_of_getElem? (i := 1165) (by decide +kernel)), List.mem_append_left _ (List.mem_of_getElem? (i := 52) (by decide +kernel)), rfl⟩
theorem okm_X12_does : okM M_X12_does 2 := ⟨⟨by decide +kernel, by decide +kernel, by decide +kernel⟩, tb_in (List.mem_of_getElem? (i := 1174) (by decide +kernel)), tb_in (List.mem_of_getElem? (i := 12) (by decide +kernel)), by decide⟩
theorem okv_X12_does : okV M_X12_does 2 11 := ⟨RX12, TX12, 36, okm_X12_does, rfl, tb_in (List.mem_of_getElem? (i := 1173) (by decide +kernel)), List.mem_append_left _ (List.mem_of_getElem? (i := 53) (by decide +kernel)), rfl⟩
theorem okm_X12_drift : okM M_X12_drift 1 := ⟨⟨by decide +kernel, by decide +kernel, by decide +kernel⟩, tb_in (List.mem_of_getElem? (i := 1162) (by decide +kernel)), tb_in (List.mem_of_getElem? (i := 12) (by decide +kernel)), by decide⟩
theorem okv_X12_drift : okV M_X12_drift 1 11 := ⟨RX12, TX12, 36, okm_X12_drift, rfl, tb_in (List.mem_of_getElem? (i := 1160) (by decide +kernel)), tb_in (List.mem_of_getElem? (i := 1161) (by decide +kernel)), rfl⟩
theorem okm_X12_undo : okM M_X12_undo 0 := ⟨⟨by decide +kernel, by decide +kernel, by decide +kernel⟩, tb_in (List.mem_of_getElem? (i := 1178) (by decide +kernel)), tb_in (List.mem_of_getElem? (i := 12) (by decide +kernel)), by decide⟩
theorem okv_X12_undo : okV M_X12_undo 0 11 := ⟨RX12, TX12, 36, okm_X12_undo, rfl, tb_in (List.mem_of_getElem? (i := 1176) (by decide +kernel)), tb_in (List.mem_of_getElem? (i := 1177) (by decide +kernel)), rfl⟩
theorem okm_X12_sheet : okM M_X12_sheet 1 := ⟨⟨by decide +kernel, by decide +kernel, by decide +kernel⟩, tb_in (List.mem_of_getElem? (i := 1097) (by decide +kernel)), tb_in (List.mem_of_getElem? (i := 12) (by decide +kernel)), by decide⟩
theorem oks_X12_sheet : okS M_X12_sheet 1 := ⟨okm_X12_sheet, tb_in (List.mem_of_getElem? (i := 1096) (by decide +kernel))⟩
theorem okm_X12_fewestSheets : okM M_X12_fewestSheets 2 := ⟨⟨by decide +kernel, by decide +kernel, by decide +kernel⟩, tb_in (List.mem_of_getElem? (i := 1094) (by decide +kernel)), tb_in (List.mem_of_getElem? (i := 12) (by decide +kernel)), by decide⟩
theorem okv_X12_fewestSheets : okV M_X12_fewestSheets 2 11 := ⟨RX12, TX12, 36, okm_X12_fewestSheets, rfl, tb_in (List.mem_of_getElem? (i := 1093) (by decide +kernel)), List.mem_append_left _ (List.mem_of_getElem? (i := 43) (by decide +kernel)), rfl⟩
theorem okm_X12_sideOf : okM M_X12_sideOf 1 := ⟨⟨by decide +kernel, by decide +kernel, by decide +kernel⟩, tb_in (List.mem_of_getElem? (i := 1185) (by decide +kernel)), tb_in (List.mem_of_getElem? (i := 12) (by decide +kernel)), by decide⟩
theorem oks_X12_sideOf : okS M_X12_sideOf 1 := ⟨okm_X12_sideOf, tb_in (List.mem_of_getElem? (i := 1184) (by decide +kernel))⟩
theorem okm_X12_span : okM M_X12_span 1 := ⟨⟨by decide +kernel, by decide +kernel, by decide +kernel⟩, tb_in (List.mem_of_getElem? (i := 1188) (by decide +kernel)), tb_in (List.mem_of_getElem? (i := 12) (by decide +kernel)), by decide⟩
theorem oks_X12_span : okS M_X12_span 1 := ⟨okm_X12_span, tb_in (List.mem_of_getElem? (i := 1187) (by decide +kernel))⟩
theorem okm_X12_toWrap : okM M_X12_toWrap 2 := ⟨⟨by decide +kernel, by decide +kernel, by decide +kernel⟩, tb_in (List.mem_of_getElem? (i := 1182) (by decide +kernel)), tb_in (List.mem_of_getElem? (i := 12) (by decide +kernel)), by decide⟩
theorem okv_X12_toWrap : okV M_X12_toWrap 2 11 := ⟨RX12, TX12, 36, okm_X12_toWrap, rfl, tb_in (List.mem_of_getElem? (i := 1180) (by decide +kernel)), tb_in (List.mem_of_getElem? (i := 1181) (by decide +kernel)), rfl⟩
theorem okm_X12_softBehind : okM M_X12_softBehind 2 := ⟨⟨by decide +kernel, by decide +kernel, by decide +kernel⟩, tb_in (List.mem_of_getElem? (i := 1196) (by decide +kernel)), tb_in (List.mem_of_getElem? (i := 12) (by decide +kernel)), by decide⟩
theorem okv_X12_softBehind : okV M_X12_softBehind 2 11 := ⟨RX12, TX12, 36, okm_X12_softBehind, rfl, tb_in (List.mem_of_getElem? (i := 1195) (by decide +kernel)), List.mem_append_left _ (List.mem_of_getElem? (i := 54) (by decide +kernel)), rfl⟩
theorem okm_X12_soft : okM M_X12_soft 2 := ⟨⟨by decide +kernel, by decide +kernel, by decide +kernel⟩, tb_in (List.mem_of_getElem? (i := 1192) (by decide +kernel)), tb_in (List.mem_of_getElem? (i := 12) (by decide +kernel)), by decide⟩
theorem okv_X12_soft : okV M_X12_soft 2 11 := ⟨RX12, TX12, 36, okm_X12_soft, rfl, tb_in (List.mem_of_getElem? (i := 1190) (by decide +kernel)), tb_in (List.mem_of_getElem? (i := 1191) (by decide +kernel)), rfl⟩
theorem okm_X12_softIn : okM M_X12_softIn 2 := ⟨⟨by decide +kernel, by decide +kernel, by decide +kernel⟩, tb_in (List.mem_of_getElem? (i := 1204) (by decide +kernel)), tb_in (List.mem_of_getElem? (i := 12) (by decide +kernel)), by decide⟩
theorem okv_X12_softIn : okV M_X12_softIn 2 11 := ⟨RX12, TX12, 36, okm_X12_softIn, rfl, tb_in (List.mem_of_getElem? (i := 1203) (by decide +kernel)), List.mem_append_left _ (List.mem_of_getElem? (i := 55) (by decide +kernel)), rfl⟩
theorem okm_X12_when : okM M_X12_when 1 := ⟨⟨by decide +kernel, by decide +kernel, by decide +kernel⟩, tb_in (List.mem_of_getElem? (i := 1200) (by decide +kernel)), tb_in (List.mem_of_getElem? (i := 12) (by decide +kernel)), by decide⟩
theorem okv_X12_when : okV M_X12_when 1 11 := ⟨RX12, TX12, 36, okm_X12_when, rfl, tb_in (List.mem_of_getElem? (i := 1198) (by decide +kernel)), tb_in (List.mem_of_getElem? (i := 1199) (by decide +kernel)), rfl⟩
theorem okm_X12_sumOf : okM M_X12_sumOf 2 := ⟨⟨by decide +kernel, by decide +kernel, by decide +kernel⟩, tb_in (List.mem_of_getElem? (i := 1213) (by decide +kernel)), tb_in (List.mem_of_getElem? (i := 12) (by decide +kernel)), by decide⟩
theorem okv_X12_sumOf : okV M_X12_sumOf 2 11 := ⟨RX12, TX12, 36, okm_X12_sumOf, rfl, tb_in (List.mem_of_getElem? (i := 1212) (by decide +kernel)), List.mem_append_left _ (List.mem_of_getElem? (i := 56) (by decide +kernel)), rfl⟩
theorem okm_X12_nextFigures : okM M_X12_nextFigures 2 := ⟨⟨by decide +kernel, by decide +kernel, by decide +kernel⟩, tb_in (List.mem_of_getElem? (i := 1216) (by decide +kernel)), tb_in (List.mem_of_getElem? (i := 12) (by decide +kernel)), by decide⟩
theorem oks_X12_nextFigures : okS M_X12_nextFigures 2 := ⟨okm_X12_nextFigures, tb_in (List.mem_of_getElem? (i := 1215) (by decide +kernel))⟩
theorem okm_X12_order : okM M_X12_order 2 := ⟨⟨by decide +kernel, by decide +kernel, by decide +kernel⟩, tb_in (List.mem_of_getElem? (i := 1208) (by decide +kernel)), tb_in (List.mem_of_getElem? (i := 12) (by decide +kernel)), by decide⟩
theorem okv_X12_order : okV M_X12_order 2 11 := ⟨RX12, TX12, 36, okm_X12_order, rfl, tb_in (List.mem_of_getElem? (i := 1206) (by decide +kernel)), tb_in (List.mem_of_getElem? (i := 1207) (by decide +kernel)), rfl⟩
theorem okm_X12_ahead : okM M_X12_ahead 2 := ⟨⟨by decide +kernel, by decide +kernel, by decide +kernel⟩, tb_in (List.mem_of_getElem? (i := 1223) (by decide +kernel)), tb_in (List.mem_of_getElem? (i := 12) (by decide +kernel)), by decide⟩
theorem oks_X12_ahead : okS M_X12_ahead 2 := ⟨okm_X12_ahead, tb_in (List.mem_of_getElem? (i := 1222) (by decide +kernel))⟩
theorem okm_X12_halves : okM M_X12_halves 2 := ⟨⟨by decide +kernel, by decide +kernel, by decide +kernel⟩, tb_in (List.mem_of_getElem? (i := 1220) (by decide +kernel)), tb_in (List.mem_of_getElem? (i := 12) (by decide +kernel)), by decide⟩
theorem okv_X12_halves : okV M_X12_halves 2 11 := ⟨RX12, TX12, 36, okm_X12_halves, rfl, tb_in (List.mem_of_getElem? (i := 1218) (by decide +kernel)), tb_in (List.mem_of_getElem? (i := 1219) (by decide +kernel)), rfl⟩
theorem okm_X12_mild : okM M_X12_mild 2 := ⟨⟨by decide +kernel, by decide +kernel, by decide +kernel⟩, tb_in (List.mem_of_getElem? (i := 1227) (by decide +kernel)), tb_in (List.mem_of_getElem? (i := 12) (by decide +kernel)), by decide⟩
theorem okv_X12_mild : okV M_X12_mild 2 11 := ⟨RX12, TX12, 36, okm_X12_mild, rfl, tb_in (List.mem_of_getElem? (i := 1225) (by decide +kernel)), tb_in (List.mem_of_getElem? (i := 1226) (by decide +kernel)), rfl⟩
theorem okm_X12_bump : okM M_X12_bump 2 := ⟨⟨by decide +kernel, by decide +kernel, by decide +kernel⟩, tb_in (List.mem_of_getElem? (i := 1233) (by decide +kernel)), tb_in (List.mem_of_getElem? (i := 12) (by decide +kernel)), by decide⟩
theorem okv_X12_bump : okV M_X12_bump 2 11 := ⟨RX12, TX12, 36, okm_X12_bump, rfl, tb_in (List.mem_of_getElem? (i := 1231) (by decide +kernel)), tb_in (List.mem_of_getElem? (i := 1232) (by decide +kernel)), rfl⟩
theorem okm_X12_moved : okM M_X12_moved 3 := ⟨⟨by decide +kernel, by decide +kernel, by decide +kernel⟩, tb_in (List.mem_of_getElem? (i := 1015) (by decide +kernel)), tb_in (List.mem_of_getElem? (i := 12) (by decide +kernel)), by decide⟩
theorem oks_X12_moved : okS M_X12_moved 3 := ⟨okm_X12_moved, tb_in (List.mem_of_getElem? (i := 1014) (by decide +kernel))⟩
theorem okm_X12_fit : okM M_X12_fit 1 := ⟨⟨by decide +kernel, by decide +kernel, by decide +kernel⟩, tb_in (List.mem_of_getElem? (i := 1012) (by decide +kernel)), tb_in (List.mem_of_getElem? (i := 12) (by decide +kernel)), by decide⟩
theorem okv_X12_fit : okV M_X12_fit 1 11 := ⟨RX12, TX12, 36, okm_X12_fit, rfl, tb_in (List.mem_of_getElem? (i := 1011) (by decide +kernel)), List.mem_append_left _ (List.mem_of_getElem? (i := 33) (by decide +kernel)), rfl⟩
theorem okm_X12_within : okM M_X12_within 0 := ⟨⟨by decide +kernel, by decide +kernel, by decide +kernel⟩, tb_in (List.mem_of_getElem? (i := 1008) (by decide +kernel)), tb_in (List.mem_of_getElem? (i := 12) (by decide +kernel)), by decide⟩
theorem okv_X12_within : okV M_X12_within 0 11 := ⟨RX12, TX12, 36, okm_X12_within, rfl, tb_in (List.mem_of_getElem? (i := 1007) (by decide +kernel)), List.mem_append_left _ (List.mem_of_getElem? (i := 32) (by decide +kernel)), rfl⟩
theorem okm_X12_fitMany : okM M_X12_fitMany 0 := ⟨⟨by decide +kernel, by decide +kernel, by decide +kernel⟩, tb_in (List.mem_of_getElem? (i := 1022) (by decide +kernel)), tb_in (List.mem_of_getElem? (i := 12) (by decide +kernel)), by decide⟩
theorem okv_X12_fitMany : okV M_X12_fitMany 0 11 := ⟨RX12, TX12, 36, okm_X12_fitMany, rfl, tb_in (List.mem_of_getElem? (i := 1021) (by decide +kernel)), List.mem_append_left _ (List.mem_of_getElem? (i := 34) (by decide +kernel)), rfl⟩
theorem okm_X12_weave : okM M_X12_weave 0 := ⟨⟨by decide +kernel, by decide +kernel, by decide +kernel⟩, tb_in (List.mem_of_getElem? (i := 1026) (by decide +kernel)), tb_in (List.mem_of_getElem? (i := 12) (by decide +kernel)), by decide⟩
theorem okv_X12_weave : okV M_X12_weave 0 11 := ⟨RX12, TX12, 36, okm_X12_weave, rfl, tb_in (List.mem_of_getElem? (i := 1025) (by decide +kernel)), List.mem_append_left _ (List.mem_of_getElem? (i := 35) (by decide +kernel)), rfl⟩
theorem okm_X12_write : okM M_X12_write 2 := ⟨⟨by decide +kernel, by decide +kernel, by decide +kernel⟩, tb_in (List.mem_of_getElem? (i := 1237) (by decide +kernel)), tb_in (List.mem_of_getElem? (i := 12) (by decide +kernel)), by decide⟩
theorem okv_X12_write : okV M_X12_write 2 11 := ⟨RX12, TX12, 36, okm_X12_write, rfl, tb_in (List.mem_of_getElem? (i := 1235) (by decide +kernel)), tb_in (List.mem_of_getElem? (i := 1236) (by decide +kernel)), rfl⟩
theorem okm_X12_tear : okM M_X12_tear 0 := ⟨⟨by decide +kernel, by decide +kernel, by decide +kernel⟩, tb_in (List.mem_of_getElem? (i := 1241) (by decide +kernel)), tb_in (List.mem_of_getElem? (i := 12) (by decide +kernel)), by decide⟩
theorem okv_X12_tear : okV M_X12_tear 0 11 := ⟨RX12, TX12, 36, okm_X12_tear, rfl, tb_in (List.mem_of_getElem? (i := 1239) (by decide +kernel)), tb_in (List.mem_of_getElem? (i := 1240) (by decide +kernel)), rfl⟩
theorem okm_X12_judge : okM M_X12_judge 0 := ⟨⟨by decide +kernel, by decide +kernel, by decide +kernel⟩, tb_in (List.mem_of_getElem? (i := 1245) (by decide +kernel)), tb_in (List.mem_of_getElem? (i := 12) (by decide +kernel)), by decide⟩
theorem okv_X12_judge : okV M_X12_judge 0 11 := ⟨RX12, TX12, 36, okm_X12_judge, rfl, tb_in (List.mem_of_getElem? (i := 1243) (by decide +kernel)), tb_in (List.mem_of_getElem? (i := 1244) (by decide +kernel)), rfl⟩
theorem okm_X12_seed : okM M_X12_seed 1 := ⟨⟨by decide +kernel, by decide +kernel, by decide +kernel⟩, tb_in (List.mem_of_getElem? (i := 1249) (by decide +kernel)), tb_in (List.mem_of_getElem? (i := 12) (by decide +kernel)), by decide⟩
theorem okv_X12_seed : okV M_X12_seed 1 11 := ⟨RX12, TX12, 36, okm_X12_seed, rfl, tb_in (List.mem_of_getElem? (i := 1247) (by decide +kernel)), tb_in (List.mem_of_getElem? (i := 1248) (by decide +kernel)), rfl⟩
theorem okm_X12_keep : okM M_X12_keep 1 := ⟨⟨by decide +kernel, by decide +kernel, by decide +kernel⟩, tb_in (List.mem_of_getElem? (i := 1253) (by decide +kernel)), tb_in (List.mem_of_getElem? (i := 12) (by decide +kernel)), by decide⟩
theorem okv_X12_keep : okV M_X12_keep 1 11 := ⟨RX12, TX12, 36, okm_X12_keep, rfl, tb_in (List.mem_of_getElem? (i := 1251) (by decide +kernel)), tb_in (List.mem_of_getElem? (i := 1252) (by decide +kernel)), rfl⟩
theorem okm_X12_goBack : okM M_X12_goBack 1 := ⟨⟨by decide +kernel, by decide +kernel, by decide +kernel⟩, tb_in (List.mem_of_getElem? (i := 1257) (by decide +kernel)), tb_in (List.mem_of_getElem? (i := 12) (by decide +kernel)), by decide⟩
theorem okv_X12_goBack : okV M_X12_goBack 1 11 := ⟨RX12, TX12, 36, okm_X12_goBack, rfl, tb_in (List.mem_of_getElem? (i := 1255) (by decide +kernel)), tb_in (List.mem_of_getElem? (i := 1256) (by decide +kernel)), rfl⟩
theorem okm_J6_bitCount_0f7a4 : okM M_J6_bitCount_0f7a4 1 := ⟨⟨by decide +kernel, by decide +kernel, by decide +kernel⟩, tb_in (List.mem_of_getElem? (i := 531) (by decide +kernel)), tb_in (List.mem_of_getElem? (i := 16) (by decide +kernel)), by decide⟩
theorem oks_J6_bitCount_0f7a4 : okS M_J6_bitCount_0f7a4 1 := ⟨okm_J6_bitCount_0f7a4, tb_in (List.mem_of_getElem? (i := 530) (by decide +kernel))⟩
theorem c12_0 : cls12[0]? = some (RX0, TX0, 3) := rfl
theorem c12_1 : cls12[1]? = some (RX1, TX1, 6) := rfl
theorem c12_2 : cls12[2]? = some (RX2, TX2, 4) := rfl
theorem c12_3 : cls12[3]? = some (RX3, TX3, 1) := rfl
theorem c12_4 : cls12[4]? = some (RX4, TX4, 4) := rfl
theorem c12_5 : cls12[5]? = some (RX5, TX5, 6) := rfl
theorem c12_6 : cls12[6]? = some (RX6, TX6, 8) := rfl
theorem c12_7 : cls12[7]? = some (RX7, TX7, 5) := rfl
theorem c12_8 : cls12[8]? = some (RX8, TX8, 6) := rfl
theorem c12_9 : cls12[9]? = some (RX10, TX10, 2) := rfl
theorem c12_10 : cls12[10]? = some (RX11, TX11, 12) := rfl
theorem c12_11 : cls12[11]? = some (RX12, TX12, 36) := rfl
theorem k0_0 : K0 0 = (14, 0) := rfl
set_option maxRecDepth 20000 in
theorem g0_0_0 : G0 0 0 = some 1 := by decide +kernel
set_option maxRecDepth 20000 in
theorem g0_0_1 : G0 0 1 = some 3 := by decide +kernel
set_option maxRecDepth 20000 in
theorem g0_0_2 : G0 0 2 = some 8 := by decide +kernel
set_option maxRecDepth 20000 in
theorem g0_0_3 : G0 0 3 = some 9 := by decide +kernel
set_option maxRecDepth 20000 in
theorem g0_0_4 : G0 0 4 = some 14 := by decide +kernel
set_option maxRecDepth 20000 in
theorem g0_0_5 : G0 0 5 = some 19 := by decide +kernel
set_option maxRecDepth 20000 in
theorem g0_0_6 : G0 0 6 = some 22 := by decide +kernel
set_option maxRecDepth 20000 in
theorem g0_0_7 : G0 0 7 = some 23 := by decide +kernel
set_option maxRecDepth 20000 in
theorem g0_0_8 : G0 0 8 = some 118 := by decide +kernel
set_option maxRecDepth 20000 in
theorem g0_0_9 : G0 0 9 = some 120 := by decide +kernel
set_option maxRecDepth 20000 in
theorem g0_0_10 : G0 0 10 = some 122 := by decide +kernel
theorem k0_1 : K0 1 = (11, 0) := rfl
set_option maxRecDepth 20000 in
theorem g0_1_0 : G0 1 0 = some 2 := by decide +kernel
theorem k0_2 : K0 2 = (0, 240) := rfl
theorem k0_3 : K0 3 = (10, 0) := rfl
set_option maxRecDepth 20000 in
theorem g0_3_4 : G0 3 4 = some 4 := by decide +kernel
set_option maxRecDepth 20000 in
theorem g0_3_5 : G0 3 5 = some 5 := by decide +kernel
set_option maxRecDepth 20000 in
theorem g0_3_6 : G0 3 6 = some 6 := by decide +kernel
set_option maxRecDepth 20000 in
theorem g0_3_7 : G0 3 7 = some 7 := by decide +kernel
theorem k0_4 : K0 4 = (0, 6) := rfl
theorem k0_5 : K0 5 = (0, 6) := rfl
theorem k0_6 : K0 6 = (0, 6) := rfl
theorem k0_7 : K0 7 = (0, 6) := rfl
theorem k0_8 : K0 8 = (6, 0) := rfl
set_option maxRecDepth 20000 in
theorem g0_8_0 : G0 8 0 = some 9 := by decide +kernel
set_option maxRecDepth 20000 in
theorem g0_8_1 : G0 8 1 = some 14 := by decide +kernel
set_option maxRecDepth 20000 in
theorem g0_8_2 : G0 8 2 = some 19 := by decide +kernel
set_option maxRecDepth 20000 in
theorem g0_8_3 : G0 8 3 = some 22 := by decide +kernel
theorem k0_9 : K0 9 = (10, 0) := rfl
set_option maxRecDepth 20000 in
theorem g0_9_4 : G0 9 4 = some 10 := by decide +kernel
set_option maxRecDepth 20000 in
theorem g0_9_5 : G0 9 5 = some 11 := by decide +kernel
set_option maxRecDepth 20000 in
theorem g0_9_6 : G0 9 6 = some 12 := by decide +kernel
set_option maxRecDepth 20000 in
theorem g0_9_7 : G0 9 7 = some 13 := by decide +kernel
theorem k0_10 : K0 10 = (0, 6) := rfl
theorem k0_11 : K0 11 = (0, 6) := rfl
theorem k0_12 : K0 12 = (0, 6) := rfl
theorem k0_13 : K0 13 = (0, 6) := rfl
theorem k0_14 : K0 14 = (12, 0) := rfl
set_option maxRecDepth 20000 in
theorem g0_14_2 : G0 14 2 = some 15 := by decide +kernel
set_option maxRecDepth 20000 in
theorem g0_14_3 : G0 14 3 = some 16 := by decide +kernel
set_option maxRecDepth 20000 in
theorem g0_14_4 : G0 14 4 = some 17 := by decide +kernel
set_option maxRecDepth 20000 in
theorem g0_14_5 : G0 14 5 = some 18 := by decide +kernel
theorem k0_15 : K0 15 = (0, 6) := rfl
theorem k0_16 : K0 16 = (0, 6) := rfl
theorem k0_17 : K0 17 = (0, 6) := rfl
theorem k0_18 : K0 18 = (0, 6) := rfl
theorem k0_19 : K0 19 = (13, 0) := rfl
set_option maxRecDepth 20000 in
theorem g0_19_0 : G0 19 0 = some 20 := by decide +kernel
set_option maxRecDepth 20000 in
theorem g0_19_1 : G0 19 1 = some 21 := by decide +kernel
theorem k0_20 : K0 20 = (0, 16) := rfl
theorem k0_21 : K0 21 = (0, 16) := rfl
theorem k0_22 : K0 22 = (7, 0) := rfl
theorem k0_23 : K0 23 = (9, 0) := rfl
set_option maxRecDepth 20000 in
theorem g0_23_0 : G0 23 0 = some 24 := by decide +kernel
set_option maxRecDepth 20000 in
theorem g0_23_1 : G0 23 1 = some 25 := by decide +kernel
set_option maxRecDepth 20000 in
theorem g0_23_2 : G0 23 2 = some 26 := by decide +kernel
set_option maxRecDepth 20000 in
theorem g0_23_3 : G0 23 3 = some 27 := by decide +kernel
theorem k0_24 : K0 24 = (3, 16) := rfl
theorem k0_25 : K0 25 = (3, 2) := rfl
theorem k0_26 : K0 26 = (0, 2) := rfl
theorem k0_27 : K0 27 = (1, 2) := rfl
theorem k0_118 : K0 118 = (8, 0) := rfl
set_option maxRecDepth 20000 in
theorem g0_118_0 : G0 118 0 = some 119 := by decide +kernel
theorem k0_119 : K0 119 = (0, 12) := rfl
theorem k0_120 : K0 120 = (5, 0) := rfl
set_option maxRecDepth 20000 in
theorem g0_120_5 : G0 120 5 = some 121 := by decide +kernel
theorem k0_121 : K0 121 = (0, 25) := rfl
theorem k0_122 : K0 122 = (4, 0) := rfl
set_option maxRecDepth 20000 in
theorem g0_122_1 : G0 122 1 = some 123 := by decide +kernel
set_option maxRecDepth 20000 in
theorem g0_122_2 : G0 122 2 = some 124 := by decide +kernel
theorem k0_123 : K0 123 = (0, 15) := rfl
theorem k0_124 : K0 124 = (0, 15) := rfl
theorem k0_125 : K0 125 = (15, 0) := rfl
set_option maxRecDepth 20000 in
theorem g0_125_1 : G0 125 1 = some 126 := by decide +kernel
set_option maxRecDepth 20000 in
theorem g0_125_10 : G0 125 10 = some 127 := by decide +kernel
set_option maxRecDepth 20000 in
theorem g0_125_11 : G0 125 11 = some 128 := by decide +kernel
set_option maxRecDepth 20000 in
theorem g0_125_12 : G0 125 12 = some 129 := by decide +kernel
set_option maxRecDepth 20000 in
theorem g0_125_13 : G0 125 13 = some 130 := by decide +kernel
set_option maxRecDepth 20000 in
theorem g0_125_18 : G0 125 18 = some 131 := by decide +kernel
set_option maxRecDepth 20000 in
theorem g0_125_19 : G0 125 19 = some 132 := by decide +kernel
set_option maxRecDepth 20000 in
theorem g0_125_20 : G0 125 20 = some 133 := by decide +kernel
set_option maxRecDepth 20000 in
theorem g0_125_23 : G0 125 23 = some 134 := by decide +kernel
set_option maxRecDepth 20000 in
theorem g0_125_25 : G0 125 25 = some 135 := by decide +kernel
set_option maxRecDepth 20000 in
theorem g0_125_27 : G0 125 27 = some 136 := by decide +kernel
set_option maxRecDepth 20000 in
theorem g0_125_28 : G0 125 28 = some 137 := by decide +kernel
set_option maxRecDepth 20000 in
theorem g0_125_29 : G0 125 29 = some 138 := by decide +kernel
set_option maxRecDepth 20000 in
theorem g0_125_31 : G0 125 31 = some 139 := by decide +kernel
set_option maxRecDepth 20000 in
theorem g0_125_32 : G0 125 32 = some 140 := by decide +kernel
set_option maxRecDepth 20000 in
theorem g0_125_33 : G0 125 33 = some 141 := by decide +kernel
set_option maxRecDepth 20000 in
theorem g0_125_34 : G0 125 34 = some 142 := by decide +kernel
set_option maxRecDepth 20000 in
theorem g0_125_35 : G0 125 35 = some 143 := by decide +kernel
theorem k0_126 : K0 126 = (0, 240) := rfl
theorem k0_127 : K0 127 = (0, 6) := rfl
theorem k0_128 : K0 128 = (0, 6) := rfl
theorem k0_129 : K0 129 = (0, 6) := rfl
theorem k0_130 : K0 130 = (0, 6) := rfl
theorem k0_131 : K0 131 = (0, 6) := rfl
theorem k0_132 : K0 132 = (0, 6) := rfl
theorem k0_133 : K0 133 = (0, 26) := rfl
theorem k0_134 : K0 134 = (0, 416) := rfl
theorem k0_135 : K0 135 = (0, 16) := rfl
theorem k0_136 : K0 136 = (0, 6) := rfl
theorem k0_137 : K0 137 = (1, 6) := rfl
theorem k0_138 : K0 138 = (0, 25) := rfl
theorem k0_139 : K0 139 = (0, 15) := rfl
theorem k0_140 : K0 140 = (0, 15) := rfl
theorem k0_141 : K0 141 = (1, 2) := rfl
theorem k0_142 : K0 142 = (0, 52) := rfl
theorem k0_143 : K0 143 = (2, 2) := rfl
theorem ci_m1 : Int32.ofInt (-1) = (-1) := by decide
theorem ci_0 : Int32.ofInt 0 = 0 := by decide
theorem ci_1 : Int32.ofInt 1 = 1 := by decide
theorem ci_2 : Int32.ofInt 2 = 2 := by decide
theorem ci_3 : Int32.ofInt 3 = 3 := by decide
theorem ci_4 : Int32.ofInt 4 = 4 := by decide
theorem ci_5 : Int32.ofInt 5 = 5 := by decide
theorem cb_m10 : (Int8.ofInt (-10)).toInt32 = (-10) := by decide
theorem cb_6 : (Int8.ofInt 6).toInt32 = 6 := by decide
theorem cb_8 : (Int8.ofInt 8).toInt32 = 8 := by decide
theorem cb_9 : (Int8.ofInt 9).toInt32 = 9 := by decide
theorem cb_10 : (Int8.ofInt 10).toInt32 = 10 := by decide
theorem cb_11 : (Int8.ofInt 11).toInt32 = 11 := by decide
theorem cb_14 : (Int8.ofInt 14).toInt32 = 14 := by decide
theorem cb_15 : (Int8.ofInt 15).toInt32 = 15 := by decide
theorem cb_16 : (Int8.ofInt 16).toInt32 = 16 := by decide
theorem cb_17 : (Int8.ofInt 17).toInt32 = 17 := by decide
theorem cb_20 : (Int8.ofInt 20).toInt32 = 20 := by decide
theorem cb_24 : (Int8.ofInt 24).toInt32 = 24 := by decide
theorem cb_25 : (Int8.ofInt 25).toInt32 = 25 := by decide
theorem cb_26 : (Int8.ofInt 26).toInt32 = 26 := by decide
theorem cb_30 : (Int8.ofInt 30).toInt32 = 30 := by decide
theorem cb_31 : (Int8.ofInt 31).toInt32 = 31 := by decide
theorem cb_32 : (Int8.ofInt 32).toInt32 = 32 := by decide
theorem cb_44 : (Int8.ofInt 44).toInt32 = 44 := by decide
theorem cb_48 : (Int8.ofInt 48).toInt32 = 48 := by decide
theorem cb_57 : (Int8.ofInt 57).toInt32 = 57 := by decide
theorem cb_59 : (Int8.ofInt 59).toInt32 = 59 := by decide
theorem cb_60 : (Int8.ofInt 60).toInt32 = 60 := by decide
theorem cb_63 : (Int8.ofInt 63).toInt32 = 63 := by decide
theorem cb_100 : (Int8.ofInt 100).toInt32 = 100 := by decide
theorem cb_101 : (Int8.ofInt 101).toInt32 = 101 := by decide
theorem cb_102 : (Int8.ofInt 102).toInt32 = 102 := by decide
theorem cb_116 : (Int8.ofInt 116).toInt32 = 116 := by decide
theorem cs_200 : (Int16.ofInt 200).toInt32 = 200 := by decide
theorem cs_240 : (Int16.ofInt 240).toInt32 = 240 := by decide
theorem cs_255 : (Int16.ofInt 255).toInt32 = 255 := by decide
theorem cs_500 : (Int16.ofInt 500).toInt32 = 500 := by decide
theorem cs_999 : (Int16.ofInt 999).toInt32 = 999 := by decide
theorem cs_1000 : (Int16.ofInt 1000).toInt32 = 1000 := by decide
theorem cs_9000 : (Int16.ofInt 9000).toInt32 = 9000 := by decide
theorem cs_12345 : (Int16.ofInt 12345).toInt32 = 12345 := by decide
