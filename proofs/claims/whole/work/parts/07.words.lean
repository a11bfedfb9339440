/-! words of the tables by their places; small facts that the instruction rows use -/
theorem kx_66 : (Cond.initialized "java/lang/System") ∈ kq_tbl := kq_in_of (n := 66) (by decide +kernel) rfl
theorem kx_82 : (Cond.fieldLink "KettleInquest$Hall" (9 : Nat) "KettleInquest$Hall" "truth" "I") ∈ kq_tbl := kq_in_of (n := 82) (by decide +kernel) rfl
theorem kx_83 : (Cond.fieldLink "KettleInquest" (52 : Nat) "KettleInquest$Hall" "truth" "I") ∈ kq_tbl := kq_in_of (n := 83) (by decide +kernel) rfl
theorem kx_84 : (Cond.fieldLink "KettleInquest$Clerk" (98 : Nat) "KettleInquest$Hall" "truth" "I") ∈ kq_tbl := kq_in_of (n := 84) (by decide +kernel) rfl
theorem kx_85 : (Cond.fieldLink "KettleInquest$Hall" (15 : Nat) "KettleInquest$Hall" "heat" "I") ∈ kq_tbl := kq_in_of (n := 85) (by decide +kernel) rfl
theorem kx_86 : (Cond.fieldLink "KettleInquest" (60 : Nat) "KettleInquest$Hall" "heat" "I") ∈ kq_tbl := kq_in_of (n := 86) (by decide +kernel) rfl
theorem kx_87 : (Cond.fieldLink "KettleInquest$Hall" (18 : Nat) "KettleInquest$Hall" "water" "I") ∈ kq_tbl := kq_in_of (n := 87) (by decide +kernel) rfl
theorem kx_88 : (Cond.fieldLink "KettleInquest" (63 : Nat) "KettleInquest$Hall" "water" "I") ∈ kq_tbl := kq_in_of (n := 88) (by decide +kernel) rfl
theorem kx_89 : (Cond.fieldLink "KettleInquest$Clerk" (101 : Nat) "KettleInquest$Hall" "water" "I") ∈ kq_tbl := kq_in_of (n := 89) (by decide +kernel) rfl
theorem kx_90 : (Cond.fieldLink "KettleInquest$Hall" (21 : Nat) "KettleInquest$Hall" "boilsAt" "I") ∈ kq_tbl := kq_in_of (n := 90) (by decide +kernel) rfl
theorem kx_91 : (Cond.fieldLink "KettleInquest" (66 : Nat) "KettleInquest$Hall" "boilsAt" "I") ∈ kq_tbl := kq_in_of (n := 91) (by decide +kernel) rfl
theorem kx_92 : (Cond.fieldLink "KettleInquest$Hall" (24 : Nat) "KettleInquest$Hall" "tea" "I") ∈ kq_tbl := kq_in_of (n := 92) (by decide +kernel) rfl
theorem kx_93 : (Cond.fieldLink "KettleInquest" (130 : Nat) "KettleInquest$Hall" "tea" "I") ∈ kq_tbl := kq_in_of (n := 93) (by decide +kernel) rfl
theorem kx_94 : (Cond.fieldLink "KettleInquest$Hall" (27 : Nat) "KettleInquest$Hall" "minute" "I") ∈ kq_tbl := kq_in_of (n := 94) (by decide +kernel) rfl
theorem kx_95 : (Cond.fieldLink "KettleInquest" (123 : Nat) "KettleInquest$Hall" "minute" "I") ∈ kq_tbl := kq_in_of (n := 95) (by decide +kernel) rfl
theorem kx_96 : (Cond.fieldLink "KettleInquest$Hall" (30 : Nat) "KettleInquest$Hall" "count" "I") ∈ kq_tbl := kq_in_of (n := 96) (by decide +kernel) rfl
theorem kx_97 : (Cond.fieldLink "KettleInquest" (73 : Nat) "KettleInquest$Hall" "count" "I") ∈ kq_tbl := kq_in_of (n := 97) (by decide +kernel) rfl
theorem kx_98 : (Cond.fieldLink "KettleInquest$Clerk" (66 : Nat) "KettleInquest$Hall" "count" "I") ∈ kq_tbl := kq_in_of (n := 98) (by decide +kernel) rfl
theorem kx_99 : (Cond.fieldLink "KettleInquest$Hall" (33 : Nat) "KettleInquest$Hall" "kinds" "[I") ∈ kq_tbl := kq_in_of (n := 99) (by decide +kernel) rfl
theorem kx_100 : (Cond.fieldLink "KettleInquest" (82 : Nat) "KettleInquest$Hall" "kinds" "[I") ∈ kq_tbl := kq_in_of (n := 100) (by decide +kernel) rfl
theorem kx_101 : (Cond.fieldLink "KettleInquest$Hall" (37 : Nat) "KettleInquest$Hall" "known" "[I") ∈ kq_tbl := kq_in_of (n := 101) (by decide +kernel) rfl
theorem kx_102 : (Cond.fieldLink "KettleInquest" (85 : Nat) "KettleInquest$Hall" "known" "[I") ∈ kq_tbl := kq_in_of (n := 102) (by decide +kernel) rfl
theorem kx_103 : (Cond.fieldLink "KettleInquest$Clerk" (90 : Nat) "KettleInquest$Hall" "known" "[I") ∈ kq_tbl := kq_in_of (n := 103) (by decide +kernel) rfl
theorem kx_104 : (Cond.fieldLink "KettleInquest$Hall" (40 : Nat) "KettleInquest$Hall" "said" "[I") ∈ kq_tbl := kq_in_of (n := 104) (by decide +kernel) rfl
theorem kx_105 : (Cond.fieldLink "KettleInquest" (88 : Nat) "KettleInquest$Hall" "said" "[I") ∈ kq_tbl := kq_in_of (n := 105) (by decide +kernel) rfl
theorem kx_106 : (Cond.fieldLink "KettleInquest$Clerk" (95 : Nat) "KettleInquest$Hall" "said" "[I") ∈ kq_tbl := kq_in_of (n := 106) (by decide +kernel) rfl
theorem kx_107 : (Cond.fieldLink "KettleInquest$Hall" (43 : Nat) "KettleInquest$Hall" "sures" "[I") ∈ kq_tbl := kq_in_of (n := 107) (by decide +kernel) rfl
theorem kx_108 : (Cond.fieldLink "KettleInquest$Clerk" (81 : Nat) "KettleInquest$Hall" "sures" "[I") ∈ kq_tbl := kq_in_of (n := 108) (by decide +kernel) rfl
theorem kx_109 : (Cond.fieldLink "KettleInquest" (91 : Nat) "KettleInquest$Hall" "sures" "[I") ∈ kq_tbl := kq_in_of (n := 109) (by decide +kernel) rfl
theorem kx_140 : (Cond.fieldLink "KettleInquest$Clerk" (9 : Nat) "KettleInquest$Clerk" "tape" "[I") ∈ kq_tbl := kq_in_of (n := 140) (by decide +kernel) rfl
theorem kx_141 : (Cond.fieldLink "KettleInquest$Clerk" (15 : Nat) "KettleInquest$Clerk" "length" "I") ∈ kq_tbl := kq_in_of (n := 141) (by decide +kernel) rfl
theorem kx_142 : (Cond.fieldLink "KettleInquest" (148 : Nat) "KettleInquest$Clerk" "length" "I") ∈ kq_tbl := kq_in_of (n := 142) (by decide +kernel) rfl
theorem kx_143 : (Cond.fieldLink "KettleInquest$Clerk" (19 : Nat) "KettleInquest$Clerk" "token" "I") ∈ kq_tbl := kq_in_of (n := 143) (by decide +kernel) rfl
theorem kx_144 : (Cond.fieldLink "KettleInquest$Clerk" (22 : Nat) "KettleInquest$Clerk" "start" "I") ∈ kq_tbl := kq_in_of (n := 144) (by decide +kernel) rfl
theorem kx_145 : (Cond.fieldLink "KettleInquest$Clerk" (25 : Nat) "KettleInquest$Clerk" "end" "I") ∈ kq_tbl := kq_in_of (n := 145) (by decide +kernel) rfl
theorem kx_146 : (Cond.fieldLink "KettleInquest$Clerk" (28 : Nat) "KettleInquest$Clerk" "value" "I") ∈ kq_tbl := kq_in_of (n := 146) (by decide +kernel) rfl
theorem kx_147 : (Cond.fieldLink "KettleInquest$Clerk" (31 : Nat) "KettleInquest$Clerk" "listed" "I") ∈ kq_tbl := kq_in_of (n := 147) (by decide +kernel) rfl
theorem kx_170 : (Cond.fieldLink "KettleInquest$Sheet" (9 : Nat) "KettleInquest$Sheet" "bits" "I") ∈ kq_tbl := kq_in_of (n := 170) (by decide +kernel) rfl
theorem kx_171 : (Cond.fieldLink "KettleInquest" (177 : Nat) "KettleInquest$Sheet" "bits" "I") ∈ kq_tbl := kq_in_of (n := 171) (by decide +kernel) rfl
theorem kx_172 : (Cond.fieldLink "KettleInquest$Sheet" (15 : Nat) "KettleInquest$Sheet" "length" "I") ∈ kq_tbl := kq_in_of (n := 172) (by decide +kernel) rfl
theorem kx_173 : (Cond.fieldLink "KettleInquest$Hall" (124 : Nat) "KettleInquest$Sheet" "length" "I") ∈ kq_tbl := kq_in_of (n := 173) (by decide +kernel) rfl
theorem kx_174 : (Cond.fieldLink "KettleInquest" (165 : Nat) "KettleInquest$Sheet" "length" "I") ∈ kq_tbl := kq_in_of (n := 174) (by decide +kernel) rfl
theorem kx_175 : (Cond.fieldLink "KettleInquest$Sheet" (18 : Nat) "KettleInquest$Sheet" "numbers" "[J") ∈ kq_tbl := kq_in_of (n := 175) (by decide +kernel) rfl
theorem kx_176 : (Cond.fieldLink "KettleInquest$Hall" (129 : Nat) "KettleInquest$Sheet" "numbers" "[J") ∈ kq_tbl := kq_in_of (n := 176) (by decide +kernel) rfl
theorem kx_177 : (Cond.fieldLink "KettleInquest" (169 : Nat) "KettleInquest$Sheet" "numbers" "[J") ∈ kq_tbl := kq_in_of (n := 177) (by decide +kernel) rfl
theorem kx_186 : (Cond.fieldLink "KettleInquest" (10 : Nat) "KettleInquest" "hall" "LKettleInquest$Hall;") ∈ kq_tbl := kq_in_of (n := 186) (by decide +kernel) rfl
theorem kx_187 : (Cond.fieldLink "KettleInquest" (16 : Nat) "KettleInquest" "trial" "LKettleInquest$Hall;") ∈ kq_tbl := kq_in_of (n := 187) (by decide +kernel) rfl
theorem kx_188 : (Cond.fieldLink "KettleInquest" (19 : Nat) "KettleInquest" "kept" "LKettleInquest$Hall;") ∈ kq_tbl := kq_in_of (n := 188) (by decide +kernel) rfl
theorem kx_189 : (Cond.fieldLink "KettleInquest" (22 : Nat) "KettleInquest" "isKept" "Z") ∈ kq_tbl := kq_in_of (n := 189) (by decide +kernel) rfl
theorem kx_190 : (Cond.fieldLink "KettleInquest" (29 : Nat) "KettleInquest" "clerk" "LKettleInquest$Clerk;") ∈ kq_tbl := kq_in_of (n := 190) (by decide +kernel) rfl
theorem kx_191 : (Cond.fieldLink "KettleInquest" (35 : Nat) "KettleInquest" "sheets" "[LKettleInquest$Sheet;") ∈ kq_tbl := kq_in_of (n := 191) (by decide +kernel) rfl
theorem kx_192 : (Cond.fieldLink "KettleInquest" (39 : Nat) "KettleInquest" "found" "[I") ∈ kq_tbl := kq_in_of (n := 192) (by decide +kernel) rfl
theorem kx_208 : (Cond.methodLink "KettleInquestLaw" (13 : Nat) ({ cls := "KettleInquest", name := "truth", desc := "(I)I" } : MethodName)) ∈ kq_tbl := kq_in_of (n := 208) (by decide +kernel) rfl
theorem kx_212 : (Cond.methodLink "KettleInquest" (44 : Nat) ({ cls := "KettleInquest", name := "isWithin", desc := "(III)Z" } : MethodName)) ∈ kq_tbl := kq_in_of (n := 212) (by decide +kernel) rfl
theorem kx_215 : (Cond.methodLink "KettleInquest" (48 : Nat) ({ cls := "KettleInquest", name := "finding", desc := "(I)I" } : MethodName)) ∈ kq_tbl := kq_in_of (n := 215) (by decide +kernel) rfl
theorem kx_219 : (Cond.constant "KettleInquest" (201 : Nat) (-1000000001 : Int32)) ∈ kq_tbl := kq_in_of (n := 219) (by decide +kernel) rfl
theorem kx_220 : (Cond.methodLink "KettleInquestLaw" (18 : Nat) ({ cls := "KettleInquest", name := "kettle", desc := "(II)I" } : MethodName)) ∈ kq_tbl := kq_in_of (n := 220) (by decide +kernel) rfl
theorem kx_224 : (Cond.methodLink "KettleInquest" (56 : Nat) ({ cls := "KettleInquest", name := "isKettleValue", desc := "(II)Z" } : MethodName)) ∈ kq_tbl := kq_in_of (n := 224) (by decide +kernel) rfl
theorem kx_227 : (Cond.methodLink "KettleInquestLaw" (23 : Nat) ({ cls := "KettleInquest", name := "witness", desc := "(I)I" } : MethodName)) ∈ kq_tbl := kq_in_of (n := 227) (by decide +kernel) rfl
theorem kx_231 : (Cond.methodLink "KettleInquest" (69 : Nat) ({ cls := "KettleInquest", name := "isKind", desc := "(I)Z" } : MethodName)) ∈ kq_tbl := kq_in_of (n := 231) (by decide +kernel) rfl
theorem kx_234 : (Cond.methodLink "KettleInquest" (76 : Nat) ({ cls := "KettleInquest$Hall", name := "callWitness", desc := "(I)I" } : MethodName)) ∈ kq_tbl := kq_in_of (n := 234) (by decide +kernel) rfl
theorem kx_238 : (Cond.methodLink "KettleInquestLaw" (27 : Nat) ({ cls := "KettleInquest", name := "of", desc := "(II)I" } : MethodName)) ∈ kq_tbl := kq_in_of (n := 238) (by decide +kernel) rfl
theorem kx_242 : (Cond.methodLink "KettleInquest" (79 : Nat) ({ cls := "KettleInquest", name := "isWitness", desc := "(I)Z" } : MethodName)) ∈ kq_tbl := kq_in_of (n := 242) (by decide +kernel) rfl
theorem kx_246 : (Cond.methodLink "KettleInquest" (94 : Nat) ({ cls := "KettleInquest$Hall", name := "lieSet", desc := "(I)I" } : MethodName)) ∈ kq_tbl := kq_in_of (n := 246) (by decide +kernel) rfl
theorem kx_250 : (Cond.methodLink "KettleInquest" (97 : Nat) ({ cls := "KettleInquest$Hall", name := "luckySet", desc := "(I)I" } : MethodName)) ∈ kq_tbl := kq_in_of (n := 250) (by decide +kernel) rfl
theorem kx_254 : (Cond.methodLink "KettleInquest" (100 : Nat) ({ cls := "KettleInquest$Hall", name := "wrongSet", desc := "(I)I" } : MethodName)) ∈ kq_tbl := kq_in_of (n := 254) (by decide +kernel) rfl
theorem kx_258 : (Cond.methodLink "KettleInquest" (103 : Nat) ({ cls := "KettleInquest$Hall", name := "doubtOf", desc := "(I)I" } : MethodName)) ∈ kq_tbl := kq_in_of (n := 258) (by decide +kernel) rfl
theorem kx_265 : (Cond.methodLink "KettleInquestLaw" (31 : Nat) ({ cls := "KettleInquest", name := "set", desc := "(III)I" } : MethodName)) ∈ kq_tbl := kq_in_of (n := 265) (by decide +kernel) rfl
theorem kx_269 : (Cond.methodLink "KettleInquestLaw" (36 : Nat) ({ cls := "KettleInquest", name := "turn", desc := "(II)I" } : MethodName)) ∈ kq_tbl := kq_in_of (n := 269) (by decide +kernel) rfl
theorem kx_273 : (Cond.methodLink "KettleInquestLaw" (40 : Nat) ({ cls := "KettleInquest", name := "as", desc := "(II)I" } : MethodName)) ∈ kq_tbl := kq_in_of (n := 273) (by decide +kernel) rfl
theorem kx_277 : (Cond.methodLink "KettleInquest" (106 : Nat) ({ cls := "KettleInquest", name := "isOfKind", desc := "(II)Z" } : MethodName)) ∈ kq_tbl := kq_in_of (n := 277) (by decide +kernel) rfl
theorem kx_280 : (Cond.fieldLink "KettleInquest" (202 : Nat) "KettleInquest" "KIND_ABOVE" "[I") ∈ kq_tbl := kq_in_of (n := 280) (by decide +kernel) rfl
theorem kx_282 : (Cond.methodLink "KettleInquestLaw" (44 : Nat) ({ cls := "KettleInquest", name := "heats", desc := "(II)I" } : MethodName)) ∈ kq_tbl := kq_in_of (n := 282) (by decide +kernel) rfl
theorem kx_286 : (Cond.methodLink "KettleInquest" (109 : Nat) ({ cls := "KettleInquest", name := "isFact", desc := "(I)Z" } : MethodName)) ∈ kq_tbl := kq_in_of (n := 286) (by decide +kernel) rfl
theorem kx_289 : (Cond.methodLink "KettleInquest" (112 : Nat) ({ cls := "KettleInquest$Hall", name := "heatBy", desc := "(II)I" } : MethodName)) ∈ kq_tbl := kq_in_of (n := 289) (by decide +kernel) rfl
theorem kx_293 : (Cond.methodLink "KettleInquest$Hall" (66 : Nat) ({ cls := "KettleInquest$Hall", name := "plumberHeat", desc := "(II)I" } : MethodName)) ∈ kq_tbl := kq_in_of (n := 293) (by decide +kernel) rfl
theorem kx_297 : (Cond.methodLink "KettleInquest$Hall" (57 : Nat) ({ cls := "KettleInquest$Hall", name := "lieSet", desc := "(I)I" } : MethodName)) ∈ kq_tbl := kq_in_of (n := 297) (by decide +kernel) rfl
theorem kx_301 : (Cond.methodLink "KettleInquest$Hall" (80 : Nat) ({ cls := "KettleInquest$Hall", name := "witnessHeat", desc := "(II)I" } : MethodName)) ∈ kq_tbl := kq_in_of (n := 301) (by decide +kernel) rfl
theorem kx_305 : (Cond.methodLink "KettleInquest$Hall" (83 : Nat) ({ cls := "KettleInquest$Hall", name := "luckySet", desc := "(I)I" } : MethodName)) ∈ kq_tbl := kq_in_of (n := 305) (by decide +kernel) rfl
theorem kx_306 : (Cond.methodLink "KettleInquest$Hall" (70 : Nat) ({ cls := "KettleInquest$Hall", name := "wifeHeat", desc := "(II)I" } : MethodName)) ∈ kq_tbl := kq_in_of (n := 306) (by decide +kernel) rfl
theorem kx_310 : (Cond.methodLink "KettleInquest$Hall" (86 : Nat) ({ cls := "KettleInquest$Hall", name := "anotherPlumberLies", desc := "(II)Z" } : MethodName)) ∈ kq_tbl := kq_in_of (n := 310) (by decide +kernel) rfl
theorem kx_315 : (Cond.methodLink "KettleInquest$Hall" (73 : Nat) ({ cls := "KettleInquest$Hall", name := "wrongSet", desc := "(I)I" } : MethodName)) ∈ kq_tbl := kq_in_of (n := 315) (by decide +kernel) rfl
theorem kx_316 : (Cond.methodLink "KettleInquestLaw" (48 : Nat) ({ cls := "KettleInquest", name := "ask", desc := "(II)I" } : MethodName)) ∈ kq_tbl := kq_in_of (n := 316) (by decide +kernel) rfl
theorem kx_320 : (Cond.methodLink "KettleInquest" (116 : Nat) ({ cls := "KettleInquest$Hall", name := "hearAnswer", desc := "(II)Z" } : MethodName)) ∈ kq_tbl := kq_in_of (n := 320) (by decide +kernel) rfl
theorem kx_324 : (Cond.methodLink "KettleInquest$Hall" (92 : Nat) ({ cls := "KettleInquest$Hall", name := "heatBy", desc := "(II)I" } : MethodName)) ∈ kq_tbl := kq_in_of (n := 324) (by decide +kernel) rfl
theorem kx_325 : (Cond.methodLink "KettleInquest$Hall" (95 : Nat) ({ cls := "java/lang/Math", name := "min", desc := "(II)I" } : MethodName)) ∈ kq_tbl := kq_in_of (n := 325) (by decide +kernel) rfl
theorem kx_328 : (Cond.methodLink "KettleInquest$Hall" (100 : Nat) ({ cls := "java/lang/Math", name := "max", desc := "(II)I" } : MethodName)) ∈ kq_tbl := kq_in_of (n := 328) (by decide +kernel) rfl
theorem kx_331 : (Cond.methodLink "KettleInquest$Hall" (103 : Nat) ({ cls := "KettleInquest$Hall", name := "doubtOf", desc := "(I)I" } : MethodName)) ∈ kq_tbl := kq_in_of (n := 331) (by decide +kernel) rfl
theorem kx_332 : (Cond.methodLink "KettleInquest$Hall" (106 : Nat) ({ cls := "KettleInquest$Hall", name := "learnsBy", desc := "(IIZ)Z" } : MethodName)) ∈ kq_tbl := kq_in_of (n := 332) (by decide +kernel) rfl
theorem kx_336 : (Cond.methodLink "KettleInquestLaw" (52 : Nat) ({ cls := "KettleInquest", name := "swap", desc := "(II)I" } : MethodName)) ∈ kq_tbl := kq_in_of (n := 336) (by decide +kernel) rfl
theorem kx_340 : (Cond.methodLink "KettleInquest" (119 : Nat) ({ cls := "KettleInquest$Hall", name := "changeNumbers", desc := "(II)V" } : MethodName)) ∈ kq_tbl := kq_in_of (n := 340) (by decide +kernel) rfl
theorem kx_344 : (Cond.methodLink "KettleInquest$Hall" (46 : Nat) ({ cls := "KettleInquest$Hall", name := "exchange", desc := "([III)V" } : MethodName)) ∈ kq_tbl := kq_in_of (n := 344) (by decide +kernel) rfl
theorem kx_347 : (Cond.methodLink "KettleInquestLaw" (56 : Nat) ({ cls := "KettleInquest", name := "minutes", desc := "(I)I" } : MethodName)) ∈ kq_tbl := kq_in_of (n := 347) (by decide +kernel) rfl
theorem kx_351 : (Cond.constant "KettleInquest" (126 : Nat) (99999 : Int32)) ∈ kq_tbl := kq_in_of (n := 351) (by decide +kernel) rfl
theorem kx_352 : (Cond.methodLink "KettleInquest" (127 : Nat) ({ cls := "KettleInquest$Hall", name := "teaAfter", desc := "(I)I" } : MethodName)) ∈ kq_tbl := kq_in_of (n := 352) (by decide +kernel) rfl
theorem kx_356 : (Cond.methodLink "KettleInquest$Hall" (120 : Nat) ({ cls := "KettleInquest$Hall", name := "passMinute", desc := "()Z" } : MethodName)) ∈ kq_tbl := kq_in_of (n := 356) (by decide +kernel) rfl
theorem kx_360 : (Cond.methodLink "KettleInquest$Hall" (110 : Nat) ({ cls := "KettleInquest$Hall", name := "whoseTurn", desc := "()I" } : MethodName)) ∈ kq_tbl := kq_in_of (n := 360) (by decide +kernel) rfl
theorem kx_364 : (Cond.methodLink "KettleInquest$Hall" (114 : Nat) ({ cls := "KettleInquest$Hall", name := "factAsked", desc := "()I" } : MethodName)) ∈ kq_tbl := kq_in_of (n := 364) (by decide +kernel) rfl
theorem kx_368 : (Cond.methodLink "KettleInquest$Hall" (117 : Nat) ({ cls := "KettleInquest$Hall", name := "hearAnswer", desc := "(II)Z" } : MethodName)) ∈ kq_tbl := kq_in_of (n := 368) (by decide +kernel) rfl
theorem kx_369 : (Cond.methodLink "KettleInquestLaw" (60 : Nat) ({ cls := "KettleInquest", name := "now", desc := "(I)I" } : MethodName)) ∈ kq_tbl := kq_in_of (n := 369) (by decide +kernel) rfl
theorem kx_373 : (Cond.methodLink "KettleInquest" (133 : Nat) ({ cls := "KettleInquest$Hall", name := "whoseTurn", desc := "()I" } : MethodName)) ∈ kq_tbl := kq_in_of (n := 373) (by decide +kernel) rfl
theorem kx_374 : (Cond.methodLink "KettleInquest" (137 : Nat) ({ cls := "KettleInquest$Hall", name := "factAsked", desc := "()I" } : MethodName)) ∈ kq_tbl := kq_in_of (n := 374) (by decide +kernel) rfl
theorem kx_375 : (Cond.methodLink "KettleInquestLaw" (64 : Nat) ({ cls := "KettleInquest", name := "on", desc := "(II)I" } : MethodName)) ∈ kq_tbl := kq_in_of (n := 375) (by decide +kernel) rfl
theorem kx_379 : (Cond.methodLink "KettleInquest" (140 : Nat) ({ cls := "KettleInquest$Hall", name := "become", desc := "(LKettleInquest$Hall;)V" } : MethodName)) ∈ kq_tbl := kq_in_of (n := 379) (by decide +kernel) rfl
theorem kx_383 : (Cond.methodLink "KettleInquestLaw" (68 : Nat) ({ cls := "KettleInquest", name := "then", desc := "(III)I" } : MethodName)) ∈ kq_tbl := kq_in_of (n := 383) (by decide +kernel) rfl
theorem kx_387 : (Cond.methodLink "KettleInquestLaw" (72 : Nat) ({ cls := "KettleInquest", name := "boils", desc := "()I" } : MethodName)) ∈ kq_tbl := kq_in_of (n := 387) (by decide +kernel) rfl
theorem kx_391 : (Cond.methodLink "KettleInquest" (144 : Nat) ({ cls := "KettleInquest$Hall", name := "passMinute", desc := "()Z" } : MethodName)) ∈ kq_tbl := kq_in_of (n := 391) (by decide +kernel) rfl
theorem kx_392 : (Cond.methodLink "KettleInquestLaw" (77 : Nat) ({ cls := "KettleInquest", name := "doubts", desc := "(I)I" } : MethodName)) ∈ kq_tbl := kq_in_of (n := 392) (by decide +kernel) rfl
theorem kx_396 : (Cond.methodLink "KettleInquestLaw" (81 : Nat) ({ cls := "KettleInquest", name := "worst", desc := "(I)I" } : MethodName)) ∈ kq_tbl := kq_in_of (n := 396) (by decide +kernel) rfl
theorem kx_400 : (Cond.methodLink "KettleInquestLaw" (85 : Nat) ({ cls := "KettleInquest", name := "turns", desc := "(I)I" } : MethodName)) ∈ kq_tbl := kq_in_of (n := 400) (by decide +kernel) rfl
theorem kx_404 : (Cond.methodLink "KettleInquestLaw" (89 : Nat) ({ cls := "KettleInquest", name := "sure", desc := "(II)I" } : MethodName)) ∈ kq_tbl := kq_in_of (n := 404) (by decide +kernel) rfl
theorem kx_408 : (Cond.methodLink "KettleInquestLaw" (93 : Nat) ({ cls := "KettleInquest", name := "water", desc := "(II)I" } : MethodName)) ∈ kq_tbl := kq_in_of (n := 408) (by decide +kernel) rfl
theorem kx_412 : (Cond.methodLink "KettleInquestLaw" (97 : Nat) ({ cls := "KettleInquest", name := "kind", desc := "(II)I" } : MethodName)) ∈ kq_tbl := kq_in_of (n := 412) (by decide +kernel) rfl
theorem kx_416 : (Cond.methodLink "KettleInquestLaw" (101 : Nat) ({ cls := "KettleInquest", name := "says", desc := "(II)I" } : MethodName)) ∈ kq_tbl := kq_in_of (n := 416) (by decide +kernel) rfl
theorem kx_420 : (Cond.methodLink "KettleInquestLaw" (105 : Nat) ({ cls := "KettleInquest", name := "fact", desc := "(I)I" } : MethodName)) ∈ kq_tbl := kq_in_of (n := 420) (by decide +kernel) rfl
theorem kx_424 : (Cond.methodLink "KettleInquestLaw" (109 : Nat) ({ cls := "KettleInquest", name := "feed", desc := "(II)I" } : MethodName)) ∈ kq_tbl := kq_in_of (n := 424) (by decide +kernel) rfl
theorem kx_428 : (Cond.methodLink "KettleInquest" (151 : Nat) ({ cls := "KettleInquest$Clerk", name := "append", desc := "(I)V" } : MethodName)) ∈ kq_tbl := kq_in_of (n := 428) (by decide +kernel) rfl
theorem kx_432 : (Cond.methodLink "KettleInquestLaw" (113 : Nat) ({ cls := "KettleInquest", name := "wipe", desc := "()I" } : MethodName)) ∈ kq_tbl := kq_in_of (n := 432) (by decide +kernel) rfl
theorem kx_436 : (Cond.methodLink "KettleInquestLaw" (117 : Nat) ({ cls := "KettleInquest", name := "inquest", desc := "()I" } : MethodName)) ∈ kq_tbl := kq_in_of (n := 436) (by decide +kernel) rfl
theorem kx_440 : (Cond.methodLink "KettleInquest" (155 : Nat) ({ cls := "KettleInquest$Clerk", name := "takeDown", desc := "(LKettleInquest$Hall;)I" } : MethodName)) ∈ kq_tbl := kq_in_of (n := 440) (by decide +kernel) rfl
theorem kx_444 : (Cond.methodLink "KettleInquest$Clerk" (34 : Nat) ({ cls := "KettleInquest$Clerk", name := "nextToken", desc := "()V" } : MethodName)) ∈ kq_tbl := kq_in_of (n := 444) (by decide +kernel) rfl
theorem kx_448 : (Cond.methodLink "KettleInquest$Clerk" (127 : Nat) ({ cls := "KettleInquest$Clerk", name := "endOfRun", desc := "(CC)I" } : MethodName)) ∈ kq_tbl := kq_in_of (n := 448) (by decide +kernel) rfl
theorem kx_452 : (Cond.methodLink "KettleInquest$Clerk" (131 : Nat) ({ cls := "KettleInquest$Clerk", name := "numberThere", desc := "()I" } : MethodName)) ∈ kq_tbl := kq_in_of (n := 452) (by decide +kernel) rfl
theorem kx_456 : (Cond.methodLink "KettleInquest$Clerk" (37 : Nat) ({ cls := "KettleInquest$Clerk", name := "takeItem", desc := "(LKettleInquest$Hall;)Z" } : MethodName)) ∈ kq_tbl := kq_in_of (n := 456) (by decide +kernel) rfl
theorem kx_460 : (Cond.methodLink "KettleInquest$Clerk" (41 : Nat) ({ cls := "KettleInquest$Clerk", name := "kindNamed", desc := "()I" } : MethodName)) ∈ kq_tbl := kq_in_of (n := 460) (by decide +kernel) rfl
theorem kx_464 : (Cond.methodLink "KettleInquest$Clerk" (103 : Nat) ({ cls := "KettleInquest$Clerk", name := "nameOf", desc := "(I)Ljava/lang/String;" } : MethodName)) ∈ kq_tbl := kq_in_of (n := 464) (by decide +kernel) rfl
theorem kx_473 : (Cond.methodLink "KettleInquest$Clerk" (51 : Nat) ({ cls := "KettleInquest$Clerk", name := "isWord", desc := "(Ljava/lang/String;)Z" } : MethodName)) ∈ kq_tbl := kq_in_of (n := 473) (by decide +kernel) rfl
theorem kx_477 : (Cond.methodLink "KettleInquest$Clerk" (119 : Nat) ({ cls := "java/lang/String", name := "length", desc := "()I" } : MethodName)) ∈ kq_tbl := kq_in_of (n := 477) (by decide +kernel) rfl
theorem kx_481 : (Cond.methodLink "java/lang/String" (335 : Nat) ({ cls := "java/lang/String", name := "coder", desc := "()B" } : MethodName)) ∈ kq_tbl := kq_in_of (n := 481) (by decide +kernel) rfl
theorem kx_485 : (Cond.fieldLink "java/lang/String" (38 : Nat) "java/lang/String" "COMPACT_STRINGS" "Z") ∈ kq_tbl := kq_in_of (n := 485) (by decide +kernel) rfl
theorem kx_487 : (Cond.methodLink "KettleInquest$Clerk" (123 : Nat) ({ cls := "java/lang/String", name := "charAt", desc := "(I)C" } : MethodName)) ∈ kq_tbl := kq_in_of (n := 487) (by decide +kernel) rfl
theorem kx_491 : (Cond.methodLink "java/lang/String" (492 : Nat) ({ cls := "java/lang/String", name := "isLatin1", desc := "()Z" } : MethodName)) ∈ kq_tbl := kq_in_of (n := 491) (by decide +kernel) rfl
theorem kx_495 : (Cond.methodLink "java/lang/String" (495 : Nat) ({ cls := "java/lang/StringLatin1", name := "charAt", desc := "([BI)C" } : MethodName)) ∈ kq_tbl := kq_in_of (n := 495) (by decide +kernel) rfl
theorem kx_498 : (Cond.methodLink "java/lang/StringLatin1" (9 : Nat) ({ cls := "java/lang/String", name := "checkIndex", desc := "(II)V" } : MethodName)) ∈ kq_tbl := kq_in_of (n := 498) (by decide +kernel) rfl
theorem kx_501 : (Cond.fieldLink "java/lang/String" (1053 : Nat) "jdk/internal/util/Preconditions" "SIOOBE_FORMATTER" "Ljava/util/function/BiFunction;") ∈ kq_tbl := kq_in_of (n := 501) (by decide +kernel) rfl
theorem kx_503 : (Cond.methodLink "java/lang/String" (1059 : Nat) ({ cls := "jdk/internal/util/Preconditions", name := "checkIndex", desc := "(IILjava/util/function/BiFunction;)I" } : MethodName)) ∈ kq_tbl := kq_in_of (n := 503) (by decide +kernel) rfl
theorem kx_525 : (Cond.methodLink "KettleInquest$Clerk" (45 : Nat) ({ cls := "KettleInquest$Clerk", name := "takeWitness", desc := "(LKettleInquest$Hall;I)Z" } : MethodName)) ∈ kq_tbl := kq_in_of (n := 525) (by decide +kernel) rfl
theorem kx_529 : (Cond.methodLink "KettleInquest$Clerk" (71 : Nat) ({ cls := "KettleInquest$Hall", name := "callWitness", desc := "(I)I" } : MethodName)) ∈ kq_tbl := kq_in_of (n := 529) (by decide +kernel) rfl
theorem kx_531 : (Cond.methodLink "KettleInquest$Clerk" (77 : Nat) ({ cls := "KettleInquest$Clerk", name := "isNumberUpTo", desc := "(I)Z" } : MethodName)) ∈ kq_tbl := kq_in_of (n := 531) (by decide +kernel) rfl
theorem kx_536 : (Cond.methodLink "KettleInquest$Clerk" (86 : Nat) ({ cls := "KettleInquest$Clerk", name := "takeFacts", desc := "()Z" } : MethodName)) ∈ kq_tbl := kq_in_of (n := 536) (by decide +kernel) rfl
theorem kx_542 : (Cond.methodLink "KettleInquest$Clerk" (55 : Nat) ({ cls := "KettleInquest$Clerk", name := "takeTruth", desc := "(LKettleInquest$Hall;Z)Z" } : MethodName)) ∈ kq_tbl := kq_in_of (n := 542) (by decide +kernel) rfl
theorem kx_548 : (Cond.methodLink "KettleInquest$Clerk" (63 : Nat) ({ cls := "KettleInquest$Clerk", name := "takeWater", desc := "(LKettleInquest$Hall;)Z" } : MethodName)) ∈ kq_tbl := kq_in_of (n := 548) (by decide +kernel) rfl
theorem kx_553 : (Cond.methodLink "KettleInquestLaw" (121 : Nat) ({ cls := "KettleInquest", name := "sheet", desc := "(III)I" } : MethodName)) ∈ kq_tbl := kq_in_of (n := 553) (by decide +kernel) rfl
theorem kx_557 : (Cond.methodLink "KettleInquest" (159 : Nat) ({ cls := "KettleInquest", name := "isSheet", desc := "(I)Z" } : MethodName)) ∈ kq_tbl := kq_in_of (n := 557) (by decide +kernel) rfl
theorem kx_560 : (Cond.methodLink "KettleInquest" (162 : Nat) ({ cls := "KettleInquest$Sheet", name := "layOut", desc := "(II)V" } : MethodName)) ∈ kq_tbl := kq_in_of (n := 560) (by decide +kernel) rfl
theorem kx_564 : (Cond.methodLink "KettleInquestLaw" (127 : Nat) ({ cls := "KettleInquest", name := "write", desc := "(IIJ)J" } : MethodName)) ∈ kq_tbl := kq_in_of (n := 564) (by decide +kernel) rfl
theorem kx_568 : (Cond.methodLink "KettleInquest" (166 : Nat) ({ cls := "KettleInquest$Sheet", name := "isMissing", desc := "()Z" } : MethodName)) ∈ kq_tbl := kq_in_of (n := 568) (by decide +kernel) rfl
theorem kx_572 : (Cond.methodLink "KettleInquest" (173 : Nat) ({ cls := "KettleInquest$Sheet", name := "lowestBits", desc := "(J)J" } : MethodName)) ∈ kq_tbl := kq_in_of (n := 572) (by decide +kernel) rfl
theorem kx_576 : (Cond.methodLink "KettleInquestLaw" (132 : Nat) ({ cls := "KettleInquest", name := "copy", desc := "(IIIII)I" } : MethodName)) ∈ kq_tbl := kq_in_of (n := 576) (by decide +kernel) rfl
theorem kx_580 : (Cond.methodLink "KettleInquest" (180 : Nat) ({ cls := "KettleInquest$Sheet", name := "hasStretch", desc := "(II)Z" } : MethodName)) ∈ kq_tbl := kq_in_of (n := 580) (by decide +kernel) rfl
theorem kx_584 : (Cond.methodLink "KettleInquest" (183 : Nat) ({ cls := "java/lang/System", name := "arraycopy", desc := "(Ljava/lang/Object;ILjava/lang/Object;II)V" } : MethodName)) ∈ kq_tbl := kq_in_of (n := 584) (by decide +kernel) rfl
theorem kx_585 : (Cond.static ({ cls := "java/lang/System", name := "arraycopy", desc := "(Ljava/lang/Object;ILjava/lang/Object;II)V" } : MethodName)) ∈ kq_tbl := kq_in_of (n := 585) (by decide +kernel) rfl
theorem kx_586 : (Cond.native ({ cls := "java/lang/System", name := "arraycopy", desc := "(Ljava/lang/Object;ILjava/lang/Object;II)V" } : MethodName)) ∈ kq_tbl := kq_in_of (n := 586) (by decide +kernel) rfl
theorem kx_587 : (Cond.methodLink "KettleInquestLaw" (137 : Nat) ({ cls := "KettleInquest", name := "lays", desc := "(I)I" } : MethodName)) ∈ kq_tbl := kq_in_of (n := 587) (by decide +kernel) rfl
theorem kx_591 : (Cond.constantLong "KettleInquest" (189 : Nat) (9 : Int64)) ∈ kq_tbl := kq_in_of (n := 591) (by decide +kernel) rfl
theorem kx_592 : (Cond.methodLink "KettleInquestLaw" (141 : Nat) ({ cls := "KettleInquest", name := "book", desc := "(I)I" } : MethodName)) ∈ kq_tbl := kq_in_of (n := 592) (by decide +kernel) rfl
theorem kx_596 : (Cond.methodLink "KettleInquestLaw" (145 : Nat) ({ cls := "KettleInquest", name := "read", desc := "(II)I" } : MethodName)) ∈ kq_tbl := kq_in_of (n := 596) (by decide +kernel) rfl
theorem kx_600 : (Cond.methodLink "KettleInquest" (191 : Nat) ({ cls := "KettleInquest$Hall", name := "goesBy", desc := "(LKettleInquest$Sheet;)Z" } : MethodName)) ∈ kq_tbl := kq_in_of (n := 600) (by decide +kernel) rfl
theorem kx_604 : (Cond.methodLink "KettleInquestLaw" (149 : Nat) ({ cls := "KettleInquest", name := "image", desc := "()I" } : MethodName)) ∈ kq_tbl := kq_in_of (n := 604) (by decide +kernel) rfl
theorem kx_608 : (Cond.methodLink "KettleInquestLaw" (153 : Nat) ({ cls := "KettleInquest", name := "undo", desc := "()I" } : MethodName)) ∈ kq_tbl := kq_in_of (n := 608) (by decide +kernel) rfl
theorem kx_612 : (Cond.methodLink "KettleInquestLaw" (157 : Nat) ({ cls := "KettleInquest", name := "tear", desc := "()I" } : MethodName)) ∈ kq_tbl := kq_in_of (n := 612) (by decide +kernel) rfl
theorem kx_616 : (Cond.methodLink "KettleInquestLaw" (161 : Nat) ({ cls := "KettleInquest", name := "count", desc := "(I)I" } : MethodName)) ∈ kq_tbl := kq_in_of (n := 616) (by decide +kernel) rfl
theorem kx_620 : (Cond.methodLink "KettleInquest" (195 : Nat) ({ cls := "KettleInquest$Hall", name := "allLies", desc := "()I" } : MethodName)) ∈ kq_tbl := kq_in_of (n := 620) (by decide +kernel) rfl
theorem kx_624 : (Cond.methodLink "KettleInquest$Hall" (61 : Nat) ({ cls := "java/lang/Integer", name := "bitCount", desc := "(I)I" } : MethodName)) ∈ kq_tbl := kq_in_of (n := 624) (by decide +kernel) rfl
theorem kx_627 : (Cond.constant "java/lang/Integer" (265 : Nat) (1431655765 : Int32)) ∈ kq_tbl := kq_in_of (n := 627) (by decide +kernel) rfl
theorem kx_628 : (Cond.constant "java/lang/Integer" (266 : Nat) (858993459 : Int32)) ∈ kq_tbl := kq_in_of (n := 628) (by decide +kernel) rfl
theorem kx_629 : (Cond.constant "java/lang/Integer" (267 : Nat) (252645135 : Int32)) ∈ kq_tbl := kq_in_of (n := 629) (by decide +kernel) rfl
theorem kx_630 : (Cond.methodLink "KettleInquest" (198 : Nat) ({ cls := "KettleInquest$Hall", name := "allSure", desc := "()I" } : MethodName)) ∈ kq_tbl := kq_in_of (n := 630) (by decide +kernel) rfl
theorem kx_634 : (Cond.methodLink "KettleInquestLaw" (165 : Nat) ({ cls := "KettleInquest", name := "status", desc := "(I)I" } : MethodName)) ∈ kq_tbl := kq_in_of (n := 634) (by decide +kernel) rfl
theorem kx_644 : (Cond.fieldLink "KettleInquestModel" (7 : Nat) "KettleInquestModel" "row" "[I") ∈ kq_tbl := kq_in_of (n := 644) (by decide +kernel) rfl
theorem kx_645 : (Cond.fieldLink "KettleInquestModel" (13 : Nat) "KettleInquestModel" "found" "[I") ∈ kq_tbl := kq_in_of (n := 645) (by decide +kernel) rfl
theorem kx_646 : (Cond.fieldLink "KettleInquestModel" (109 : Nat) "KettleInquestModel" "boiled" "Z") ∈ kq_tbl := kq_in_of (n := 646) (by decide +kernel) rfl
theorem kx_647 : (Cond.fieldLink "KettleInquestModel" (16 : Nat) "KettleInquestModel" "tried" "[I") ∈ kq_tbl := kq_in_of (n := 647) (by decide +kernel) rfl
theorem kx_648 : (Cond.fieldLink "KettleInquestModel" (19 : Nat) "KettleInquestModel" "before1" "[I") ∈ kq_tbl := kq_in_of (n := 648) (by decide +kernel) rfl
theorem kx_649 : (Cond.fieldLink "KettleInquestModel" (22 : Nat) "KettleInquestModel" "tape" "[I") ∈ kq_tbl := kq_in_of (n := 649) (by decide +kernel) rfl
theorem kx_650 : (Cond.fieldLink "KettleInquestModel" (144 : Nat) "KettleInquestModel" "tapeMany" "I") ∈ kq_tbl := kq_in_of (n := 650) (by decide +kernel) rfl
theorem kx_651 : (Cond.fieldLink "KettleInquestModel" (163 : Nat) "KettleInquestModel" "sort" "I") ∈ kq_tbl := kq_in_of (n := 651) (by decide +kernel) rfl
theorem kx_652 : (Cond.fieldLink "KettleInquestModel" (151 : Nat) "KettleInquestModel" "begins" "I") ∈ kq_tbl := kq_in_of (n := 652) (by decide +kernel) rfl
theorem kx_653 : (Cond.fieldLink "KettleInquestModel" (148 : Nat) "KettleInquestModel" "tokenEnds" "I") ∈ kq_tbl := kq_in_of (n := 653) (by decide +kernel) rfl
theorem kx_654 : (Cond.fieldLink "KettleInquestModel" (166 : Nat) "KettleInquestModel" "word" "J") ∈ kq_tbl := kq_in_of (n := 654) (by decide +kernel) rfl
theorem kx_655 : (Cond.fieldLink "KettleInquestModel" (170 : Nat) "KettleInquestModel" "value" "I") ∈ kq_tbl := kq_in_of (n := 655) (by decide +kernel) rfl
theorem kx_656 : (Cond.fieldLink "KettleInquestModel" (195 : Nat) "KettleInquestModel" "good" "Z") ∈ kq_tbl := kq_in_of (n := 656) (by decide +kernel) rfl
theorem kx_657 : (Cond.fieldLink "KettleInquestModel" (25 : Nat) "KettleInquestModel" "bitsOf" "[I") ∈ kq_tbl := kq_in_of (n := 657) (by decide +kernel) rfl
theorem kx_658 : (Cond.fieldLink "KettleInquestModel" (28 : Nat) "KettleInquestModel" "sizeOf" "[I") ∈ kq_tbl := kq_in_of (n := 658) (by decide +kernel) rfl
theorem kx_659 : (Cond.fieldLink "KettleInquestModel" (31 : Nat) "KettleInquestModel" "sheets" "[J") ∈ kq_tbl := kq_in_of (n := 659) (by decide +kernel) rfl
theorem kx_660 : (Cond.fieldLink "KettleInquestModel" (35 : Nat) "KettleInquestModel" "lent" "[J") ∈ kq_tbl := kq_in_of (n := 660) (by decide +kernel) rfl
theorem kx_661 : (Cond.fieldLink "KettleInquestModel" (38 : Nat) "KettleInquestModel" "image" "[I") ∈ kq_tbl := kq_in_of (n := 661) (by decide +kernel) rfl
theorem kx_662 : (Cond.fieldLink "KettleInquestModel" (41 : Nat) "KettleInquestModel" "before" "[I") ∈ kq_tbl := kq_in_of (n := 662) (by decide +kernel) rfl
theorem kx_663 : (Cond.fieldLink "KettleInquestModel" (257 : Nat) "KettleInquestModel" "isKept" "Z") ∈ kq_tbl := kq_in_of (n := 663) (by decide +kernel) rfl
theorem kx_705 : (Cond.methodLink "KettleInquestLaw" (17 : Nat) ({ cls := "KettleInquestModel", name := "truth", desc := "(I)I" } : MethodName)) ∈ kq_tbl := kq_in_of (n := 705) (by decide +kernel) rfl
theorem kx_709 : (Cond.methodLink "KettleInquestModel" (45 : Nat) ({ cls := "KettleInquestModel", name := "in", desc := "(III)Z" } : MethodName)) ∈ kq_tbl := kq_in_of (n := 709) (by decide +kernel) rfl
theorem kx_712 : (Cond.methodLink "KettleInquestModel" (49 : Nat) ({ cls := "KettleInquestModel", name := "becomes", desc := "(II)I" } : MethodName)) ∈ kq_tbl := kq_in_of (n := 712) (by decide +kernel) rfl
theorem kx_716 : (Cond.constant "KettleInquestModel" (44 : Nat) (-1000000001 : Int32)) ∈ kq_tbl := kq_in_of (n := 716) (by decide +kernel) rfl
theorem kx_717 : (Cond.methodLink "KettleInquestModel" (53 : Nat) ({ cls := "KettleInquestModel", name := "finds", desc := "(I)I" } : MethodName)) ∈ kq_tbl := kq_in_of (n := 717) (by decide +kernel) rfl
theorem kx_721 : (Cond.methodLink "KettleInquestLaw" (22 : Nat) ({ cls := "KettleInquestModel", name := "kettle", desc := "(II)I" } : MethodName)) ∈ kq_tbl := kq_in_of (n := 721) (by decide +kernel) rfl
theorem kx_725 : (Cond.methodLink "KettleInquestLaw" (26 : Nat) ({ cls := "KettleInquestModel", name := "witness", desc := "(I)I" } : MethodName)) ∈ kq_tbl := kq_in_of (n := 725) (by decide +kernel) rfl
theorem kx_729 : (Cond.methodLink "KettleInquestModel" (84 : Nat) ({ cls := "KettleInquestModel", name := "isKind", desc := "(I)Z" } : MethodName)) ∈ kq_tbl := kq_in_of (n := 729) (by decide +kernel) rfl
theorem kx_732 : (Cond.constant "KettleInquestModel" (87 : Nat) (-1000000002 : Int32)) ∈ kq_tbl := kq_in_of (n := 732) (by decide +kernel) rfl
theorem kx_733 : (Cond.methodLink "KettleInquestModel" (88 : Nat) ({ cls := "KettleInquestModel", name := "adds", desc := "(IIII)V" } : MethodName)) ∈ kq_tbl := kq_in_of (n := 733) (by decide +kernel) rfl
theorem kx_737 : (Cond.methodLink "KettleInquestModel" (80 : Nat) ({ cls := "KettleInquestModel", name := "puts", desc := "(III)V" } : MethodName)) ∈ kq_tbl := kq_in_of (n := 737) (by decide +kernel) rfl
theorem kx_741 : (Cond.methodLink "KettleInquestLaw" (30 : Nat) ({ cls := "KettleInquestModel", name := "of", desc := "(II)I" } : MethodName)) ∈ kq_tbl := kq_in_of (n := 741) (by decide +kernel) rfl
theorem kx_745 : (Cond.methodLink "KettleInquestModel" (92 : Nat) ({ cls := "KettleInquestModel", name := "isOne", desc := "(I)Z" } : MethodName)) ∈ kq_tbl := kq_in_of (n := 745) (by decide +kernel) rfl
theorem kx_749 : (Cond.methodLink "KettleInquestModel" (67 : Nat) ({ cls := "KettleInquestModel", name := "lies", desc := "(I)I" } : MethodName)) ∈ kq_tbl := kq_in_of (n := 749) (by decide +kernel) rfl
theorem kx_753 : (Cond.methodLink "KettleInquestModel" (57 : Nat) ({ cls := "KettleInquestModel", name := "its", desc := "(II)I" } : MethodName)) ∈ kq_tbl := kq_in_of (n := 753) (by decide +kernel) rfl
theorem kx_757 : (Cond.methodLink "KettleInquestModel" (60 : Nat) ({ cls := "KettleInquestModel", name := "right", desc := "(I)I" } : MethodName)) ∈ kq_tbl := kq_in_of (n := 757) (by decide +kernel) rfl
theorem kx_761 : (Cond.methodLink "KettleInquestModel" (70 : Nat) ({ cls := "KettleInquestModel", name := "lucky", desc := "(I)I" } : MethodName)) ∈ kq_tbl := kq_in_of (n := 761) (by decide +kernel) rfl
theorem kx_765 : (Cond.methodLink "KettleInquestModel" (73 : Nat) ({ cls := "KettleInquestModel", name := "wrong", desc := "(I)I" } : MethodName)) ∈ kq_tbl := kq_in_of (n := 765) (by decide +kernel) rfl
theorem kx_769 : (Cond.methodLink "KettleInquestModel" (95 : Nat) ({ cls := "KettleInquestModel", name := "doubting", desc := "(I)I" } : MethodName)) ∈ kq_tbl := kq_in_of (n := 769) (by decide +kernel) rfl
theorem kx_773 : (Cond.methodLink "KettleInquestLaw" (35 : Nat) ({ cls := "KettleInquestModel", name := "set", desc := "(III)I" } : MethodName)) ∈ kq_tbl := kq_in_of (n := 773) (by decide +kernel) rfl
theorem kx_777 : (Cond.methodLink "KettleInquestLaw" (39 : Nat) ({ cls := "KettleInquestModel", name := "turn", desc := "(II)I" } : MethodName)) ∈ kq_tbl := kq_in_of (n := 777) (by decide +kernel) rfl
theorem kx_781 : (Cond.methodLink "KettleInquestLaw" (43 : Nat) ({ cls := "KettleInquestModel", name := "as", desc := "(II)I" } : MethodName)) ∈ kq_tbl := kq_in_of (n := 781) (by decide +kernel) rfl
theorem kx_785 : (Cond.constant "KettleInquestModel" (98 : Nat) (-1000000003 : Int32)) ∈ kq_tbl := kq_in_of (n := 785) (by decide +kernel) rfl
theorem kx_786 : (Cond.methodLink "KettleInquestLaw" (47 : Nat) ({ cls := "KettleInquestModel", name := "heats", desc := "(II)I" } : MethodName)) ∈ kq_tbl := kq_in_of (n := 786) (by decide +kernel) rfl
theorem kx_790 : (Cond.methodLink "KettleInquestModel" (99 : Nat) ({ cls := "KettleInquestModel", name := "isFact", desc := "(I)Z" } : MethodName)) ∈ kq_tbl := kq_in_of (n := 790) (by decide +kernel) rfl
theorem kx_793 : (Cond.methodLink "KettleInquestModel" (102 : Nat) ({ cls := "KettleInquestModel", name := "heating", desc := "(II)I" } : MethodName)) ∈ kq_tbl := kq_in_of (n := 793) (by decide +kernel) rfl
theorem kx_797 : (Cond.methodLink "KettleInquestModel" (76 : Nat) ({ cls := "KettleInquestModel", name := "besideLiar", desc := "(II)Z" } : MethodName)) ∈ kq_tbl := kq_in_of (n := 797) (by decide +kernel) rfl
theorem kx_801 : (Cond.methodLink "KettleInquestModel" (63 : Nat) ({ cls := "KettleInquestModel", name := "isPlumber", desc := "(I)Z" } : MethodName)) ∈ kq_tbl := kq_in_of (n := 801) (by decide +kernel) rfl
theorem kx_805 : (Cond.methodLink "KettleInquestLaw" (51 : Nat) ({ cls := "KettleInquestModel", name := "ask", desc := "(II)I" } : MethodName)) ∈ kq_tbl := kq_in_of (n := 805) (by decide +kernel) rfl
theorem kx_809 : (Cond.methodLink "KettleInquestModel" (113 : Nat) ({ cls := "KettleInquestModel", name := "answers", desc := "(II)V" } : MethodName)) ∈ kq_tbl := kq_in_of (n := 809) (by decide +kernel) rfl
theorem kx_813 : (Cond.methodLink "KettleInquestModel" (105 : Nat) ({ cls := "KettleInquestModel", name := "held", desc := "(III)I" } : MethodName)) ∈ kq_tbl := kq_in_of (n := 813) (by decide +kernel) rfl
theorem kx_816 : (Cond.methodLink "KettleInquestLaw" (55 : Nat) ({ cls := "KettleInquestModel", name := "swap", desc := "(II)I" } : MethodName)) ∈ kq_tbl := kq_in_of (n := 816) (by decide +kernel) rfl
theorem kx_820 : (Cond.methodLink "KettleInquestModel" (117 : Nat) ({ cls := "KettleInquestModel", name := "swaps", desc := "(II)V" } : MethodName)) ∈ kq_tbl := kq_in_of (n := 820) (by decide +kernel) rfl
theorem kx_824 : (Cond.methodLink "KettleInquestLaw" (59 : Nat) ({ cls := "KettleInquestModel", name := "minutes", desc := "(I)I" } : MethodName)) ∈ kq_tbl := kq_in_of (n := 824) (by decide +kernel) rfl
theorem kx_828 : (Cond.constant "KettleInquestModel" (130 : Nat) (99999 : Int32)) ∈ kq_tbl := kq_in_of (n := 828) (by decide +kernel) rfl
theorem kx_829 : (Cond.constant "KettleInquestModel" (131 : Nat) (-1000000005 : Int32)) ∈ kq_tbl := kq_in_of (n := 829) (by decide +kernel) rfl
theorem kx_830 : (Cond.methodLink "KettleInquestModel" (132 : Nat) ({ cls := "KettleInquestModel", name := "passes", desc := "(I)V" } : MethodName)) ∈ kq_tbl := kq_in_of (n := 830) (by decide +kernel) rfl
theorem kx_834 : (Cond.methodLink "KettleInquestModel" (127 : Nat) ({ cls := "KettleInquestModel", name := "oneMinute", desc := "()V" } : MethodName)) ∈ kq_tbl := kq_in_of (n := 834) (by decide +kernel) rfl
theorem kx_838 : (Cond.methodLink "KettleInquestModel" (120 : Nat) ({ cls := "KettleInquestModel", name := "whose", desc := "()I" } : MethodName)) ∈ kq_tbl := kq_in_of (n := 838) (by decide +kernel) rfl
theorem kx_842 : (Cond.methodLink "KettleInquestModel" (124 : Nat) ({ cls := "KettleInquestModel", name := "asked", desc := "()I" } : MethodName)) ∈ kq_tbl := kq_in_of (n := 842) (by decide +kernel) rfl
theorem kx_846 : (Cond.methodLink "KettleInquestLaw" (63 : Nat) ({ cls := "KettleInquestModel", name := "now", desc := "(I)I" } : MethodName)) ∈ kq_tbl := kq_in_of (n := 846) (by decide +kernel) rfl
theorem kx_850 : (Cond.methodLink "KettleInquestLaw" (67 : Nat) ({ cls := "KettleInquestModel", name := "on", desc := "(II)I" } : MethodName)) ∈ kq_tbl := kq_in_of (n := 850) (by decide +kernel) rfl
theorem kx_854 : (Cond.methodLink "KettleInquestModel" (136 : Nat) ({ cls := "KettleInquestModel", name := "moveAll", desc := "(Z[I)V" } : MethodName)) ∈ kq_tbl := kq_in_of (n := 854) (by decide +kernel) rfl
theorem kx_858 : (Cond.methodLink "KettleInquestLaw" (71 : Nat) ({ cls := "KettleInquestModel", name := "then", desc := "(III)I" } : MethodName)) ∈ kq_tbl := kq_in_of (n := 858) (by decide +kernel) rfl
theorem kx_862 : (Cond.methodLink "KettleInquestLaw" (76 : Nat) ({ cls := "KettleInquestModel", name := "boils", desc := "()I" } : MethodName)) ∈ kq_tbl := kq_in_of (n := 862) (by decide +kernel) rfl
theorem kx_866 : (Cond.constant "KettleInquestModel" (140 : Nat) (-1000000004 : Int32)) ∈ kq_tbl := kq_in_of (n := 866) (by decide +kernel) rfl
theorem kx_867 : (Cond.methodLink "KettleInquestLaw" (80 : Nat) ({ cls := "KettleInquestModel", name := "doubts", desc := "(I)I" } : MethodName)) ∈ kq_tbl := kq_in_of (n := 867) (by decide +kernel) rfl
theorem kx_871 : (Cond.methodLink "KettleInquestLaw" (84 : Nat) ({ cls := "KettleInquestModel", name := "worst", desc := "(I)I" } : MethodName)) ∈ kq_tbl := kq_in_of (n := 871) (by decide +kernel) rfl
theorem kx_875 : (Cond.methodLink "KettleInquestLaw" (88 : Nat) ({ cls := "KettleInquestModel", name := "turns", desc := "(I)I" } : MethodName)) ∈ kq_tbl := kq_in_of (n := 875) (by decide +kernel) rfl
theorem kx_879 : (Cond.methodLink "KettleInquestModel" (141 : Nat) ({ cls := "KettleInquestModel", name := "teaBehind", desc := "(I)I" } : MethodName)) ∈ kq_tbl := kq_in_of (n := 879) (by decide +kernel) rfl
theorem kx_883 : (Cond.methodLink "KettleInquestLaw" (92 : Nat) ({ cls := "KettleInquestModel", name := "sure", desc := "(II)I" } : MethodName)) ∈ kq_tbl := kq_in_of (n := 883) (by decide +kernel) rfl
theorem kx_887 : (Cond.methodLink "KettleInquestLaw" (96 : Nat) ({ cls := "KettleInquestModel", name := "water", desc := "(II)I" } : MethodName)) ∈ kq_tbl := kq_in_of (n := 887) (by decide +kernel) rfl
theorem kx_891 : (Cond.methodLink "KettleInquestLaw" (100 : Nat) ({ cls := "KettleInquestModel", name := "kind", desc := "(II)I" } : MethodName)) ∈ kq_tbl := kq_in_of (n := 891) (by decide +kernel) rfl
theorem kx_895 : (Cond.methodLink "KettleInquestLaw" (104 : Nat) ({ cls := "KettleInquestModel", name := "says", desc := "(II)I" } : MethodName)) ∈ kq_tbl := kq_in_of (n := 895) (by decide +kernel) rfl
theorem kx_899 : (Cond.methodLink "KettleInquestLaw" (108 : Nat) ({ cls := "KettleInquestModel", name := "fact", desc := "(I)I" } : MethodName)) ∈ kq_tbl := kq_in_of (n := 899) (by decide +kernel) rfl
theorem kx_903 : (Cond.methodLink "KettleInquestLaw" (112 : Nat) ({ cls := "KettleInquestModel", name := "feed", desc := "(II)I" } : MethodName)) ∈ kq_tbl := kq_in_of (n := 903) (by decide +kernel) rfl
theorem kx_907 : (Cond.methodLink "KettleInquestLaw" (116 : Nat) ({ cls := "KettleInquestModel", name := "wipe", desc := "()I" } : MethodName)) ∈ kq_tbl := kq_in_of (n := 907) (by decide +kernel) rfl
theorem kx_911 : (Cond.methodLink "KettleInquestLaw" (120 : Nat) ({ cls := "KettleInquestModel", name := "inquest", desc := "()I" } : MethodName)) ∈ kq_tbl := kq_in_of (n := 911) (by decide +kernel) rfl
theorem kx_915 : (Cond.methodLink "KettleInquestModel" (198 : Nat) ({ cls := "KettleInquestModel", name := "advance", desc := "()V" } : MethodName)) ∈ kq_tbl := kq_in_of (n := 915) (by decide +kernel) rfl
theorem kx_919 : (Cond.methodLink "KettleInquestModel" (154 : Nat) ({ cls := "KettleInquestModel", name := "byteAt", desc := "(I)I" } : MethodName)) ∈ kq_tbl := kq_in_of (n := 919) (by decide +kernel) rfl
theorem kx_923 : (Cond.methodLink "KettleInquestModel" (157 : Nat) ({ cls := "KettleInquestModel", name := "isLetter", desc := "(I)Z" } : MethodName)) ∈ kq_tbl := kq_in_of (n := 923) (by decide +kernel) rfl
theorem kx_926 : (Cond.methodLink "KettleInquestModel" (160 : Nat) ({ cls := "KettleInquestModel", name := "isDigit", desc := "(I)Z" } : MethodName)) ∈ kq_tbl := kq_in_of (n := 926) (by decide +kernel) rfl
theorem kx_929 : (Cond.constantLong "KettleInquestModel" (173 : Nat) (27 : Int64)) ∈ kq_tbl := kq_in_of (n := 929) (by decide +kernel) rfl
theorem kx_930 : (Cond.constantLong "KettleInquestModel" (175 : Nat) (96 : Int64)) ∈ kq_tbl := kq_in_of (n := 930) (by decide +kernel) rfl
theorem kx_931 : (Cond.constantLong "KettleInquestModel" (177 : Nat) (-1 : Int64)) ∈ kq_tbl := kq_in_of (n := 931) (by decide +kernel) rfl
theorem kx_932 : (Cond.methodLink "KettleInquestModel" (234 : Nat) ({ cls := "KettleInquestModel", name := "wantItem", desc := "()V" } : MethodName)) ∈ kq_tbl := kq_in_of (n := 932) (by decide +kernel) rfl
theorem kx_936 : (Cond.methodLink "KettleInquestModel" (218 : Nat) ({ cls := "KettleInquestModel", name := "kindHere", desc := "()I" } : MethodName)) ∈ kq_tbl := kq_in_of (n := 936) (by decide +kernel) rfl
theorem kx_940 : (Cond.constantLong "KettleInquestModel" (179 : Nat) (9050719969 : Int64)) ∈ kq_tbl := kq_in_of (n := 940) (by decide +kernel) rfl
theorem kx_941 : (Cond.methodLink "KettleInquestModel" (181 : Nat) ({ cls := "KettleInquestModel", name := "isWord", desc := "(J)Z" } : MethodName)) ∈ kq_tbl := kq_in_of (n := 941) (by decide +kernel) rfl
theorem kx_945 : (Cond.constantLong "KettleInquestModel" (185 : Nat) (6382332459 : Int64)) ∈ kq_tbl := kq_in_of (n := 945) (by decide +kernel) rfl
theorem kx_946 : (Cond.constantLong "KettleInquestModel" (187 : Nat) (459437 : Int64)) ∈ kq_tbl := kq_in_of (n := 946) (by decide +kernel) rfl
theorem kx_947 : (Cond.constantLong "KettleInquestModel" (189 : Nat) (1758676 : Int64)) ∈ kq_tbl := kq_in_of (n := 947) (by decide +kernel) rfl
theorem kx_948 : (Cond.constantLong "KettleInquestModel" (191 : Nat) (84818198 : Int64)) ∈ kq_tbl := kq_in_of (n := 948) (by decide +kernel) rfl
theorem kx_949 : (Cond.constantLong "KettleInquestModel" (193 : Nat) (7867157 : Int64)) ∈ kq_tbl := kq_in_of (n := 949) (by decide +kernel) rfl
theorem kx_950 : (Cond.methodLink "KettleInquestModel" (221 : Nat) ({ cls := "KettleInquestModel", name := "wantOne", desc := "(I)V" } : MethodName)) ∈ kq_tbl := kq_in_of (n := 950) (by decide +kernel) rfl
theorem kx_954 : (Cond.constantLong "KettleInquestModel" (204 : Nat) (389777 : Int64)) ∈ kq_tbl := kq_in_of (n := 954) (by decide +kernel) rfl
theorem kx_955 : (Cond.methodLink "KettleInquestModel" (206 : Nat) ({ cls := "KettleInquestModel", name := "mayWant", desc := "(JIII)I" } : MethodName)) ∈ kq_tbl := kq_in_of (n := 955) (by decide +kernel) rfl
theorem kx_959 : (Cond.methodLink "KettleInquestModel" (201 : Nat) ({ cls := "KettleInquestModel", name := "wantNumber", desc := "(II)I" } : MethodName)) ∈ kq_tbl := kq_in_of (n := 959) (by decide +kernel) rfl
theorem kx_963 : (Cond.constantLong "KettleInquestModel" (210 : Nat) (6132988 : Int64)) ∈ kq_tbl := kq_in_of (n := 963) (by decide +kernel) rfl
theorem kx_964 : (Cond.methodLink "KettleInquestModel" (212 : Nat) ({ cls := "KettleInquestModel", name := "mayFacts", desc := "(J)I" } : MethodName)) ∈ kq_tbl := kq_in_of (n := 964) (by decide +kernel) rfl
theorem kx_968 : (Cond.constantLong "KettleInquestModel" (216 : Nat) (375400 : Int64)) ∈ kq_tbl := kq_in_of (n := 968) (by decide +kernel) rfl
theorem kx_969 : (Cond.constantLong "KettleInquestModel" (224 : Nat) (407354 : Int64)) ∈ kq_tbl := kq_in_of (n := 969) (by decide +kernel) rfl
theorem kx_970 : (Cond.methodLink "KettleInquestModel" (226 : Nat) ({ cls := "KettleInquestModel", name := "wantTruth", desc := "(Z)V" } : MethodName)) ∈ kq_tbl := kq_in_of (n := 970) (by decide +kernel) rfl
theorem kx_974 : (Cond.constantLong "KettleInquestModel" (230 : Nat) (3217595 : Int64)) ∈ kq_tbl := kq_in_of (n := 974) (by decide +kernel) rfl
theorem kx_975 : (Cond.constantLong "KettleInquestModel" (232 : Nat) (12257559 : Int64)) ∈ kq_tbl := kq_in_of (n := 975) (by decide +kernel) rfl
theorem kx_976 : (Cond.methodLink "KettleInquestLaw" (124 : Nat) ({ cls := "KettleInquestModel", name := "sheet", desc := "(III)I" } : MethodName)) ∈ kq_tbl := kq_in_of (n := 976) (by decide +kernel) rfl
theorem kx_980 : (Cond.methodLink "KettleInquestModel" (237 : Nat) ({ cls := "KettleInquestModel", name := "isSheet", desc := "(I)Z" } : MethodName)) ∈ kq_tbl := kq_in_of (n := 980) (by decide +kernel) rfl
theorem kx_983 : (Cond.constant "KettleInquestModel" (240 : Nat) (-1000000007 : Int32)) ∈ kq_tbl := kq_in_of (n := 983) (by decide +kernel) rfl
theorem kx_984 : (Cond.methodLink "KettleInquestLaw" (131 : Nat) ({ cls := "KettleInquestModel", name := "write", desc := "(IIJ)J" } : MethodName)) ∈ kq_tbl := kq_in_of (n := 984) (by decide +kernel) rfl
theorem kx_988 : (Cond.constant "KettleInquestModel" (241 : Nat) (-1000000006 : Int32)) ∈ kq_tbl := kq_in_of (n := 988) (by decide +kernel) rfl
theorem kx_989 : (Cond.methodLink "KettleInquestModel" (242 : Nat) ({ cls := "KettleInquestModel", name := "narrow", desc := "(IJ)J" } : MethodName)) ∈ kq_tbl := kq_in_of (n := 989) (by decide +kernel) rfl
theorem kx_992 : (Cond.methodLink "KettleInquestLaw" (136 : Nat) ({ cls := "KettleInquestModel", name := "copy", desc := "(IIIII)I" } : MethodName)) ∈ kq_tbl := kq_in_of (n := 992) (by decide +kernel) rfl
theorem kx_996 : (Cond.methodLink "KettleInquestModel" (246 : Nat) ({ cls := "KettleInquestModel", name := "isPart", desc := "(III)Z" } : MethodName)) ∈ kq_tbl := kq_in_of (n := 996) (by decide +kernel) rfl
theorem kx_1000 : (Cond.methodLink "KettleInquestLaw" (140 : Nat) ({ cls := "KettleInquestModel", name := "lays", desc := "(I)I" } : MethodName)) ∈ kq_tbl := kq_in_of (n := 1000) (by decide +kernel) rfl
theorem kx_1004 : (Cond.methodLink "KettleInquestModel" (249 : Nat) ({ cls := "KettleInquestModel", name := "badSheet", desc := "(I)I" } : MethodName)) ∈ kq_tbl := kq_in_of (n := 1004) (by decide +kernel) rfl
theorem kx_1008 : (Cond.constantLong "KettleInquestModel" (252 : Nat) (9 : Int64)) ∈ kq_tbl := kq_in_of (n := 1008) (by decide +kernel) rfl
theorem kx_1009 : (Cond.methodLink "KettleInquestLaw" (144 : Nat) ({ cls := "KettleInquestModel", name := "book", desc := "(I)I" } : MethodName)) ∈ kq_tbl := kq_in_of (n := 1009) (by decide +kernel) rfl
theorem kx_1013 : (Cond.methodLink "KettleInquestLaw" (148 : Nat) ({ cls := "KettleInquestModel", name := "read", desc := "(II)I" } : MethodName)) ∈ kq_tbl := kq_in_of (n := 1013) (by decide +kernel) rfl
theorem kx_1017 : (Cond.methodLink "KettleInquestModel" (254 : Nat) ({ cls := "KettleInquestModel", name := "isSo", desc := "(I)Z" } : MethodName)) ∈ kq_tbl := kq_in_of (n := 1017) (by decide +kernel) rfl
theorem kx_1021 : (Cond.methodLink "KettleInquestLaw" (152 : Nat) ({ cls := "KettleInquestModel", name := "image", desc := "()I" } : MethodName)) ∈ kq_tbl := kq_in_of (n := 1021) (by decide +kernel) rfl
theorem kx_1025 : (Cond.methodLink "KettleInquestLaw" (156 : Nat) ({ cls := "KettleInquestModel", name := "undo", desc := "()I" } : MethodName)) ∈ kq_tbl := kq_in_of (n := 1025) (by decide +kernel) rfl
theorem kx_1029 : (Cond.methodLink "KettleInquestLaw" (160 : Nat) ({ cls := "KettleInquestModel", name := "tear", desc := "()I" } : MethodName)) ∈ kq_tbl := kq_in_of (n := 1029) (by decide +kernel) rfl
theorem kx_1033 : (Cond.methodLink "KettleInquestLaw" (164 : Nat) ({ cls := "KettleInquestModel", name := "count", desc := "(I)I" } : MethodName)) ∈ kq_tbl := kq_in_of (n := 1033) (by decide +kernel) rfl
theorem kx_1037 : (Cond.methodLink "KettleInquestModel" (260 : Nat) ({ cls := "KettleInquestModel", name := "liesOfAll", desc := "()I" } : MethodName)) ∈ kq_tbl := kq_in_of (n := 1037) (by decide +kernel) rfl
theorem kx_1041 : (Cond.methodLink "KettleInquestModel" (266 : Nat) ({ cls := "KettleInquestModel", name := "bits", desc := "(I)I" } : MethodName)) ∈ kq_tbl := kq_in_of (n := 1041) (by decide +kernel) rfl
theorem kx_1044 : (Cond.methodLink "KettleInquestModel" (263 : Nat) ({ cls := "KettleInquestModel", name := "sureOfAll", desc := "()I" } : MethodName)) ∈ kq_tbl := kq_in_of (n := 1044) (by decide +kernel) rfl
theorem kx_1048 : (Cond.methodLink "KettleInquestLaw" (168 : Nat) ({ cls := "KettleInquestModel", name := "status", desc := "(I)I" } : MethodName)) ∈ kq_tbl := kq_in_of (n := 1048) (by decide +kernel) rfl
theorem kx_1052 : (Cond.constantLong "KettleInquestLaw" (125 : Nat) (4294967295 : Int64)) ∈ kq_tbl := kq_in_of (n := 1052) (by decide +kernel) rfl
theorem kx_1053 : (Cond.fieldLink "java/lang/String" (9 : Nat) "java/lang/String" "value" "[B") ∈ kq_tbl := kq_in_of (n := 1053) (by decide +kernel) rfl
theorem kx_1054 : (Cond.fieldLink "java/lang/String" (15 : Nat) "java/lang/String" "coder" "B") ∈ kq_tbl := kq_in_of (n := 1054) (by decide +kernel) rfl
theorem kg_K_truth : kq_sg km_K_truth 1 := ⟨⟨by decide, by decide, by decide +kernel⟩, by decide⟩
theorem kg_K_isWithin : kq_sg km_K_isWithin 3 := ⟨⟨by decide, by decide, by decide +kernel⟩, by decide⟩
theorem kg_K_finding : kq_sg km_K_finding 1 := ⟨⟨by decide, by decide, by decide +kernel⟩, by decide⟩
theorem kg_K_kettle : kq_sg km_K_kettle 2 := ⟨⟨by decide, by decide, by decide +kernel⟩, by decide⟩
theorem kg_K_isKettleValue : kq_sg km_K_isKettleValue 2 := ⟨⟨by decide, by decide, by decide +kernel⟩, by decide⟩
theorem kg_K_witness : kq_sg km_K_witness 1 := ⟨⟨by decide, by decide, by decide +kernel⟩, by decide⟩
theorem kg_K_isKind : kq_sg km_K_isKind 1 := ⟨⟨by decide, by decide, by decide +kernel⟩, by decide⟩
theorem kg_H_callWitness : kq_sg km_H_callWitness 1 := ⟨⟨by decide, by decide, by decide +kernel⟩, by decide⟩
theorem kg_K_of : kq_sg km_K_of 2 := ⟨⟨by decide, by decide, by decide +kernel⟩, by decide⟩
theorem kg_K_isWitness : kq_sg km_K_isWitness 1 := ⟨⟨by decide, by decide, by decide +kernel⟩, by decide⟩
theorem kg_H_lieSet : kq_sg km_H_lieSet 1 := ⟨⟨by decide, by decide, by decide +kernel⟩, by decide⟩
theorem kg_H_luckySet : kq_sg km_H_luckySet 1 := ⟨⟨by decide, by decide, by decide +kernel⟩, by decide⟩
theorem kg_H_wrongSet : kq_sg km_H_wrongSet 1 := ⟨⟨by decide, by decide, by decide +kernel⟩, by decide⟩
theorem kg_H_doubtOf : kq_sg km_H_doubtOf 1 := ⟨⟨by decide, by decide, by decide +kernel⟩, by decide⟩
theorem kg_K_set : kq_sg km_K_set 3 := ⟨⟨by decide, by decide, by decide +kernel⟩, by decide⟩
theorem kg_K_turn : kq_sg km_K_turn 2 := ⟨⟨by decide, by decide, by decide +kernel⟩, by decide⟩
theorem kg_K_as : kq_sg km_K_as 2 := ⟨⟨by decide, by decide, by decide +kernel⟩, by decide⟩
theorem kg_K_isOfKind : kq_sg km_K_isOfKind 2 := ⟨⟨by decide, by decide, by decide +kernel⟩, by decide⟩
theorem kg_K_heats : kq_sg km_K_heats 2 := ⟨⟨by decide, by decide, by decide +kernel⟩, by decide⟩
theorem kg_K_isFact : kq_sg km_K_isFact 1 := ⟨⟨by decide, by decide, by decide +kernel⟩, by decide⟩
theorem kg_H_heatBy : kq_sg km_H_heatBy 2 := ⟨⟨by decide, by decide, by decide +kernel⟩, by decide⟩
theorem kg_H_plumberHeat : kq_sg km_H_plumberHeat 2 := ⟨⟨by decide, by decide, by decide +kernel⟩, by decide⟩
theorem kg_K_isIn : kq_sg km_K_isIn 2 := ⟨⟨by decide, by decide, by decide +kernel⟩, by decide⟩
theorem kg_H_witnessHeat : kq_sg km_H_witnessHeat 2 := ⟨⟨by decide, by decide, by decide +kernel⟩, by decide⟩
theorem kg_H_wifeHeat : kq_sg km_H_wifeHeat 2 := ⟨⟨by decide, by decide, by decide +kernel⟩, by decide⟩
theorem kg_H_anotherPlumberLies : kq_sg km_H_anotherPlumberLies 2 := ⟨⟨by decide, by decide, by decide +kernel⟩, by decide⟩
theorem kg_K_ask : kq_sg km_K_ask 2 := ⟨⟨by decide, by decide, by decide +kernel⟩, by decide⟩
theorem kg_H_hearAnswer : kq_sg km_H_hearAnswer 2 := ⟨⟨by decide, by decide, by decide +kernel⟩, by decide⟩
theorem kg_H_learnsBy : kq_sg km_H_learnsBy 3 := ⟨⟨by decide, by decide, by decide +kernel⟩, by decide⟩
theorem kg_K_swap : kq_sg km_K_swap 2 := ⟨⟨by decide, by decide, by decide +kernel⟩, by decide⟩
theorem kg_H_changeNumbers : kq_sg km_H_changeNumbers 2 := ⟨⟨by decide, by decide, by decide +kernel⟩, by decide⟩
theorem kg_H_exchange : kq_sg km_H_exchange 3 := ⟨⟨by decide, by decide, by decide +kernel⟩, by decide⟩
theorem kg_K_minutes : kq_sg km_K_minutes 1 := ⟨⟨by decide, by decide, by decide +kernel⟩, by decide⟩
theorem kg_H_teaAfter : kq_sg km_H_teaAfter 1 := ⟨⟨by decide, by decide, by decide +kernel⟩, by decide⟩
theorem kg_H_passMinute : kq_sg km_H_passMinute 0 := ⟨⟨by decide, by decide, by decide +kernel⟩, by decide⟩
theorem kg_H_whoseTurn : kq_sg km_H_whoseTurn 0 := ⟨⟨by decide, by decide, by decide +kernel⟩, by decide⟩
theorem kg_H_factAsked : kq_sg km_H_factAsked 0 := ⟨⟨by decide, by decide, by decide +kernel⟩, by decide⟩
theorem kg_K_now : kq_sg km_K_now 1 := ⟨⟨by decide, by decide, by decide +kernel⟩, by decide⟩
theorem kg_K_on : kq_sg km_K_on 2 := ⟨⟨by decide, by decide, by decide +kernel⟩, by decide⟩
theorem kg_H_become : kq_sg km_H_become 1 := ⟨⟨by decide, by decide, by decide +kernel⟩, by decide⟩
theorem kg_K_then : kq_sg km_K_then 3 := ⟨⟨by decide, by decide, by decide +kernel⟩, by decide⟩
theorem kg_K_boils : kq_sg km_K_boils 0 := ⟨⟨by decide, by decide, by decide +kernel⟩, by decide⟩
theorem kg_K_doubts : kq_sg km_K_doubts 1 := ⟨⟨by decide, by decide, by decide +kernel⟩, by decide⟩
theorem kg_K_worst : kq_sg km_K_worst 1 := ⟨⟨by decide, by decide, by decide +kernel⟩, by decide⟩
theorem kg_K_turns : kq_sg km_K_turns 1 := ⟨⟨by decide, by decide, by decide +kernel⟩, by decide⟩
theorem kg_K_sure : kq_sg km_K_sure 2 := ⟨⟨by decide, by decide, by decide +kernel⟩, by decide⟩
theorem kg_K_water : kq_sg km_K_water 2 := ⟨⟨by decide, by decide, by decide +kernel⟩, by decide⟩
theorem kg_K_kind : kq_sg km_K_kind 2 := ⟨⟨by decide, by decide, by decide +kernel⟩, by decide⟩
theorem kg_K_says : kq_sg km_K_says 2 := ⟨⟨by decide, by decide, by decide +kernel⟩, by decide⟩
theorem kg_K_fact : kq_sg km_K_fact 1 := ⟨⟨by decide, by decide, by decide +kernel⟩, by decide⟩
theorem kg_K_feed : kq_sg km_K_feed 2 := ⟨⟨by decide, by decide, by decide +kernel⟩, by decide⟩
theorem kg_C_append : kq_sg km_C_append 1 := ⟨⟨by decide, by decide, by decide +kernel⟩, by decide⟩
theorem kg_K_wipe : kq_sg km_K_wipe 0 := ⟨⟨by decide, by decide, by decide +kernel⟩, by decide⟩
theorem kg_K_inquest : kq_sg km_K_inquest 0 := ⟨⟨by decide, by decide, by decide +kernel⟩, by decide⟩
theorem kg_C_takeDown : kq_sg km_C_takeDown 1 := ⟨⟨by decide, by decide, by decide +kernel⟩, by decide⟩
theorem kg_C_nextToken : kq_sg km_C_nextToken 0 := ⟨⟨by decide, by decide, by decide +kernel⟩, by decide⟩
theorem kg_C_endOfRun : kq_sg km_C_endOfRun 2 := ⟨⟨by decide, by decide, by decide +kernel⟩, by decide⟩
theorem kg_C_numberThere : kq_sg km_C_numberThere 0 := ⟨⟨by decide, by decide, by decide +kernel⟩, by decide⟩
theorem kg_C_takeItem : kq_sg km_C_takeItem 1 := ⟨⟨by decide, by decide, by decide +kernel⟩, by decide⟩
theorem kg_C_kindNamed : kq_sg km_C_kindNamed 0 := ⟨⟨by decide, by decide, by decide +kernel⟩, by decide⟩
theorem kg_C_nameOf : kq_sg km_C_nameOf 1 := ⟨⟨by decide, by decide, by decide +kernel⟩, by decide⟩
theorem kg_C_isWord : kq_sg km_C_isWord 1 := ⟨⟨by decide, by decide, by decide +kernel⟩, by decide⟩
theorem kg_jS_length : kq_sg km_jS_length 0 := ⟨⟨by decide, by decide, by decide +kernel⟩, by decide⟩
theorem kg_jS_coder : kq_sg km_jS_coder 0 := ⟨⟨by decide, by decide, by decide +kernel⟩, by decide⟩
theorem kg_jS_charAt : kq_sg km_jS_charAt 1 := ⟨⟨by decide, by decide, by decide +kernel⟩, by decide⟩
theorem kg_jS_isLatin1 : kq_sg km_jS_isLatin1 0 := ⟨⟨by decide, by decide, by decide +kernel⟩, by decide⟩
theorem kg_jL_charAt : kq_sg km_jL_charAt 2 := ⟨⟨by decide, by decide, by decide +kernel⟩, by decide⟩
theorem kg_jS_checkIndex : kq_sg km_jS_checkIndex 2 := ⟨⟨by decide, by decide, by decide +kernel⟩, by decide⟩
theorem kg_jP_checkIndex : kq_sg km_jP_checkIndex 3 := ⟨⟨by decide, by decide, by decide +kernel⟩, by decide⟩
theorem kg_C_takeWitness : kq_sg km_C_takeWitness 2 := ⟨⟨by decide, by decide, by decide +kernel⟩, by decide⟩
theorem kg_C_isNumberUpTo : kq_sg km_C_isNumberUpTo 1 := ⟨⟨by decide, by decide, by decide +kernel⟩, by decide⟩
theorem kg_C_takeFacts : kq_sg km_C_takeFacts 0 := ⟨⟨by decide, by decide, by decide +kernel⟩, by decide⟩
theorem kg_C_takeTruth : kq_sg km_C_takeTruth 2 := ⟨⟨by decide, by decide, by decide +kernel⟩, by decide⟩
theorem kg_C_takeWater : kq_sg km_C_takeWater 1 := ⟨⟨by decide, by decide, by decide +kernel⟩, by decide⟩
theorem kg_K_sheet : kq_sg km_K_sheet 3 := ⟨⟨by decide, by decide, by decide +kernel⟩, by decide⟩
theorem kg_K_isSheet : kq_sg km_K_isSheet 1 := ⟨⟨by decide, by decide, by decide +kernel⟩, by decide⟩
theorem kg_S_layOut : kq_sg km_S_layOut 2 := ⟨⟨by decide, by decide, by decide +kernel⟩, by decide⟩
theorem kg_K_write : kq_sg km_K_write 3 := ⟨⟨by decide, by decide, by decide +kernel⟩, by decide⟩
theorem kg_S_isMissing : kq_sg km_S_isMissing 0 := ⟨⟨by decide, by decide, by decide +kernel⟩, by decide⟩
theorem kg_S_lowestBits : kq_sg km_S_lowestBits 1 := ⟨⟨by decide, by decide, by decide +kernel⟩, by decide⟩
theorem kg_K_copy : kq_sg km_K_copy 5 := ⟨⟨by decide, by decide, by decide +kernel⟩, by decide⟩
theorem kg_S_hasStretch : kq_sg km_S_hasStretch 2 := ⟨⟨by decide, by decide, by decide +kernel⟩, by decide⟩
theorem kg_K_lays : kq_sg km_K_lays 1 := ⟨⟨by decide, by decide, by decide +kernel⟩, by decide⟩
theorem kg_K_book : kq_sg km_K_book 1 := ⟨⟨by decide, by decide, by decide +kernel⟩, by decide⟩
theorem kg_K_read : kq_sg km_K_read 2 := ⟨⟨by decide, by decide, by decide +kernel⟩, by decide⟩
theorem kg_H_goesBy : kq_sg km_H_goesBy 1 := ⟨⟨by decide, by decide, by decide +kernel⟩, by decide⟩
theorem kg_K_image : kq_sg km_K_image 0 := ⟨⟨by decide, by decide, by decide +kernel⟩, by decide⟩
theorem kg_K_undo : kq_sg km_K_undo 0 := ⟨⟨by decide, by decide, by decide +kernel⟩, by decide⟩
theorem kg_K_tear : kq_sg km_K_tear 0 := ⟨⟨by decide, by decide, by decide +kernel⟩, by decide⟩
theorem kg_K_count : kq_sg km_K_count 1 := ⟨⟨by decide, by decide, by decide +kernel⟩, by decide⟩
theorem kg_H_allLies : kq_sg km_H_allLies 0 := ⟨⟨by decide, by decide, by decide +kernel⟩, by decide⟩
theorem kg_jI_bitCount : kq_sg km_jI_bitCount 1 := ⟨⟨by decide, by decide, by decide +kernel⟩, by decide⟩
theorem kg_H_allSure : kq_sg km_H_allSure 0 := ⟨⟨by decide, by decide, by decide +kernel⟩, by decide⟩
theorem kg_K_status : kq_sg km_K_status 1 := ⟨⟨by decide, by decide, by decide +kernel⟩, by decide⟩
theorem kg_M_truth : kq_sg km_M_truth 1 := ⟨⟨by decide, by decide, by decide +kernel⟩, by decide⟩
theorem kg_M_in : kq_sg km_M_in 3 := ⟨⟨by decide, by decide, by decide +kernel⟩, by decide⟩
theorem kg_M_becomes : kq_sg km_M_becomes 2 := ⟨⟨by decide, by decide, by decide +kernel⟩, by decide⟩
theorem kg_M_finds : kq_sg km_M_finds 1 := ⟨⟨by decide, by decide, by decide +kernel⟩, by decide⟩
theorem kg_M_kettle : kq_sg km_M_kettle 2 := ⟨⟨by decide, by decide, by decide +kernel⟩, by decide⟩
theorem kg_M_witness : kq_sg km_M_witness 1 := ⟨⟨by decide, by decide, by decide +kernel⟩, by decide⟩
theorem kg_M_isKind : kq_sg km_M_isKind 1 := ⟨⟨by decide, by decide, by decide +kernel⟩, by decide⟩
theorem kg_M_adds : kq_sg km_M_adds 4 := ⟨⟨by decide, by decide, by decide +kernel⟩, by decide⟩
theorem kg_M_puts : kq_sg km_M_puts 3 := ⟨⟨by decide, by decide, by decide +kernel⟩, by decide⟩
theorem kg_M_of : kq_sg km_M_of 2 := ⟨⟨by decide, by decide, by decide +kernel⟩, by decide⟩
theorem kg_M_isOne : kq_sg km_M_isOne 1 := ⟨⟨by decide, by decide, by decide +kernel⟩, by decide⟩
theorem kg_M_lies : kq_sg km_M_lies 1 := ⟨⟨by decide, by decide, by decide +kernel⟩, by decide⟩
theorem kg_M_its : kq_sg km_M_its 2 := ⟨⟨by decide, by decide, by decide +kernel⟩, by decide⟩
theorem kg_M_right : kq_sg km_M_right 1 := ⟨⟨by decide, by decide, by decide +kernel⟩, by decide⟩
theorem kg_M_lucky : kq_sg km_M_lucky 1 := ⟨⟨by decide, by decide, by decide +kernel⟩, by decide⟩
theorem kg_M_wrong : kq_sg km_M_wrong 1 := ⟨⟨by decide, by decide, by decide +kernel⟩, by decide⟩
theorem kg_M_doubting : kq_sg km_M_doubting 1 := ⟨⟨by decide, by decide, by decide +kernel⟩, by decide⟩
theorem kg_M_set : kq_sg km_M_set 3 := ⟨⟨by decide, by decide, by decide +kernel⟩, by decide⟩
theorem kg_M_turn : kq_sg km_M_turn 2 := ⟨⟨by decide, by decide, by decide +kernel⟩, by decide⟩
theorem kg_M_as : kq_sg km_M_as 2 := ⟨⟨by decide, by decide, by decide +kernel⟩, by decide⟩
theorem kg_M_heats : kq_sg km_M_heats 2 := ⟨⟨by decide, by decide, by decide +kernel⟩, by decide⟩
theorem kg_M_isFact : kq_sg km_M_isFact 1 := ⟨⟨by decide, by decide, by decide +kernel⟩, by decide⟩
theorem kg_M_heating : kq_sg km_M_heating 2 := ⟨⟨by decide, by decide, by decide +kernel⟩, by decide⟩
theorem kg_M_besideLiar : kq_sg km_M_besideLiar 2 := ⟨⟨by decide, by decide, by decide +kernel⟩, by decide⟩
theorem kg_M_isPlumber : kq_sg km_M_isPlumber 1 := ⟨⟨by decide, by decide, by decide +kernel⟩, by decide⟩
theorem kg_M_ask : kq_sg km_M_ask 2 := ⟨⟨by decide, by decide, by decide +kernel⟩, by decide⟩
theorem kg_M_answers : kq_sg km_M_answers 2 := ⟨⟨by decide, by decide, by decide +kernel⟩, by decide⟩
theorem kg_M_held : kq_sg km_M_held 3 := ⟨⟨by decide, by decide, by decide +kernel⟩, by decide⟩
theorem kg_M_swap : kq_sg km_M_swap 2 := ⟨⟨by decide, by decide, by decide +kernel⟩, by decide⟩
theorem kg_M_swaps : kq_sg km_M_swaps 2 := ⟨⟨by decide, by decide, by decide +kernel⟩, by decide⟩
theorem kg_M_minutes : kq_sg km_M_minutes 1 := ⟨⟨by decide, by decide, by decide +kernel⟩, by decide⟩
theorem kg_M_passes : kq_sg km_M_passes 1 := ⟨⟨by decide, by decide, by decide +kernel⟩, by decide⟩
theorem kg_M_oneMinute : kq_sg km_M_oneMinute 0 := ⟨⟨by decide, by decide, by decide +kernel⟩, by decide⟩
theorem kg_M_whose : kq_sg km_M_whose 0 := ⟨⟨by decide, by decide, by decide +kernel⟩, by decide⟩
theorem kg_M_asked : kq_sg km_M_asked 0 := ⟨⟨by decide, by decide, by decide +kernel⟩, by decide⟩
theorem kg_M_now : kq_sg km_M_now 1 := ⟨⟨by decide, by decide, by decide +kernel⟩, by decide⟩
theorem kg_M_on : kq_sg km_M_on 2 := ⟨⟨by decide, by decide, by decide +kernel⟩, by decide⟩
theorem kg_M_moveAll : kq_sg km_M_moveAll 2 := ⟨⟨by decide, by decide, by decide +kernel⟩, by decide⟩
theorem kg_M_then : kq_sg km_M_then 3 := ⟨⟨by decide, by decide, by decide +kernel⟩, by decide⟩
theorem kg_M_boils : kq_sg km_M_boils 0 := ⟨⟨by decide, by decide, by decide +kernel⟩, by decide⟩
theorem kg_M_doubts : kq_sg km_M_doubts 1 := ⟨⟨by decide, by decide, by decide +kernel⟩, by decide⟩
theorem kg_M_worst : kq_sg km_M_worst 1 := ⟨⟨by decide, by decide, by decide +kernel⟩, by decide⟩
theorem kg_M_turns : kq_sg km_M_turns 1 := ⟨⟨by decide, by decide, by decide +kernel⟩, by decide⟩
theorem kg_M_teaBehind : kq_sg km_M_teaBehind 1 := ⟨⟨by decide, by decide, by decide +kernel⟩, by decide⟩
theorem kg_M_sure : kq_sg km_M_sure 2 := ⟨⟨by decide, by decide, by decide +kernel⟩, by decide⟩
theorem kg_M_water : kq_sg km_M_water 2 := ⟨⟨by decide, by decide, by decide +kernel⟩, by decide⟩
theorem kg_M_kind : kq_sg km_M_kind 2 := ⟨⟨by decide, by decide, by decide +kernel⟩, by decide⟩
theorem kg_M_says : kq_sg km_M_says 2 := ⟨⟨by decide, by decide, by decide +kernel⟩, by decide⟩
theorem kg_M_fact : kq_sg km_M_fact 1 := ⟨⟨by decide, by decide, by decide +kernel⟩, by decide⟩
theorem kg_M_feed : kq_sg km_M_feed 2 := ⟨⟨by decide, by decide, by decide +kernel⟩, by decide⟩
theorem kg_M_wipe : kq_sg km_M_wipe 0 := ⟨⟨by decide, by decide, by decide +kernel⟩, by decide⟩
theorem kg_M_inquest : kq_sg km_M_inquest 0 := ⟨⟨by decide, by decide, by decide +kernel⟩, by decide⟩
theorem kg_M_advance : kq_sg km_M_advance 0 := ⟨⟨by decide, by decide, by decide +kernel⟩, by decide⟩
theorem kg_M_byteAt : kq_sg km_M_byteAt 1 := ⟨⟨by decide, by decide, by decide +kernel⟩, by decide⟩
theorem kg_M_isLetter : kq_sg km_M_isLetter 1 := ⟨⟨by decide, by decide, by decide +kernel⟩, by decide⟩
theorem kg_M_isDigit : kq_sg km_M_isDigit 1 := ⟨⟨by decide, by decide, by decide +kernel⟩, by decide⟩
theorem kg_M_wantItem : kq_sg km_M_wantItem 0 := ⟨⟨by decide, by decide, by decide +kernel⟩, by decide⟩
theorem kg_M_kindHere : kq_sg km_M_kindHere 0 := ⟨⟨by decide, by decide, by decide +kernel⟩, by decide⟩
theorem kg_M_isWord : kq_sg km_M_isWord 1 := ⟨⟨by decide, by decide, by decide +kernel⟩, by decide⟩
theorem kg_M_wantOne : kq_sg km_M_wantOne 1 := ⟨⟨by decide, by decide, by decide +kernel⟩, by decide⟩
theorem kg_M_mayWant : kq_sg km_M_mayWant 4 := ⟨⟨by decide, by decide, by decide +kernel⟩, by decide⟩
theorem kg_M_wantNumber : kq_sg km_M_wantNumber 2 := ⟨⟨by decide, by decide, by decide +kernel⟩, by decide⟩
theorem kg_M_mayFacts : kq_sg km_M_mayFacts 1 := ⟨⟨by decide, by decide, by decide +kernel⟩, by decide⟩
theorem kg_M_wantTruth : kq_sg km_M_wantTruth 1 := ⟨⟨by decide, by decide, by decide +kernel⟩, by decide⟩
theorem kg_M_sheet : kq_sg km_M_sheet 3 := ⟨⟨by decide, by decide, by decide +kernel⟩, by decide⟩
theorem kg_M_isSheet : kq_sg km_M_isSheet 1 := ⟨⟨by decide, by decide, by decide +kernel⟩, by decide⟩
theorem kg_M_write : kq_sg km_M_write 3 := ⟨⟨by decide, by decide, by decide +kernel⟩, by decide⟩
theorem kg_M_narrow : kq_sg km_M_narrow 2 := ⟨⟨by decide, by decide, by decide +kernel⟩, by decide⟩
theorem kg_M_copy : kq_sg km_M_copy 5 := ⟨⟨by decide, by decide, by decide +kernel⟩, by decide⟩
theorem kg_M_isPart : kq_sg km_M_isPart 3 := ⟨⟨by decide, by decide, by decide +kernel⟩, by decide⟩
theorem kg_M_lays : kq_sg km_M_lays 1 := ⟨⟨by decide, by decide, by decide +kernel⟩, by decide⟩
theorem kg_M_badSheet : kq_sg km_M_badSheet 1 := ⟨⟨by decide, by decide, by decide +kernel⟩, by decide⟩
theorem kg_M_book : kq_sg km_M_book 1 := ⟨⟨by decide, by decide, by decide +kernel⟩, by decide⟩
theorem kg_M_read : kq_sg km_M_read 2 := ⟨⟨by decide, by decide, by decide +kernel⟩, by decide⟩
theorem kg_M_isSo : kq_sg km_M_isSo 1 := ⟨⟨by decide, by decide, by decide +kernel⟩, by decide⟩
theorem kg_M_image : kq_sg km_M_image 0 := ⟨⟨by decide, by decide, by decide +kernel⟩, by decide⟩
theorem kg_M_undo : kq_sg km_M_undo 0 := ⟨⟨by decide, by decide, by decide +kernel⟩, by decide⟩
theorem kg_M_tear : kq_sg km_M_tear 0 := ⟨⟨by decide, by decide, by decide +kernel⟩, by decide⟩
theorem kg_M_count : kq_sg km_M_count 1 := ⟨⟨by decide, by decide, by decide +kernel⟩, by decide⟩
theorem kg_M_liesOfAll : kq_sg km_M_liesOfAll 0 := ⟨⟨by decide, by decide, by decide +kernel⟩, by decide⟩
theorem kg_M_bits : kq_sg km_M_bits 1 := ⟨⟨by decide, by decide, by decide +kernel⟩, by decide⟩
theorem kg_M_sureOfAll : kq_sg km_M_sureOfAll 0 := ⟨⟨by decide, by decide, by decide +kernel⟩, by decide⟩
theorem kg_M_status : kq_sg km_M_status 1 := ⟨⟨by decide, by decide, by decide +kernel⟩, by decide⟩
def kq_nj (o : Option kq_V) : Bool := match o with
  | some (.inr (.inl _)) => false
  | _ => true
theorem kq_nl_of {ls : List (Option kq_V)} {j : Nat} {o : Option kq_V} (h : ls[j]? = some o) (hn : kq_nj o = true) : kq_nl ls (j + 1) = true := by
  unfold kq_nl
  simp only [h]
  unfold kq_nj at hn
  split at hn
  · cases hn
  · next h2 =>
    rcases o with _ | x | x | q
    · rfl
    · rfl
    · exact absurd rfl (h2 x)
    · rfl
theorem kq_b01 {v : Int32} (h : v = 0 ∨ v = 1) : narrow .boolean (.int v) = .int v ∧ fits .boolean (.int v) = true := by
  rcases h with rfl | rfl <;> decide
def km_law : kq_D := (x, code, maxLocals, ret)
