theorem tw_1 : Cond.initialized RX7 ∈ TB := TB_in 51 (by decide +kernel) rfl
theorem tw_2 : Cond.initialized RX5 ∈ TB := TB_in 52 (by decide +kernel) rfl
theorem tw_3 : Cond.initialized RX1 ∈ TB := TB_in 53 (by decide +kernel) rfl
theorem tw_4 : Cond.initialized RJ9 ∈ TB := TB_in 54 (by decide +kernel) rfl
theorem tw_5 : Cond.initialized RX3 ∈ TB := TB_in 55 (by decide +kernel) rfl
theorem tw_6 : Cond.initialized RX2 ∈ TB := TB_in 56 (by decide +kernel) rfl
theorem tw_7 : Cond.initialized RX4 ∈ TB := TB_in 57 (by decide +kernel) rfl
theorem tw_8 : Cond.initialized RX0 ∈ TB := TB_in 58 (by decide +kernel) rfl
theorem tw_9 : Cond.initialized RX6 ∈ TB := TB_in 59 (by decide +kernel) rfl
theorem tw_10 : Cond.initialized RX8 ∈ TB := TB_in 60 (by decide +kernel) rfl
theorem tw_11 : Cond.initialized RJ0 ∈ TB := TB_in 61 (by decide +kernel) rfl
theorem tw_12 : Cond.initialized RJ1 ∈ TB := TB_in 62 (by decide +kernel) rfl
theorem tw_13 : Cond.initialized RJ3 ∈ TB := TB_in 63 (by decide +kernel) rfl
theorem tw_15 : Cond.initialized RJ10 ∈ TB := TB_in 65 (by decide +kernel) rfl
theorem tw_16 : Cond.initialized RJ6 ∈ TB := TB_in 66 (by decide +kernel) rfl
theorem tw_40 : Cond.fieldLink RX1 (24 : Nat) RX1 "most" "I" ∈ TB := TB_in 90 (by decide +kernel) rfl
theorem tw_41 : Cond.fieldLink RX1 (9 : Nat) RX1 "firsts" "[I" ∈ TB := TB_in 91 (by decide +kernel) rfl
theorem tw_42 : Cond.fieldLink RX4 (90 : Nat) RX1 "firsts" "[I" ∈ TB := TB_in 92 (by decide +kernel) rfl
theorem tw_43 : Cond.fieldLink RX7 (224 : Nat) RX1 "firsts" "[I" ∈ TB := TB_in 93 (by decide +kernel) rfl
theorem tw_44 : Cond.fieldLink RX1 (15 : Nat) RX1 "seconds" "[I" ∈ TB := TB_in 94 (by decide +kernel) rfl
theorem tw_45 : Cond.fieldLink RX4 (96 : Nat) RX1 "seconds" "[I" ∈ TB := TB_in 95 (by decide +kernel) rfl
theorem tw_46 : Cond.fieldLink RX7 (227 : Nat) RX1 "seconds" "[I" ∈ TB := TB_in 96 (by decide +kernel) rfl
theorem tw_47 : Cond.fieldLink RX1 (28 : Nat) RX1 "size" "I" ∈ TB := TB_in 97 (by decide +kernel) rfl
theorem tw_48 : Cond.fieldLink RX4 (87 : Nat) RX1 "size" "I" ∈ TB := TB_in 98 (by decide +kernel) rfl
theorem tw_49 : Cond.fieldLink RX7 (223 : Nat) RX1 "size" "I" ∈ TB := TB_in 99 (by decide +kernel) rfl
theorem tw_60 : Cond.fieldLink RX5 (52 : Nat) RX5 "size" "I" ∈ TB := TB_in 110 (by decide +kernel) rfl
theorem tw_61 : Cond.fieldLink RX4 (33 : Nat) RX5 "size" "I" ∈ TB := TB_in 111 (by decide +kernel) rfl
theorem tw_62 : Cond.fieldLink RX7 (69 : Nat) RX5 "size" "I" ∈ TB := TB_in 112 (by decide +kernel) rfl
theorem tw_63 : Cond.fieldLink RX5 (9 : Nat) RX5 "kinds" "[I" ∈ TB := TB_in 113 (by decide +kernel) rfl
theorem tw_64 : Cond.fieldLink RX4 (36 : Nat) RX5 "kinds" "[I" ∈ TB := TB_in 114 (by decide +kernel) rfl
theorem tw_65 : Cond.fieldLink RX0 (34 : Nat) RX5 "kinds" "[I" ∈ TB := TB_in 115 (by decide +kernel) rfl
theorem tw_66 : Cond.fieldLink RX7 (81 : Nat) RX5 "kinds" "[I" ∈ TB := TB_in 116 (by decide +kernel) rfl
theorem tw_67 : Cond.fieldLink RX5 (15 : Nat) RX5 "vs" "[I" ∈ TB := TB_in 117 (by decide +kernel) rfl
theorem tw_68 : Cond.fieldLink RX4 (43 : Nat) RX5 "vs" "[I" ∈ TB := TB_in 118 (by decide +kernel) rfl
theorem tw_69 : Cond.fieldLink RX0 (22 : Nat) RX5 "vs" "[I" ∈ TB := TB_in 119 (by decide +kernel) rfl
theorem tw_70 : Cond.fieldLink RX7 (89 : Nat) RX5 "vs" "[I" ∈ TB := TB_in 120 (by decide +kernel) rfl
theorem tw_71 : Cond.fieldLink RX5 (18 : Nat) RX5 "loves" "[I" ∈ TB := TB_in 121 (by decide +kernel) rfl
theorem tw_72 : Cond.fieldLink RX4 (46 : Nat) RX5 "loves" "[I" ∈ TB := TB_in 122 (by decide +kernel) rfl
theorem tw_73 : Cond.fieldLink RX7 (92 : Nat) RX5 "loves" "[I" ∈ TB := TB_in 123 (by decide +kernel) rfl
theorem tw_74 : Cond.fieldLink RX5 (21 : Nat) RX5 "yards" "[I" ∈ TB := TB_in 124 (by decide +kernel) rfl
theorem tw_75 : Cond.fieldLink RX7 (95 : Nat) RX5 "yards" "[I" ∈ TB := TB_in 125 (by decide +kernel) rfl
theorem tw_76 : Cond.fieldLink RX4 (60 : Nat) RX5 "yards" "[I" ∈ TB := TB_in 126 (by decide +kernel) rfl
theorem tw_77 : Cond.fieldLink RX5 (24 : Nat) RX5 "paid" "[I" ∈ TB := TB_in 127 (by decide +kernel) rfl
theorem tw_78 : Cond.fieldLink RX7 (101 : Nat) RX5 "paid" "[I" ∈ TB := TB_in 128 (by decide +kernel) rfl
theorem tw_79 : Cond.fieldLink RX4 (111 : Nat) RX5 "paid" "[I" ∈ TB := TB_in 129 (by decide +kernel) rfl
theorem tw_80 : Cond.fieldLink RX5 (27 : Nat) RX5 "rows" "[I" ∈ TB := TB_in 130 (by decide +kernel) rfl
theorem tw_81 : Cond.fieldLink RX4 (57 : Nat) RX5 "rows" "[I" ∈ TB := TB_in 131 (by decide +kernel) rfl
theorem tw_82 : Cond.fieldLink RX7 (145 : Nat) RX5 "rows" "[I" ∈ TB := TB_in 132 (by decide +kernel) rfl
theorem tw_83 : Cond.fieldLink RX5 (55 : Nat) RX5 "away" "I" ∈ TB := TB_in 133 (by decide +kernel) rfl
theorem tw_84 : Cond.fieldLink RX7 (119 : Nat) RX5 "away" "I" ∈ TB := TB_in 134 (by decide +kernel) rfl
theorem tw_85 : Cond.fieldLink RX4 (73 : Nat) RX5 "away" "I" ∈ TB := TB_in 135 (by decide +kernel) rfl
theorem tw_86 : Cond.fieldLink RX5 (30 : Nat) RX5 "debt" "I" ∈ TB := TB_in 136 (by decide +kernel) rfl
theorem tw_87 : Cond.fieldLink RX7 (116 : Nat) RX5 "debt" "I" ∈ TB := TB_in 137 (by decide +kernel) rfl
theorem tw_88 : Cond.fieldLink RX4 (76 : Nat) RX5 "debt" "I" ∈ TB := TB_in 138 (by decide +kernel) rfl
theorem tw_89 : Cond.fieldLink RX4 (23 : Nat) RX5 "day" "I" ∈ TB := TB_in 139 (by decide +kernel) rfl
theorem tw_90 : Cond.fieldLink RX5 (66 : Nat) RX5 "day" "I" ∈ TB := TB_in 140 (by decide +kernel) rfl
theorem tw_91 : Cond.fieldLink RX7 (169 : Nat) RX5 "day" "I" ∈ TB := TB_in 141 (by decide +kernel) rfl
theorem tw_92 : Cond.fieldLink RX5 (34 : Nat) RX5 "holds" "I" ∈ TB := TB_in 142 (by decide +kernel) rfl
theorem tw_93 : Cond.fieldLink RX7 (166 : Nat) RX5 "holds" "I" ∈ TB := TB_in 143 (by decide +kernel) rfl
theorem tw_94 : Cond.fieldLink RX5 (42 : Nat) RX5 "seen" "LFuneralDebts$Pairs;" ∈ TB := TB_in 144 (by decide +kernel) rfl
theorem tw_95 : Cond.fieldLink RX4 (83 : Nat) RX5 "seen" "LFuneralDebts$Pairs;" ∈ TB := TB_in 145 (by decide +kernel) rfl
theorem tw_96 : Cond.fieldLink RX7 (199 : Nat) RX5 "seen" "LFuneralDebts$Pairs;" ∈ TB := TB_in 146 (by decide +kernel) rfl
theorem tw_97 : Cond.fieldLink RX5 (46 : Nat) RX5 "plan" "LFuneralDebts$Pairs;" ∈ TB := TB_in 147 (by decide +kernel) rfl
theorem tw_98 : Cond.fieldLink RX7 (220 : Nat) RX5 "plan" "LFuneralDebts$Pairs;" ∈ TB := TB_in 148 (by decide +kernel) rfl
theorem tw_99 : Cond.fieldLink RX5 (49 : Nat) RX5 "book" "LFuneralDebts$Pairs;" ∈ TB := TB_in 149 (by decide +kernel) rfl
theorem tw_100 : Cond.fieldLink RX7 (234 : Nat) RX5 "book" "LFuneralDebts$Pairs;" ∈ TB := TB_in 150 (by decide +kernel) rfl
theorem tw_142 : Cond.fieldLink RX2 (11 : Nat) RX2 "fall" "I" ∈ TB := TB_in 192 (by decide +kernel) rfl
theorem tw_143 : Cond.fieldLink RX3 (58 : Nat) RX2 "fall" "I" ∈ TB := TB_in 193 (by decide +kernel) rfl
theorem tw_144 : Cond.fieldLink RX7 (172 : Nat) RX2 "fall" "I" ∈ TB := TB_in 194 (by decide +kernel) rfl
theorem tw_145 : Cond.fieldLink RX2 (31 : Nat) RX2 "clauses" "I" ∈ TB := TB_in 195 (by decide +kernel) rfl
theorem tw_146 : Cond.fieldLink RX2 (15 : Nat) RX2 "adds" "[I" ∈ TB := TB_in 196 (by decide +kernel) rfl
theorem tw_147 : Cond.fieldLink RX2 (19 : Nat) RX2 "ends" "[I" ∈ TB := TB_in 197 (by decide +kernel) rfl
theorem tw_148 : Cond.fieldLink RX2 (34 : Nat) RX2 "steps" "I" ∈ TB := TB_in 198 (by decide +kernel) rfl
theorem tw_149 : Cond.fieldLink RX2 (22 : Nat) RX2 "whats" "[I" ∈ TB := TB_in 199 (by decide +kernel) rfl
theorem tw_150 : Cond.fieldLink RX2 (25 : Nat) RX2 "signs" "[I" ∈ TB := TB_in 200 (by decide +kernel) rfl
theorem tw_151 : Cond.fieldLink RX2 (28 : Nat) RX2 "numbers" "[I" ∈ TB := TB_in 201 (by decide +kernel) rfl
theorem tw_170 : Cond.fieldLink RX3 (9 : Nat) RX3 "text" "[B" ∈ TB := TB_in 220 (by decide +kernel) rfl
theorem tw_171 : Cond.fieldLink RX3 (26 : Nat) RX3 "size" "I" ∈ TB := TB_in 221 (by decide +kernel) rfl
theorem tw_172 : Cond.fieldLink RX7 (279 : Nat) RX3 "size" "I" ∈ TB := TB_in 222 (by decide +kernel) rfl
theorem tw_173 : Cond.fieldLink RX3 (32 : Nat) RX3 "place" "I" ∈ TB := TB_in 223 (by decide +kernel) rfl
theorem tw_174 : Cond.fieldLink RX7 (163 : Nat) RX3 "place" "I" ∈ TB := TB_in 224 (by decide +kernel) rfl
theorem tw_175 : Cond.fieldLink RX3 (15 : Nat) RX3 "sign" "I" ∈ TB := TB_in 225 (by decide +kernel) rfl
theorem tw_176 : Cond.fieldLink RX3 (55 : Nat) RX3 "number" "I" ∈ TB := TB_in 226 (by decide +kernel) rfl
theorem tw_177 : Cond.fieldLink RX3 (22 : Nat) RX3 "into" "LFuneralDebts$Parish;" ∈ TB := TB_in 227 (by decide +kernel) rfl
theorem tw_200 : Cond.fieldLink RX4 (9 : Nat) RX4 "rates" "[I" ∈ TB := TB_in 250 (by decide +kernel) rfl
theorem tw_201 : Cond.fieldLink RX4 (17 : Nat) RX4 "facts" "[I" ∈ TB := TB_in 251 (by decide +kernel) rfl
theorem tw_202 : Cond.fieldLink RX4 (20 : Nat) RX4 "counted" "[I" ∈ TB := TB_in 252 (by decide +kernel) rfl
theorem tw_216 : Cond.fieldLink RX0 (19 : Nat) RX0 "number" "I" ∈ TB := TB_in 266 (by decide +kernel) rfl
theorem tw_217 : Cond.fieldLink RX0 (31 : Nat) RX0 "v" "I" ∈ TB := TB_in 267 (by decide +kernel) rfl
theorem tw_218 : Cond.fieldLink RX0 (37 : Nat) RX0 "kind" "I" ∈ TB := TB_in 268 (by decide +kernel) rfl
theorem tw_219 : Cond.fieldLink RX0 (15 : Nat) RX0 "ran" "I" ∈ TB := TB_in 269 (by decide +kernel) rfl
theorem tw_220 : Cond.fieldLink RX7 (265 : Nat) RX0 "ran" "I" ∈ TB := TB_in 270 (by decide +kernel) rfl
theorem tw_221 : Cond.fieldLink RX0 (9 : Nat) RX0 "bodies" "[I" ∈ TB := TB_in 271 (by decide +kernel) rfl
theorem tw_222 : Cond.fieldLink RX7 (268 : Nat) RX0 "bodies" "[I" ∈ TB := TB_in 272 (by decide +kernel) rfl
theorem tw_241 : Cond.fieldLink RX6 (11 : Nat) RX6 "sort" "I" ∈ TB := TB_in 291 (by decide +kernel) rfl
theorem tw_242 : Cond.fieldLink RX7 (245 : Nat) RX6 "sort" "I" ∈ TB := TB_in 292 (by decide +kernel) rfl
theorem tw_243 : Cond.fieldLink RX6 (25 : Nat) RX6 "length" "I" ∈ TB := TB_in 293 (by decide +kernel) rfl
theorem tw_244 : Cond.fieldLink RX7 (248 : Nat) RX6 "length" "I" ∈ TB := TB_in 294 (by decide +kernel) rfl
theorem tw_245 : Cond.fieldLink RX6 (15 : Nat) RX6 "items" "[J" ∈ TB := TB_in 295 (by decide +kernel) rfl
theorem tw_246 : Cond.fieldLink RX7 (290 : Nat) RX6 "items" "[J" ∈ TB := TB_in 296 (by decide +kernel) rfl
theorem tw_255 : Cond.fieldLink RX7 (14 : Nat) RX7 "now" "LFuneralDebts$Scene;" ∈ TB := TB_in 305 (by decide +kernel) rfl
theorem tw_256 : Cond.fieldLink RX7 (20 : Nat) RX7 "later" "LFuneralDebts$Scene;" ∈ TB := TB_in 306 (by decide +kernel) rfl
theorem tw_257 : Cond.fieldLink RX7 (23 : Nat) RX7 "image" "LFuneralDebts$Scene;" ∈ TB := TB_in 307 (by decide +kernel) rfl
theorem tw_258 : Cond.fieldLink RX7 (255 : Nat) RX7 "imageTaken" "Z" ∈ TB := TB_in 308 (by decide +kernel) rfl
theorem tw_259 : Cond.fieldLink RX7 (29 : Nat) RX7 "reader" "LFuneralDebts$Reader;" ∈ TB := TB_in 309 (by decide +kernel) rfl
theorem tw_260 : Cond.fieldLink RX7 (35 : Nat) RX7 "parishes" "[LFuneralDebts$Parish;" ∈ TB := TB_in 310 (by decide +kernel) rfl
theorem tw_261 : Cond.fieldLink RX7 (152 : Nat) RX7 "parishCount" "I" ∈ TB := TB_in 311 (by decide +kernel) rfl
theorem tw_262 : Cond.fieldLink RX7 (40 : Nat) RX7 "noParish" "LFuneralDebts$Parish;" ∈ TB := TB_in 312 (by decide +kernel) rfl
theorem tw_263 : Cond.fieldLink RX7 (47 : Nat) RX7 "reckoner" "LFuneralDebts$Reckoner;" ∈ TB := TB_in 313 (by decide +kernel) rfl
theorem tw_264 : Cond.fieldLink RX7 (54 : Nat) RX7 "actor" "LFuneralDebts$Actor;" ∈ TB := TB_in 314 (by decide +kernel) rfl
theorem tw_265 : Cond.fieldLink RX7 (60 : Nat) RX7 "tapes" "[LFuneralDebts$Tape;" ∈ TB := TB_in 315 (by decide +kernel) rfl
theorem tw_293 : Cond.methodLink RX7 (65 : Nat) yX7_within ∈ TB := TB_in 343 (by decide +kernel) rfl
theorem tw_294 : Cond.static yX7_within ∈ TB := TB_in 344 (by decide +kernel) rfl
theorem tw_295 : Cond.code yX7_within cX7_within (2 : Nat) (Option.some Jvm.ClassFile.FieldType.boolean) ∈ TB := TB_in 345 (by decide +kernel) rfl
theorem tw_296 : Cond.methodLink RX7 (73 : Nat) yX5_add ∈ TB := TB_in 346 (by decide +kernel) rfl
theorem tw_297 : Cond.instanceMethod yX5_add ∈ TB := TB_in 347 (by decide +kernel) rfl
theorem tw_298 : Cond.selects RX5 yX5_add yX5_add ∈ TB := TB_in 348 (by decide +kernel) rfl
theorem tw_299 : Cond.code yX5_add cX5_add (6 : Nat) (Option.some Jvm.ClassFile.FieldType.int) ∈ TB := TB_in 349 (by decide +kernel) rfl
theorem tw_301 : Cond.static yX7_put ∈ TB := TB_in 351 (by decide +kernel) rfl
theorem tw_302 : Cond.code yX7_put cX7_put (3 : Nat) (Option.none : Option Jvm.ClassFile.FieldType) ∈ TB := TB_in 352 (by decide +kernel) rfl
theorem tw_307 : Cond.methodLink RX7 (77 : Nat) yX5_has ∈ TB := TB_in 357 (by decide +kernel) rfl
theorem tw_308 : Cond.instanceMethod yX5_has ∈ TB := TB_in 358 (by decide +kernel) rfl
theorem tw_309 : Cond.selects RX5 yX5_has yX5_has ∈ TB := TB_in 359 (by decide +kernel) rfl
theorem tw_310 : Cond.code yX5_has cX5_has (2 : Nat) (Option.some Jvm.ClassFile.FieldType.boolean) ∈ TB := TB_in 360 (by decide +kernel) rfl
theorem tw_311 : Cond.methodLink RX7 (85 : Nat) yX7_at ∈ TB := TB_in 361 (by decide +kernel) rfl
theorem tw_312 : Cond.static yX7_at ∈ TB := TB_in 362 (by decide +kernel) rfl
theorem tw_313 : Cond.code yX7_at cX7_at (2 : Nat) (Option.some Jvm.ClassFile.FieldType.int) ∈ TB := TB_in 363 (by decide +kernel) rfl
theorem tw_314 : Cond.methodLink RX7 (98 : Nat) yX5_isAway ∈ TB := TB_in 364 (by decide +kernel) rfl
theorem tw_315 : Cond.instanceMethod yX5_isAway ∈ TB := TB_in 365 (by decide +kernel) rfl
theorem tw_316 : Cond.selects RX5 yX5_isAway yX5_isAway ∈ TB := TB_in 366 (by decide +kernel) rfl
theorem tw_317 : Cond.code yX5_isAway cX5_isAway (2 : Nat) (Option.some Jvm.ClassFile.FieldType.boolean) ∈ TB := TB_in 367 (by decide +kernel) rfl
theorem tw_318 : Cond.methodLink RX7 (104 : Nat) yX7_reckonedOf ∈ TB := TB_in 368 (by decide +kernel) rfl
theorem tw_320 : Cond.instanceMethod yX7_reckonedOf ∈ TB := TB_in 370 (by decide +kernel) rfl
theorem tw_321 : Cond.code yX7_reckonedOf cX7_reckonedOf (3 : Nat) (Option.some Jvm.ClassFile.FieldType.int) ∈ TB := TB_in 371 (by decide +kernel) rfl
theorem tw_322 : Cond.methodLink RX7 (108 : Nat) yX7_held ∈ TB := TB_in 372 (by decide +kernel) rfl
theorem tw_324 : Cond.instanceMethod yX7_held ∈ TB := TB_in 374 (by decide +kernel) rfl
theorem tw_325 : Cond.code yX7_held cX7_held (2 : Nat) (Option.some (Jvm.ClassFile.FieldType.object "FuneralDebts$Parish")) ∈ TB := TB_in 375 (by decide +kernel) rfl
theorem tw_326 : Cond.methodLink RX7 (155 : Nat) yX7_parishAt ∈ TB := TB_in 376 (by decide +kernel) rfl
theorem tw_328 : Cond.instanceMethod yX7_parishAt ∈ TB := TB_in 378 (by decide +kernel) rfl
theorem tw_329 : Cond.code yX7_parishAt cX7_parishAt (2 : Nat) (Option.some (Jvm.ClassFile.FieldType.object "FuneralDebts$Parish")) ∈ TB := TB_in 379 (by decide +kernel) rfl
theorem tw_330 : Cond.methodLink RX7 (112 : Nat) yX4_look ∈ TB := TB_in 380 (by decide +kernel) rfl
theorem tw_331 : Cond.instanceMethod yX4_look ∈ TB := TB_in 381 (by decide +kernel) rfl
theorem tw_332 : Cond.selects RX4 yX4_look yX4_look ∈ TB := TB_in 382 (by decide +kernel) rfl
theorem tw_333 : Cond.code yX4_look cX4_look (6 : Nat) (Option.none : Option Jvm.ClassFile.FieldType) ∈ TB := TB_in 383 (by decide +kernel) rfl
theorem tw_336 : Cond.methodLink RX4 (49 : Nat) yX2_sumOf ∈ TB := TB_in 386 (by decide +kernel) rfl
theorem tw_337 : Cond.instanceMethod yX2_sumOf ∈ TB := TB_in 387 (by decide +kernel) rfl
theorem tw_338 : Cond.selects RX2 yX2_sumOf yX2_sumOf ∈ TB := TB_in 388 (by decide +kernel) rfl
theorem tw_339 : Cond.code yX2_sumOf cX2_sumOf (6 : Nat) (Option.some Jvm.ClassFile.FieldType.int) ∈ TB := TB_in 389 (by decide +kernel) rfl
theorem tw_341 : Cond.methodLink RX2 (45 : Nat) yX2_holdsFrom ∈ TB := TB_in 391 (by decide +kernel) rfl
theorem tw_343 : Cond.instanceMethod yX2_holdsFrom ∈ TB := TB_in 393 (by decide +kernel) rfl
theorem tw_344 : Cond.code yX2_holdsFrom cX2_holdsFrom (10 : Nat) (Option.some Jvm.ClassFile.FieldType.boolean) ∈ TB := TB_in 394 (by decide +kernel) rfl
theorem tw_345 : Cond.methodLink RX2 (49 : Nat) yX2_passes ∈ TB := TB_in 395 (by decide +kernel) rfl
theorem tw_346 : Cond.static yX2_passes ∈ TB := TB_in 396 (by decide +kernel) rfl
theorem tw_347 : Cond.code yX2_passes cX2_passes (3 : Nat) (Option.some Jvm.ClassFile.FieldType.boolean) ∈ TB := TB_in 397 (by decide +kernel) rfl
theorem tw_348 : Cond.methodLink RX4 (53 : Nat) yX4_rateBySum ∈ TB := TB_in 398 (by decide +kernel) rfl
theorem tw_349 : Cond.static yX4_rateBySum ∈ TB := TB_in 399 (by decide +kernel) rfl
theorem tw_350 : Cond.code yX4_rateBySum cX4_rateBySum (6 : Nat) (Option.some Jvm.ClassFile.FieldType.int) ∈ TB := TB_in 400 (by decide +kernel) rfl
theorem tw_351 : Cond.methodLink RX7 (122 : Nat) yX4_share ∈ TB := TB_in 401 (by decide +kernel) rfl
theorem tw_352 : Cond.instanceMethod yX4_share ∈ TB := TB_in 402 (by decide +kernel) rfl
theorem tw_353 : Cond.selects RX4 yX4_share yX4_share ∈ TB := TB_in 403 (by decide +kernel) rfl
theorem tw_354 : Cond.code yX4_share cX4_share (5 : Nat) (Option.some Jvm.ClassFile.FieldType.int) ∈ TB := TB_in 404 (by decide +kernel) rfl
theorem tw_355 : Cond.methodLink RX4 (63 : Nat) yX4_pays ∈ TB := TB_in 405 (by decide +kernel) rfl
theorem tw_357 : Cond.instanceMethod yX4_pays ∈ TB := TB_in 407 (by decide +kernel) rfl
theorem tw_358 : Cond.code yX4_pays cX4_pays (12 : Nat) (Option.some Jvm.ClassFile.FieldType.int) ∈ TB := TB_in 408 (by decide +kernel) rfl
theorem tw_362 : Cond.methodLink RX7 (126 : Nat) yX4_best ∈ TB := TB_in 412 (by decide +kernel) rfl
theorem tw_363 : Cond.instanceMethod yX4_best ∈ TB := TB_in 413 (by decide +kernel) rfl
theorem tw_364 : Cond.selects RX4 yX4_best yX4_best ∈ TB := TB_in 414 (by decide +kernel) rfl
theorem tw_365 : Cond.code yX4_best cX4_best (7 : Nat) (Option.some Jvm.ClassFile.FieldType.int) ∈ TB := TB_in 415 (by decide +kernel) rfl
theorem tw_366 : Cond.methodLink RX4 (79 : Nat) yX4_worth ∈ TB := TB_in 416 (by decide +kernel) rfl
theorem tw_367 : Cond.instanceMethod yX4_worth ∈ TB := TB_in 417 (by decide +kernel) rfl
theorem tw_368 : Cond.selects RX4 yX4_worth yX4_worth ∈ TB := TB_in 418 (by decide +kernel) rfl
theorem tw_369 : Cond.code yX4_worth cX4_worth (6 : Nat) (Option.some Jvm.ClassFile.FieldType.int) ∈ TB := TB_in 419 (by decide +kernel) rfl
theorem tw_370 : Cond.methodLink RX7 (130 : Nat) yX4_rate ∈ TB := TB_in 420 (by decide +kernel) rfl
theorem tw_371 : Cond.instanceMethod yX4_rate ∈ TB := TB_in 421 (by decide +kernel) rfl
theorem tw_372 : Cond.selects RX4 yX4_rate yX4_rate ∈ TB := TB_in 422 (by decide +kernel) rfl
theorem tw_373 : Cond.code yX4_rate cX4_rate (3 : Nat) (Option.some Jvm.ClassFile.FieldType.int) ∈ TB := TB_in 423 (by decide +kernel) rfl
theorem tw_374 : Cond.methodLink RX7 (133 : Nat) yX4_worth ∈ TB := TB_in 424 (by decide +kernel) rfl
theorem tw_379 : Cond.methodLink RX7 (137 : Nat) yX7_put ∈ TB := TB_in 429 (by decide +kernel) rfl
theorem tw_384 : Cond.methodLink RX7 (141 : Nat) yX5_send ∈ TB := TB_in 434 (by decide +kernel) rfl
theorem tw_385 : Cond.instanceMethod yX5_send ∈ TB := TB_in 435 (by decide +kernel) rfl
theorem tw_386 : Cond.selects RX5 yX5_send yX5_send ∈ TB := TB_in 436 (by decide +kernel) rfl
theorem tw_387 : Cond.code yX5_send cX5_send (3 : Nat) (Option.none : Option Jvm.ClassFile.FieldType) ∈ TB := TB_in 437 (by decide +kernel) rfl
theorem tw_400 : Cond.methodLink RX7 (148 : Nat) yX3_append ∈ TB := TB_in 450 (by decide +kernel) rfl
theorem tw_401 : Cond.instanceMethod yX3_append ∈ TB := TB_in 451 (by decide +kernel) rfl
theorem tw_402 : Cond.selects RX3 yX3_append yX3_append ∈ TB := TB_in 452 (by decide +kernel) rfl
theorem tw_403 : Cond.code yX3_append cX3_append (2 : Nat) (Option.some Jvm.ClassFile.FieldType.int) ∈ TB := TB_in 453 (by decide +kernel) rfl
theorem tw_408 : Cond.methodLink RX7 (159 : Nat) yX3_readAll ∈ TB := TB_in 458 (by decide +kernel) rfl
theorem tw_409 : Cond.instanceMethod yX3_readAll ∈ TB := TB_in 459 (by decide +kernel) rfl
theorem tw_410 : Cond.selects RX3 yX3_readAll yX3_readAll ∈ TB := TB_in 460 (by decide +kernel) rfl
theorem tw_411 : Cond.code yX3_readAll cX3_readAll (4 : Nat) (Option.some Jvm.ClassFile.FieldType.boolean) ∈ TB := TB_in 461 (by decide +kernel) rfl
theorem tw_412 : Cond.methodLink RX3 (29 : Nat) yX2_clear ∈ TB := TB_in 462 (by decide +kernel) rfl
theorem tw_413 : Cond.instanceMethod yX2_clear ∈ TB := TB_in 463 (by decide +kernel) rfl
theorem tw_414 : Cond.selects RX2 yX2_clear yX2_clear ∈ TB := TB_in 464 (by decide +kernel) rfl
theorem tw_415 : Cond.code yX2_clear cX2_clear (1 : Nat) (Option.none : Option Jvm.ClassFile.FieldType) ∈ TB := TB_in 465 (by decide +kernel) rfl
theorem tw_416 : Cond.methodLink RX3 (35 : Nat) yX3_advance ∈ TB := TB_in 466 (by decide +kernel) rfl
theorem tw_418 : Cond.instanceMethod yX3_advance ∈ TB := TB_in 468 (by decide +kernel) rfl
theorem tw_419 : Cond.code yX3_advance cX3_advance (1 : Nat) (Option.none : Option Jvm.ClassFile.FieldType) ∈ TB := TB_in 469 (by decide +kernel) rfl
theorem tw_420 : Cond.methodLink RX3 (38 : Nat) yX3_readClause ∈ TB := TB_in 470 (by decide +kernel) rfl
theorem tw_422 : Cond.instanceMethod yX3_readClause ∈ TB := TB_in 472 (by decide +kernel) rfl
theorem tw_423 : Cond.code yX3_readClause cX3_readClause (5 : Nat) (Option.some Jvm.ClassFile.FieldType.boolean) ∈ TB := TB_in 473 (by decide +kernel) rfl
theorem tw_427 : Cond.methodLink RX3 (48 : Nat) yX3_readWord ∈ TB := TB_in 477 (by decide +kernel) rfl
theorem tw_429 : Cond.instanceMethod yX3_readWord ∈ TB := TB_in 479 (by decide +kernel) rfl
theorem tw_430 : Cond.code yX3_readWord cX3_readWord (3 : Nat) (Option.some Jvm.ClassFile.FieldType.boolean) ∈ TB := TB_in 480 (by decide +kernel) rfl
theorem tw_431 : Cond.methodLink RX3 (71 : Nat) yJ0_length_8abf5 ∈ TB := TB_in 481 (by decide +kernel) rfl
theorem tw_432 : Cond.instanceMethod yJ0_length_8abf5 ∈ TB := TB_in 482 (by decide +kernel) rfl
theorem tw_433 : Cond.selects RJ0 yJ0_length_8abf5 yJ0_length_8abf5 ∈ TB := TB_in 483 (by decide +kernel) rfl
theorem tw_434 : Cond.code yJ0_length_8abf5 cJ0_length_8abf5 (1 : Nat) (Option.some Jvm.ClassFile.FieldType.int) ∈ TB := TB_in 484 (by decide +kernel) rfl
theorem tw_435 : Cond.methodLink RJ0 (335 : Nat) yJ0_coder_7d493 ∈ TB := TB_in 485 (by decide +kernel) rfl
theorem tw_436 : Cond.instanceMethod yJ0_coder_7d493 ∈ TB := TB_in 486 (by decide +kernel) rfl
theorem tw_437 : Cond.selects RJ0 yJ0_coder_7d493 yJ0_coder_7d493 ∈ TB := TB_in 487 (by decide +kernel) rfl
theorem tw_438 : Cond.code yJ0_coder_7d493 cJ0_coder_7d493 (1 : Nat) (Option.some Jvm.ClassFile.FieldType.byte) ∈ TB := TB_in 488 (by decide +kernel) rfl
theorem tw_439 : Cond.fieldLink RJ0 (38 : Nat) RJ0 "COMPACT_STRINGS" "Z" ∈ TB := TB_in 489 (by decide +kernel) rfl
theorem tw_441 : Cond.methodLink RX3 (77 : Nat) yJ0_charAt_5068e ∈ TB := TB_in 491 (by decide +kernel) rfl
theorem tw_442 : Cond.instanceMethod yJ0_charAt_5068e ∈ TB := TB_in 492 (by decide +kernel) rfl
theorem tw_443 : Cond.selects RJ0 yJ0_charAt_5068e yJ0_charAt_5068e ∈ TB := TB_in 493 (by decide +kernel) rfl
theorem tw_444 : Cond.code yJ0_charAt_5068e cJ0_charAt_5068e (2 : Nat) (Option.some Jvm.ClassFile.FieldType.char) ∈ TB := TB_in 494 (by decide +kernel) rfl
theorem tw_445 : Cond.methodLink RJ0 (492 : Nat) yJ0_isLatin1_aae02 ∈ TB := TB_in 495 (by decide +kernel) rfl
theorem tw_446 : Cond.instanceMethod yJ0_isLatin1_aae02 ∈ TB := TB_in 496 (by decide +kernel) rfl
theorem tw_447 : Cond.selects RJ0 yJ0_isLatin1_aae02 yJ0_isLatin1_aae02 ∈ TB := TB_in 497 (by decide +kernel) rfl
theorem tw_448 : Cond.code yJ0_isLatin1_aae02 cJ0_isLatin1_aae02 (1 : Nat) (Option.some Jvm.ClassFile.FieldType.boolean) ∈ TB := TB_in 498 (by decide +kernel) rfl
theorem tw_449 : Cond.methodLink RJ0 (495 : Nat) yJ1_charAt_3b067 ∈ TB := TB_in 499 (by decide +kernel) rfl
theorem tw_450 : Cond.static yJ1_charAt_3b067 ∈ TB := TB_in 500 (by decide +kernel) rfl
theorem tw_451 : Cond.code yJ1_charAt_3b067 cJ1_charAt_3b067 (2 : Nat) (Option.some Jvm.ClassFile.FieldType.char) ∈ TB := TB_in 501 (by decide +kernel) rfl
theorem tw_452 : Cond.methodLink RJ1 (9 : Nat) yJ0_checkIndex_df160 ∈ TB := TB_in 502 (by decide +kernel) rfl
theorem tw_453 : Cond.static yJ0_checkIndex_df160 ∈ TB := TB_in 503 (by decide +kernel) rfl
theorem tw_454 : Cond.code yJ0_checkIndex_df160 cJ0_checkIndex_df160 (2 : Nat) (Option.none : Option Jvm.ClassFile.FieldType) ∈ TB := TB_in 504 (by decide +kernel) rfl
theorem tw_455 : Cond.fieldLink RJ0 (1053 : Nat) RJ3 "SIOOBE_FORMATTER" "Ljava/util/function/BiFunction;" ∈ TB := TB_in 505 (by decide +kernel) rfl
theorem tw_457 : Cond.methodLink RJ0 (1059 : Nat) yJ3_checkIndex_8e157 ∈ TB := TB_in 507 (by decide +kernel) rfl
theorem tw_458 : Cond.static yJ3_checkIndex_8e157 ∈ TB := TB_in 508 (by decide +kernel) rfl
theorem tw_459 : Cond.code yJ3_checkIndex_8e157 cJ3_checkIndex_8e157 (3 : Nat) (Option.some Jvm.ClassFile.FieldType.int) ∈ TB := TB_in 509 (by decide +kernel) rfl
theorem tw_479 : Cond.methodLink RX3 (52 : Nat) yX3_readNumber ∈ TB := TB_in 529 (by decide +kernel) rfl
theorem tw_481 : Cond.instanceMethod yX3_readNumber ∈ TB := TB_in 531 (by decide +kernel) rfl
theorem tw_482 : Cond.code yX3_readNumber cX3_readNumber (1 : Nat) (Option.some Jvm.ClassFile.FieldType.boolean) ∈ TB := TB_in 532 (by decide +kernel) rfl
theorem tw_484 : Cond.methodLink RX3 (63 : Nat) yX3_readEither ∈ TB := TB_in 534 (by decide +kernel) rfl
theorem tw_486 : Cond.instanceMethod yX3_readEither ∈ TB := TB_in 536 (by decide +kernel) rfl
theorem tw_487 : Cond.code yX3_readEither cX3_readEither (6 : Nat) (Option.some Jvm.ClassFile.FieldType.boolean) ∈ TB := TB_in 537 (by decide +kernel) rfl
theorem tw_488 : Cond.methodLink RX3 (81 : Nat) yX3_readPart ∈ TB := TB_in 538 (by decide +kernel) rfl
theorem tw_490 : Cond.instanceMethod yX3_readPart ∈ TB := TB_in 540 (by decide +kernel) rfl
theorem tw_491 : Cond.code yX3_readPart cX3_readPart (4 : Nat) (Option.some Jvm.ClassFile.FieldType.boolean) ∈ TB := TB_in 541 (by decide +kernel) rfl
theorem tw_492 : Cond.methodLink RX3 (88 : Nat) yX3_readTest ∈ TB := TB_in 542 (by decide +kernel) rfl
theorem tw_494 : Cond.instanceMethod yX3_readTest ∈ TB := TB_in 544 (by decide +kernel) rfl
theorem tw_495 : Cond.code yX3_readTest cX3_readTest (4 : Nat) (Option.some Jvm.ClassFile.FieldType.boolean) ∈ TB := TB_in 545 (by decide +kernel) rfl
theorem tw_496 : Cond.methodLink RX3 (93 : Nat) yX3_whatOf ∈ TB := TB_in 546 (by decide +kernel) rfl
theorem tw_497 : Cond.static yX3_whatOf ∈ TB := TB_in 547 (by decide +kernel) rfl
theorem tw_498 : Cond.code yX3_whatOf cX3_whatOf (1 : Nat) (Option.some Jvm.ClassFile.FieldType.int) ∈ TB := TB_in 548 (by decide +kernel) rfl
theorem tw_499 : Cond.methodLink RX3 (84 : Nat) yX2_addStep ∈ TB := TB_in 549 (by decide +kernel) rfl
theorem tw_500 : Cond.instanceMethod yX2_addStep ∈ TB := TB_in 550 (by decide +kernel) rfl
theorem tw_501 : Cond.selects RX2 yX2_addStep yX2_addStep ∈ TB := TB_in 551 (by decide +kernel) rfl
theorem tw_502 : Cond.code yX2_addStep cX2_addStep (4 : Nat) (Option.none : Option Jvm.ClassFile.FieldType) ∈ TB := TB_in 552 (by decide +kernel) rfl
theorem tw_505 : Cond.methodLink RX3 (67 : Nat) yX2_endClause ∈ TB := TB_in 555 (by decide +kernel) rfl
theorem tw_506 : Cond.instanceMethod yX2_endClause ∈ TB := TB_in 556 (by decide +kernel) rfl
theorem tw_507 : Cond.selects RX2 yX2_endClause yX2_endClause ∈ TB := TB_in 557 (by decide +kernel) rfl
theorem tw_508 : Cond.code yX2_endClause cX2_endClause (2 : Nat) (Option.none : Option Jvm.ClassFile.FieldType) ∈ TB := TB_in 558 (by decide +kernel) rfl
theorem tw_513 : Cond.methodLink RX7 (175 : Nat) yX7_still ∈ TB := TB_in 563 (by decide +kernel) rfl
theorem tw_515 : Cond.instanceMethod yX7_still ∈ TB := TB_in 565 (by decide +kernel) rfl
theorem tw_516 : Cond.code yX7_still cX7_still (2 : Nat) (Option.some Jvm.ClassFile.FieldType.int) ∈ TB := TB_in 566 (by decide +kernel) rfl
theorem tw_517 : Cond.methodLink RX7 (191 : Nat) yX5_takeAfter ∈ TB := TB_in 567 (by decide +kernel) rfl
theorem tw_518 : Cond.instanceMethod yX5_takeAfter ∈ TB := TB_in 568 (by decide +kernel) rfl
theorem tw_519 : Cond.selects RX5 yX5_takeAfter yX5_takeAfter ∈ TB := TB_in 569 (by decide +kernel) rfl
theorem tw_520 : Cond.code yX5_takeAfter cX5_takeAfter (2 : Nat) (Option.none : Option Jvm.ClassFile.FieldType) ∈ TB := TB_in 570 (by decide +kernel) rfl
theorem tw_522 : Cond.static yX7_copyRow ∈ TB := TB_in 572 (by decide +kernel) rfl
theorem tw_523 : Cond.code yX7_copyRow cX7_copyRow (2 : Nat) (Option.none : Option Jvm.ClassFile.FieldType) ∈ TB := TB_in 573 (by decide +kernel) rfl
theorem tw_525 : Cond.methodLink RX7 (294 : Nat) ⟨"java/lang/System", "arraycopy", "(Ljava/lang/Object;ILjava/lang/Object;II)V"⟩ ∈ TB := TB_in 575 (by decide +kernel) rfl
theorem tw_526 : Cond.static ⟨"java/lang/System", "arraycopy", "(Ljava/lang/Object;ILjava/lang/Object;II)V"⟩ ∈ TB := TB_in 576 (by decide +kernel) rfl
theorem tw_527 : Cond.native ⟨"java/lang/System", "arraycopy", "(Ljava/lang/Object;ILjava/lang/Object;II)V"⟩ ∈ TB := TB_in 577 (by decide +kernel) rfl
theorem tw_528 : Cond.methodLink RX5 (69 : Nat) yX1_takeAfter ∈ TB := TB_in 578 (by decide +kernel) rfl
theorem tw_529 : Cond.instanceMethod yX1_takeAfter ∈ TB := TB_in 579 (by decide +kernel) rfl
theorem tw_530 : Cond.selects RX1 yX1_takeAfter yX1_takeAfter ∈ TB := TB_in 580 (by decide +kernel) rfl
theorem tw_531 : Cond.code yX1_takeAfter cX1_takeAfter (2 : Nat) (Option.none : Option Jvm.ClassFile.FieldType) ∈ TB := TB_in 581 (by decide +kernel) rfl
theorem tw_533 : Cond.constant RX7 (195 : Nat) (2147483647 : Int32) ∈ TB := TB_in 583 (by decide +kernel) rfl
theorem tw_534 : Cond.methodLink RX7 (187 : Nat) yX4_goDay ∈ TB := TB_in 584 (by decide +kernel) rfl
theorem tw_535 : Cond.instanceMethod yX4_goDay ∈ TB := TB_in 585 (by decide +kernel) rfl
theorem tw_536 : Cond.selects RX4 yX4_goDay yX4_goDay ∈ TB := TB_in 586 (by decide +kernel) rfl
theorem tw_537 : Cond.code yX4_goDay cX4_goDay (8 : Nat) (Option.some Jvm.ClassFile.FieldType.int) ∈ TB := TB_in 587 (by decide +kernel) rfl
theorem tw_538 : Cond.methodLink RX4 (99 : Nat) yX4_look ∈ TB := TB_in 588 (by decide +kernel) rfl
theorem tw_539 : Cond.methodLink RX4 (103 : Nat) yX4_best ∈ TB := TB_in 589 (by decide +kernel) rfl
theorem tw_540 : Cond.methodLink RX4 (107 : Nat) yX5_isAway ∈ TB := TB_in 590 (by decide +kernel) rfl
theorem tw_541 : Cond.methodLink RX4 (93 : Nat) yX4_share ∈ TB := TB_in 591 (by decide +kernel) rfl
theorem tw_543 : Cond.methodLink RX7 (179 : Nat) yX7_gains ∈ TB := TB_in 593 (by decide +kernel) rfl
theorem tw_545 : Cond.instanceMethod yX7_gains ∈ TB := TB_in 595 (by decide +kernel) rfl
theorem tw_546 : Cond.code yX7_gains cX7_gains (3 : Nat) (Option.some Jvm.ClassFile.FieldType.int) ∈ TB := TB_in 596 (by decide +kernel) rfl
theorem tw_547 : Cond.methodLink RX7 (182 : Nat) yX7_owed ∈ TB := TB_in 597 (by decide +kernel) rfl
theorem tw_549 : Cond.instanceMethod yX7_owed ∈ TB := TB_in 599 (by decide +kernel) rfl
theorem tw_550 : Cond.code yX7_owed cX7_owed (5 : Nat) (Option.some Jvm.ClassFile.FieldType.int) ∈ TB := TB_in 600 (by decide +kernel) rfl
theorem tw_551 : Cond.methodLink RX7 (210 : Nat) yX4_fits ∈ TB := TB_in 601 (by decide +kernel) rfl
theorem tw_552 : Cond.instanceMethod yX4_fits ∈ TB := TB_in 602 (by decide +kernel) rfl
theorem tw_553 : Cond.selects RX4 yX4_fits yX4_fits ∈ TB := TB_in 603 (by decide +kernel) rfl
theorem tw_554 : Cond.code yX4_fits cX4_fits (5 : Nat) (Option.some Jvm.ClassFile.FieldType.boolean) ∈ TB := TB_in 604 (by decide +kernel) rfl
theorem tw_559 : Cond.constant RX7 (186 : Nat) (999999 : Int32) ∈ TB := TB_in 609 (by decide +kernel) rfl
theorem tw_568 : Cond.methodLink RX7 (196 : Nat) yJ6_bitCount_0f7a4 ∈ TB := TB_in 618 (by decide +kernel) rfl
theorem tw_569 : Cond.static yJ6_bitCount_0f7a4 ∈ TB := TB_in 619 (by decide +kernel) rfl
theorem tw_570 : Cond.code yJ6_bitCount_0f7a4 cJ6_bitCount_0f7a4 (1 : Nat) (Option.some Jvm.ClassFile.FieldType.int) ∈ TB := TB_in 620 (by decide +kernel) rfl
theorem tw_571 : Cond.constant RJ6 (265 : Nat) (1431655765 : Int32) ∈ TB := TB_in 621 (by decide +kernel) rfl
theorem tw_572 : Cond.constant RJ6 (266 : Nat) (858993459 : Int32) ∈ TB := TB_in 622 (by decide +kernel) rfl
theorem tw_573 : Cond.constant RJ6 (267 : Nat) (252645135 : Int32) ∈ TB := TB_in 623 (by decide +kernel) rfl
theorem tw_578 : Cond.methodLink RX7 (203 : Nat) yX1_empty ∈ TB := TB_in 628 (by decide +kernel) rfl
theorem tw_579 : Cond.instanceMethod yX1_empty ∈ TB := TB_in 629 (by decide +kernel) rfl
theorem tw_580 : Cond.selects RX1 yX1_empty yX1_empty ∈ TB := TB_in 630 (by decide +kernel) rfl
theorem tw_581 : Cond.code yX1_empty cX1_empty (1 : Nat) (Option.some Jvm.ClassFile.FieldType.int) ∈ TB := TB_in 631 (by decide +kernel) rfl
theorem tw_582 : Cond.methodLink RX7 (208 : Nat) yX1_add ∈ TB := TB_in 632 (by decide +kernel) rfl
theorem tw_583 : Cond.instanceMethod yX1_add ∈ TB := TB_in 633 (by decide +kernel) rfl
theorem tw_584 : Cond.selects RX1 yX1_add yX1_add ∈ TB := TB_in 634 (by decide +kernel) rfl
theorem tw_585 : Cond.code yX1_add cX1_add (3 : Nat) (Option.some Jvm.ClassFile.FieldType.int) ∈ TB := TB_in 635 (by decide +kernel) rfl
theorem tw_595 : Cond.constantLong RX7 (214 : Nat) (-9223372036854775808 : Int64) ∈ TB := TB_in 645 (by decide +kernel) rfl
theorem tw_596 : Cond.methodLink RX7 (216 : Nat) yX7_fraction ∈ TB := TB_in 646 (by decide +kernel) rfl
theorem tw_597 : Cond.static yX7_fraction ∈ TB := TB_in 647 (by decide +kernel) rfl
theorem tw_598 : Cond.code yX7_fraction cX7_fraction (4 : Nat) (Option.some Jvm.ClassFile.FieldType.long) ∈ TB := TB_in 648 (by decide +kernel) rfl
theorem tw_611 : Cond.methodLink RX7 (230 : Nat) yX7_goStep ∈ TB := TB_in 661 (by decide +kernel) rfl
theorem tw_613 : Cond.instanceMethod yX7_goStep ∈ TB := TB_in 663 (by decide +kernel) rfl
theorem tw_614 : Cond.code yX7_goStep cX7_goStep (3 : Nat) (Option.none : Option Jvm.ClassFile.FieldType) ∈ TB := TB_in 664 (by decide +kernel) rfl
theorem tw_627 : Cond.methodLink RX7 (237 : Nat) yX7_tapeAt ∈ TB := TB_in 677 (by decide +kernel) rfl
theorem tw_629 : Cond.instanceMethod yX7_tapeAt ∈ TB := TB_in 679 (by decide +kernel) rfl
theorem tw_630 : Cond.code yX7_tapeAt cX7_tapeAt (2 : Nat) (Option.some (Jvm.ClassFile.FieldType.object "FuneralDebts$Tape")) ∈ TB := TB_in 680 (by decide +kernel) rfl
theorem tw_631 : Cond.methodLink RX7 (241 : Nat) yX6_holdsRow ∈ TB := TB_in 681 (by decide +kernel) rfl
theorem tw_632 : Cond.instanceMethod yX6_holdsRow ∈ TB := TB_in 682 (by decide +kernel) rfl
theorem tw_633 : Cond.selects RX6 yX6_holdsRow yX6_holdsRow ∈ TB := TB_in 683 (by decide +kernel) rfl
theorem tw_634 : Cond.code yX6_holdsRow cX6_holdsRow (1 : Nat) (Option.some Jvm.ClassFile.FieldType.boolean) ∈ TB := TB_in 684 (by decide +kernel) rfl
theorem tw_635 : Cond.methodLink RX7 (251 : Nat) yX6_itemAt ∈ TB := TB_in 685 (by decide +kernel) rfl
theorem tw_636 : Cond.instanceMethod yX6_itemAt ∈ TB := TB_in 686 (by decide +kernel) rfl
theorem tw_637 : Cond.selects RX6 yX6_itemAt yX6_itemAt ∈ TB := TB_in 687 (by decide +kernel) rfl
theorem tw_638 : Cond.code yX6_itemAt cX6_itemAt (2 : Nat) (Option.some Jvm.ClassFile.FieldType.long) ∈ TB := TB_in 688 (by decide +kernel) rfl
theorem tw_639 : Cond.constantLong RX6 (28 : Nat) (-9223372036854775808 : Int64) ∈ TB := TB_in 689 (by decide +kernel) rfl
theorem tw_652 : Cond.methodLink RX7 (259 : Nat) yX0_clear ∈ TB := TB_in 702 (by decide +kernel) rfl
theorem tw_653 : Cond.instanceMethod yX0_clear ∈ TB := TB_in 703 (by decide +kernel) rfl
theorem tw_654 : Cond.selects RX0 yX0_clear yX0_clear ∈ TB := TB_in 704 (by decide +kernel) rfl
theorem tw_655 : Cond.code yX0_clear cX0_clear (1 : Nat) (Option.none : Option Jvm.ClassFile.FieldType) ∈ TB := TB_in 705 (by decide +kernel) rfl
theorem tw_656 : Cond.methodLink RX7 (262 : Nat) yX0_start ∈ TB := TB_in 706 (by decide +kernel) rfl
theorem tw_657 : Cond.instanceMethod yX0_start ∈ TB := TB_in 707 (by decide +kernel) rfl
theorem tw_658 : Cond.selects RX0 yX0_start yX0_start ∈ TB := TB_in 708 (by decide +kernel) rfl
theorem tw_659 : Cond.code yX0_start cX0_start (5 : Nat) (Option.some Jvm.ClassFile.FieldType.int) ∈ TB := TB_in 709 (by decide +kernel) rfl
theorem tw_661 : Cond.methodLink RX0 (40 : Nat) yX0_run ∈ TB := TB_in 711 (by decide +kernel) rfl
theorem tw_663 : Cond.instanceMethod yX0_run ∈ TB := TB_in 713 (by decide +kernel) rfl
theorem tw_664 : Cond.code yX0_run cX0_run (9 : Nat) (Option.some Jvm.ClassFile.FieldType.int) ∈ TB := TB_in 714 (by decide +kernel) rfl
theorem tw_665 : Cond.methodLink RX0 (44 : Nat) yX0_ownerOf ∈ TB := TB_in 715 (by decide +kernel) rfl
theorem tw_666 : Cond.static yX0_ownerOf ∈ TB := TB_in 716 (by decide +kernel) rfl
theorem tw_667 : Cond.code yX0_ownerOf cX0_ownerOf (4 : Nat) (Option.some Jvm.ClassFile.FieldType.int) ∈ TB := TB_in 717 (by decide +kernel) rfl
theorem tw_670 : Cond.fieldLink RX0 (51 : Nat) RX0 "BODY" "[I" ∈ TB := TB_in 720 (by decide +kernel) rfl
theorem tw_681 : Cond.fieldLink RX7 (276 : Nat) RX7 "ABOVE" "[I" ∈ TB := TB_in 731 (by decide +kernel) rfl
theorem tw_690 : Cond.methodLink RX7 (280 : Nat) yX6_become ∈ TB := TB_in 740 (by decide +kernel) rfl
theorem tw_691 : Cond.instanceMethod yX6_become ∈ TB := TB_in 741 (by decide +kernel) rfl
theorem tw_692 : Cond.selects RX6 yX6_become yX6_become ∈ TB := TB_in 742 (by decide +kernel) rfl
theorem tw_693 : Cond.code yX6_become cX6_become (4 : Nat) (Option.none : Option Jvm.ClassFile.FieldType) ∈ TB := TB_in 743 (by decide +kernel) rfl
theorem tw_699 : Cond.methodLink RX7 (283 : Nat) yX6_store ∈ TB := TB_in 749 (by decide +kernel) rfl
theorem tw_700 : Cond.instanceMethod yX6_store ∈ TB := TB_in 750 (by decide +kernel) rfl
theorem tw_701 : Cond.selects RX6 yX6_store yX6_store ∈ TB := TB_in 751 (by decide +kernel) rfl
theorem tw_702 : Cond.code yX6_store cX6_store (4 : Nat) (Option.some Jvm.ClassFile.FieldType.boolean) ∈ TB := TB_in 752 (by decide +kernel) rfl
theorem tw_703 : Cond.methodLink RX6 (30 : Nat) yX6_fitted ∈ TB := TB_in 753 (by decide +kernel) rfl
theorem tw_705 : Cond.instanceMethod yX6_fitted ∈ TB := TB_in 755 (by decide +kernel) rfl
theorem tw_706 : Cond.code yX6_fitted cX6_fitted (3 : Nat) (Option.some Jvm.ClassFile.FieldType.long) ∈ TB := TB_in 756 (by decide +kernel) rfl
theorem tw_715 : Cond.methodLink RX7 (287 : Nat) yX6_hasPlaces ∈ TB := TB_in 765 (by decide +kernel) rfl
theorem tw_716 : Cond.instanceMethod yX6_hasPlaces ∈ TB := TB_in 766 (by decide +kernel) rfl
theorem tw_717 : Cond.selects RX6 yX6_hasPlaces yX6_hasPlaces ∈ TB := TB_in 767 (by decide +kernel) rfl
theorem tw_718 : Cond.code yX6_hasPlaces cX6_hasPlaces (3 : Nat) (Option.some Jvm.ClassFile.FieldType.boolean) ∈ TB := TB_in 768 (by decide +kernel) rfl
theorem tw_728 : Cond.fieldLink RX8 (15 : Nat) RX8 "now" "[I" ∈ TB := TB_in 778 (by decide +kernel) rfl
theorem tw_729 : Cond.fieldLink RX8 (19 : Nat) RX8 "minds" "[I" ∈ TB := TB_in 779 (by decide +kernel) rfl
theorem tw_730 : Cond.fieldLink RX8 (22 : Nat) RX8 "then" "[I" ∈ TB := TB_in 780 (by decide +kernel) rfl
theorem tw_731 : Cond.fieldLink RX8 (81 : Nat) RX8 "kept" "Z" ∈ TB := TB_in 781 (by decide +kernel) rfl
theorem tw_732 : Cond.fieldLink RX8 (25 : Nat) RX8 "text" "[I" ∈ TB := TB_in 782 (by decide +kernel) rfl
theorem tw_733 : Cond.fieldLink RX8 (117 : Nat) RX8 "texted" "I" ∈ TB := TB_in 783 (by decide +kernel) rfl
theorem tw_734 : Cond.fieldLink RX8 (28 : Nat) RX8 "rules" "[I" ∈ TB := TB_in 784 (by decide +kernel) rfl
theorem tw_735 : Cond.fieldLink RX8 (31 : Nat) RX8 "sizes" "[I" ∈ TB := TB_in 785 (by decide +kernel) rfl
theorem tw_736 : Cond.fieldLink RX8 (172 : Nat) RX8 "ruled" "I" ∈ TB := TB_in 786 (by decide +kernel) rfl
theorem tw_737 : Cond.fieldLink RX8 (34 : Nat) RX8 "read" "[I" ∈ TB := TB_in 787 (by decide +kernel) rfl
theorem tw_738 : Cond.fieldLink RX8 (127 : Nat) RX8 "size" "I" ∈ TB := TB_in 788 (by decide +kernel) rfl
theorem tw_739 : Cond.fieldLink RX8 (124 : Nat) RX8 "at" "I" ∈ TB := TB_in 789 (by decide +kernel) rfl
theorem tw_740 : Cond.fieldLink RX8 (121 : Nat) RX8 "well" "Z" ∈ TB := TB_in 790 (by decide +kernel) rfl
theorem tw_741 : Cond.fieldLink RX8 (145 : Nat) RX8 "within" "I" ∈ TB := TB_in 791 (by decide +kernel) rfl
theorem tw_742 : Cond.fieldLink RX8 (163 : Nat) RX8 "sum" "I" ∈ TB := TB_in 792 (by decide +kernel) rfl
theorem tw_743 : Cond.fieldLink RX8 (160 : Nat) RX8 "fall" "I" ∈ TB := TB_in 793 (by decide +kernel) rfl
theorem tw_744 : Cond.fieldLink RX8 (37 : Nat) RX8 "names" "[I" ∈ TB := TB_in 794 (by decide +kernel) rfl
theorem tw_745 : Cond.fieldLink RX8 (40 : Nat) RX8 "letters" "[C" ∈ TB := TB_in 795 (by decide +kernel) rfl
theorem tw_746 : Cond.fieldLink RX8 (44 : Nat) RX8 "begins" "[C" ∈ TB := TB_in 796 (by decide +kernel) rfl
theorem tw_747 : Cond.fieldLink RX8 (47 : Nat) RX8 "words" "[C" ∈ TB := TB_in 797 (by decide +kernel) rfl
theorem tw_748 : Cond.fieldLink RX8 (50 : Nat) RX8 "rates" "[I" ∈ TB := TB_in 798 (by decide +kernel) rfl
theorem tw_749 : Cond.fieldLink RX8 (53 : Nat) RX8 "shares" "[I" ∈ TB := TB_in 799 (by decide +kernel) rfl
theorem tw_750 : Cond.fieldLink RX8 (56 : Nat) RX8 "worthThen" "[I" ∈ TB := TB_in 800 (by decide +kernel) rfl
theorem tw_751 : Cond.fieldLink RX8 (59 : Nat) RX8 "above" "[I" ∈ TB := TB_in 801 (by decide +kernel) rfl
theorem tw_752 : Cond.fieldLink RX8 (62 : Nat) RX8 "bodies" "[I" ∈ TB := TB_in 802 (by decide +kernel) rfl
theorem tw_753 : Cond.fieldLink RX8 (65 : Nat) RX8 "trace" "[I" ∈ TB := TB_in 803 (by decide +kernel) rfl
theorem tw_754 : Cond.fieldLink RX8 (228 : Nat) RX8 "ran" "I" ∈ TB := TB_in 804 (by decide +kernel) rfl
theorem tw_755 : Cond.fieldLink RX8 (68 : Nat) RX8 "sorts" "[I" ∈ TB := TB_in 805 (by decide +kernel) rfl
theorem tw_756 : Cond.fieldLink RX8 (71 : Nat) RX8 "lengths" "[I" ∈ TB := TB_in 806 (by decide +kernel) rfl
theorem tw_757 : Cond.fieldLink RX8 (74 : Nat) RX8 "items" "[J" ∈ TB := TB_in 807 (by decide +kernel) rfl
theorem tw_758 : Cond.fieldLink RX8 (78 : Nat) RX8 "moved" "[J" ∈ TB := TB_in 808 (by decide +kernel) rfl
theorem tw_835 : Cond.methodLink RX8 (85 : Nat) yX8_isIn ∈ TB := TB_in 885 (by decide +kernel) rfl
theorem tw_836 : Cond.static yX8_isIn ∈ TB := TB_in 886 (by decide +kernel) rfl
theorem tw_837 : Cond.code yX8_isIn cX8_isIn (3 : Nat) (Option.some Jvm.ClassFile.FieldType.boolean) ∈ TB := TB_in 887 (by decide +kernel) rfl
theorem tw_838 : Cond.methodLink RX8 (93 : Nat) yX8_isYard ∈ TB := TB_in 888 (by decide +kernel) rfl
theorem tw_839 : Cond.static yX8_isYard ∈ TB := TB_in 889 (by decide +kernel) rfl
theorem tw_840 : Cond.code yX8_isYard cX8_isYard (1 : Nat) (Option.some Jvm.ClassFile.FieldType.boolean) ∈ TB := TB_in 890 (by decide +kernel) rfl
theorem tw_841 : Cond.methodLink RX8 (97 : Nat) yX8_change ∈ TB := TB_in 891 (by decide +kernel) rfl
theorem tw_843 : Cond.instanceMethod yX8_change ∈ TB := TB_in 893 (by decide +kernel) rfl
theorem tw_844 : Cond.code yX8_change cX8_change (5 : Nat) (Option.some Jvm.ClassFile.FieldType.int) ∈ TB := TB_in 894 (by decide +kernel) rfl
theorem tw_845 : Cond.methodLink RX8 (89 : Nat) yX8_one ∈ TB := TB_in 895 (by decide +kernel) rfl
theorem tw_847 : Cond.instanceMethod yX8_one ∈ TB := TB_in 897 (by decide +kernel) rfl
theorem tw_848 : Cond.code yX8_one cX8_one (3 : Nat) (Option.some Jvm.ClassFile.FieldType.int) ∈ TB := TB_in 898 (by decide +kernel) rfl
theorem tw_853 : Cond.methodLink RX8 (101 : Nat) yX8_isOne ∈ TB := TB_in 903 (by decide +kernel) rfl
theorem tw_855 : Cond.instanceMethod yX8_isOne ∈ TB := TB_in 905 (by decide +kernel) rfl
theorem tw_856 : Cond.code yX8_isOne cX8_isOne (2 : Nat) (Option.some Jvm.ClassFile.FieldType.boolean) ∈ TB := TB_in 906 (by decide +kernel) rfl
theorem tw_857 : Cond.methodLink RX8 (104 : Nat) yX8_share ∈ TB := TB_in 907 (by decide +kernel) rfl
theorem tw_859 : Cond.instanceMethod yX8_share ∈ TB := TB_in 909 (by decide +kernel) rfl
theorem tw_860 : Cond.code yX8_share cX8_share (5 : Nat) (Option.none : Option Jvm.ClassFile.FieldType) ∈ TB := TB_in 910 (by decide +kernel) rfl
theorem tw_861 : Cond.methodLink RX8 (179 : Nat) yX8_isHere ∈ TB := TB_in 911 (by decide +kernel) rfl
theorem tw_863 : Cond.instanceMethod yX8_isHere ∈ TB := TB_in 913 (by decide +kernel) rfl
theorem tw_864 : Cond.code yX8_isHere cX8_isHere (2 : Nat) (Option.some Jvm.ClassFile.FieldType.boolean) ∈ TB := TB_in 914 (by decide +kernel) rfl
theorem tw_865 : Cond.methodLink RX8 (111 : Nat) yX8_rate ∈ TB := TB_in 915 (by decide +kernel) rfl
theorem tw_867 : Cond.instanceMethod yX8_rate ∈ TB := TB_in 917 (by decide +kernel) rfl
theorem tw_868 : Cond.code yX8_rate cX8_rate (4 : Nat) (Option.some Jvm.ClassFile.FieldType.int) ∈ TB := TB_in 918 (by decide +kernel) rfl
theorem tw_869 : Cond.methodLink RX8 (175 : Nat) yX8_readFor ∈ TB := TB_in 919 (by decide +kernel) rfl
theorem tw_871 : Cond.instanceMethod yX8_readFor ∈ TB := TB_in 921 (by decide +kernel) rfl
theorem tw_872 : Cond.code yX8_readFor cX8_readFor (5 : Nat) (Option.none : Option Jvm.ClassFile.FieldType) ∈ TB := TB_in 922 (by decide +kernel) rfl
theorem tw_873 : Cond.methodLink RX8 (169 : Nat) yX8_readAll ∈ TB := TB_in 923 (by decide +kernel) rfl
theorem tw_875 : Cond.instanceMethod yX8_readAll ∈ TB := TB_in 925 (by decide +kernel) rfl
theorem tw_876 : Cond.code yX8_readAll cX8_readAll (2 : Nat) (Option.some Jvm.ClassFile.FieldType.boolean) ∈ TB := TB_in 926 (by decide +kernel) rfl
theorem tw_877 : Cond.methodLink RX8 (166 : Nat) yX8_clause ∈ TB := TB_in 927 (by decide +kernel) rfl
theorem tw_879 : Cond.instanceMethod yX8_clause ∈ TB := TB_in 929 (by decide +kernel) rfl
theorem tw_880 : Cond.code yX8_clause cX8_clause (4 : Nat) (Option.none : Option Jvm.ClassFile.FieldType) ∈ TB := TB_in 930 (by decide +kernel) rfl
theorem tw_881 : Cond.methodLink RX8 (130 : Nat) yX8_isAt ∈ TB := TB_in 931 (by decide +kernel) rfl
theorem tw_883 : Cond.instanceMethod yX8_isAt ∈ TB := TB_in 933 (by decide +kernel) rfl
theorem tw_884 : Cond.code yX8_isAt cX8_isAt (2 : Nat) (Option.some Jvm.ClassFile.FieldType.boolean) ∈ TB := TB_in 934 (by decide +kernel) rfl
theorem tw_885 : Cond.methodLink RX8 (137 : Nat) yX8_takes ∈ TB := TB_in 935 (by decide +kernel) rfl
theorem tw_887 : Cond.instanceMethod yX8_takes ∈ TB := TB_in 937 (by decide +kernel) rfl
theorem tw_888 : Cond.code yX8_takes cX8_takes (2 : Nat) (Option.none : Option Jvm.ClassFile.FieldType) ∈ TB := TB_in 938 (by decide +kernel) rfl
theorem tw_889 : Cond.methodLink RX8 (141 : Nat) yX8_number ∈ TB := TB_in 939 (by decide +kernel) rfl
theorem tw_891 : Cond.instanceMethod yX8_number ∈ TB := TB_in 941 (by decide +kernel) rfl
theorem tw_892 : Cond.code yX8_number cX8_number (2 : Nat) (Option.some Jvm.ClassFile.FieldType.int) ∈ TB := TB_in 942 (by decide +kernel) rfl
theorem tw_893 : Cond.methodLink RX8 (133 : Nat) yX8_isDigit ∈ TB := TB_in 943 (by decide +kernel) rfl
theorem tw_895 : Cond.instanceMethod yX8_isDigit ∈ TB := TB_in 945 (by decide +kernel) rfl
theorem tw_896 : Cond.code yX8_isDigit cX8_isDigit (1 : Nat) (Option.some Jvm.ClassFile.FieldType.boolean) ∈ TB := TB_in 946 (by decide +kernel) rfl
theorem tw_897 : Cond.methodLink RX8 (151 : Nat) yX8_any ∈ TB := TB_in 947 (by decide +kernel) rfl
theorem tw_899 : Cond.instanceMethod yX8_any ∈ TB := TB_in 949 (by decide +kernel) rfl
theorem tw_900 : Cond.code yX8_any cX8_any (3 : Nat) (Option.some Jvm.ClassFile.FieldType.boolean) ∈ TB := TB_in 950 (by decide +kernel) rfl
theorem tw_901 : Cond.methodLink RX8 (157 : Nat) yX8_both ∈ TB := TB_in 951 (by decide +kernel) rfl
theorem tw_903 : Cond.instanceMethod yX8_both ∈ TB := TB_in 953 (by decide +kernel) rfl
theorem tw_904 : Cond.code yX8_both cX8_both (3 : Nat) (Option.some Jvm.ClassFile.FieldType.boolean) ∈ TB := TB_in 954 (by decide +kernel) rfl
theorem tw_905 : Cond.methodLink RX8 (148 : Nat) yX8_factor ∈ TB := TB_in 955 (by decide +kernel) rfl
theorem tw_907 : Cond.instanceMethod yX8_factor ∈ TB := TB_in 957 (by decide +kernel) rfl
theorem tw_908 : Cond.code yX8_factor cX8_factor (2 : Nat) (Option.some Jvm.ClassFile.FieldType.boolean) ∈ TB := TB_in 958 (by decide +kernel) rfl
theorem tw_909 : Cond.methodLink RX8 (154 : Nat) yX8_test ∈ TB := TB_in 959 (by decide +kernel) rfl
theorem tw_911 : Cond.instanceMethod yX8_test ∈ TB := TB_in 961 (by decide +kernel) rfl
theorem tw_912 : Cond.code yX8_test cX8_test (4 : Nat) (Option.some Jvm.ClassFile.FieldType.boolean) ∈ TB := TB_in 962 (by decide +kernel) rfl
theorem tw_914 : Cond.methodLink RX8 (107 : Nat) yX8_best ∈ TB := TB_in 964 (by decide +kernel) rfl
theorem tw_916 : Cond.instanceMethod yX8_best ∈ TB := TB_in 966 (by decide +kernel) rfl
theorem tw_917 : Cond.code yX8_best cX8_best (6 : Nat) (Option.some Jvm.ClassFile.FieldType.int) ∈ TB := TB_in 967 (by decide +kernel) rfl
theorem tw_918 : Cond.methodLink RX8 (114 : Nat) yX8_worth ∈ TB := TB_in 968 (by decide +kernel) rfl
theorem tw_920 : Cond.instanceMethod yX8_worth ∈ TB := TB_in 970 (by decide +kernel) rfl
theorem tw_921 : Cond.code yX8_worth cX8_worth (5 : Nat) (Option.some Jvm.ClassFile.FieldType.int) ∈ TB := TB_in 971 (by decide +kernel) rfl
theorem tw_950 : Cond.methodLink RX8 (204 : Nat) yX8_aways ∈ TB := TB_in 1000 (by decide +kernel) rfl
theorem tw_952 : Cond.instanceMethod yX8_aways ∈ TB := TB_in 1002 (by decide +kernel) rfl
theorem tw_953 : Cond.code yX8_aways cX8_aways (3 : Nat) (Option.some Jvm.ClassFile.FieldType.int) ∈ TB := TB_in 1003 (by decide +kernel) rfl
theorem tw_954 : Cond.methodLink RX8 (207 : Nat) yX8_still ∈ TB := TB_in 1004 (by decide +kernel) rfl
theorem tw_956 : Cond.instanceMethod yX8_still ∈ TB := TB_in 1006 (by decide +kernel) rfl
theorem tw_957 : Cond.code yX8_still cX8_still (3 : Nat) (Option.some Jvm.ClassFile.FieldType.int) ∈ TB := TB_in 1007 (by decide +kernel) rfl
theorem tw_958 : Cond.methodLink RX8 (194 : Nat) yX8_keep ∈ TB := TB_in 1008 (by decide +kernel) rfl
theorem tw_960 : Cond.instanceMethod yX8_keep ∈ TB := TB_in 1010 (by decide +kernel) rfl
theorem tw_961 : Cond.code yX8_keep cX8_keep (3 : Nat) (Option.none : Option Jvm.ClassFile.FieldType) ∈ TB := TB_in 1011 (by decide +kernel) rfl
theorem tw_962 : Cond.methodLink RX8 (197 : Nat) yX8_day ∈ TB := TB_in 1012 (by decide +kernel) rfl
theorem tw_964 : Cond.instanceMethod yX8_day ∈ TB := TB_in 1014 (by decide +kernel) rfl
theorem tw_965 : Cond.code yX8_day cX8_day (5 : Nat) (Option.some Jvm.ClassFile.FieldType.int) ∈ TB := TB_in 1015 (by decide +kernel) rfl
theorem tw_966 : Cond.methodLink RX8 (187 : Nat) yX8_moves ∈ TB := TB_in 1016 (by decide +kernel) rfl
theorem tw_968 : Cond.instanceMethod yX8_moves ∈ TB := TB_in 1018 (by decide +kernel) rfl
theorem tw_969 : Cond.code yX8_moves cX8_moves (4 : Nat) (Option.some Jvm.ClassFile.FieldType.int) ∈ TB := TB_in 1019 (by decide +kernel) rfl
theorem tw_970 : Cond.constant RX8 (190 : Nat) (999999 : Int32) ∈ TB := TB_in 1020 (by decide +kernel) rfl
theorem tw_972 : Cond.methodLink RX8 (201 : Nat) yX8_lay ∈ TB := TB_in 1022 (by decide +kernel) rfl
theorem tw_974 : Cond.instanceMethod yX8_lay ∈ TB := TB_in 1024 (by decide +kernel) rfl
theorem tw_975 : Cond.code yX8_lay cX8_lay (3 : Nat) (Option.none : Option Jvm.ClassFile.FieldType) ∈ TB := TB_in 1025 (by decide +kernel) rfl
theorem tw_976 : Cond.methodLink RX8 (210 : Nat) yX8_gains ∈ TB := TB_in 1026 (by decide +kernel) rfl
theorem tw_978 : Cond.instanceMethod yX8_gains ∈ TB := TB_in 1028 (by decide +kernel) rfl
theorem tw_979 : Cond.code yX8_gains cX8_gains (3 : Nat) (Option.some Jvm.ClassFile.FieldType.int) ∈ TB := TB_in 1029 (by decide +kernel) rfl
theorem tw_980 : Cond.methodLink RX8 (213 : Nat) yX8_owed ∈ TB := TB_in 1030 (by decide +kernel) rfl
theorem tw_982 : Cond.instanceMethod yX8_owed ∈ TB := TB_in 1032 (by decide +kernel) rfl
theorem tw_983 : Cond.code yX8_owed cX8_owed (7 : Nat) (Option.some Jvm.ClassFile.FieldType.int) ∈ TB := TB_in 1033 (by decide +kernel) rfl
theorem tw_984 : Cond.methodLink RX8 (219 : Nat) yX8_isAllSeen ∈ TB := TB_in 1034 (by decide +kernel) rfl
theorem tw_986 : Cond.instanceMethod yX8_isAllSeen ∈ TB := TB_in 1036 (by decide +kernel) rfl
theorem tw_987 : Cond.code yX8_isAllSeen cX8_isAllSeen (4 : Nat) (Option.some Jvm.ClassFile.FieldType.boolean) ∈ TB := TB_in 1037 (by decide +kernel) rfl
theorem tw_1000 : Cond.methodLink RX8 (216 : Nat) yX8_many ∈ TB := TB_in 1050 (by decide +kernel) rfl
theorem tw_1001 : Cond.static yX8_many ∈ TB := TB_in 1051 (by decide +kernel) rfl
theorem tw_1002 : Cond.code yX8_many cX8_many (3 : Nat) (Option.some Jvm.ClassFile.FieldType.int) ∈ TB := TB_in 1052 (by decide +kernel) rfl
theorem tw_1015 : Cond.constantLong RX8 (222 : Nat) (-9223372036854775808 : Int64) ∈ TB := TB_in 1065 (by decide +kernel) rfl
theorem tw_1016 : Cond.methodLink RX8 (224 : Nat) yX8_fraction ∈ TB := TB_in 1066 (by decide +kernel) rfl
theorem tw_1017 : Cond.static yX8_fraction ∈ TB := TB_in 1067 (by decide +kernel) rfl
theorem tw_1018 : Cond.code yX8_fraction cX8_fraction (11 : Nat) (Option.some Jvm.ClassFile.FieldType.long) ∈ TB := TB_in 1068 (by decide +kernel) rfl
theorem tw_1043 : Cond.methodLink RX8 (238 : Nat) yX8_all ∈ TB := TB_in 1093 (by decide +kernel) rfl
theorem tw_1045 : Cond.instanceMethod yX8_all ∈ TB := TB_in 1095 (by decide +kernel) rfl
theorem tw_1046 : Cond.code yX8_all cX8_all (4 : Nat) (Option.some Jvm.ClassFile.FieldType.int) ∈ TB := TB_in 1096 (by decide +kernel) rfl
theorem tw_1047 : Cond.methodLink RX8 (231 : Nat) yX8_byKind ∈ TB := TB_in 1097 (by decide +kernel) rfl
theorem tw_1049 : Cond.instanceMethod yX8_byKind ∈ TB := TB_in 1099 (by decide +kernel) rfl
theorem tw_1050 : Cond.code yX8_byKind cX8_byKind (7 : Nat) (Option.some Jvm.ClassFile.FieldType.int) ∈ TB := TB_in 1100 (by decide +kernel) rfl
theorem tw_1051 : Cond.methodLink RX8 (235 : Nat) yX8_body ∈ TB := TB_in 1101 (by decide +kernel) rfl
theorem tw_1053 : Cond.instanceMethod yX8_body ∈ TB := TB_in 1103 (by decide +kernel) rfl
theorem tw_1054 : Cond.code yX8_body cX8_body (2 : Nat) (Option.some Jvm.ClassFile.FieldType.int) ∈ TB := TB_in 1104 (by decide +kernel) rfl
theorem tw_1071 : Cond.methodLink RX8 (241 : Nat) yX8_isTape ∈ TB := TB_in 1121 (by decide +kernel) rfl
theorem tw_1072 : Cond.static yX8_isTape ∈ TB := TB_in 1122 (by decide +kernel) rfl
theorem tw_1073 : Cond.code yX8_isTape cX8_isTape (1 : Nat) (Option.some Jvm.ClassFile.FieldType.boolean) ∈ TB := TB_in 1123 (by decide +kernel) rfl
theorem tw_1091 : Cond.fieldLink RJ0 (9 : Nat) RJ0 "value" "[B" ∈ TB := TB_in 1141 (by decide +kernel) rfl
theorem tw_1092 : Cond.fieldLink RJ0 (15 : Nat) RJ0 "coder" "B" ∈ TB := TB_in 1142 (by decide +kernel) rfl
theorem ts_0 : Cond.selects RX7 yX7_reckonedOf yX7_reckonedOf ∈ TB := TB_in 0 (by decide +kernel) rfl
theorem ts_1 : Cond.selects RX7 yX7_held yX7_held ∈ TB := TB_in 1 (by decide +kernel) rfl
theorem ts_2 : Cond.selects RX7 yX7_parishAt yX7_parishAt ∈ TB := TB_in 2 (by decide +kernel) rfl
theorem ts_3 : Cond.selects RX2 yX2_holdsFrom yX2_holdsFrom ∈ TB := TB_in 3 (by decide +kernel) rfl
theorem ts_4 : Cond.selects RX4 yX4_pays yX4_pays ∈ TB := TB_in 4 (by decide +kernel) rfl
theorem ts_5 : Cond.selects RX3 yX3_advance yX3_advance ∈ TB := TB_in 5 (by decide +kernel) rfl
theorem ts_6 : Cond.selects RX3 yX3_readClause yX3_readClause ∈ TB := TB_in 6 (by decide +kernel) rfl
theorem ts_7 : Cond.selects RX3 yX3_readWord yX3_readWord ∈ TB := TB_in 7 (by decide +kernel) rfl
theorem ts_8 : Cond.selects RX3 yX3_readNumber yX3_readNumber ∈ TB := TB_in 8 (by decide +kernel) rfl
theorem ts_9 : Cond.selects RX3 yX3_readEither yX3_readEither ∈ TB := TB_in 9 (by decide +kernel) rfl
theorem ts_10 : Cond.selects RX3 yX3_readPart yX3_readPart ∈ TB := TB_in 10 (by decide +kernel) rfl
theorem ts_11 : Cond.selects RX3 yX3_readTest yX3_readTest ∈ TB := TB_in 11 (by decide +kernel) rfl
theorem ts_12 : Cond.selects RX7 yX7_still yX7_still ∈ TB := TB_in 12 (by decide +kernel) rfl
theorem ts_13 : Cond.selects RX7 yX7_gains yX7_gains ∈ TB := TB_in 13 (by decide +kernel) rfl
theorem ts_14 : Cond.selects RX7 yX7_owed yX7_owed ∈ TB := TB_in 14 (by decide +kernel) rfl
theorem ts_15 : Cond.selects RX7 yX7_goStep yX7_goStep ∈ TB := TB_in 15 (by decide +kernel) rfl
theorem ts_16 : Cond.selects RX7 yX7_tapeAt yX7_tapeAt ∈ TB := TB_in 16 (by decide +kernel) rfl
theorem ts_17 : Cond.selects RX0 yX0_run yX0_run ∈ TB := TB_in 17 (by decide +kernel) rfl
theorem ts_18 : Cond.selects RX6 yX6_fitted yX6_fitted ∈ TB := TB_in 18 (by decide +kernel) rfl
theorem ts_19 : Cond.selects RX8 yX8_change yX8_change ∈ TB := TB_in 19 (by decide +kernel) rfl
theorem ts_20 : Cond.selects RX8 yX8_one yX8_one ∈ TB := TB_in 20 (by decide +kernel) rfl
theorem ts_21 : Cond.selects RX8 yX8_isOne yX8_isOne ∈ TB := TB_in 21 (by decide +kernel) rfl
theorem ts_22 : Cond.selects RX8 yX8_share yX8_share ∈ TB := TB_in 22 (by decide +kernel) rfl
theorem ts_23 : Cond.selects RX8 yX8_isHere yX8_isHere ∈ TB := TB_in 23 (by decide +kernel) rfl
theorem ts_24 : Cond.selects RX8 yX8_rate yX8_rate ∈ TB := TB_in 24 (by decide +kernel) rfl
theorem ts_25 : Cond.selects RX8 yX8_readFor yX8_readFor ∈ TB := TB_in 25 (by decide +kernel) rfl
theorem ts_26 : Cond.selects RX8 yX8_readAll yX8_readAll ∈ TB := TB_in 26 (by decide +kernel) rfl
theorem ts_27 : Cond.selects RX8 yX8_clause yX8_clause ∈ TB := TB_in 27 (by decide +kernel) rfl
theorem ts_28 : Cond.selects RX8 yX8_isAt yX8_isAt ∈ TB := TB_in 28 (by decide +kernel) rfl
theorem ts_29 : Cond.selects RX8 yX8_takes yX8_takes ∈ TB := TB_in 29 (by decide +kernel) rfl
theorem ts_30 : Cond.selects RX8 yX8_number yX8_number ∈ TB := TB_in 30 (by decide +kernel) rfl
theorem ts_31 : Cond.selects RX8 yX8_isDigit yX8_isDigit ∈ TB := TB_in 31 (by decide +kernel) rfl
theorem ts_32 : Cond.selects RX8 yX8_any yX8_any ∈ TB := TB_in 32 (by decide +kernel) rfl
theorem ts_33 : Cond.selects RX8 yX8_both yX8_both ∈ TB := TB_in 33 (by decide +kernel) rfl
theorem ts_34 : Cond.selects RX8 yX8_factor yX8_factor ∈ TB := TB_in 34 (by decide +kernel) rfl
theorem ts_35 : Cond.selects RX8 yX8_test yX8_test ∈ TB := TB_in 35 (by decide +kernel) rfl
theorem ts_36 : Cond.selects RX8 yX8_best yX8_best ∈ TB := TB_in 36 (by decide +kernel) rfl
theorem ts_37 : Cond.selects RX8 yX8_worth yX8_worth ∈ TB := TB_in 37 (by decide +kernel) rfl
theorem ts_38 : Cond.selects RX8 yX8_aways yX8_aways ∈ TB := TB_in 38 (by decide +kernel) rfl
theorem ts_39 : Cond.selects RX8 yX8_still yX8_still ∈ TB := TB_in 39 (by decide +kernel) rfl
theorem ts_40 : Cond.selects RX8 yX8_keep yX8_keep ∈ TB := TB_in 40 (by decide +kernel) rfl
theorem ts_41 : Cond.selects RX8 yX8_day yX8_day ∈ TB := TB_in 41 (by decide +kernel) rfl
theorem ts_42 : Cond.selects RX8 yX8_moves yX8_moves ∈ TB := TB_in 42 (by decide +kernel) rfl
theorem ts_43 : Cond.selects RX8 yX8_lay yX8_lay ∈ TB := TB_in 43 (by decide +kernel) rfl
theorem ts_44 : Cond.selects RX8 yX8_gains yX8_gains ∈ TB := TB_in 44 (by decide +kernel) rfl
theorem ts_45 : Cond.selects RX8 yX8_owed yX8_owed ∈ TB := TB_in 45 (by decide +kernel) rfl
theorem ts_46 : Cond.selects RX8 yX8_isAllSeen yX8_isAllSeen ∈ TB := TB_in 46 (by decide +kernel) rfl
theorem ts_47 : Cond.selects RX8 yX8_all yX8_all ∈ TB := TB_in 47 (by decide +kernel) rfl
theorem ts_48 : Cond.selects RX8 yX8_byKind yX8_byKind ∈ TB := TB_in 48 (by decide +kernel) rfl
theorem ts_49 : Cond.selects RX8 yX8_body yX8_body ∈ TB := TB_in 49 (by decide +kernel) rfl
theorem TBi_X0 : ∀ q ∈ u_ws RX0 TX0 5, q ∈ TB := by decide +kernel
theorem TBi_X1 : ∀ q ∈ u_ws RX1 TX1 4, q ∈ TB := by decide +kernel
theorem TBi_X2 : ∀ q ∈ u_ws RX2 TX2 8, q ∈ TB := by decide +kernel
theorem TBi_X3 : ∀ q ∈ u_ws RX3 TX3 6, q ∈ TB := by decide +kernel
theorem TBi_X4 : ∀ q ∈ u_ws RX4 TX4 3, q ∈ TB := by decide +kernel
theorem TBi_X5 : ∀ q ∈ u_ws RX5 TX5 14, q ∈ TB := by decide +kernel
theorem TBi_X6 : ∀ q ∈ u_ws RX6 TX6 3, q ∈ TB := by decide +kernel
theorem TBi_X7 : ∀ q ∈ u_ws RX7 TX7 11, q ∈ TB := by decide +kernel
theorem TBi_X8 : ∀ q ∈ u_ws RX8 TX8 31, q ∈ TB := by decide +kernel
theorem tm_359 : Cond.methodLink RX4 67 Lib.Math.max.name ∈ TB := TB_in 409 (by decide +kernel) rfl
theorem tm_360 : Cond.static Lib.Math.max.name ∈ TB := TB_in 410 (by decide +kernel) rfl
theorem tm_361 : Cond.code Lib.Math.max.name Lib.Math.max.code 2 (some .int) ∈ TB := TB_in 411 (by decide +kernel) rfl
theorem tm_524 : Cond.methodLink RX7 271 Lib.Math.min.name ∈ TB := TB_in 574 (by decide +kernel) rfl
theorem tm_38 : Cond.static Lib.Math.min.name ∈ TB := TB_in 88 (by decide +kernel) rfl
theorem tm_39 : Cond.code Lib.Math.min.name Lib.Math.min.code 2 (some .int) ∈ TB := TB_in 89 (by decide +kernel) rfl
theorem tm_542 : Cond.methodLink RX4 114 Lib.Math.min.name ∈ TB := TB_in 592 (by decide +kernel) rfl
theorem tm_694 : Cond.methodLink RX6 19 Lib.Math.min.name ∈ TB := TB_in 744 (by decide +kernel) rfl
theorem tm_913 : Cond.methodLink RX8 182 Lib.Math.max.name ∈ TB := TB_in 963 (by decide +kernel) rfl
theorem tm_971 : Cond.methodLink RX8 191 Lib.Math.min.name ∈ TB := TB_in 1021 (by decide +kernel) rfl
theorem hs_X7_put : yX7_put.cls ≠ "java/lang/invoke/MethodHandle" ∧ yX7_put.cls ≠ "java/lang/invoke/VarHandle" ∧ (parseMethodDescriptor yX7_put.desc).map (fun d => d.parameters.length) = some 3 := by decide +kernel
theorem hs_X7_within : yX7_within.cls ≠ "java/lang/invoke/MethodHandle" ∧ yX7_within.cls ≠ "java/lang/invoke/VarHandle" ∧ (parseMethodDescriptor yX7_within.desc).map (fun d => d.parameters.length) = some 2 := by decide +kernel
theorem hv_X5_add : yX5_add.cls = RX5 ∧ yX5_add.cls ≠ "java/lang/invoke/MethodHandle" ∧ yX5_add.cls ≠ "java/lang/invoke/VarHandle" ∧ (parseMethodDescriptor yX5_add.desc).map (fun d => d.parameters.length) = some 4 := by decide +kernel
theorem hv_X7_parishAt : yX7_parishAt.cls = RX7 ∧ yX7_parishAt.cls ≠ "java/lang/invoke/MethodHandle" ∧ yX7_parishAt.cls ≠ "java/lang/invoke/VarHandle" ∧ (parseMethodDescriptor yX7_parishAt.desc).map (fun d => d.parameters.length) = some 1 := by decide +kernel
theorem hs_X7_at : yX7_at.cls ≠ "java/lang/invoke/MethodHandle" ∧ yX7_at.cls ≠ "java/lang/invoke/VarHandle" ∧ (parseMethodDescriptor yX7_at.desc).map (fun d => d.parameters.length) = some 2 := by decide +kernel
theorem hs_X2_passes : yX2_passes.cls ≠ "java/lang/invoke/MethodHandle" ∧ yX2_passes.cls ≠ "java/lang/invoke/VarHandle" ∧ (parseMethodDescriptor yX2_passes.desc).map (fun d => d.parameters.length) = some 3 := by decide +kernel
theorem hv_X2_holdsFrom : yX2_holdsFrom.cls = RX2 ∧ yX2_holdsFrom.cls ≠ "java/lang/invoke/MethodHandle" ∧ yX2_holdsFrom.cls ≠ "java/lang/invoke/VarHandle" ∧ (parseMethodDescriptor yX2_holdsFrom.desc).map (fun d => d.parameters.length) = some 3 := by decide +kernel
theorem hv_X2_sumOf : yX2_sumOf.cls = RX2 ∧ yX2_sumOf.cls ≠ "java/lang/invoke/MethodHandle" ∧ yX2_sumOf.cls ≠ "java/lang/invoke/VarHandle" ∧ (parseMethodDescriptor yX2_sumOf.desc).map (fun d => d.parameters.length) = some 1 := by decide +kernel
theorem hs_X4_rateBySum : yX4_rateBySum.cls ≠ "java/lang/invoke/MethodHandle" ∧ yX4_rateBySum.cls ≠ "java/lang/invoke/VarHandle" ∧ (parseMethodDescriptor yX4_rateBySum.desc).map (fun d => d.parameters.length) = some 4 := by decide +kernel
theorem hv_X4_pays : yX4_pays.cls = RX4 ∧ yX4_pays.cls ≠ "java/lang/invoke/MethodHandle" ∧ yX4_pays.cls ≠ "java/lang/invoke/VarHandle" ∧ (parseMethodDescriptor yX4_pays.desc).map (fun d => d.parameters.length) = some 5 := by decide +kernel
theorem hv_X4_worth : yX4_worth.cls = RX4 ∧ yX4_worth.cls ≠ "java/lang/invoke/MethodHandle" ∧ yX4_worth.cls ≠ "java/lang/invoke/VarHandle" ∧ (parseMethodDescriptor yX4_worth.desc).map (fun d => d.parameters.length) = some 3 := by decide +kernel
theorem hv_X7_held : yX7_held.cls = RX7 ∧ yX7_held.cls ≠ "java/lang/invoke/MethodHandle" ∧ yX7_held.cls ≠ "java/lang/invoke/VarHandle" ∧ (parseMethodDescriptor yX7_held.desc).map (fun d => d.parameters.length) = some 0 := by decide +kernel
theorem hv_X4_look : yX4_look.cls = RX4 ∧ yX4_look.cls ≠ "java/lang/invoke/MethodHandle" ∧ yX4_look.cls ≠ "java/lang/invoke/VarHandle" ∧ (parseMethodDescriptor yX4_look.desc).map (fun d => d.parameters.length) = some 2 := by decide +kernel
theorem hv_X4_rate : yX4_rate.cls = RX4 ∧ yX4_rate.cls ≠ "java/lang/invoke/MethodHandle" ∧ yX4_rate.cls ≠ "java/lang/invoke/VarHandle" ∧ (parseMethodDescriptor yX4_rate.desc).map (fun d => d.parameters.length) = some 2 := by decide +kernel
theorem hv_X4_best : yX4_best.cls = RX4 ∧ yX4_best.cls ≠ "java/lang/invoke/MethodHandle" ∧ yX4_best.cls ≠ "java/lang/invoke/VarHandle" ∧ (parseMethodDescriptor yX4_best.desc).map (fun d => d.parameters.length) = some 2 := by decide +kernel
theorem hv_X4_share : yX4_share.cls = RX4 ∧ yX4_share.cls ≠ "java/lang/invoke/MethodHandle" ∧ yX4_share.cls ≠ "java/lang/invoke/VarHandle" ∧ (parseMethodDescriptor yX4_share.desc).map (fun d => d.parameters.length) = some 4 := by decide +kernel
theorem hv_X5_has : yX5_has.cls = RX5 ∧ yX5_has.cls ≠ "java/lang/invoke/MethodHandle" ∧ yX5_has.cls ≠ "java/lang/invoke/VarHandle" ∧ (parseMethodDescriptor yX5_has.desc).map (fun d => d.parameters.length) = some 1 := by decide +kernel
theorem hv_X5_isAway : yX5_isAway.cls = RX5 ∧ yX5_isAway.cls ≠ "java/lang/invoke/MethodHandle" ∧ yX5_isAway.cls ≠ "java/lang/invoke/VarHandle" ∧ (parseMethodDescriptor yX5_isAway.desc).map (fun d => d.parameters.length) = some 1 := by decide +kernel
theorem hv_X7_reckonedOf : yX7_reckonedOf.cls = RX7 ∧ yX7_reckonedOf.cls ≠ "java/lang/invoke/MethodHandle" ∧ yX7_reckonedOf.cls ≠ "java/lang/invoke/VarHandle" ∧ (parseMethodDescriptor yX7_reckonedOf.desc).map (fun d => d.parameters.length) = some 2 := by decide +kernel
theorem hv_X5_send : yX5_send.cls = RX5 ∧ yX5_send.cls ≠ "java/lang/invoke/MethodHandle" ∧ yX5_send.cls ≠ "java/lang/invoke/VarHandle" ∧ (parseMethodDescriptor yX5_send.desc).map (fun d => d.parameters.length) = some 2 := by decide +kernel
theorem hv_X3_append : yX3_append.cls = RX3 ∧ yX3_append.cls ≠ "java/lang/invoke/MethodHandle" ∧ yX3_append.cls ≠ "java/lang/invoke/VarHandle" ∧ (parseMethodDescriptor yX3_append.desc).map (fun d => d.parameters.length) = some 1 := by decide +kernel
theorem hv_J0_coder_7d493 : yJ0_coder_7d493.cls = RJ0 ∧ yJ0_coder_7d493.cls ≠ "java/lang/invoke/MethodHandle" ∧ yJ0_coder_7d493.cls ≠ "java/lang/invoke/VarHandle" ∧ (parseMethodDescriptor yJ0_coder_7d493.desc).map (fun d => d.parameters.length) = some 0 := by decide +kernel
theorem hs_J3_checkIndex_8e157 : yJ3_checkIndex_8e157.cls ≠ "java/lang/invoke/MethodHandle" ∧ yJ3_checkIndex_8e157.cls ≠ "java/lang/invoke/VarHandle" ∧ (parseMethodDescriptor yJ3_checkIndex_8e157.desc).map (fun d => d.parameters.length) = some 3 := by decide +kernel
theorem hs_J0_checkIndex_df160 : yJ0_checkIndex_df160.cls ≠ "java/lang/invoke/MethodHandle" ∧ yJ0_checkIndex_df160.cls ≠ "java/lang/invoke/VarHandle" ∧ (parseMethodDescriptor yJ0_checkIndex_df160.desc).map (fun d => d.parameters.length) = some 2 := by decide +kernel
theorem hv_J0_isLatin1_aae02 : yJ0_isLatin1_aae02.cls = RJ0 ∧ yJ0_isLatin1_aae02.cls ≠ "java/lang/invoke/MethodHandle" ∧ yJ0_isLatin1_aae02.cls ≠ "java/lang/invoke/VarHandle" ∧ (parseMethodDescriptor yJ0_isLatin1_aae02.desc).map (fun d => d.parameters.length) = some 0 := by decide +kernel
theorem hs_J1_charAt_3b067 : yJ1_charAt_3b067.cls ≠ "java/lang/invoke/MethodHandle" ∧ yJ1_charAt_3b067.cls ≠ "java/lang/invoke/VarHandle" ∧ (parseMethodDescriptor yJ1_charAt_3b067.desc).map (fun d => d.parameters.length) = some 2 := by decide +kernel
theorem hv_J0_length_8abf5 : yJ0_length_8abf5.cls = RJ0 ∧ yJ0_length_8abf5.cls ≠ "java/lang/invoke/MethodHandle" ∧ yJ0_length_8abf5.cls ≠ "java/lang/invoke/VarHandle" ∧ (parseMethodDescriptor yJ0_length_8abf5.desc).map (fun d => d.parameters.length) = some 0 := by decide +kernel
theorem hv_J0_charAt_5068e : yJ0_charAt_5068e.cls = RJ0 ∧ yJ0_charAt_5068e.cls ≠ "java/lang/invoke/MethodHandle" ∧ yJ0_charAt_5068e.cls ≠ "java/lang/invoke/VarHandle" ∧ (parseMethodDescriptor yJ0_charAt_5068e.desc).map (fun d => d.parameters.length) = some 1 := by decide +kernel
theorem hv_X3_advance : yX3_advance.cls = RX3 ∧ yX3_advance.cls ≠ "java/lang/invoke/MethodHandle" ∧ yX3_advance.cls ≠ "java/lang/invoke/VarHandle" ∧ (parseMethodDescriptor yX3_advance.desc).map (fun d => d.parameters.length) = some 0 := by decide +kernel
theorem hs_X3_whatOf : yX3_whatOf.cls ≠ "java/lang/invoke/MethodHandle" ∧ yX3_whatOf.cls ≠ "java/lang/invoke/VarHandle" ∧ (parseMethodDescriptor yX3_whatOf.desc).map (fun d => d.parameters.length) = some 1 := by decide +kernel
theorem hv_X3_readNumber : yX3_readNumber.cls = RX3 ∧ yX3_readNumber.cls ≠ "java/lang/invoke/MethodHandle" ∧ yX3_readNumber.cls ≠ "java/lang/invoke/VarHandle" ∧ (parseMethodDescriptor yX3_readNumber.desc).map (fun d => d.parameters.length) = some 0 := by decide +kernel
theorem hv_X2_addStep : yX2_addStep.cls = RX2 ∧ yX2_addStep.cls ≠ "java/lang/invoke/MethodHandle" ∧ yX2_addStep.cls ≠ "java/lang/invoke/VarHandle" ∧ (parseMethodDescriptor yX2_addStep.desc).map (fun d => d.parameters.length) = some 3 := by decide +kernel
theorem hv_X3_readPart : yX3_readPart.cls = RX3 ∧ yX3_readPart.cls ≠ "java/lang/invoke/MethodHandle" ∧ yX3_readPart.cls ≠ "java/lang/invoke/VarHandle" ∧ (parseMethodDescriptor yX3_readPart.desc).map (fun d => d.parameters.length) = some 1 := by decide +kernel
theorem hv_X3_readTest : yX3_readTest.cls = RX3 ∧ yX3_readTest.cls ≠ "java/lang/invoke/MethodHandle" ∧ yX3_readTest.cls ≠ "java/lang/invoke/VarHandle" ∧ (parseMethodDescriptor yX3_readTest.desc).map (fun d => d.parameters.length) = some 0 := by decide +kernel
theorem hv_X3_readEither : yX3_readEither.cls = RX3 ∧ yX3_readEither.cls ≠ "java/lang/invoke/MethodHandle" ∧ yX3_readEither.cls ≠ "java/lang/invoke/VarHandle" ∧ (parseMethodDescriptor yX3_readEither.desc).map (fun d => d.parameters.length) = some 1 := by decide +kernel
theorem hv_X3_readWord : yX3_readWord.cls = RX3 ∧ yX3_readWord.cls ≠ "java/lang/invoke/MethodHandle" ∧ yX3_readWord.cls ≠ "java/lang/invoke/VarHandle" ∧ (parseMethodDescriptor yX3_readWord.desc).map (fun d => d.parameters.length) = some 1 := by decide +kernel
theorem hv_X2_endClause : yX2_endClause.cls = RX2 ∧ yX2_endClause.cls ≠ "java/lang/invoke/MethodHandle" ∧ yX2_endClause.cls ≠ "java/lang/invoke/VarHandle" ∧ (parseMethodDescriptor yX2_endClause.desc).map (fun d => d.parameters.length) = some 1 := by decide +kernel
theorem hv_X2_clear : yX2_clear.cls = RX2 ∧ yX2_clear.cls ≠ "java/lang/invoke/MethodHandle" ∧ yX2_clear.cls ≠ "java/lang/invoke/VarHandle" ∧ (parseMethodDescriptor yX2_clear.desc).map (fun d => d.parameters.length) = some 0 := by decide +kernel
theorem hv_X3_readClause : yX3_readClause.cls = RX3 ∧ yX3_readClause.cls ≠ "java/lang/invoke/MethodHandle" ∧ yX3_readClause.cls ≠ "java/lang/invoke/VarHandle" ∧ (parseMethodDescriptor yX3_readClause.desc).map (fun d => d.parameters.length) = some 0 := by decide +kernel
theorem hv_X3_readAll : yX3_readAll.cls = RX3 ∧ yX3_readAll.cls ≠ "java/lang/invoke/MethodHandle" ∧ yX3_readAll.cls ≠ "java/lang/invoke/VarHandle" ∧ (parseMethodDescriptor yX3_readAll.desc).map (fun d => d.parameters.length) = some 1 := by decide +kernel
theorem hs_X7_copyRow : yX7_copyRow.cls ≠ "java/lang/invoke/MethodHandle" ∧ yX7_copyRow.cls ≠ "java/lang/invoke/VarHandle" ∧ (parseMethodDescriptor yX7_copyRow.desc).map (fun d => d.parameters.length) = some 2 := by decide +kernel
theorem hv_X1_takeAfter : yX1_takeAfter.cls = RX1 ∧ yX1_takeAfter.cls ≠ "java/lang/invoke/MethodHandle" ∧ yX1_takeAfter.cls ≠ "java/lang/invoke/VarHandle" ∧ (parseMethodDescriptor yX1_takeAfter.desc).map (fun d => d.parameters.length) = some 1 := by decide +kernel
theorem hv_X5_takeAfter : yX5_takeAfter.cls = RX5 ∧ yX5_takeAfter.cls ≠ "java/lang/invoke/MethodHandle" ∧ yX5_takeAfter.cls ≠ "java/lang/invoke/VarHandle" ∧ (parseMethodDescriptor yX5_takeAfter.desc).map (fun d => d.parameters.length) = some 1 := by decide +kernel
theorem hv_X4_goDay : yX4_goDay.cls = RX4 ∧ yX4_goDay.cls ≠ "java/lang/invoke/MethodHandle" ∧ yX4_goDay.cls ≠ "java/lang/invoke/VarHandle" ∧ (parseMethodDescriptor yX4_goDay.desc).map (fun d => d.parameters.length) = some 3 := by decide +kernel
theorem hv_X4_fits : yX4_fits.cls = RX4 ∧ yX4_fits.cls ≠ "java/lang/invoke/MethodHandle" ∧ yX4_fits.cls ≠ "java/lang/invoke/VarHandle" ∧ (parseMethodDescriptor yX4_fits.desc).map (fun d => d.parameters.length) = some 2 := by decide +kernel
theorem hv_X7_still : yX7_still.cls = RX7 ∧ yX7_still.cls ≠ "java/lang/invoke/MethodHandle" ∧ yX7_still.cls ≠ "java/lang/invoke/VarHandle" ∧ (parseMethodDescriptor yX7_still.desc).map (fun d => d.parameters.length) = some 0 := by decide +kernel
theorem hv_X7_gains : yX7_gains.cls = RX7 ∧ yX7_gains.cls ≠ "java/lang/invoke/MethodHandle" ∧ yX7_gains.cls ≠ "java/lang/invoke/VarHandle" ∧ (parseMethodDescriptor yX7_gains.desc).map (fun d => d.parameters.length) = some 0 := by decide +kernel
theorem hv_X7_owed : yX7_owed.cls = RX7 ∧ yX7_owed.cls ≠ "java/lang/invoke/MethodHandle" ∧ yX7_owed.cls ≠ "java/lang/invoke/VarHandle" ∧ (parseMethodDescriptor yX7_owed.desc).map (fun d => d.parameters.length) = some 1 := by decide +kernel
theorem hs_J6_bitCount_0f7a4 : yJ6_bitCount_0f7a4.cls ≠ "java/lang/invoke/MethodHandle" ∧ yJ6_bitCount_0f7a4.cls ≠ "java/lang/invoke/VarHandle" ∧ (parseMethodDescriptor yJ6_bitCount_0f7a4.desc).map (fun d => d.parameters.length) = some 1 := by decide +kernel
theorem hv_X1_add : yX1_add.cls = RX1 ∧ yX1_add.cls ≠ "java/lang/invoke/MethodHandle" ∧ yX1_add.cls ≠ "java/lang/invoke/VarHandle" ∧ (parseMethodDescriptor yX1_add.desc).map (fun d => d.parameters.length) = some 2 := by decide +kernel
theorem hv_X1_empty : yX1_empty.cls = RX1 ∧ yX1_empty.cls ≠ "java/lang/invoke/MethodHandle" ∧ yX1_empty.cls ≠ "java/lang/invoke/VarHandle" ∧ (parseMethodDescriptor yX1_empty.desc).map (fun d => d.parameters.length) = some 0 := by decide +kernel
theorem hs_X7_fraction : yX7_fraction.cls ≠ "java/lang/invoke/MethodHandle" ∧ yX7_fraction.cls ≠ "java/lang/invoke/VarHandle" ∧ (parseMethodDescriptor yX7_fraction.desc).map (fun d => d.parameters.length) = some 3 := by decide +kernel
theorem hv_X7_goStep : yX7_goStep.cls = RX7 ∧ yX7_goStep.cls ≠ "java/lang/invoke/MethodHandle" ∧ yX7_goStep.cls ≠ "java/lang/invoke/VarHandle" ∧ (parseMethodDescriptor yX7_goStep.desc).map (fun d => d.parameters.length) = some 2 := by decide +kernel
theorem hv_X7_tapeAt : yX7_tapeAt.cls = RX7 ∧ yX7_tapeAt.cls ≠ "java/lang/invoke/MethodHandle" ∧ yX7_tapeAt.cls ≠ "java/lang/invoke/VarHandle" ∧ (parseMethodDescriptor yX7_tapeAt.desc).map (fun d => d.parameters.length) = some 1 := by decide +kernel
theorem hv_X6_holdsRow : yX6_holdsRow.cls = RX6 ∧ yX6_holdsRow.cls ≠ "java/lang/invoke/MethodHandle" ∧ yX6_holdsRow.cls ≠ "java/lang/invoke/VarHandle" ∧ (parseMethodDescriptor yX6_holdsRow.desc).map (fun d => d.parameters.length) = some 0 := by decide +kernel
theorem hv_X6_itemAt : yX6_itemAt.cls = RX6 ∧ yX6_itemAt.cls ≠ "java/lang/invoke/MethodHandle" ∧ yX6_itemAt.cls ≠ "java/lang/invoke/VarHandle" ∧ (parseMethodDescriptor yX6_itemAt.desc).map (fun d => d.parameters.length) = some 1 := by decide +kernel
theorem hs_X0_ownerOf : yX0_ownerOf.cls ≠ "java/lang/invoke/MethodHandle" ∧ yX0_ownerOf.cls ≠ "java/lang/invoke/VarHandle" ∧ (parseMethodDescriptor yX0_ownerOf.desc).map (fun d => d.parameters.length) = some 2 := by decide +kernel
theorem hv_X0_run : yX0_run.cls = RX0 ∧ yX0_run.cls ≠ "java/lang/invoke/MethodHandle" ∧ yX0_run.cls ≠ "java/lang/invoke/VarHandle" ∧ (parseMethodDescriptor yX0_run.desc).map (fun d => d.parameters.length) = some 4 := by decide +kernel
theorem hv_X0_clear : yX0_clear.cls = RX0 ∧ yX0_clear.cls ≠ "java/lang/invoke/MethodHandle" ∧ yX0_clear.cls ≠ "java/lang/invoke/VarHandle" ∧ (parseMethodDescriptor yX0_clear.desc).map (fun d => d.parameters.length) = some 0 := by decide +kernel
theorem hv_X0_start : yX0_start.cls = RX0 ∧ yX0_start.cls ≠ "java/lang/invoke/MethodHandle" ∧ yX0_start.cls ≠ "java/lang/invoke/VarHandle" ∧ (parseMethodDescriptor yX0_start.desc).map (fun d => d.parameters.length) = some 4 := by decide +kernel
theorem hv_X6_become : yX6_become.cls = RX6 ∧ yX6_become.cls ≠ "java/lang/invoke/MethodHandle" ∧ yX6_become.cls ≠ "java/lang/invoke/VarHandle" ∧ (parseMethodDescriptor yX6_become.desc).map (fun d => d.parameters.length) = some 2 := by decide +kernel
theorem hv_X6_fitted : yX6_fitted.cls = RX6 ∧ yX6_fitted.cls ≠ "java/lang/invoke/MethodHandle" ∧ yX6_fitted.cls ≠ "java/lang/invoke/VarHandle" ∧ (parseMethodDescriptor yX6_fitted.desc).map (fun d => d.parameters.length) = some 1 := by decide +kernel
theorem hv_X6_store : yX6_store.cls = RX6 ∧ yX6_store.cls ≠ "java/lang/invoke/MethodHandle" ∧ yX6_store.cls ≠ "java/lang/invoke/VarHandle" ∧ (parseMethodDescriptor yX6_store.desc).map (fun d => d.parameters.length) = some 2 := by decide +kernel
theorem hv_X6_hasPlaces : yX6_hasPlaces.cls = RX6 ∧ yX6_hasPlaces.cls ≠ "java/lang/invoke/MethodHandle" ∧ yX6_hasPlaces.cls ≠ "java/lang/invoke/VarHandle" ∧ (parseMethodDescriptor yX6_hasPlaces.desc).map (fun d => d.parameters.length) = some 2 := by decide +kernel
theorem hs_X8_isIn : yX8_isIn.cls ≠ "java/lang/invoke/MethodHandle" ∧ yX8_isIn.cls ≠ "java/lang/invoke/VarHandle" ∧ (parseMethodDescriptor yX8_isIn.desc).map (fun d => d.parameters.length) = some 3 := by decide +kernel
theorem hv_X8_one : yX8_one.cls = RX8 ∧ yX8_one.cls ≠ "java/lang/invoke/MethodHandle" ∧ yX8_one.cls ≠ "java/lang/invoke/VarHandle" ∧ (parseMethodDescriptor yX8_one.desc).map (fun d => d.parameters.length) = some 2 := by decide +kernel
theorem hs_X8_isYard : yX8_isYard.cls ≠ "java/lang/invoke/MethodHandle" ∧ yX8_isYard.cls ≠ "java/lang/invoke/VarHandle" ∧ (parseMethodDescriptor yX8_isYard.desc).map (fun d => d.parameters.length) = some 1 := by decide +kernel
theorem hv_X8_change : yX8_change.cls = RX8 ∧ yX8_change.cls ≠ "java/lang/invoke/MethodHandle" ∧ yX8_change.cls ≠ "java/lang/invoke/VarHandle" ∧ (parseMethodDescriptor yX8_change.desc).map (fun d => d.parameters.length) = some 3 := by decide +kernel
theorem hv_X8_isAt : yX8_isAt.cls = RX8 ∧ yX8_isAt.cls ≠ "java/lang/invoke/MethodHandle" ∧ yX8_isAt.cls ≠ "java/lang/invoke/VarHandle" ∧ (parseMethodDescriptor yX8_isAt.desc).map (fun d => d.parameters.length) = some 1 := by decide +kernel
theorem hv_X8_isDigit : yX8_isDigit.cls = RX8 ∧ yX8_isDigit.cls ≠ "java/lang/invoke/MethodHandle" ∧ yX8_isDigit.cls ≠ "java/lang/invoke/VarHandle" ∧ (parseMethodDescriptor yX8_isDigit.desc).map (fun d => d.parameters.length) = some 0 := by decide +kernel
theorem hv_X8_takes : yX8_takes.cls = RX8 ∧ yX8_takes.cls ≠ "java/lang/invoke/MethodHandle" ∧ yX8_takes.cls ≠ "java/lang/invoke/VarHandle" ∧ (parseMethodDescriptor yX8_takes.desc).map (fun d => d.parameters.length) = some 1 := by decide +kernel
theorem hv_X8_number : yX8_number.cls = RX8 ∧ yX8_number.cls ≠ "java/lang/invoke/MethodHandle" ∧ yX8_number.cls ≠ "java/lang/invoke/VarHandle" ∧ (parseMethodDescriptor yX8_number.desc).map (fun d => d.parameters.length) = some 0 := by decide +kernel
theorem hv_X8_factor : yX8_factor.cls = RX8 ∧ yX8_factor.cls ≠ "java/lang/invoke/MethodHandle" ∧ yX8_factor.cls ≠ "java/lang/invoke/VarHandle" ∧ (parseMethodDescriptor yX8_factor.desc).map (fun d => d.parameters.length) = some 0 := by decide +kernel
theorem hv_X8_both : yX8_both.cls = RX8 ∧ yX8_both.cls ≠ "java/lang/invoke/MethodHandle" ∧ yX8_both.cls ≠ "java/lang/invoke/VarHandle" ∧ (parseMethodDescriptor yX8_both.desc).map (fun d => d.parameters.length) = some 0 := by decide +kernel
theorem hv_X8_any : yX8_any.cls = RX8 ∧ yX8_any.cls ≠ "java/lang/invoke/MethodHandle" ∧ yX8_any.cls ≠ "java/lang/invoke/VarHandle" ∧ (parseMethodDescriptor yX8_any.desc).map (fun d => d.parameters.length) = some 0 := by decide +kernel
theorem hv_X8_test : yX8_test.cls = RX8 ∧ yX8_test.cls ≠ "java/lang/invoke/MethodHandle" ∧ yX8_test.cls ≠ "java/lang/invoke/VarHandle" ∧ (parseMethodDescriptor yX8_test.desc).map (fun d => d.parameters.length) = some 0 := by decide +kernel
theorem hv_X8_clause : yX8_clause.cls = RX8 ∧ yX8_clause.cls ≠ "java/lang/invoke/MethodHandle" ∧ yX8_clause.cls ≠ "java/lang/invoke/VarHandle" ∧ (parseMethodDescriptor yX8_clause.desc).map (fun d => d.parameters.length) = some 0 := by decide +kernel
theorem hv_X8_readAll : yX8_readAll.cls = RX8 ∧ yX8_readAll.cls ≠ "java/lang/invoke/MethodHandle" ∧ yX8_readAll.cls ≠ "java/lang/invoke/VarHandle" ∧ (parseMethodDescriptor yX8_readAll.desc).map (fun d => d.parameters.length) = some 0 := by decide +kernel
theorem hv_X8_readFor : yX8_readFor.cls = RX8 ∧ yX8_readFor.cls ≠ "java/lang/invoke/MethodHandle" ∧ yX8_readFor.cls ≠ "java/lang/invoke/VarHandle" ∧ (parseMethodDescriptor yX8_readFor.desc).map (fun d => d.parameters.length) = some 2 := by decide +kernel
theorem hv_X8_isHere : yX8_isHere.cls = RX8 ∧ yX8_isHere.cls ≠ "java/lang/invoke/MethodHandle" ∧ yX8_isHere.cls ≠ "java/lang/invoke/VarHandle" ∧ (parseMethodDescriptor yX8_isHere.desc).map (fun d => d.parameters.length) = some 1 := by decide +kernel
theorem hv_X8_rate : yX8_rate.cls = RX8 ∧ yX8_rate.cls ≠ "java/lang/invoke/MethodHandle" ∧ yX8_rate.cls ≠ "java/lang/invoke/VarHandle" ∧ (parseMethodDescriptor yX8_rate.desc).map (fun d => d.parameters.length) = some 2 := by decide +kernel
theorem hv_X8_share : yX8_share.cls = RX8 ∧ yX8_share.cls ≠ "java/lang/invoke/MethodHandle" ∧ yX8_share.cls ≠ "java/lang/invoke/VarHandle" ∧ (parseMethodDescriptor yX8_share.desc).map (fun d => d.parameters.length) = some 0 := by decide +kernel
theorem hv_X8_worth : yX8_worth.cls = RX8 ∧ yX8_worth.cls ≠ "java/lang/invoke/MethodHandle" ∧ yX8_worth.cls ≠ "java/lang/invoke/VarHandle" ∧ (parseMethodDescriptor yX8_worth.desc).map (fun d => d.parameters.length) = some 2 := by decide +kernel
theorem hv_X8_isOne : yX8_isOne.cls = RX8 ∧ yX8_isOne.cls ≠ "java/lang/invoke/MethodHandle" ∧ yX8_isOne.cls ≠ "java/lang/invoke/VarHandle" ∧ (parseMethodDescriptor yX8_isOne.desc).map (fun d => d.parameters.length) = some 1 := by decide +kernel
theorem hv_X8_best : yX8_best.cls = RX8 ∧ yX8_best.cls ≠ "java/lang/invoke/MethodHandle" ∧ yX8_best.cls ≠ "java/lang/invoke/VarHandle" ∧ (parseMethodDescriptor yX8_best.desc).map (fun d => d.parameters.length) = some 1 := by decide +kernel
theorem hv_X8_moves : yX8_moves.cls = RX8 ∧ yX8_moves.cls ≠ "java/lang/invoke/MethodHandle" ∧ yX8_moves.cls ≠ "java/lang/invoke/VarHandle" ∧ (parseMethodDescriptor yX8_moves.desc).map (fun d => d.parameters.length) = some 0 := by decide +kernel
theorem hv_X8_keep : yX8_keep.cls = RX8 ∧ yX8_keep.cls ≠ "java/lang/invoke/MethodHandle" ∧ yX8_keep.cls ≠ "java/lang/invoke/VarHandle" ∧ (parseMethodDescriptor yX8_keep.desc).map (fun d => d.parameters.length) = some 1 := by decide +kernel
theorem hv_X8_day : yX8_day.cls = RX8 ∧ yX8_day.cls ≠ "java/lang/invoke/MethodHandle" ∧ yX8_day.cls ≠ "java/lang/invoke/VarHandle" ∧ (parseMethodDescriptor yX8_day.desc).map (fun d => d.parameters.length) = some 1 := by decide +kernel
theorem hv_X8_lay : yX8_lay.cls = RX8 ∧ yX8_lay.cls ≠ "java/lang/invoke/MethodHandle" ∧ yX8_lay.cls ≠ "java/lang/invoke/VarHandle" ∧ (parseMethodDescriptor yX8_lay.desc).map (fun d => d.parameters.length) = some 1 := by decide +kernel
theorem hv_X8_isAllSeen : yX8_isAllSeen.cls = RX8 ∧ yX8_isAllSeen.cls ≠ "java/lang/invoke/MethodHandle" ∧ yX8_isAllSeen.cls ≠ "java/lang/invoke/VarHandle" ∧ (parseMethodDescriptor yX8_isAllSeen.desc).map (fun d => d.parameters.length) = some 0 := by decide +kernel
theorem hv_X8_aways : yX8_aways.cls = RX8 ∧ yX8_aways.cls ≠ "java/lang/invoke/MethodHandle" ∧ yX8_aways.cls ≠ "java/lang/invoke/VarHandle" ∧ (parseMethodDescriptor yX8_aways.desc).map (fun d => d.parameters.length) = some 0 := by decide +kernel
theorem hv_X8_still : yX8_still.cls = RX8 ∧ yX8_still.cls ≠ "java/lang/invoke/MethodHandle" ∧ yX8_still.cls ≠ "java/lang/invoke/VarHandle" ∧ (parseMethodDescriptor yX8_still.desc).map (fun d => d.parameters.length) = some 0 := by decide +kernel
theorem hv_X8_gains : yX8_gains.cls = RX8 ∧ yX8_gains.cls ≠ "java/lang/invoke/MethodHandle" ∧ yX8_gains.cls ≠ "java/lang/invoke/VarHandle" ∧ (parseMethodDescriptor yX8_gains.desc).map (fun d => d.parameters.length) = some 0 := by decide +kernel
theorem hv_X8_owed : yX8_owed.cls = RX8 ∧ yX8_owed.cls ≠ "java/lang/invoke/MethodHandle" ∧ yX8_owed.cls ≠ "java/lang/invoke/VarHandle" ∧ (parseMethodDescriptor yX8_owed.desc).map (fun d => d.parameters.length) = some 1 := by decide +kernel
theorem hs_X8_many : yX8_many.cls ≠ "java/lang/invoke/MethodHandle" ∧ yX8_many.cls ≠ "java/lang/invoke/VarHandle" ∧ (parseMethodDescriptor yX8_many.desc).map (fun d => d.parameters.length) = some 1 := by decide +kernel
theorem hs_X8_fraction : yX8_fraction.cls ≠ "java/lang/invoke/MethodHandle" ∧ yX8_fraction.cls ≠ "java/lang/invoke/VarHandle" ∧ (parseMethodDescriptor yX8_fraction.desc).map (fun d => d.parameters.length) = some 3 := by decide +kernel
theorem hv_X8_byKind : yX8_byKind.cls = RX8 ∧ yX8_byKind.cls ≠ "java/lang/invoke/MethodHandle" ∧ yX8_byKind.cls ≠ "java/lang/invoke/VarHandle" ∧ (parseMethodDescriptor yX8_byKind.desc).map (fun d => d.parameters.length) = some 4 := by decide +kernel
theorem hv_X8_body : yX8_body.cls = RX8 ∧ yX8_body.cls ≠ "java/lang/invoke/MethodHandle" ∧ yX8_body.cls ≠ "java/lang/invoke/VarHandle" ∧ (parseMethodDescriptor yX8_body.desc).map (fun d => d.parameters.length) = some 1 := by decide +kernel
theorem hv_X8_all : yX8_all.cls = RX8 ∧ yX8_all.cls ≠ "java/lang/invoke/MethodHandle" ∧ yX8_all.cls ≠ "java/lang/invoke/VarHandle" ∧ (parseMethodDescriptor yX8_all.desc).map (fun d => d.parameters.length) = some 3 := by decide +kernel
theorem hs_X8_isTape : yX8_isTape.cls ≠ "java/lang/invoke/MethodHandle" ∧ yX8_isTape.cls ≠ "java/lang/invoke/VarHandle" ∧ (parseMethodDescriptor yX8_isTape.desc).map (fun d => d.parameters.length) = some 1 := by decide +kernel
theorem gs_X7_73 : GoodIn TB (wsV RX7 73 RX5 yX5_add (.code yX5_add cX5_add 6 ((Option.some Jvm.ClassFile.FieldType.int)) :: TB)) := xw_gV tw_296 tw_297 tw_298 tw_2 tw_299
theorem gs_X7_155 : GoodIn TB (wsV RX7 155 RX7 yX7_parishAt (.code yX7_parishAt cX7_parishAt 2 ((Option.some (Jvm.ClassFile.FieldType.object "FuneralDebts$Parish"))) :: TB)) := xw_gV tw_326 tw_328 ts_2 tw_1 tw_329
theorem gs_X2_45 : GoodIn TB (wsV RX2 45 RX2 yX2_holdsFrom (.code yX2_holdsFrom cX2_holdsFrom 10 ((Option.some Jvm.ClassFile.FieldType.boolean)) :: TB)) := xw_gV tw_341 tw_343 ts_3 tw_6 tw_344
theorem gs_X4_49 : GoodIn TB (wsV RX4 49 RX2 yX2_sumOf (.code yX2_sumOf cX2_sumOf 6 ((Option.some Jvm.ClassFile.FieldType.int)) :: TB)) := xw_gV tw_336 tw_337 tw_338 tw_6 tw_339
theorem gs_X4_63 : GoodIn TB (wsV RX4 63 RX4 yX4_pays (.code yX4_pays cX4_pays 12 ((Option.some Jvm.ClassFile.FieldType.int)) :: TB)) := xw_gV tw_355 tw_357 ts_4 tw_7 tw_358
theorem gs_X4_79 : GoodIn TB (wsV RX4 79 RX4 yX4_worth (.code yX4_worth cX4_worth 6 ((Option.some Jvm.ClassFile.FieldType.int)) :: TB)) := xw_gV tw_366 tw_367 tw_368 tw_7 tw_369
theorem gs_X7_108 : GoodIn TB (wsV RX7 108 RX7 yX7_held (.code yX7_held cX7_held 2 ((Option.some (Jvm.ClassFile.FieldType.object "FuneralDebts$Parish"))) :: TB)) := xw_gV tw_322 tw_324 ts_1 tw_1 tw_325
theorem gs_X7_112 : GoodIn TB (wsV RX7 112 RX4 yX4_look (.code yX4_look cX4_look 6 ((Option.none : Option Jvm.ClassFile.FieldType)) :: TB)) := xw_gV tw_330 tw_331 tw_332 tw_7 tw_333
theorem gs_X7_130 : GoodIn TB (wsV RX7 130 RX4 yX4_rate (.code yX4_rate cX4_rate 3 ((Option.some Jvm.ClassFile.FieldType.int)) :: TB)) := xw_gV tw_370 tw_371 tw_372 tw_7 tw_373
theorem gs_X7_126 : GoodIn TB (wsV RX7 126 RX4 yX4_best (.code yX4_best cX4_best 7 ((Option.some Jvm.ClassFile.FieldType.int)) :: TB)) := xw_gV tw_362 tw_363 tw_364 tw_7 tw_365
theorem gs_X7_122 : GoodIn TB (wsV RX7 122 RX4 yX4_share (.code yX4_share cX4_share 5 ((Option.some Jvm.ClassFile.FieldType.int)) :: TB)) := xw_gV tw_351 tw_352 tw_353 tw_7 tw_354
theorem gs_X7_133 : GoodIn TB (wsV RX7 133 RX4 yX4_worth (.code yX4_worth cX4_worth 6 ((Option.some Jvm.ClassFile.FieldType.int)) :: TB)) := xw_gV tw_374 tw_367 tw_368 tw_7 tw_369
theorem gs_X7_77 : GoodIn TB (wsV RX7 77 RX5 yX5_has (.code yX5_has cX5_has 2 ((Option.some Jvm.ClassFile.FieldType.boolean)) :: TB)) := xw_gV tw_307 tw_308 tw_309 tw_2 tw_310
theorem gs_X7_98 : GoodIn TB (wsV RX7 98 RX5 yX5_isAway (.code yX5_isAway cX5_isAway 2 ((Option.some Jvm.ClassFile.FieldType.boolean)) :: TB)) := xw_gV tw_314 tw_315 tw_316 tw_2 tw_317
theorem gs_X7_104 : GoodIn TB (wsV RX7 104 RX7 yX7_reckonedOf (.code yX7_reckonedOf cX7_reckonedOf 3 ((Option.some Jvm.ClassFile.FieldType.int)) :: TB)) := xw_gV tw_318 tw_320 ts_0 tw_1 tw_321
theorem gs_X7_141 : GoodIn TB (wsV RX7 141 RX5 yX5_send (.code yX5_send cX5_send 3 ((Option.none : Option Jvm.ClassFile.FieldType)) :: TB)) := xw_gV tw_384 tw_385 tw_386 tw_2 tw_387
theorem gs_X7_148 : GoodIn TB (wsV RX7 148 RX3 yX3_append (.code yX3_append cX3_append 2 ((Option.some Jvm.ClassFile.FieldType.int)) :: TB)) := xw_gV tw_400 tw_401 tw_402 tw_5 tw_403
theorem gs_J0_335 : GoodIn TB (wsV RJ0 335 RJ0 yJ0_coder_7d493 (.code yJ0_coder_7d493 cJ0_coder_7d493 1 ((Option.some Jvm.ClassFile.FieldType.byte)) :: TB)) := xw_gV tw_435 tw_436 tw_437 tw_11 tw_438
theorem gs_J0_492 : GoodIn TB (wsV RJ0 492 RJ0 yJ0_isLatin1_aae02 (.code yJ0_isLatin1_aae02 cJ0_isLatin1_aae02 1 ((Option.some Jvm.ClassFile.FieldType.boolean)) :: TB)) := xw_gV tw_445 tw_446 tw_447 tw_11 tw_448
theorem gs_X3_71 : GoodIn TB (wsV RX3 71 RJ0 yJ0_length_8abf5 (.code yJ0_length_8abf5 cJ0_length_8abf5 1 ((Option.some Jvm.ClassFile.FieldType.int)) :: TB)) := xw_gV tw_431 tw_432 tw_433 tw_11 tw_434
theorem gs_X3_77 : GoodIn TB (wsV RX3 77 RJ0 yJ0_charAt_5068e (.code yJ0_charAt_5068e cJ0_charAt_5068e 2 ((Option.some Jvm.ClassFile.FieldType.char)) :: TB)) := xw_gV tw_441 tw_442 tw_443 tw_11 tw_444
theorem gs_X3_35 : GoodIn TB (wsV RX3 35 RX3 yX3_advance (.code yX3_advance cX3_advance 1 ((Option.none : Option Jvm.ClassFile.FieldType)) :: TB)) := xw_gV tw_416 tw_418 ts_5 tw_5 tw_419
theorem gs_X3_52 : GoodIn TB (wsV RX3 52 RX3 yX3_readNumber (.code yX3_readNumber cX3_readNumber 1 ((Option.some Jvm.ClassFile.FieldType.boolean)) :: TB)) := xw_gV tw_479 tw_481 ts_8 tw_5 tw_482
theorem gs_X3_84 : GoodIn TB (wsV RX3 84 RX2 yX2_addStep (.code yX2_addStep cX2_addStep 4 ((Option.none : Option Jvm.ClassFile.FieldType)) :: TB)) := xw_gV tw_499 tw_500 tw_501 tw_6 tw_502
theorem gs_X3_81 : GoodIn TB (wsV RX3 81 RX3 yX3_readPart (.code yX3_readPart cX3_readPart 4 ((Option.some Jvm.ClassFile.FieldType.boolean)) :: TB)) := xw_gV tw_488 tw_490 ts_10 tw_5 tw_491
theorem gs_X3_88 : GoodIn TB (wsV RX3 88 RX3 yX3_readTest (.code yX3_readTest cX3_readTest 4 ((Option.some Jvm.ClassFile.FieldType.boolean)) :: TB)) := xw_gV tw_492 tw_494 ts_11 tw_5 tw_495
theorem gs_X3_63 : GoodIn TB (wsV RX3 63 RX3 yX3_readEither (.code yX3_readEither cX3_readEither 6 ((Option.some Jvm.ClassFile.FieldType.boolean)) :: TB)) := xw_gV tw_484 tw_486 ts_9 tw_5 tw_487
theorem gs_X3_48 : GoodIn TB (wsV RX3 48 RX3 yX3_readWord (.code yX3_readWord cX3_readWord 3 ((Option.some Jvm.ClassFile.FieldType.boolean)) :: TB)) := xw_gV tw_427 tw_429 ts_7 tw_5 tw_430
theorem gs_X3_67 : GoodIn TB (wsV RX3 67 RX2 yX2_endClause (.code yX2_endClause cX2_endClause 2 ((Option.none : Option Jvm.ClassFile.FieldType)) :: TB)) := xw_gV tw_505 tw_506 tw_507 tw_6 tw_508
theorem gs_X3_29 : GoodIn TB (wsV RX3 29 RX2 yX2_clear (.code yX2_clear cX2_clear 1 ((Option.none : Option Jvm.ClassFile.FieldType)) :: TB)) := xw_gV tw_412 tw_413 tw_414 tw_6 tw_415
theorem gs_X3_38 : GoodIn TB (wsV RX3 38 RX3 yX3_readClause (.code yX3_readClause cX3_readClause 5 ((Option.some Jvm.ClassFile.FieldType.boolean)) :: TB)) := xw_gV tw_420 tw_422 ts_6 tw_5 tw_423
theorem gs_X7_159 : GoodIn TB (wsV RX7 159 RX3 yX3_readAll (.code yX3_readAll cX3_readAll 4 ((Option.some Jvm.ClassFile.FieldType.boolean)) :: TB)) := xw_gV tw_408 tw_409 tw_410 tw_5 tw_411
theorem gs_X5_69 : GoodIn TB (wsV RX5 69 RX1 yX1_takeAfter (.code yX1_takeAfter cX1_takeAfter 2 ((Option.none : Option Jvm.ClassFile.FieldType)) :: TB)) := xw_gV tw_528 tw_529 tw_530 tw_3 tw_531
theorem gs_X4_99 : GoodIn TB (wsV RX4 99 RX4 yX4_look (.code yX4_look cX4_look 6 ((Option.none : Option Jvm.ClassFile.FieldType)) :: TB)) := xw_gV tw_538 tw_331 tw_332 tw_7 tw_333
theorem gs_X4_103 : GoodIn TB (wsV RX4 103 RX4 yX4_best (.code yX4_best cX4_best 7 ((Option.some Jvm.ClassFile.FieldType.int)) :: TB)) := xw_gV tw_539 tw_363 tw_364 tw_7 tw_365
theorem gs_X4_107 : GoodIn TB (wsV RX4 107 RX5 yX5_isAway (.code yX5_isAway cX5_isAway 2 ((Option.some Jvm.ClassFile.FieldType.boolean)) :: TB)) := xw_gV tw_540 tw_315 tw_316 tw_2 tw_317
theorem gs_X4_93 : GoodIn TB (wsV RX4 93 RX4 yX4_share (.code yX4_share cX4_share 5 ((Option.some Jvm.ClassFile.FieldType.int)) :: TB)) := xw_gV tw_541 tw_352 tw_353 tw_7 tw_354
theorem gs_X7_191 : GoodIn TB (wsV RX7 191 RX5 yX5_takeAfter (.code yX5_takeAfter cX5_takeAfter 2 ((Option.none : Option Jvm.ClassFile.FieldType)) :: TB)) := xw_gV tw_517 tw_518 tw_519 tw_2 tw_520
theorem gs_X7_187 : GoodIn TB (wsV RX7 187 RX4 yX4_goDay (.code yX4_goDay cX4_goDay 8 ((Option.some Jvm.ClassFile.FieldType.int)) :: TB)) := xw_gV tw_534 tw_535 tw_536 tw_7 tw_537
theorem gs_X7_210 : GoodIn TB (wsV RX7 210 RX4 yX4_fits (.code yX4_fits cX4_fits 5 ((Option.some Jvm.ClassFile.FieldType.boolean)) :: TB)) := xw_gV tw_551 tw_552 tw_553 tw_7 tw_554
theorem gs_X7_175 : GoodIn TB (wsV RX7 175 RX7 yX7_still (.code yX7_still cX7_still 2 ((Option.some Jvm.ClassFile.FieldType.int)) :: TB)) := xw_gV tw_513 tw_515 ts_12 tw_1 tw_516
theorem gs_X7_179 : GoodIn TB (wsV RX7 179 RX7 yX7_gains (.code yX7_gains cX7_gains 3 ((Option.some Jvm.ClassFile.FieldType.int)) :: TB)) := xw_gV tw_543 tw_545 ts_13 tw_1 tw_546
theorem gs_X7_182 : GoodIn TB (wsV RX7 182 RX7 yX7_owed (.code yX7_owed cX7_owed 5 ((Option.some Jvm.ClassFile.FieldType.int)) :: TB)) := xw_gV tw_547 tw_549 ts_14 tw_1 tw_550
theorem gs_X7_208 : GoodIn TB (wsV RX7 208 RX1 yX1_add (.code yX1_add cX1_add 3 ((Option.some Jvm.ClassFile.FieldType.int)) :: TB)) := xw_gV tw_582 tw_583 tw_584 tw_3 tw_585
theorem gs_X7_203 : GoodIn TB (wsV RX7 203 RX1 yX1_empty (.code yX1_empty cX1_empty 1 ((Option.some Jvm.ClassFile.FieldType.int)) :: TB)) := xw_gV tw_578 tw_579 tw_580 tw_3 tw_581
theorem gs_X7_230 : GoodIn TB (wsV RX7 230 RX7 yX7_goStep (.code yX7_goStep cX7_goStep 3 ((Option.none : Option Jvm.ClassFile.FieldType)) :: TB)) := xw_gV tw_611 tw_613 ts_15 tw_1 tw_614
theorem gs_X7_237 : GoodIn TB (wsV RX7 237 RX7 yX7_tapeAt (.code yX7_tapeAt cX7_tapeAt 2 ((Option.some (Jvm.ClassFile.FieldType.object "FuneralDebts$Tape"))) :: TB)) := xw_gV tw_627 tw_629 ts_16 tw_1 tw_630
theorem gs_X7_241 : GoodIn TB (wsV RX7 241 RX6 yX6_holdsRow (.code yX6_holdsRow cX6_holdsRow 1 ((Option.some Jvm.ClassFile.FieldType.boolean)) :: TB)) := xw_gV tw_631 tw_632 tw_633 tw_9 tw_634
theorem gs_X7_251 : GoodIn TB (wsV RX7 251 RX6 yX6_itemAt (.code yX6_itemAt cX6_itemAt 2 ((Option.some Jvm.ClassFile.FieldType.long)) :: TB)) := xw_gV tw_635 tw_636 tw_637 tw_9 tw_638
theorem gs_X0_40 : GoodIn TB (wsV RX0 40 RX0 yX0_run (.code yX0_run cX0_run 9 ((Option.some Jvm.ClassFile.FieldType.int)) :: TB)) := xw_gV tw_661 tw_663 ts_17 tw_8 tw_664
theorem gs_X7_259 : GoodIn TB (wsV RX7 259 RX0 yX0_clear (.code yX0_clear cX0_clear 1 ((Option.none : Option Jvm.ClassFile.FieldType)) :: TB)) := xw_gV tw_652 tw_653 tw_654 tw_8 tw_655
theorem gs_X7_262 : GoodIn TB (wsV RX7 262 RX0 yX0_start (.code yX0_start cX0_start 5 ((Option.some Jvm.ClassFile.FieldType.int)) :: TB)) := xw_gV tw_656 tw_657 tw_658 tw_8 tw_659
theorem gs_X7_280 : GoodIn TB (wsV RX7 280 RX6 yX6_become (.code yX6_become cX6_become 4 ((Option.none : Option Jvm.ClassFile.FieldType)) :: TB)) := xw_gV tw_690 tw_691 tw_692 tw_9 tw_693
theorem gs_X6_30 : GoodIn TB (wsV RX6 30 RX6 yX6_fitted (.code yX6_fitted cX6_fitted 3 ((Option.some Jvm.ClassFile.FieldType.long)) :: TB)) := xw_gV tw_703 tw_705 ts_18 tw_9 tw_706
theorem gs_X7_283 : GoodIn TB (wsV RX7 283 RX6 yX6_store (.code yX6_store cX6_store 4 ((Option.some Jvm.ClassFile.FieldType.boolean)) :: TB)) := xw_gV tw_699 tw_700 tw_701 tw_9 tw_702
theorem gs_X7_287 : GoodIn TB (wsV RX7 287 RX6 yX6_hasPlaces (.code yX6_hasPlaces cX6_hasPlaces 3 ((Option.some Jvm.ClassFile.FieldType.boolean)) :: TB)) := xw_gV tw_715 tw_716 tw_717 tw_9 tw_718
theorem gs_X8_89 : GoodIn TB (wsV RX8 89 RX8 yX8_one (.code yX8_one cX8_one 3 ((Option.some Jvm.ClassFile.FieldType.int)) :: TB)) := xw_gV tw_845 tw_847 ts_20 tw_10 tw_848
theorem gs_X8_97 : GoodIn TB (wsV RX8 97 RX8 yX8_change (.code yX8_change cX8_change 5 ((Option.some Jvm.ClassFile.FieldType.int)) :: TB)) := xw_gV tw_841 tw_843 ts_19 tw_10 tw_844
theorem gs_X8_130 : GoodIn TB (wsV RX8 130 RX8 yX8_isAt (.code yX8_isAt cX8_isAt 2 ((Option.some Jvm.ClassFile.FieldType.boolean)) :: TB)) := xw_gV tw_881 tw_883 ts_28 tw_10 tw_884
theorem gs_X8_133 : GoodIn TB (wsV RX8 133 RX8 yX8_isDigit (.code yX8_isDigit cX8_isDigit 1 ((Option.some Jvm.ClassFile.FieldType.boolean)) :: TB)) := xw_gV tw_893 tw_895 ts_31 tw_10 tw_896
theorem gs_X8_137 : GoodIn TB (wsV RX8 137 RX8 yX8_takes (.code yX8_takes cX8_takes 2 ((Option.none : Option Jvm.ClassFile.FieldType)) :: TB)) := xw_gV tw_885 tw_887 ts_29 tw_10 tw_888
theorem gs_X8_141 : GoodIn TB (wsV RX8 141 RX8 yX8_number (.code yX8_number cX8_number 2 ((Option.some Jvm.ClassFile.FieldType.int)) :: TB)) := xw_gV tw_889 tw_891 ts_30 tw_10 tw_892
theorem gs_X8_148 : GoodIn TB (wsV RX8 148 RX8 yX8_factor (.code yX8_factor cX8_factor 2 ((Option.some Jvm.ClassFile.FieldType.boolean)) :: TB)) := xw_gV tw_905 tw_907 ts_34 tw_10 tw_908
theorem gs_X8_157 : GoodIn TB (wsV RX8 157 RX8 yX8_both (.code yX8_both cX8_both 3 ((Option.some Jvm.ClassFile.FieldType.boolean)) :: TB)) := xw_gV tw_901 tw_903 ts_33 tw_10 tw_904
theorem gs_X8_151 : GoodIn TB (wsV RX8 151 RX8 yX8_any (.code yX8_any cX8_any 3 ((Option.some Jvm.ClassFile.FieldType.boolean)) :: TB)) := xw_gV tw_897 tw_899 ts_32 tw_10 tw_900
theorem gs_X8_154 : GoodIn TB (wsV RX8 154 RX8 yX8_test (.code yX8_test cX8_test 4 ((Option.some Jvm.ClassFile.FieldType.boolean)) :: TB)) := xw_gV tw_909 tw_911 ts_35 tw_10 tw_912
theorem gs_X8_166 : GoodIn TB (wsV RX8 166 RX8 yX8_clause (.code yX8_clause cX8_clause 4 ((Option.none : Option Jvm.ClassFile.FieldType)) :: TB)) := xw_gV tw_877 tw_879 ts_27 tw_10 tw_880
theorem gs_X8_169 : GoodIn TB (wsV RX8 169 RX8 yX8_readAll (.code yX8_readAll cX8_readAll 2 ((Option.some Jvm.ClassFile.FieldType.boolean)) :: TB)) := xw_gV tw_873 tw_875 ts_26 tw_10 tw_876
theorem gs_X8_175 : GoodIn TB (wsV RX8 175 RX8 yX8_readFor (.code yX8_readFor cX8_readFor 5 ((Option.none : Option Jvm.ClassFile.FieldType)) :: TB)) := xw_gV tw_869 tw_871 ts_25 tw_10 tw_872
theorem gs_X8_179 : GoodIn TB (wsV RX8 179 RX8 yX8_isHere (.code yX8_isHere cX8_isHere 2 ((Option.some Jvm.ClassFile.FieldType.boolean)) :: TB)) := xw_gV tw_861 tw_863 ts_23 tw_10 tw_864
theorem gs_X8_111 : GoodIn TB (wsV RX8 111 RX8 yX8_rate (.code yX8_rate cX8_rate 4 ((Option.some Jvm.ClassFile.FieldType.int)) :: TB)) := xw_gV tw_865 tw_867 ts_24 tw_10 tw_868
theorem gs_X8_104 : GoodIn TB (wsV RX8 104 RX8 yX8_share (.code yX8_share cX8_share 5 ((Option.none : Option Jvm.ClassFile.FieldType)) :: TB)) := xw_gV tw_857 tw_859 ts_22 tw_10 tw_860
theorem gs_X8_114 : GoodIn TB (wsV RX8 114 RX8 yX8_worth (.code yX8_worth cX8_worth 5 ((Option.some Jvm.ClassFile.FieldType.int)) :: TB)) := xw_gV tw_918 tw_920 ts_37 tw_10 tw_921
theorem gs_X8_101 : GoodIn TB (wsV RX8 101 RX8 yX8_isOne (.code yX8_isOne cX8_isOne 2 ((Option.some Jvm.ClassFile.FieldType.boolean)) :: TB)) := xw_gV tw_853 tw_855 ts_21 tw_10 tw_856
theorem gs_X8_107 : GoodIn TB (wsV RX8 107 RX8 yX8_best (.code yX8_best cX8_best 6 ((Option.some Jvm.ClassFile.FieldType.int)) :: TB)) := xw_gV tw_914 tw_916 ts_36 tw_10 tw_917
theorem gs_X8_187 : GoodIn TB (wsV RX8 187 RX8 yX8_moves (.code yX8_moves cX8_moves 4 ((Option.some Jvm.ClassFile.FieldType.int)) :: TB)) := xw_gV tw_966 tw_968 ts_42 tw_10 tw_969
theorem gs_X8_194 : GoodIn TB (wsV RX8 194 RX8 yX8_keep (.code yX8_keep cX8_keep 3 ((Option.none : Option Jvm.ClassFile.FieldType)) :: TB)) := xw_gV tw_958 tw_960 ts_40 tw_10 tw_961
theorem gs_X8_197 : GoodIn TB (wsV RX8 197 RX8 yX8_day (.code yX8_day cX8_day 5 ((Option.some Jvm.ClassFile.FieldType.int)) :: TB)) := xw_gV tw_962 tw_964 ts_41 tw_10 tw_965
theorem gs_X8_201 : GoodIn TB (wsV RX8 201 RX8 yX8_lay (.code yX8_lay cX8_lay 3 ((Option.none : Option Jvm.ClassFile.FieldType)) :: TB)) := xw_gV tw_972 tw_974 ts_43 tw_10 tw_975
theorem gs_X8_219 : GoodIn TB (wsV RX8 219 RX8 yX8_isAllSeen (.code yX8_isAllSeen cX8_isAllSeen 4 ((Option.some Jvm.ClassFile.FieldType.boolean)) :: TB)) := xw_gV tw_984 tw_986 ts_46 tw_10 tw_987
theorem gs_X8_204 : GoodIn TB (wsV RX8 204 RX8 yX8_aways (.code yX8_aways cX8_aways 3 ((Option.some Jvm.ClassFile.FieldType.int)) :: TB)) := xw_gV tw_950 tw_952 ts_38 tw_10 tw_953
theorem gs_X8_207 : GoodIn TB (wsV RX8 207 RX8 yX8_still (.code yX8_still cX8_still 3 ((Option.some Jvm.ClassFile.FieldType.int)) :: TB)) := xw_gV tw_954 tw_956 ts_39 tw_10 tw_957
theorem gs_X8_210 : GoodIn TB (wsV RX8 210 RX8 yX8_gains (.code yX8_gains cX8_gains 3 ((Option.some Jvm.ClassFile.FieldType.int)) :: TB)) := xw_gV tw_976 tw_978 ts_44 tw_10 tw_979
theorem gs_X8_213 : GoodIn TB (wsV RX8 213 RX8 yX8_owed (.code yX8_owed cX8_owed 7 ((Option.some Jvm.ClassFile.FieldType.int)) :: TB)) := xw_gV tw_980 tw_982 ts_45 tw_10 tw_983
theorem gs_X8_231 : GoodIn TB (wsV RX8 231 RX8 yX8_byKind (.code yX8_byKind cX8_byKind 7 ((Option.some Jvm.ClassFile.FieldType.int)) :: TB)) := xw_gV tw_1047 tw_1049 ts_48 tw_10 tw_1050
theorem gs_X8_235 : GoodIn TB (wsV RX8 235 RX8 yX8_body (.code yX8_body cX8_body 2 ((Option.some Jvm.ClassFile.FieldType.int)) :: TB)) := xw_gV tw_1051 tw_1053 ts_49 tw_10 tw_1054
theorem gs_X8_238 : GoodIn TB (wsV RX8 238 RX8 yX8_all (.code yX8_all cX8_all 4 ((Option.some Jvm.ClassFile.FieldType.int)) :: TB)) := xw_gV tw_1043 tw_1045 ts_47 tw_10 tw_1046
theorem xw_it_0 {α β : Type} {f : α → Option (α ⊕ β)} {a : α} {b : β} (h : xw_it f 0 a = some b) : False := by
  have h1 : (none : Option β) = some b := h
  cases h1
theorem xw_om_n {α β : Type} {a : Option β} {k : α → Option β} {z : Option β} (h : xw_om none a k = z) : a = z := h
theorem xw_om_s {α β : Type} {x : α} {a : Option β} {k : α → Option β} {z : Option β} (h : xw_om (some x) a k = z) : k x = z := h
theorem xw_into (G : xw_G) (f : Nat → Int32) {p : Nat} (h : xw_pa p) : (xw_F3 G f).set 5 (.ref (xw_ad G p)) = xw_F3 G (upd f 5 (nI p)) := by rcases h with rfl | rfl | rfl | rfl | rfl | rfl | rfl | rfl <;> rfl
