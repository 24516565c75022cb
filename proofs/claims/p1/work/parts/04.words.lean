theorem cw_2 : Cond.initialized "TreeMerge$Text" ∈ cx_big := cx_tb 2 (by decide +kernel) (by decide +kernel)
theorem cw_3 : Cond.initialized "TreeMerge$Grammar" ∈ cx_big := cx_tb 3 (by decide +kernel) (by decide +kernel)
theorem cw_4 : Cond.initialized "TreeMerge$Tree" ∈ cx_big := cx_tb 4 (by decide +kernel) (by decide +kernel)
theorem cw_5 : Cond.initialized "TreeMerge$Kids" ∈ cx_big := cx_tb 5 (by decide +kernel) (by decide +kernel)
theorem cw_6 : Cond.initialized "TreeMerge$Matcher" ∈ cx_big := cx_tb 6 (by decide +kernel) (by decide +kernel)
theorem cw_7 : Cond.initialized "TreeMerge$Editions" ∈ cx_big := cx_tb 7 (by decide +kernel) (by decide +kernel)
theorem cw_8 : Cond.initialized "TreeMerge$Draft" ∈ cx_big := cx_tb 8 (by decide +kernel) (by decide +kernel)
theorem cw_9 : Cond.initialized "TreeMerge$Settled" ∈ cx_big := cx_tb 9 (by decide +kernel) (by decide +kernel)
theorem cw_10 : Cond.initialized "TreeMerge$Merging" ∈ cx_big := cx_tb 10 (by decide +kernel) (by decide +kernel)
theorem cw_11 : Cond.initialized "TreeMerge$Side" ∈ cx_big := cx_tb 11 (by decide +kernel) (by decide +kernel)
theorem cw_12 : Cond.initialized "TreeMerge$Printer" ∈ cx_big := cx_tb 12 (by decide +kernel) (by decide +kernel)
theorem cw_25 : Cond.methodLink "TreeMerge" 3 objectInit ∈ cx_big := cx_tb 25 (by decide +kernel) (by decide +kernel)
theorem cw_26 : Cond.instanceMethod objectInit ∈ cx_big := cx_tb 26 (by decide +kernel) (by decide +kernel)
theorem cw_27 : Cond.code objectInit ⟨#[0xb1]⟩ 1 none ∈ cx_big := cx_tb 27 (by decide +kernel) (by decide +kernel)
theorem cw_28 : Cond.classLink "TreeMerge" 9 "TreeMerge$Text" ∈ cx_big := cx_tb 28 (by decide +kernel) (by decide +kernel)
theorem cw_29 : Cond.instantiable "TreeMerge$Text" 5 ∈ cx_big := cx_tb 29 (by decide +kernel) (by decide +kernel)
theorem cw_31 : Cond.instanceMethod yX9_init ∈ cx_big := cx_tb 31 (by decide +kernel) (by decide +kernel)
theorem cw_32 : Cond.code yX9_init cX9_init 1 none ∈ cx_big := cx_tb 32 (by decide +kernel) (by decide +kernel)
theorem cw_33 : Cond.methodLink "TreeMerge$Text" 3 objectInit ∈ cx_big := cx_tb 33 (by decide +kernel) (by decide +kernel)
theorem cw_34 : Cond.fieldLink "TreeMerge$Text" 9 "TreeMerge$Text" "bytes" "[I" ∈ cx_big := cx_tb 34 (by decide +kernel) (by decide +kernel)
theorem cw_59 : Cond.arrayClass .int ∈ cx_big := cx_tb 59 (by decide +kernel) (by decide +kernel)
theorem cw_60 : Cond.classLink "TreeMerge" 16 "TreeMerge$Grammar" ∈ cx_big := cx_tb 60 (by decide +kernel) (by decide +kernel)
theorem cw_61 : Cond.instantiable "TreeMerge$Grammar" 13 ∈ cx_big := cx_tb 61 (by decide +kernel) (by decide +kernel)
theorem cw_63 : Cond.instanceMethod yX2_init ∈ cx_big := cx_tb 63 (by decide +kernel) (by decide +kernel)
theorem cw_64 : Cond.code yX2_init cX2_init 1 none ∈ cx_big := cx_tb 64 (by decide +kernel) (by decide +kernel)
theorem cw_65 : Cond.methodLink "TreeMerge$Grammar" 3 objectInit ∈ cx_big := cx_tb 65 (by decide +kernel) (by decide +kernel)
theorem cw_66 : Cond.fieldLink "TreeMerge$Grammar" 9 "TreeMerge$Grammar" "bytes" "[I" ∈ cx_big := cx_tb 66 (by decide +kernel) (by decide +kernel)
theorem cw_70 : Cond.fieldLink "TreeMerge$Grammar" 15 "TreeMerge$Grammar" "nameStarts" "[I" ∈ cx_big := cx_tb 70 (by decide +kernel) (by decide +kernel)
theorem cw_72 : Cond.fieldLink "TreeMerge$Grammar" 18 "TreeMerge$Grammar" "nameStops" "[I" ∈ cx_big := cx_tb 72 (by decide +kernel) (by decide +kernel)
theorem cw_74 : Cond.fieldLink "TreeMerge$Grammar" 21 "TreeMerge$Grammar" "shapes" "[I" ∈ cx_big := cx_tb 74 (by decide +kernel) (by decide +kernel)
theorem cw_75 : Cond.fieldLink "TreeMerge$Grammar" 24 "TreeMerge$Grammar" "firstItems" "[I" ∈ cx_big := cx_tb 75 (by decide +kernel) (by decide +kernel)
theorem cw_76 : Cond.fieldLink "TreeMerge$Grammar" 27 "TreeMerge$Grammar" "endItems" "[I" ∈ cx_big := cx_tb 76 (by decide +kernel) (by decide +kernel)
theorem cw_78 : Cond.fieldLink "TreeMerge$Grammar" 30 "TreeMerge$Grammar" "itemStarts" "[I" ∈ cx_big := cx_tb 78 (by decide +kernel) (by decide +kernel)
theorem cw_79 : Cond.fieldLink "TreeMerge$Grammar" 33 "TreeMerge$Grammar" "itemStops" "[I" ∈ cx_big := cx_tb 79 (by decide +kernel) (by decide +kernel)
theorem cw_80 : Cond.fieldLink "TreeMerge$Grammar" 36 "TreeMerge$Grammar" "itemKinds" "[I" ∈ cx_big := cx_tb 80 (by decide +kernel) (by decide +kernel)
theorem cw_81 : Cond.fieldLink "TreeMerge$Grammar" 39 "TreeMerge$Grammar" "itemMarks" "[I" ∈ cx_big := cx_tb 81 (by decide +kernel) (by decide +kernel)
theorem cw_82 : Cond.fieldLink "TreeMerge$Grammar" 42 "TreeMerge$Grammar" "reached" "[I" ∈ cx_big := cx_tb 82 (by decide +kernel) (by decide +kernel)
theorem cw_110 : Cond.classLink "TreeMerge" 26 "TreeMerge$Tree" ∈ cx_big := cx_tb 110 (by decide +kernel) (by decide +kernel)
theorem cw_111 : Cond.instantiable "TreeMerge$Tree" 8 ∈ cx_big := cx_tb 111 (by decide +kernel) (by decide +kernel)
theorem cw_113 : Cond.instanceMethod yX10_init ∈ cx_big := cx_tb 113 (by decide +kernel) (by decide +kernel)
theorem cw_114 : Cond.code yX10_init cX10_init 1 none ∈ cx_big := cx_tb 114 (by decide +kernel) (by decide +kernel)
theorem cw_115 : Cond.methodLink "TreeMerge$Tree" 3 objectInit ∈ cx_big := cx_tb 115 (by decide +kernel) (by decide +kernel)
theorem cw_122 : Cond.fieldLink "TreeMerge$Tree" 9 "TreeMerge$Tree" "ids" "[I" ∈ cx_big := cx_tb 122 (by decide +kernel) (by decide +kernel)
theorem cw_127 : Cond.fieldLink "TreeMerge$Tree" 15 "TreeMerge$Tree" "ups" "[I" ∈ cx_big := cx_tb 127 (by decide +kernel) (by decide +kernel)
theorem cw_130 : Cond.fieldLink "TreeMerge$Tree" 18 "TreeMerge$Tree" "tops" "[I" ∈ cx_big := cx_tb 130 (by decide +kernel) (by decide +kernel)
theorem cw_135 : Cond.fieldLink "TreeMerge$Tree" 21 "TreeMerge$Tree" "deeps" "[I" ∈ cx_big := cx_tb 135 (by decide +kernel) (by decide +kernel)
theorem cw_138 : Cond.fieldLink "TreeMerge$Tree" 24 "TreeMerge$Tree" "kinds" "[I" ∈ cx_big := cx_tb 138 (by decide +kernel) (by decide +kernel)
theorem cw_144 : Cond.fieldLink "TreeMerge$Tree" 27 "TreeMerge$Tree" "words" "[J" ∈ cx_big := cx_tb 144 (by decide +kernel) (by decide +kernel)
theorem cw_150 : Cond.fieldLink "TreeMerge$Tree" 31 "TreeMerge$Tree" "writers" "[I" ∈ cx_big := cx_tb 150 (by decide +kernel) (by decide +kernel)
theorem cw_170 : Cond.arrayClass .long ∈ cx_big := cx_tb 170 (by decide +kernel) (by decide +kernel)
theorem cw_171 : Cond.classLink "TreeMerge" 36 "TreeMerge$Kids" ∈ cx_big := cx_tb 171 (by decide +kernel) (by decide +kernel)
theorem cw_172 : Cond.instantiable "TreeMerge$Kids" 3 ∈ cx_big := cx_tb 172 (by decide +kernel) (by decide +kernel)
theorem cw_174 : Cond.instanceMethod yX3_init ∈ cx_big := cx_tb 174 (by decide +kernel) (by decide +kernel)
theorem cw_175 : Cond.code yX3_init cX3_init 1 none ∈ cx_big := cx_tb 175 (by decide +kernel) (by decide +kernel)
theorem cw_176 : Cond.methodLink "TreeMerge$Kids" 3 objectInit ∈ cx_big := cx_tb 176 (by decide +kernel) (by decide +kernel)
theorem cw_179 : Cond.fieldLink "TreeMerge$Kids" 9 "TreeMerge$Kids" "kinds" "[I" ∈ cx_big := cx_tb 179 (by decide +kernel) (by decide +kernel)
theorem cw_181 : Cond.fieldLink "TreeMerge$Kids" 15 "TreeMerge$Kids" "words" "[J" ∈ cx_big := cx_tb 181 (by decide +kernel) (by decide +kernel)
theorem cw_189 : Cond.classLink "TreeMerge" 43 "TreeMerge$Matcher" ∈ cx_big := cx_tb 189 (by decide +kernel) (by decide +kernel)
theorem cw_190 : Cond.instantiable "TreeMerge$Matcher" 7 ∈ cx_big := cx_tb 190 (by decide +kernel) (by decide +kernel)
theorem cw_192 : Cond.instanceMethod yX4_init ∈ cx_big := cx_tb 192 (by decide +kernel) (by decide +kernel)
theorem cw_193 : Cond.code yX4_init cX4_init 1 none ∈ cx_big := cx_tb 193 (by decide +kernel) (by decide +kernel)
theorem cw_194 : Cond.methodLink "TreeMerge$Matcher" 3 objectInit ∈ cx_big := cx_tb 194 (by decide +kernel) (by decide +kernel)
theorem cw_195 : Cond.classLink "TreeMerge$Matcher" 9 "TreeMerge$Tree" ∈ cx_big := cx_tb 195 (by decide +kernel) (by decide +kernel)
theorem cw_197 : Cond.fieldLink "TreeMerge$Matcher" 12 "TreeMerge$Matcher" "a" "LTreeMerge$Tree;" ∈ cx_big := cx_tb 197 (by decide +kernel) (by decide +kernel)
theorem cw_198 : Cond.fieldLink "TreeMerge$Matcher" 18 "TreeMerge$Matcher" "b" "LTreeMerge$Tree;" ∈ cx_big := cx_tb 198 (by decide +kernel) (by decide +kernel)
theorem cw_199 : Cond.fieldLink "TreeMerge$Matcher" 21 "TreeMerge$Matcher" "toB" "[I" ∈ cx_big := cx_tb 199 (by decide +kernel) (by decide +kernel)
theorem cw_200 : Cond.fieldLink "TreeMerge$Matcher" 25 "TreeMerge$Matcher" "toA" "[I" ∈ cx_big := cx_tb 200 (by decide +kernel) (by decide +kernel)
theorem cw_201 : Cond.fieldLink "TreeMerge$Matcher" 28 "TreeMerge$Matcher" "best" "[I" ∈ cx_big := cx_tb 201 (by decide +kernel) (by decide +kernel)
theorem cw_221 : Cond.classLink "TreeMerge" 50 "TreeMerge$Editions" ∈ cx_big := cx_tb 221 (by decide +kernel) (by decide +kernel)
theorem cw_222 : Cond.instantiable "TreeMerge$Editions" 5 ∈ cx_big := cx_tb 222 (by decide +kernel) (by decide +kernel)
theorem cw_224 : Cond.instanceMethod yX1_init ∈ cx_big := cx_tb 224 (by decide +kernel) (by decide +kernel)
theorem cw_225 : Cond.code yX1_init cX1_init 1 none ∈ cx_big := cx_tb 225 (by decide +kernel) (by decide +kernel)
theorem cw_226 : Cond.methodLink "TreeMerge$Editions" 3 objectInit ∈ cx_big := cx_tb 226 (by decide +kernel) (by decide +kernel)
theorem cw_227 : Cond.classLink "TreeMerge$Editions" 9 "TreeMerge$Tree" ∈ cx_big := cx_tb 227 (by decide +kernel) (by decide +kernel)
theorem cw_231 : Cond.fieldLink "TreeMerge$Editions" 11 "TreeMerge$Editions" "trees" "[LTreeMerge$Tree;" ∈ cx_big := cx_tb 231 (by decide +kernel) (by decide +kernel)
theorem cw_232 : Cond.fieldLink "TreeMerge$Editions" 17 "TreeMerge$Editions" "firsts" "[I" ∈ cx_big := cx_tb 232 (by decide +kernel) (by decide +kernel)
theorem cw_234 : Cond.fieldLink "TreeMerge$Editions" 21 "TreeMerge$Editions" "seconds" "[I" ∈ cx_big := cx_tb 234 (by decide +kernel) (by decide +kernel)
theorem cw_236 : Cond.fieldLink "TreeMerge$Editions" 24 "TreeMerge$Editions" "froms" "[I" ∈ cx_big := cx_tb 236 (by decide +kernel) (by decide +kernel)
theorem cw_248 : Cond.classLink "TreeMerge" 57 "TreeMerge$Draft" ∈ cx_big := cx_tb 248 (by decide +kernel) (by decide +kernel)
theorem cw_249 : Cond.instantiable "TreeMerge$Draft" 4 ∈ cx_big := cx_tb 249 (by decide +kernel) (by decide +kernel)
theorem cw_251 : Cond.instanceMethod yX0_init ∈ cx_big := cx_tb 251 (by decide +kernel) (by decide +kernel)
theorem cw_252 : Cond.code yX0_init cX0_init 1 none ∈ cx_big := cx_tb 252 (by decide +kernel) (by decide +kernel)
theorem cw_253 : Cond.methodLink "TreeMerge$Draft" 3 objectInit ∈ cx_big := cx_tb 253 (by decide +kernel) (by decide +kernel)
theorem cw_254 : Cond.classLink "TreeMerge$Draft" 9 "TreeMerge$Tree" ∈ cx_big := cx_tb 254 (by decide +kernel) (by decide +kernel)
theorem cw_259 : Cond.fieldLink "TreeMerge$Draft" 12 "TreeMerge$Draft" "tree" "LTreeMerge$Tree;" ∈ cx_big := cx_tb 259 (by decide +kernel) (by decide +kernel)
theorem cw_261 : Cond.fieldLink "TreeMerge$Draft" 18 "TreeMerge$Draft" "list" "LTreeMerge$Tree;" ∈ cx_big := cx_tb 261 (by decide +kernel) (by decide +kernel)
theorem cw_271 : Cond.classLink "TreeMerge" 64 "TreeMerge$Settled" ∈ cx_big := cx_tb 271 (by decide +kernel) (by decide +kernel)
theorem cw_272 : Cond.instantiable "TreeMerge$Settled" 2 ∈ cx_big := cx_tb 272 (by decide +kernel) (by decide +kernel)
theorem cw_274 : Cond.instanceMethod yX7_init ∈ cx_big := cx_tb 274 (by decide +kernel) (by decide +kernel)
theorem cw_275 : Cond.code yX7_init cX7_init 1 none ∈ cx_big := cx_tb 275 (by decide +kernel) (by decide +kernel)
theorem cw_276 : Cond.methodLink "TreeMerge$Settled" 3 objectInit ∈ cx_big := cx_tb 276 (by decide +kernel) (by decide +kernel)
theorem cw_279 : Cond.fieldLink "TreeMerge$Settled" 9 "TreeMerge$Settled" "rows" "[I" ∈ cx_big := cx_tb 279 (by decide +kernel) (by decide +kernel)
theorem cw_285 : Cond.classLink "TreeMerge" 71 "TreeMerge$Merging" ∈ cx_big := cx_tb 285 (by decide +kernel) (by decide +kernel)
theorem cw_286 : Cond.instantiable "TreeMerge$Merging" 15 ∈ cx_big := cx_tb 286 (by decide +kernel) (by decide +kernel)
theorem cw_288 : Cond.instanceMethod yX5_init ∈ cx_big := cx_tb 288 (by decide +kernel) (by decide +kernel)
theorem cw_289 : Cond.code yX5_init cX5_init 1 none ∈ cx_big := cx_tb 289 (by decide +kernel) (by decide +kernel)
theorem cw_290 : Cond.methodLink "TreeMerge$Merging" 3 objectInit ∈ cx_big := cx_tb 290 (by decide +kernel) (by decide +kernel)
theorem cw_291 : Cond.classLink "TreeMerge$Merging" 9 "TreeMerge$Side" ∈ cx_big := cx_tb 291 (by decide +kernel) (by decide +kernel)
theorem cw_292 : Cond.instantiable "TreeMerge$Side" 4 ∈ cx_big := cx_tb 292 (by decide +kernel) (by decide +kernel)
theorem cw_294 : Cond.instanceMethod yX8_init ∈ cx_big := cx_tb 294 (by decide +kernel) (by decide +kernel)
theorem cw_295 : Cond.code yX8_init cX8_init 1 none ∈ cx_big := cx_tb 295 (by decide +kernel) (by decide +kernel)
theorem cw_296 : Cond.methodLink "TreeMerge$Side" 3 objectInit ∈ cx_big := cx_tb 296 (by decide +kernel) (by decide +kernel)
theorem cw_297 : Cond.classLink "TreeMerge$Side" 9 "TreeMerge$Tree" ∈ cx_big := cx_tb 297 (by decide +kernel) (by decide +kernel)
theorem cw_299 : Cond.fieldLink "TreeMerge$Side" 12 "TreeMerge$Side" "tree" "LTreeMerge$Tree;" ∈ cx_big := cx_tb 299 (by decide +kernel) (by decide +kernel)
theorem cw_302 : Cond.fieldLink "TreeMerge$Side" 18 "TreeMerge$Side" "places" "[I" ∈ cx_big := cx_tb 302 (by decide +kernel) (by decide +kernel)
theorem cw_303 : Cond.fieldLink "TreeMerge$Side" 22 "TreeMerge$Side" "touched" "[I" ∈ cx_big := cx_tb 303 (by decide +kernel) (by decide +kernel)
theorem cw_313 : Cond.classLink "TreeMerge$Merging" 24 "TreeMerge$Tree" ∈ cx_big := cx_tb 313 (by decide +kernel) (by decide +kernel)
theorem cw_315 : Cond.fieldLink "TreeMerge$Merging" 12 "TreeMerge$Merging" "one" "LTreeMerge$Side;" ∈ cx_big := cx_tb 315 (by decide +kernel) (by decide +kernel)
theorem cw_317 : Cond.fieldLink "TreeMerge$Merging" 18 "TreeMerge$Merging" "other" "LTreeMerge$Side;" ∈ cx_big := cx_tb 317 (by decide +kernel) (by decide +kernel)
theorem cw_319 : Cond.fieldLink "TreeMerge$Merging" 21 "TreeMerge$Merging" "base" "LTreeMerge$Side;" ∈ cx_big := cx_tb 319 (by decide +kernel) (by decide +kernel)
theorem cw_321 : Cond.fieldLink "TreeMerge$Merging" 27 "TreeMerge$Merging" "result" "LTreeMerge$Tree;" ∈ cx_big := cx_tb 321 (by decide +kernel) (by decide +kernel)
theorem cw_323 : Cond.fieldLink "TreeMerge$Merging" 31 "TreeMerge$Merging" "list" "LTreeMerge$Tree;" ∈ cx_big := cx_tb 323 (by decide +kernel) (by decide +kernel)
theorem cw_324 : Cond.fieldLink "TreeMerge$Merging" 34 "TreeMerge$Merging" "marks" "[I" ∈ cx_big := cx_tb 324 (by decide +kernel) (by decide +kernel)
theorem cw_325 : Cond.fieldLink "TreeMerge$Merging" 38 "TreeMerge$Merging" "stands" "[I" ∈ cx_big := cx_tb 325 (by decide +kernel) (by decide +kernel)
theorem cw_326 : Cond.fieldLink "TreeMerge$Merging" 41 "TreeMerge$Merging" "kinds" "[I" ∈ cx_big := cx_tb 326 (by decide +kernel) (by decide +kernel)
theorem cw_327 : Cond.fieldLink "TreeMerge$Merging" 44 "TreeMerge$Merging" "ups" "[I" ∈ cx_big := cx_tb 327 (by decide +kernel) (by decide +kernel)
theorem cw_328 : Cond.fieldLink "TreeMerge$Merging" 47 "TreeMerge$Merging" "words" "[J" ∈ cx_big := cx_tb 328 (by decide +kernel) (by decide +kernel)
theorem cw_330 : Cond.fieldLink "TreeMerge$Merging" 51 "TreeMerge$Merging" "children" "[I" ∈ cx_big := cx_tb 330 (by decide +kernel) (by decide +kernel)
theorem cw_332 : Cond.fieldLink "TreeMerge$Merging" 54 "TreeMerge$Merging" "ahead" "[I" ∈ cx_big := cx_tb 332 (by decide +kernel) (by decide +kernel)
theorem cw_333 : Cond.fieldLink "TreeMerge$Merging" 57 "TreeMerge$Merging" "waits" "[I" ∈ cx_big := cx_tb 333 (by decide +kernel) (by decide +kernel)
theorem cw_365 : Cond.classLink "TreeMerge" 84 "TreeMerge$Printer" ∈ cx_big := cx_tb 365 (by decide +kernel) (by decide +kernel)
theorem cw_366 : Cond.instantiable "TreeMerge$Printer" 3 ∈ cx_big := cx_tb 366 (by decide +kernel) (by decide +kernel)
theorem cw_368 : Cond.instanceMethod yX6_init ∈ cx_big := cx_tb 368 (by decide +kernel) (by decide +kernel)
theorem cw_369 : Cond.code yX6_init cX6_init 1 none ∈ cx_big := cx_tb 369 (by decide +kernel) (by decide +kernel)
theorem cw_370 : Cond.methodLink "TreeMerge$Printer" 3 objectInit ∈ cx_big := cx_tb 370 (by decide +kernel) (by decide +kernel)
theorem cw_383 : Cond.fieldLink "TreeMerge" 12 "TreeMerge" "text" "LTreeMerge$Text;" ∈ cx_big := cx_tb 383 (by decide +kernel) (by decide +kernel)
theorem cw_384 : Cond.fieldLink "TreeMerge" 19 "TreeMerge" "rules" "LTreeMerge$Grammar;" ∈ cx_big := cx_tb 384 (by decide +kernel) (by decide +kernel)
theorem cw_385 : Cond.fieldLink "TreeMerge" 23 "TreeMerge" "trial" "LTreeMerge$Grammar;" ∈ cx_big := cx_tb 385 (by decide +kernel) (by decide +kernel)
theorem cw_386 : Cond.fieldLink "TreeMerge" 29 "TreeMerge" "read" "LTreeMerge$Tree;" ∈ cx_big := cx_tb 386 (by decide +kernel) (by decide +kernel)
theorem cw_387 : Cond.fieldLink "TreeMerge" 33 "TreeMerge" "textTree" "LTreeMerge$Tree;" ∈ cx_big := cx_tb 387 (by decide +kernel) (by decide +kernel)
theorem cw_388 : Cond.fieldLink "TreeMerge" 39 "TreeMerge" "kids" "LTreeMerge$Kids;" ∈ cx_big := cx_tb 388 (by decide +kernel) (by decide +kernel)
theorem cw_389 : Cond.fieldLink "TreeMerge" 46 "TreeMerge" "matcher" "LTreeMerge$Matcher;" ∈ cx_big := cx_tb 389 (by decide +kernel) (by decide +kernel)
theorem cw_390 : Cond.fieldLink "TreeMerge" 53 "TreeMerge" "editions" "LTreeMerge$Editions;" ∈ cx_big := cx_tb 390 (by decide +kernel) (by decide +kernel)
theorem cw_391 : Cond.fieldLink "TreeMerge" 60 "TreeMerge" "draft" "LTreeMerge$Draft;" ∈ cx_big := cx_tb 391 (by decide +kernel) (by decide +kernel)
theorem cw_392 : Cond.fieldLink "TreeMerge" 67 "TreeMerge" "settled" "LTreeMerge$Settled;" ∈ cx_big := cx_tb 392 (by decide +kernel) (by decide +kernel)
theorem cw_393 : Cond.fieldLink "TreeMerge" 74 "TreeMerge" "merging" "LTreeMerge$Merging;" ∈ cx_big := cx_tb 393 (by decide +kernel) (by decide +kernel)
theorem cw_394 : Cond.fieldLink "TreeMerge" 78 "TreeMerge" "made" "LTreeMerge$Tree;" ∈ cx_big := cx_tb 394 (by decide +kernel) (by decide +kernel)
theorem cw_395 : Cond.fieldLink "TreeMerge" 81 "TreeMerge" "fresh" "LTreeMerge$Tree;" ∈ cx_big := cx_tb 395 (by decide +kernel) (by decide +kernel)
theorem cw_396 : Cond.fieldLink "TreeMerge" 87 "TreeMerge" "printer" "LTreeMerge$Printer;" ∈ cx_big := cx_tb 396 (by decide +kernel) (by decide +kernel)
theorem cw_397 : Cond.fieldLink "TreeMerge" 91 "TreeMerge" "nodeWriters" "[I" ∈ cx_big := cx_tb 397 (by decide +kernel) (by decide +kernel)
theorem cw_399 : Cond.fieldLink "TreeMerge" 95 "TreeMerge" "told" "[I" ∈ cx_big := cx_tb 399 (by decide +kernel) (by decide +kernel)
theorem cw_401 : Cond.fieldLink "TreeMerge" 98 "TreeMerge" "nameRow" "[I" ∈ cx_big := cx_tb 401 (by decide +kernel) (by decide +kernel)
theorem cx_inX0 : ∀ w ∈ u_ws RX0 TX0 4, w ∈ cx_big := cx_inT [262, 264, 266, 268] (by decide +kernel) (by decide +kernel)
theorem cx_fsX0 : ∀ j, j < 4 → defaultValue (tyX0 j) = vp_V [.int 0, .int 0, .null, .null] j := by
  intro j hj
  match j, hj with
  | 0, _ => rfl
  | 1, _ => rfl
  | 2, _ => rfl
  | 3, _ => rfl
  | k + 4, h => exact absurd h (by omega)
theorem cx_inX1 : ∀ w ∈ u_ws RX1 TX1 5, w ∈ cx_big := cx_inT [237, 239, 241, 243, 245] (by decide +kernel) (by decide +kernel)
theorem cx_fsX1 : ∀ j, j < 5 → defaultValue (tyX1 j) = vp_V [.int 0, .null, .null, .null, .null] j := by
  intro j hj
  match j, hj with
  | 0, _ => rfl
  | 1, _ => rfl
  | 2, _ => rfl
  | 3, _ => rfl
  | 4, _ => rfl
  | k + 5, h => exact absurd h (by omega)
theorem cx_inX2 : ∀ w ∈ u_ws RX2 TX2 13, w ∈ cx_big := cx_inT [83, 85, 87, 89, 91, 93, 95, 97, 99, 101, 103, 105, 107] (by decide +kernel) (by decide +kernel)
theorem cx_fsX2 : ∀ j, j < 13 → defaultValue (tyX2 j) = vp_V [.null, .int 0, .null, .null, .null, .null, .null, .int 0, .null, .null, .null, .null, .null] j := by
  intro j hj
  match j, hj with
  | 0, _ => rfl
  | 1, _ => rfl
  | 2, _ => rfl
  | 3, _ => rfl
  | 4, _ => rfl
  | 5, _ => rfl
  | 6, _ => rfl
  | 7, _ => rfl
  | 8, _ => rfl
  | 9, _ => rfl
  | 10, _ => rfl
  | 11, _ => rfl
  | 12, _ => rfl
  | k + 13, h => exact absurd h (by omega)
theorem cx_inX3 : ∀ w ∈ u_ws RX3 TX3 3, w ∈ cx_big := cx_inT [182, 184, 186] (by decide +kernel) (by decide +kernel)
theorem cx_fsX3 : ∀ j, j < 3 → defaultValue (tyX3 j) = vp_V [.int 0, .null, .null] j := by
  intro j hj
  match j, hj with
  | 0, _ => rfl
  | 1, _ => rfl
  | 2, _ => rfl
  | k + 3, h => exact absurd h (by omega)
theorem cx_inX4 : ∀ w ∈ u_ws RX4 TX4 7, w ∈ cx_big := cx_inT [206, 208, 210, 212, 214, 216, 218] (by decide +kernel) (by decide +kernel)
theorem cx_fsX4 : ∀ j, j < 7 → defaultValue (tyX4 j) = vp_V [.null, .null, .null, .null, .null, .int 0, .int 0] j := by
  intro j hj
  match j, hj with
  | 0, _ => rfl
  | 1, _ => rfl
  | 2, _ => rfl
  | 3, _ => rfl
  | 4, _ => rfl
  | 5, _ => rfl
  | 6, _ => rfl
  | k + 7, h => exact absurd h (by omega)
theorem cx_inX5 : ∀ w ∈ u_ws RX5 TX5 15, w ∈ cx_big := cx_inT [334, 336, 338, 340, 342, 344, 346, 348, 350, 352, 354, 356, 358, 360, 362] (by decide +kernel) (by decide +kernel)
theorem cx_fsX5 : ∀ j, j < 15 → defaultValue (tyX5 j) = vp_V [.null, .null, .null, .null, .null, .null, .null, .null, .null, .null, .int 0, .null, .int 0, .null, .null] j := by
  intro j hj
  match j, hj with
  | 0, _ => rfl
  | 1, _ => rfl
  | 2, _ => rfl
  | 3, _ => rfl
  | 4, _ => rfl
  | 5, _ => rfl
  | 6, _ => rfl
  | 7, _ => rfl
  | 8, _ => rfl
  | 9, _ => rfl
  | 10, _ => rfl
  | 11, _ => rfl
  | 12, _ => rfl
  | 13, _ => rfl
  | 14, _ => rfl
  | k + 15, h => exact absurd h (by omega)
theorem cx_inX6 : ∀ w ∈ u_ws RX6 TX6 3, w ∈ cx_big := cx_inT [376, 378, 380] (by decide +kernel) (by decide +kernel)
theorem cx_fsX6 : ∀ j, j < 3 → defaultValue (tyX6 j) = vp_V [.int 0, .int 0, .int 0] j := by
  intro j hj
  match j, hj with
  | 0, _ => rfl
  | 1, _ => rfl
  | 2, _ => rfl
  | k + 3, h => exact absurd h (by omega)
theorem cx_inX7 : ∀ w ∈ u_ws RX7 TX7 2, w ∈ cx_big := cx_inT [280, 282] (by decide +kernel) (by decide +kernel)
theorem cx_fsX7 : ∀ j, j < 2 → defaultValue (tyX7 j) = vp_V [.int 0, .null] j := by
  intro j hj
  match j, hj with
  | 0, _ => rfl
  | 1, _ => rfl
  | k + 2, h => exact absurd h (by omega)
theorem cx_inX8 : ∀ w ∈ u_ws RX8 TX8 4, w ∈ cx_big := cx_inT [304, 306, 308, 310] (by decide +kernel) (by decide +kernel)
theorem cx_fsX8 : ∀ j, j < 4 → defaultValue (tyX8 j) = vp_V [.null, .int 0, .null, .null] j := by
  intro j hj
  match j, hj with
  | 0, _ => rfl
  | 1, _ => rfl
  | 2, _ => rfl
  | 3, _ => rfl
  | k + 4, h => exact absurd h (by omega)
theorem cx_inX9 : ∀ w ∈ u_ws RX9 TX9 5, w ∈ cx_big := cx_inT [48, 50, 52, 54, 56] (by decide +kernel) (by decide +kernel)
theorem cx_fsX9 : ∀ j, j < 5 → defaultValue (tyX9 j) = vp_V [.null, .int 0, .int 0, .int 0, .int 0] j := by
  intro j hj
  match j, hj with
  | 0, _ => rfl
  | 1, _ => rfl
  | 2, _ => rfl
  | 3, _ => rfl
  | 4, _ => rfl
  | k + 5, h => exact absurd h (by omega)
theorem cx_inX10 : ∀ w ∈ u_ws RX10 TX10 8, w ∈ cx_big := cx_inT [153, 155, 157, 159, 161, 163, 165, 167] (by decide +kernel) (by decide +kernel)
theorem cx_fsX10 : ∀ j, j < 8 → defaultValue (tyX10 j) = vp_V [.int 0, .null, .null, .null, .null, .null, .null, .null] j := by
  intro j hj
  match j, hj with
  | 0, _ => rfl
  | 1, _ => rfl
  | 2, _ => rfl
  | 3, _ => rfl
  | 4, _ => rfl
  | 5, _ => rfl
  | 6, _ => rfl
  | 7, _ => rfl
  | k + 8, h => exact absurd h (by omega)
theorem cx_inX11 : ∀ w ∈ u_ws RX11 TX11 19, w ∈ cx_big := cx_inT [402, 404, 406, 408, 410, 412, 414, 416, 418, 420, 422, 424, 426, 428, 430, 432, 434, 436, 438] (by decide +kernel) (by decide +kernel)
theorem cx_fsX11 : ∀ j, j < 19 → defaultValue (tyX11 j) = vp_V [.null, .null, .null, .null, .null, .null, .null, .null, .null, .null, .null, .null, .null, .null, .null, .int 0, .null, .int 0, .null] j := by
  intro j hj
  match j, hj with
  | 0, _ => rfl
  | 1, _ => rfl
  | 2, _ => rfl
  | 3, _ => rfl
  | 4, _ => rfl
  | 5, _ => rfl
  | 6, _ => rfl
  | 7, _ => rfl
  | 8, _ => rfl
  | 9, _ => rfl
  | 10, _ => rfl
  | 11, _ => rfl
  | 12, _ => rfl
  | 13, _ => rfl
  | 14, _ => rfl
  | 15, _ => rfl
  | 16, _ => rfl
  | 17, _ => rfl
  | 18, _ => rfl
  | k + 19, h => exact absurd h (by omega)
theorem cx_inX12 : ∀ w ∈ u_ws RX12 TX12 64, w ∈ cx_big := cx_inT [1257, 1259, 1261, 1263, 1265, 1267, 1269, 1271, 1273, 1275, 1277, 1279, 1281, 1283, 1285, 1287, 1289, 1291, 1293, 1295, 1297, 1299, 1301, 1303, 1305, 1307, 1309, 1311, 1313, 1315, 1317, 1319, 1321, 1323, 1325, 1327, 1329, 1331, 1333, 1335, 1337, 1339, 1341, 1343, 1345, 1347, 1349, 1351, 1353, 1355, 1357, 1359, 1361, 1363, 1365, 1367, 1369, 1371, 1373, 1375, 1377, 1379, 1381, 1383] (by decide +kernel) (by decide +kernel)
theorem cx_fsX12 : ∀ j, j < 64 → defaultValue (tyX12 j) = vp_V [.null, .int 0, .int 0, .int 0, .int 0, .null, .null, .null, .null, .null, .null, .null, .null, .null, .int 0, .int 0, .null, .null, .null, .null, .null, .null, .null, .null, .null, .null, .int 0, .int 0, .int 0, .int 0, .null, .null, .null, .null, .null, .null, .null, .null, .null, .null, .null, .null, .null, .null, .null, .null, .null, .null, .null, .null, .int 0, .int 0, .int 0, .null, .null, .null, .null, .int 0, .int 0, .null, .null, .null, .null, .int 0] j := by
  intro j hj
  match j, hj with
  | 0, _ => rfl
  | 1, _ => rfl
  | 2, _ => rfl
  | 3, _ => rfl
  | 4, _ => rfl
  | 5, _ => rfl
  | 6, _ => rfl
  | 7, _ => rfl
  | 8, _ => rfl
  | 9, _ => rfl
  | 10, _ => rfl
  | 11, _ => rfl
  | 12, _ => rfl
  | 13, _ => rfl
  | 14, _ => rfl
  | 15, _ => rfl
  | 16, _ => rfl
  | 17, _ => rfl
  | 18, _ => rfl
  | 19, _ => rfl
  | 20, _ => rfl
  | 21, _ => rfl
  | 22, _ => rfl
  | 23, _ => rfl
  | 24, _ => rfl
  | 25, _ => rfl
  | 26, _ => rfl
  | 27, _ => rfl
  | 28, _ => rfl
  | 29, _ => rfl
  | 30, _ => rfl
  | 31, _ => rfl
  | 32, _ => rfl
  | 33, _ => rfl
  | 34, _ => rfl
  | 35, _ => rfl
  | 36, _ => rfl
  | 37, _ => rfl
  | 38, _ => rfl
  | 39, _ => rfl
  | 40, _ => rfl
  | 41, _ => rfl
  | 42, _ => rfl
  | 43, _ => rfl
  | 44, _ => rfl
  | 45, _ => rfl
  | 46, _ => rfl
  | 47, _ => rfl
  | 48, _ => rfl
  | 49, _ => rfl
  | 50, _ => rfl
  | 51, _ => rfl
  | 52, _ => rfl
  | 53, _ => rfl
  | 54, _ => rfl
  | 55, _ => rfl
  | 56, _ => rfl
  | 57, _ => rfl
  | 58, _ => rfl
  | 59, _ => rfl
  | 60, _ => rfl
  | 61, _ => rfl
  | 62, _ => rfl
  | 63, _ => rfl
  | k + 64, h => exact absurd h (by omega)
