theorem tw_306 : (Jvm.Cond.methodLink "FallingTerms" (96 : Nat) ({ cls := "FallingTerms", name := "isName", desc := "(II)Z" } : Jvm.MethodName)) ∈ tg := tg_in 306 (by decide +kernel) rfl
theorem tw_308 : (Jvm.Cond.instanceMethod ({ cls := "FallingTerms", name := "isName", desc := "(II)Z" } : Jvm.MethodName)) ∈ tg := tg_in 308 (by decide +kernel) rfl
theorem tw_309 : (Jvm.Cond.code ({ cls := "FallingTerms", name := "isName", desc := "(II)Z" } : Jvm.MethodName) prog_1_method_28_code (3 : Nat) (Option.some Jvm.ClassFile.FieldType.boolean)) ∈ tg := tg_in 309 (by decide +kernel) rfl
theorem tw_310 : (Jvm.Cond.methodLink "FallingTermsLaw" (41 : Nat) ({ cls := "FallingTerms", name := "constant", desc := "(IIII)I" } : Jvm.MethodName)) ∈ tg := tg_in 310 (by decide +kernel) rfl
theorem tw_311 : (Jvm.Cond.instanceMethod ({ cls := "FallingTerms", name := "constant", desc := "(IIII)I" } : Jvm.MethodName)) ∈ tg := tg_in 311 (by decide +kernel) rfl
theorem tw_312 : (Jvm.Cond.selects "FallingTerms" ({ cls := "FallingTerms", name := "constant", desc := "(IIII)I" } : Jvm.MethodName) ({ cls := "FallingTerms", name := "constant", desc := "(IIII)I" } : Jvm.MethodName)) ∈ tg := tg_in 312 (by decide +kernel) rfl
theorem tw_313 : (Jvm.Cond.code ({ cls := "FallingTerms", name := "constant", desc := "(IIII)I" } : Jvm.MethodName) prog_1_method_8_code (7 : Nat) (Option.some Jvm.ClassFile.FieldType.int)) ∈ tg := tg_in 313 (by decide +kernel) rfl
theorem tw_314 : (Jvm.Cond.methodLink "FallingTermsLaw" (46 : Nat) ({ cls := "FallingTerms", name := "told", desc := "(II)I" } : Jvm.MethodName)) ∈ tg := tg_in 314 (by decide +kernel) rfl
theorem tw_315 : (Jvm.Cond.instanceMethod ({ cls := "FallingTerms", name := "told", desc := "(II)I" } : Jvm.MethodName)) ∈ tg := tg_in 315 (by decide +kernel) rfl
theorem tw_316 : (Jvm.Cond.selects "FallingTerms" ({ cls := "FallingTerms", name := "told", desc := "(II)I" } : Jvm.MethodName) ({ cls := "FallingTerms", name := "told", desc := "(II)I" } : Jvm.MethodName)) ∈ tg := tg_in 316 (by decide +kernel) rfl
theorem tw_317 : (Jvm.Cond.code ({ cls := "FallingTerms", name := "told", desc := "(II)I" } : Jvm.MethodName) prog_1_method_9_code (3 : Nat) (Option.some Jvm.ClassFile.FieldType.int)) ∈ tg := tg_in 317 (by decide +kernel) rfl
theorem tw_318 : (Jvm.Cond.methodLink "FallingTermsLaw" (51 : Nat) ({ cls := "FallingTerms", name := "empty", desc := "(II)I" } : Jvm.MethodName)) ∈ tg := tg_in 318 (by decide +kernel) rfl
theorem tw_319 : (Jvm.Cond.instanceMethod ({ cls := "FallingTerms", name := "empty", desc := "(II)I" } : Jvm.MethodName)) ∈ tg := tg_in 319 (by decide +kernel) rfl
theorem tw_320 : (Jvm.Cond.selects "FallingTerms" ({ cls := "FallingTerms", name := "empty", desc := "(II)I" } : Jvm.MethodName) ({ cls := "FallingTerms", name := "empty", desc := "(II)I" } : Jvm.MethodName)) ∈ tg := tg_in 320 (by decide +kernel) rfl
theorem tw_321 : (Jvm.Cond.code ({ cls := "FallingTerms", name := "empty", desc := "(II)I" } : Jvm.MethodName) prog_1_method_10_code (3 : Nat) (Option.some Jvm.ClassFile.FieldType.int)) ∈ tg := tg_in 321 (by decide +kernel) rfl
theorem tw_322 : (Jvm.Cond.methodLink "FallingTerms" (117 : Nat) ({ cls := "FallingTerms", name := "spaceOf", desc := "(II)LFallingTerms$Space;" } : Jvm.MethodName)) ∈ tg := tg_in 322 (by decide +kernel) rfl
theorem tw_324 : (Jvm.Cond.instanceMethod ({ cls := "FallingTerms", name := "spaceOf", desc := "(II)LFallingTerms$Space;" } : Jvm.MethodName)) ∈ tg := tg_in 324 (by decide +kernel) rfl
theorem tw_325 : (Jvm.Cond.code ({ cls := "FallingTerms", name := "spaceOf", desc := "(II)LFallingTerms$Space;" } : Jvm.MethodName) prog_1_method_34_code (3 : Nat) (Option.some (Jvm.ClassFile.FieldType.object "FallingTerms$Space"))) ∈ tg := tg_in 325 (by decide +kernel) rfl
theorem tw_326 : (Jvm.Cond.methodLink "FallingTerms" (192 : Nat) ({ cls := "FallingTerms$Space", name := "fill", desc := "(LFallingTerms$Loop;I)V" } : Jvm.MethodName)) ∈ tg := tg_in 326 (by decide +kernel) rfl
theorem tw_327 : (Jvm.Cond.instanceMethod ({ cls := "FallingTerms$Space", name := "fill", desc := "(LFallingTerms$Loop;I)V" } : Jvm.MethodName)) ∈ tg := tg_in 327 (by decide +kernel) rfl
theorem tw_328 : (Jvm.Cond.selects "FallingTerms$Space" ({ cls := "FallingTerms$Space", name := "fill", desc := "(LFallingTerms$Loop;I)V" } : Jvm.MethodName) ({ cls := "FallingTerms$Space", name := "fill", desc := "(LFallingTerms$Loop;I)V" } : Jvm.MethodName)) ∈ tg := tg_in 328 (by decide +kernel) rfl
theorem tw_329 : (Jvm.Cond.code ({ cls := "FallingTerms$Space", name := "fill", desc := "(LFallingTerms$Loop;I)V" } : Jvm.MethodName) prog_5_method_2_code (7 : Nat) (Option.none : Option Jvm.ClassFile.FieldType)) ∈ tg := tg_in 329 (by decide +kernel) rfl
theorem tw_330 : (Jvm.Cond.methodLink "FallingTerms$Space" (34 : Nat) ({ cls := "FallingTerms$Space", name := "begin", desc := "(I)V" } : Jvm.MethodName)) ∈ tg := tg_in 330 (by decide +kernel) rfl
theorem tw_332 : (Jvm.Cond.instanceMethod ({ cls := "FallingTerms$Space", name := "begin", desc := "(I)V" } : Jvm.MethodName)) ∈ tg := tg_in 332 (by decide +kernel) rfl
theorem tw_333 : (Jvm.Cond.code ({ cls := "FallingTerms$Space", name := "begin", desc := "(I)V" } : Jvm.MethodName) prog_5_method_8_code (3 : Nat) (Option.none : Option Jvm.ClassFile.FieldType)) ∈ tg := tg_in 333 (by decide +kernel) rfl
theorem tw_334 : (Jvm.Cond.methodLink "FallingTerms$Space" (90 : Nat) ({ cls := "FallingTerms$Space", name := "appendPivot", desc := "(I)V" } : Jvm.MethodName)) ∈ tg := tg_in 334 (by decide +kernel) rfl
theorem tw_336 : (Jvm.Cond.instanceMethod ({ cls := "FallingTerms$Space", name := "appendPivot", desc := "(I)V" } : Jvm.MethodName)) ∈ tg := tg_in 336 (by decide +kernel) rfl
theorem tw_337 : (Jvm.Cond.code ({ cls := "FallingTerms$Space", name := "appendPivot", desc := "(I)V" } : Jvm.MethodName) prog_5_method_17_code (3 : Nat) (Option.none : Option Jvm.ClassFile.FieldType)) ∈ tg := tg_in 337 (by decide +kernel) rfl
theorem tw_338 : (Jvm.Cond.methodLink "FallingTerms$Space" (50 : Nat) ({ cls := "FallingTerms$Space", name := "narrow", desc := "(IIII)V" } : Jvm.MethodName)) ∈ tg := tg_in 338 (by decide +kernel) rfl
theorem tw_339 : (Jvm.Cond.instanceMethod ({ cls := "FallingTerms$Space", name := "narrow", desc := "(IIII)V" } : Jvm.MethodName)) ∈ tg := tg_in 339 (by decide +kernel) rfl
theorem tw_340 : (Jvm.Cond.selects "FallingTerms$Space" ({ cls := "FallingTerms$Space", name := "narrow", desc := "(IIII)V" } : Jvm.MethodName) ({ cls := "FallingTerms$Space", name := "narrow", desc := "(IIII)V" } : Jvm.MethodName)) ∈ tg := tg_in 340 (by decide +kernel) rfl
theorem tw_341 : (Jvm.Cond.code ({ cls := "FallingTerms$Space", name := "narrow", desc := "(IIII)V" } : Jvm.MethodName) prog_5_method_7_code (6 : Nat) (Option.none : Option Jvm.ClassFile.FieldType)) ∈ tg := tg_in 341 (by decide +kernel) rfl
theorem tw_342 : (Jvm.Cond.methodLink "FallingTerms$Space" (72 : Nat) ({ cls := "FallingTerms$Space", name := "lineAcross", desc := "(III)I" } : Jvm.MethodName)) ∈ tg := tg_in 342 (by decide +kernel) rfl
theorem tw_344 : (Jvm.Cond.instanceMethod ({ cls := "FallingTerms$Space", name := "lineAcross", desc := "(III)I" } : Jvm.MethodName)) ∈ tg := tg_in 344 (by decide +kernel) rfl
theorem tw_345 : (Jvm.Cond.code ({ cls := "FallingTerms$Space", name := "lineAcross", desc := "(III)I" } : Jvm.MethodName) prog_5_method_11_code (5 : Nat) (Option.some Jvm.ClassFile.FieldType.int)) ∈ tg := tg_in 345 (by decide +kernel) rfl
theorem tw_346 : (Jvm.Cond.methodLink "FallingTerms$Space" (93 : Nat) ({ cls := "FallingTerms$Space", name := "slope", desc := "(IIII)J" } : Jvm.MethodName)) ∈ tg := tg_in 346 (by decide +kernel) rfl
theorem tw_348 : (Jvm.Cond.instanceMethod ({ cls := "FallingTerms$Space", name := "slope", desc := "(IIII)J" } : Jvm.MethodName)) ∈ tg := tg_in 348 (by decide +kernel) rfl
theorem tw_349 : (Jvm.Cond.code ({ cls := "FallingTerms$Space", name := "slope", desc := "(IIII)J" } : Jvm.MethodName) prog_5_method_10_code (6 : Nat) (Option.some Jvm.ClassFile.FieldType.long)) ∈ tg := tg_in 349 (by decide +kernel) rfl
theorem tw_350 : (Jvm.Cond.methodLink "FallingTerms$Space" (80 : Nat) ({ cls := "FallingTerms$Space", name := "turn", desc := "(IIIII)V" } : Jvm.MethodName)) ∈ tg := tg_in 350 (by decide +kernel) rfl
theorem tw_352 : (Jvm.Cond.instanceMethod ({ cls := "FallingTerms$Space", name := "turn", desc := "(IIIII)V" } : Jvm.MethodName)) ∈ tg := tg_in 352 (by decide +kernel) rfl
theorem tw_353 : (Jvm.Cond.code ({ cls := "FallingTerms$Space", name := "turn", desc := "(IIIII)V" } : Jvm.MethodName) prog_5_method_12_code (11 : Nat) (Option.none : Option Jvm.ClassFile.FieldType)) ∈ tg := tg_in 353 (by decide +kernel) rfl
theorem tw_354 : (Jvm.Cond.constantLong "FallingTerms$Space" (97 : Nat) (-1 : Int64)) ∈ tg := tg_in 354 (by decide +kernel) rfl
theorem tw_355 : (Jvm.Cond.methodLink "FallingTerms$Space" (99 : Nat) ({ cls := "FallingTerms$Space", name := "shift", desc := "([JIJJ)V" } : Jvm.MethodName)) ∈ tg := tg_in 355 (by decide +kernel) rfl
theorem tw_357 : (Jvm.Cond.instanceMethod ({ cls := "FallingTerms$Space", name := "shift", desc := "([JIJJ)V" } : Jvm.MethodName)) ∈ tg := tg_in 357 (by decide +kernel) rfl
theorem tw_358 : (Jvm.Cond.code ({ cls := "FallingTerms$Space", name := "shift", desc := "([JIJJ)V" } : Jvm.MethodName) prog_5_method_13_code (8 : Nat) (Option.none : Option Jvm.ClassFile.FieldType)) ∈ tg := tg_in 358 (by decide +kernel) rfl
theorem tw_359 : (Jvm.Cond.methodLink "FallingTerms$Space" (103 : Nat) ({ cls := "FallingTerms$Space", name := "reduce", desc := "([JI)V" } : Jvm.MethodName)) ∈ tg := tg_in 359 (by decide +kernel) rfl
theorem tw_360 : (Jvm.Cond.static ({ cls := "FallingTerms$Space", name := "reduce", desc := "([JI)V" } : Jvm.MethodName)) ∈ tg := tg_in 360 (by decide +kernel) rfl
theorem tw_361 : (Jvm.Cond.code ({ cls := "FallingTerms$Space", name := "reduce", desc := "([JI)V" } : Jvm.MethodName) prog_5_method_20_code (10 : Nat) (Option.none : Option Jvm.ClassFile.FieldType)) ∈ tg := tg_in 361 (by decide +kernel) rfl
theorem tw_362 : (Jvm.Cond.methodLink "FallingTerms$Space" (76 : Nat) ({ cls := "FallingTerms$Space", name := "worth", desc := "(IIIII)J" } : Jvm.MethodName)) ∈ tg := tg_in 362 (by decide +kernel) rfl
theorem tw_364 : (Jvm.Cond.instanceMethod ({ cls := "FallingTerms$Space", name := "worth", desc := "(IIIII)J" } : Jvm.MethodName)) ∈ tg := tg_in 364 (by decide +kernel) rfl
theorem tw_365 : (Jvm.Cond.code ({ cls := "FallingTerms$Space", name := "worth", desc := "(IIIII)J" } : Jvm.MethodName) prog_5_method_9_code (7 : Nat) (Option.some Jvm.ClassFile.FieldType.long)) ∈ tg := tg_in 365 (by decide +kernel) rfl
theorem tw_366 : (Jvm.Cond.methodLink "FallingTerms$Space" (84 : Nat) ({ cls := "FallingTerms$Space", name := "cut", desc := "(IIII)V" } : Jvm.MethodName)) ∈ tg := tg_in 366 (by decide +kernel) rfl
theorem tw_368 : (Jvm.Cond.instanceMethod ({ cls := "FallingTerms$Space", name := "cut", desc := "(IIII)V" } : Jvm.MethodName)) ∈ tg := tg_in 368 (by decide +kernel) rfl
theorem tw_369 : (Jvm.Cond.code ({ cls := "FallingTerms$Space", name := "cut", desc := "(IIII)V" } : Jvm.MethodName) prog_5_method_14_code (8 : Nat) (Option.none : Option Jvm.ClassFile.FieldType)) ∈ tg := tg_in 369 (by decide +kernel) rfl
theorem tw_370 : (Jvm.Cond.methodLink "FallingTerms$Space" (107 : Nat) ({ cls := "FallingTerms$Space", name := "areNeighbours", desc := "(III)Z" } : Jvm.MethodName)) ∈ tg := tg_in 370 (by decide +kernel) rfl
theorem tw_372 : (Jvm.Cond.instanceMethod ({ cls := "FallingTerms$Space", name := "areNeighbours", desc := "(III)Z" } : Jvm.MethodName)) ∈ tg := tg_in 372 (by decide +kernel) rfl
theorem tw_373 : (Jvm.Cond.code ({ cls := "FallingTerms$Space", name := "areNeighbours", desc := "(III)Z" } : Jvm.MethodName) prog_5_method_15_code (6 : Nat) (Option.some Jvm.ClassFile.FieldType.boolean)) ∈ tg := tg_in 373 (by decide +kernel) rfl
theorem tw_374 : (Jvm.Cond.methodLink "FallingTerms$Space" (111 : Nat) ({ cls := "FallingTerms$Space", name := "appendBetween", desc := "(II)V" } : Jvm.MethodName)) ∈ tg := tg_in 374 (by decide +kernel) rfl
theorem tw_376 : (Jvm.Cond.instanceMethod ({ cls := "FallingTerms$Space", name := "appendBetween", desc := "(II)V" } : Jvm.MethodName)) ∈ tg := tg_in 376 (by decide +kernel) rfl
theorem tw_377 : (Jvm.Cond.code ({ cls := "FallingTerms$Space", name := "appendBetween", desc := "(II)V" } : Jvm.MethodName) prog_5_method_16_code (4 : Nat) (Option.none : Option Jvm.ClassFile.FieldType)) ∈ tg := tg_in 377 (by decide +kernel) rfl
theorem tw_378 : (Jvm.Cond.methodLink "FallingTerms$Space" (115 : Nat) ({ cls := "FallingTerms$Space", name := "dropBeyond", desc := "(I)V" } : Jvm.MethodName)) ∈ tg := tg_in 378 (by decide +kernel) rfl
theorem tw_380 : (Jvm.Cond.instanceMethod ({ cls := "FallingTerms$Space", name := "dropBeyond", desc := "(I)V" } : Jvm.MethodName)) ∈ tg := tg_in 380 (by decide +kernel) rfl
theorem tw_381 : (Jvm.Cond.code ({ cls := "FallingTerms$Space", name := "dropBeyond", desc := "(I)V" } : Jvm.MethodName) prog_5_method_18_code (5 : Nat) (Option.none : Option Jvm.ClassFile.FieldType)) ∈ tg := tg_in 381 (by decide +kernel) rfl
theorem tw_382 : (Jvm.Cond.methodLink "FallingTerms$Space" (87 : Nat) ({ cls := "FallingTerms$Space", name := "dropIfNoPoint", desc := "()V" } : Jvm.MethodName)) ∈ tg := tg_in 382 (by decide +kernel) rfl
theorem tw_384 : (Jvm.Cond.instanceMethod ({ cls := "FallingTerms$Space", name := "dropIfNoPoint", desc := "()V" } : Jvm.MethodName)) ∈ tg := tg_in 384 (by decide +kernel) rfl
theorem tw_385 : (Jvm.Cond.code ({ cls := "FallingTerms$Space", name := "dropIfNoPoint", desc := "()V" } : Jvm.MethodName) prog_5_method_19_code (2 : Nat) (Option.none : Option Jvm.ClassFile.FieldType)) ∈ tg := tg_in 385 (by decide +kernel) rfl
theorem tw_386 : (Jvm.Cond.methodLink "FallingTerms" (121 : Nat) ({ cls := "FallingTerms$Space", name := "hasNothing", desc := "()Z" } : Jvm.MethodName)) ∈ tg := tg_in 386 (by decide +kernel) rfl
theorem tw_387 : (Jvm.Cond.instanceMethod ({ cls := "FallingTerms$Space", name := "hasNothing", desc := "()Z" } : Jvm.MethodName)) ∈ tg := tg_in 387 (by decide +kernel) rfl
theorem tw_388 : (Jvm.Cond.selects "FallingTerms$Space" ({ cls := "FallingTerms$Space", name := "hasNothing", desc := "()Z" } : Jvm.MethodName) ({ cls := "FallingTerms$Space", name := "hasNothing", desc := "()Z" } : Jvm.MethodName)) ∈ tg := tg_in 388 (by decide +kernel) rfl
theorem tw_389 : (Jvm.Cond.code ({ cls := "FallingTerms$Space", name := "hasNothing", desc := "()Z" } : Jvm.MethodName) prog_5_method_4_code (1 : Nat) (Option.some Jvm.ClassFile.FieldType.boolean)) ∈ tg := tg_in 389 (by decide +kernel) rfl
theorem tw_390 : (Jvm.Cond.methodLink "FallingTermsLaw" (55 : Nat) ({ cls := "FallingTerms", name := "holds", desc := "(IIIIII)I" } : Jvm.MethodName)) ∈ tg := tg_in 390 (by decide +kernel) rfl
theorem tw_391 : (Jvm.Cond.instanceMethod ({ cls := "FallingTerms", name := "holds", desc := "(IIIIII)I" } : Jvm.MethodName)) ∈ tg := tg_in 391 (by decide +kernel) rfl
theorem tw_392 : (Jvm.Cond.selects "FallingTerms" ({ cls := "FallingTerms", name := "holds", desc := "(IIIIII)I" } : Jvm.MethodName) ({ cls := "FallingTerms", name := "holds", desc := "(IIIIII)I" } : Jvm.MethodName)) ∈ tg := tg_in 392 (by decide +kernel) rfl
theorem tw_393 : (Jvm.Cond.code ({ cls := "FallingTerms", name := "holds", desc := "(IIIIII)I" } : Jvm.MethodName) prog_1_method_11_code (7 : Nat) (Option.some Jvm.ClassFile.FieldType.int)) ∈ tg := tg_in 393 (by decide +kernel) rfl
theorem tw_394 : (Jvm.Cond.methodLink "FallingTerms" (125 : Nat) ({ cls := "FallingTerms$Space", name := "implies", desc := "(IIII)Z" } : Jvm.MethodName)) ∈ tg := tg_in 394 (by decide +kernel) rfl
theorem tw_395 : (Jvm.Cond.instanceMethod ({ cls := "FallingTerms$Space", name := "implies", desc := "(IIII)Z" } : Jvm.MethodName)) ∈ tg := tg_in 395 (by decide +kernel) rfl
theorem tw_396 : (Jvm.Cond.selects "FallingTerms$Space" ({ cls := "FallingTerms$Space", name := "implies", desc := "(IIII)Z" } : Jvm.MethodName) ({ cls := "FallingTerms$Space", name := "implies", desc := "(IIII)Z" } : Jvm.MethodName)) ∈ tg := tg_in 396 (by decide +kernel) rfl
theorem tw_397 : (Jvm.Cond.code ({ cls := "FallingTerms$Space", name := "implies", desc := "(IIII)Z" } : Jvm.MethodName) prog_5_method_5_code (6 : Nat) (Option.some Jvm.ClassFile.FieldType.boolean)) ∈ tg := tg_in 397 (by decide +kernel) rfl
theorem tw_398 : (Jvm.Cond.methodLink "FallingTermsLaw" (59 : Nat) ({ cls := "FallingTerms", name := "term", desc := "(IIIII)I" } : Jvm.MethodName)) ∈ tg := tg_in 398 (by decide +kernel) rfl
theorem tw_399 : (Jvm.Cond.instanceMethod ({ cls := "FallingTerms", name := "term", desc := "(IIIII)I" } : Jvm.MethodName)) ∈ tg := tg_in 399 (by decide +kernel) rfl
theorem tw_400 : (Jvm.Cond.selects "FallingTerms" ({ cls := "FallingTerms", name := "term", desc := "(IIIII)I" } : Jvm.MethodName) ({ cls := "FallingTerms", name := "term", desc := "(IIIII)I" } : Jvm.MethodName)) ∈ tg := tg_in 400 (by decide +kernel) rfl
theorem tw_401 : (Jvm.Cond.code ({ cls := "FallingTerms", name := "term", desc := "(IIIII)I" } : Jvm.MethodName) prog_1_method_12_code (8 : Nat) (Option.some Jvm.ClassFile.FieldType.int)) ∈ tg := tg_in 401 (by decide +kernel) rfl
theorem tw_402 : (Jvm.Cond.methodLink "FallingTerms" (132 : Nat) ({ cls := "FallingTerms$Space", name := "bounds", desc := "(III)Z" } : Jvm.MethodName)) ∈ tg := tg_in 402 (by decide +kernel) rfl
theorem tw_403 : (Jvm.Cond.instanceMethod ({ cls := "FallingTerms$Space", name := "bounds", desc := "(III)Z" } : Jvm.MethodName)) ∈ tg := tg_in 403 (by decide +kernel) rfl
theorem tw_404 : (Jvm.Cond.selects "FallingTerms$Space" ({ cls := "FallingTerms$Space", name := "bounds", desc := "(III)Z" } : Jvm.MethodName) ({ cls := "FallingTerms$Space", name := "bounds", desc := "(III)Z" } : Jvm.MethodName)) ∈ tg := tg_in 404 (by decide +kernel) rfl
theorem tw_405 : (Jvm.Cond.code ({ cls := "FallingTerms$Space", name := "bounds", desc := "(III)Z" } : Jvm.MethodName) prog_5_method_6_code (5 : Nat) (Option.some Jvm.ClassFile.FieldType.boolean)) ∈ tg := tg_in 405 (by decide +kernel) rfl
theorem tw_406 : (Jvm.Cond.methodLink "FallingTerms" (136 : Nat) ({ cls := "FallingTerms$Way", name := "lessens", desc := "(LFallingTerms$Space;IIII)Z" } : Jvm.MethodName)) ∈ tg := tg_in 406 (by decide +kernel) rfl
theorem tw_407 : (Jvm.Cond.instanceMethod ({ cls := "FallingTerms$Way", name := "lessens", desc := "(LFallingTerms$Space;IIII)Z" } : Jvm.MethodName)) ∈ tg := tg_in 407 (by decide +kernel) rfl
theorem tw_408 : (Jvm.Cond.selects "FallingTerms$Way" ({ cls := "FallingTerms$Way", name := "lessens", desc := "(LFallingTerms$Space;IIII)Z" } : Jvm.MethodName) ({ cls := "FallingTerms$Way", name := "lessens", desc := "(LFallingTerms$Space;IIII)Z" } : Jvm.MethodName)) ∈ tg := tg_in 408 (by decide +kernel) rfl
theorem tw_409 : (Jvm.Cond.code ({ cls := "FallingTerms$Way", name := "lessens", desc := "(LFallingTerms$Space;IIII)Z" } : Jvm.MethodName) prog_6_method_6_code (6 : Nat) (Option.some Jvm.ClassFile.FieldType.boolean)) ∈ tg := tg_in 409 (by decide +kernel) rfl
theorem tw_410 : (Jvm.Cond.methodLink "FallingTerms$Way" (35 : Nat) ({ cls := "FallingTerms$Way", name := "weightBehind", desc := "(IIII)I" } : Jvm.MethodName)) ∈ tg := tg_in 410 (by decide +kernel) rfl
theorem tw_411 : (Jvm.Cond.instanceMethod ({ cls := "FallingTerms$Way", name := "weightBehind", desc := "(IIII)I" } : Jvm.MethodName)) ∈ tg := tg_in 411 (by decide +kernel) rfl
theorem tw_412 : (Jvm.Cond.selects "FallingTerms$Way" ({ cls := "FallingTerms$Way", name := "weightBehind", desc := "(IIII)I" } : Jvm.MethodName) ({ cls := "FallingTerms$Way", name := "weightBehind", desc := "(IIII)I" } : Jvm.MethodName)) ∈ tg := tg_in 412 (by decide +kernel) rfl
theorem tw_413 : (Jvm.Cond.code ({ cls := "FallingTerms$Way", name := "weightBehind", desc := "(IIII)I" } : Jvm.MethodName) prog_6_method_4_code (5 : Nat) (Option.some Jvm.ClassFile.FieldType.int)) ∈ tg := tg_in 413 (by decide +kernel) rfl
theorem tw_414 : (Jvm.Cond.methodLink "FallingTerms$Way" (39 : Nat) ({ cls := "FallingTerms$Way", name := "constantBehind", desc := "(III)I" } : Jvm.MethodName)) ∈ tg := tg_in 414 (by decide +kernel) rfl
theorem tw_415 : (Jvm.Cond.instanceMethod ({ cls := "FallingTerms$Way", name := "constantBehind", desc := "(III)I" } : Jvm.MethodName)) ∈ tg := tg_in 415 (by decide +kernel) rfl
theorem tw_416 : (Jvm.Cond.selects "FallingTerms$Way" ({ cls := "FallingTerms$Way", name := "constantBehind", desc := "(III)I" } : Jvm.MethodName) ({ cls := "FallingTerms$Way", name := "constantBehind", desc := "(III)I" } : Jvm.MethodName)) ∈ tg := tg_in 416 (by decide +kernel) rfl
theorem tw_417 : (Jvm.Cond.code ({ cls := "FallingTerms$Way", name := "constantBehind", desc := "(III)I" } : Jvm.MethodName) prog_6_method_5_code (4 : Nat) (Option.some Jvm.ClassFile.FieldType.int)) ∈ tg := tg_in 417 (by decide +kernel) rfl
theorem tw_418 : (Jvm.Cond.methodLink "FallingTerms$Way" (43 : Nat) ({ cls := "FallingTerms$Space", name := "implies", desc := "(IIII)Z" } : Jvm.MethodName)) ∈ tg := tg_in 418 (by decide +kernel) rfl
theorem tw_419 : (Jvm.Cond.methodLink "FallingTermsLaw" (63 : Nat) ({ cls := "FallingTerms", name := "prove", desc := "(I)I" } : Jvm.MethodName)) ∈ tg := tg_in 419 (by decide +kernel) rfl
theorem tw_420 : (Jvm.Cond.instanceMethod ({ cls := "FallingTerms", name := "prove", desc := "(I)I" } : Jvm.MethodName)) ∈ tg := tg_in 420 (by decide +kernel) rfl
theorem tw_421 : (Jvm.Cond.selects "FallingTerms" ({ cls := "FallingTerms", name := "prove", desc := "(I)I" } : Jvm.MethodName) ({ cls := "FallingTerms", name := "prove", desc := "(I)I" } : Jvm.MethodName)) ∈ tg := tg_in 421 (by decide +kernel) rfl
theorem tw_422 : (Jvm.Cond.code ({ cls := "FallingTerms", name := "prove", desc := "(I)I" } : Jvm.MethodName) prog_1_method_13_code (2 : Nat) (Option.some Jvm.ClassFile.FieldType.int)) ∈ tg := tg_in 422 (by decide +kernel) rfl
theorem tw_423 : (Jvm.Cond.methodLink "FallingTerms" (140 : Nat) ({ cls := "FallingTerms", name := "fillSpaces", desc := "(LFallingTerms$Loop;)V" } : Jvm.MethodName)) ∈ tg := tg_in 423 (by decide +kernel) rfl
theorem tw_425 : (Jvm.Cond.instanceMethod ({ cls := "FallingTerms", name := "fillSpaces", desc := "(LFallingTerms$Loop;)V" } : Jvm.MethodName)) ∈ tg := tg_in 425 (by decide +kernel) rfl
theorem tw_426 : (Jvm.Cond.code ({ cls := "FallingTerms", name := "fillSpaces", desc := "(LFallingTerms$Loop;)V" } : Jvm.MethodName) prog_1_method_35_code (3 : Nat) (Option.none : Option Jvm.ClassFile.FieldType)) ∈ tg := tg_in 426 (by decide +kernel) rfl
theorem tw_427 : (Jvm.Cond.methodLink "FallingTerms" (144 : Nat) ({ cls := "FallingTerms$Proof", name := "search", desc := "(LFallingTerms$Loop;[LFallingTerms$Space;)V" } : Jvm.MethodName)) ∈ tg := tg_in 427 (by decide +kernel) rfl
theorem tw_428 : (Jvm.Cond.instanceMethod ({ cls := "FallingTerms$Proof", name := "search", desc := "(LFallingTerms$Loop;[LFallingTerms$Space;)V" } : Jvm.MethodName)) ∈ tg := tg_in 428 (by decide +kernel) rfl
theorem tw_429 : (Jvm.Cond.selects "FallingTerms$Proof" ({ cls := "FallingTerms$Proof", name := "search", desc := "(LFallingTerms$Loop;[LFallingTerms$Space;)V" } : Jvm.MethodName) ({ cls := "FallingTerms$Proof", name := "search", desc := "(LFallingTerms$Loop;[LFallingTerms$Space;)V" } : Jvm.MethodName)) ∈ tg := tg_in 429 (by decide +kernel) rfl
theorem tw_430 : (Jvm.Cond.code ({ cls := "FallingTerms$Proof", name := "search", desc := "(LFallingTerms$Loop;[LFallingTerms$Space;)V" } : Jvm.MethodName) prog_3_method_3_code (4 : Nat) (Option.none : Option Jvm.ClassFile.FieldType)) ∈ tg := tg_in 430 (by decide +kernel) rfl
theorem tw_431 : (Jvm.Cond.methodLink "FallingTerms$Proof" (27 : Nat) ({ cls := "FallingTerms$Proof", name := "takeMore", desc := "(LFallingTerms$Loop;[LFallingTerms$Space;)Z" } : Jvm.MethodName)) ∈ tg := tg_in 431 (by decide +kernel) rfl
theorem tw_433 : (Jvm.Cond.instanceMethod ({ cls := "FallingTerms$Proof", name := "takeMore", desc := "(LFallingTerms$Loop;[LFallingTerms$Space;)Z" } : Jvm.MethodName)) ∈ tg := tg_in 433 (by decide +kernel) rfl
theorem tw_434 : (Jvm.Cond.code ({ cls := "FallingTerms$Proof", name := "takeMore", desc := "(LFallingTerms$Loop;[LFallingTerms$Space;)Z" } : Jvm.MethodName) prog_3_method_4_code (10 : Nat) (Option.some Jvm.ClassFile.FieldType.boolean)) ∈ tg := tg_in 434 (by decide +kernel) rfl
theorem tw_435 : (Jvm.Cond.methodLink "FallingTerms$Proof" (31 : Nat) ({ cls := "FallingTerms$Loop", name := "reach", desc := "(II)I" } : Jvm.MethodName)) ∈ tg := tg_in 435 (by decide +kernel) rfl
theorem tw_436 : (Jvm.Cond.instanceMethod ({ cls := "FallingTerms$Loop", name := "reach", desc := "(II)I" } : Jvm.MethodName)) ∈ tg := tg_in 436 (by decide +kernel) rfl
theorem tw_437 : (Jvm.Cond.selects "FallingTerms$Loop" ({ cls := "FallingTerms$Loop", name := "reach", desc := "(II)I" } : Jvm.MethodName) ({ cls := "FallingTerms$Loop", name := "reach", desc := "(II)I" } : Jvm.MethodName)) ∈ tg := tg_in 437 (by decide +kernel) rfl
theorem tw_438 : (Jvm.Cond.code ({ cls := "FallingTerms$Loop", name := "reach", desc := "(II)I" } : Jvm.MethodName) prog_2_method_4_code (3 : Nat) (Option.some Jvm.ClassFile.FieldType.int)) ∈ tg := tg_in 438 (by decide +kernel) rfl
theorem tw_439 : (Jvm.Cond.methodLink "FallingTerms$Proof" (35 : Nat) ({ cls := "FallingTerms$Proof", name := "takenBy", desc := "(LFallingTerms$Loop;[LFallingTerms$Space;III)I" } : Jvm.MethodName)) ∈ tg := tg_in 439 (by decide +kernel) rfl
theorem tw_441 : (Jvm.Cond.instanceMethod ({ cls := "FallingTerms$Proof", name := "takenBy", desc := "(LFallingTerms$Loop;[LFallingTerms$Space;III)I" } : Jvm.MethodName)) ∈ tg := tg_in 441 (by decide +kernel) rfl
theorem tw_442 : (Jvm.Cond.code ({ cls := "FallingTerms$Proof", name := "takenBy", desc := "(LFallingTerms$Loop;[LFallingTerms$Space;III)I" } : Jvm.MethodName) prog_3_method_5_code (8 : Nat) (Option.some Jvm.ClassFile.FieldType.int)) ∈ tg := tg_in 442 (by decide +kernel) rfl
theorem tw_443 : (Jvm.Cond.methodLink "FallingTerms$Proof" (47 : Nat) ({ cls := "FallingTerms$Way", name := "lessens", desc := "(LFallingTerms$Space;IIII)Z" } : Jvm.MethodName)) ∈ tg := tg_in 443 (by decide +kernel) rfl
theorem tw_444 : (Jvm.Cond.methodLink "FallingTerms$Proof" (53 : Nat) ({ cls := "FallingTerms$Space", name := "bounds", desc := "(III)Z" } : Jvm.MethodName)) ∈ tg := tg_in 444 (by decide +kernel) rfl
theorem tw_445 : (Jvm.Cond.methodLink "FallingTerms$Proof" (39 : Nat) ({ cls := "FallingTerms$Proof", name := "append", desc := "(IIII)V" } : Jvm.MethodName)) ∈ tg := tg_in 445 (by decide +kernel) rfl
theorem tw_447 : (Jvm.Cond.instanceMethod ({ cls := "FallingTerms$Proof", name := "append", desc := "(IIII)V" } : Jvm.MethodName)) ∈ tg := tg_in 447 (by decide +kernel) rfl
theorem tw_448 : (Jvm.Cond.code ({ cls := "FallingTerms$Proof", name := "append", desc := "(IIII)V" } : Jvm.MethodName) prog_3_method_6_code (6 : Nat) (Option.none : Option Jvm.ClassFile.FieldType)) ∈ tg := tg_in 448 (by decide +kernel) rfl
theorem tw_449 : (Jvm.Cond.methodLink "FallingTermsLaw" (67 : Nat) ({ cls := "FallingTerms", name := "proof", desc := "(II)I" } : Jvm.MethodName)) ∈ tg := tg_in 449 (by decide +kernel) rfl
theorem tw_450 : (Jvm.Cond.instanceMethod ({ cls := "FallingTerms", name := "proof", desc := "(II)I" } : Jvm.MethodName)) ∈ tg := tg_in 450 (by decide +kernel) rfl
theorem tw_451 : (Jvm.Cond.selects "FallingTerms" ({ cls := "FallingTerms", name := "proof", desc := "(II)I" } : Jvm.MethodName) ({ cls := "FallingTerms", name := "proof", desc := "(II)I" } : Jvm.MethodName)) ∈ tg := tg_in 451 (by decide +kernel) rfl
theorem tw_452 : (Jvm.Cond.code ({ cls := "FallingTerms", name := "proof", desc := "(II)I" } : Jvm.MethodName) prog_1_method_14_code (3 : Nat) (Option.some Jvm.ClassFile.FieldType.int)) ∈ tg := tg_in 452 (by decide +kernel) rfl
theorem tw_453 : (Jvm.Cond.methodLink "FallingTermsLaw" (71 : Nat) ({ cls := "FallingTerms", name := "left", desc := "()I" } : Jvm.MethodName)) ∈ tg := tg_in 453 (by decide +kernel) rfl
theorem tw_454 : (Jvm.Cond.instanceMethod ({ cls := "FallingTerms", name := "left", desc := "()I" } : Jvm.MethodName)) ∈ tg := tg_in 454 (by decide +kernel) rfl
theorem tw_455 : (Jvm.Cond.selects "FallingTerms" ({ cls := "FallingTerms", name := "left", desc := "()I" } : Jvm.MethodName) ({ cls := "FallingTerms", name := "left", desc := "()I" } : Jvm.MethodName)) ∈ tg := tg_in 455 (by decide +kernel) rfl
theorem tw_456 : (Jvm.Cond.code ({ cls := "FallingTerms", name := "left", desc := "()I" } : Jvm.MethodName) prog_1_method_15_code (1 : Nat) (Option.some Jvm.ClassFile.FieldType.int)) ∈ tg := tg_in 456 (by decide +kernel) rfl
theorem tw_457 : (Jvm.Cond.methodLink "FallingTermsLaw" (75 : Nat) ({ cls := "FallingTerms", name := "need", desc := "(I)I" } : Jvm.MethodName)) ∈ tg := tg_in 457 (by decide +kernel) rfl
theorem tw_458 : (Jvm.Cond.instanceMethod ({ cls := "FallingTerms", name := "need", desc := "(I)I" } : Jvm.MethodName)) ∈ tg := tg_in 458 (by decide +kernel) rfl
theorem tw_459 : (Jvm.Cond.selects "FallingTerms" ({ cls := "FallingTerms", name := "need", desc := "(I)I" } : Jvm.MethodName) ({ cls := "FallingTerms", name := "need", desc := "(I)I" } : Jvm.MethodName)) ∈ tg := tg_in 459 (by decide +kernel) rfl
theorem tw_460 : (Jvm.Cond.code ({ cls := "FallingTerms", name := "need", desc := "(I)I" } : Jvm.MethodName) prog_1_method_16_code (8 : Nat) (Option.some Jvm.ClassFile.FieldType.int)) ∈ tg := tg_in 460 (by decide +kernel) rfl
theorem tw_461 : (Jvm.Cond.methodLink "FallingTerms" (159 : Nat) ({ cls := "FallingTerms$Loop", name := "reach", desc := "(II)I" } : Jvm.MethodName)) ∈ tg := tg_in 461 (by decide +kernel) rfl
theorem tw_462 : (Jvm.Cond.methodLink "FallingTerms" (163 : Nat) ({ cls := "FallingTerms", name := "findNeed", desc := "(LFallingTerms$Loop;III)Z" } : Jvm.MethodName)) ∈ tg := tg_in 462 (by decide +kernel) rfl
theorem tw_464 : (Jvm.Cond.instanceMethod ({ cls := "FallingTerms", name := "findNeed", desc := "(LFallingTerms$Loop;III)Z" } : Jvm.MethodName)) ∈ tg := tg_in 464 (by decide +kernel) rfl
theorem tw_465 : (Jvm.Cond.code ({ cls := "FallingTerms", name := "findNeed", desc := "(LFallingTerms$Loop;III)Z" } : Jvm.MethodName) prog_1_method_36_code (6 : Nat) (Option.some Jvm.ClassFile.FieldType.boolean)) ∈ tg := tg_in 465 (by decide +kernel) rfl
theorem tw_466 : (Jvm.Cond.methodLink "FallingTerms" (196 : Nat) ({ cls := "FallingTerms", name := "narrowSpaces", desc := "(LFallingTerms$Loop;IIII)V" } : Jvm.MethodName)) ∈ tg := tg_in 466 (by decide +kernel) rfl
theorem tw_468 : (Jvm.Cond.instanceMethod ({ cls := "FallingTerms", name := "narrowSpaces", desc := "(LFallingTerms$Loop;IIII)V" } : Jvm.MethodName)) ∈ tg := tg_in 468 (by decide +kernel) rfl
theorem tw_469 : (Jvm.Cond.code ({ cls := "FallingTerms", name := "narrowSpaces", desc := "(LFallingTerms$Loop;IIII)V" } : Jvm.MethodName) prog_1_method_39_code (7 : Nat) (Option.none : Option Jvm.ClassFile.FieldType)) ∈ tg := tg_in 469 (by decide +kernel) rfl
theorem tw_470 : (Jvm.Cond.methodLink "FallingTerms" (211 : Nat) ({ cls := "FallingTerms$Space", name := "copy", desc := "(LFallingTerms$Space;)V" } : Jvm.MethodName)) ∈ tg := tg_in 470 (by decide +kernel) rfl
theorem tw_471 : (Jvm.Cond.instanceMethod ({ cls := "FallingTerms$Space", name := "copy", desc := "(LFallingTerms$Space;)V" } : Jvm.MethodName)) ∈ tg := tg_in 471 (by decide +kernel) rfl
theorem tw_472 : (Jvm.Cond.selects "FallingTerms$Space" ({ cls := "FallingTerms$Space", name := "copy", desc := "(LFallingTerms$Space;)V" } : Jvm.MethodName) ({ cls := "FallingTerms$Space", name := "copy", desc := "(LFallingTerms$Space;)V" } : Jvm.MethodName)) ∈ tg := tg_in 472 (by decide +kernel) rfl
theorem tw_473 : (Jvm.Cond.code ({ cls := "FallingTerms$Space", name := "copy", desc := "(LFallingTerms$Space;)V" } : Jvm.MethodName) prog_5_method_3_code (3 : Nat) (Option.none : Option Jvm.ClassFile.FieldType)) ∈ tg := tg_in 473 (by decide +kernel) rfl
theorem tw_474 : (Jvm.Cond.methodLink "FallingTerms" (215 : Nat) ({ cls := "FallingTerms$Space", name := "narrow", desc := "(IIII)V" } : Jvm.MethodName)) ∈ tg := tg_in 474 (by decide +kernel) rfl
theorem tw_475 : (Jvm.Cond.methodLink "FallingTerms" (200 : Nat) ({ cls := "FallingTerms", name := "lasts", desc := "(LFallingTerms$Loop;IIII)Z" } : Jvm.MethodName)) ∈ tg := tg_in 475 (by decide +kernel) rfl
theorem tw_477 : (Jvm.Cond.instanceMethod ({ cls := "FallingTerms", name := "lasts", desc := "(LFallingTerms$Loop;IIII)Z" } : Jvm.MethodName)) ∈ tg := tg_in 477 (by decide +kernel) rfl
theorem tw_478 : (Jvm.Cond.code ({ cls := "FallingTerms", name := "lasts", desc := "(LFallingTerms$Loop;IIII)Z" } : Jvm.MethodName) prog_1_method_38_code (7 : Nat) (Option.some Jvm.ClassFile.FieldType.boolean)) ∈ tg := tg_in 478 (by decide +kernel) rfl
theorem tw_479 : (Jvm.Cond.methodLink "FallingTerms" (208 : Nat) ({ cls := "FallingTerms$Way", name := "keeps", desc := "(LFallingTerms$Space;IIII)Z" } : Jvm.MethodName)) ∈ tg := tg_in 479 (by decide +kernel) rfl
theorem tw_480 : (Jvm.Cond.instanceMethod ({ cls := "FallingTerms$Way", name := "keeps", desc := "(LFallingTerms$Space;IIII)Z" } : Jvm.MethodName)) ∈ tg := tg_in 480 (by decide +kernel) rfl
theorem tw_481 : (Jvm.Cond.selects "FallingTerms$Way" ({ cls := "FallingTerms$Way", name := "keeps", desc := "(LFallingTerms$Space;IIII)Z" } : Jvm.MethodName) ({ cls := "FallingTerms$Way", name := "keeps", desc := "(LFallingTerms$Space;IIII)Z" } : Jvm.MethodName)) ∈ tg := tg_in 481 (by decide +kernel) rfl
theorem tw_482 : (Jvm.Cond.code ({ cls := "FallingTerms$Way", name := "keeps", desc := "(LFallingTerms$Space;IIII)Z" } : Jvm.MethodName) prog_6_method_7_code (6 : Nat) (Option.some Jvm.ClassFile.FieldType.boolean)) ∈ tg := tg_in 482 (by decide +kernel) rfl
theorem tw_483 : (Jvm.Cond.methodLink "FallingTerms" (204 : Nat) ({ cls := "FallingTerms", name := "keepNeed", desc := "(IIII)V" } : Jvm.MethodName)) ∈ tg := tg_in 483 (by decide +kernel) rfl
theorem tw_485 : (Jvm.Cond.instanceMethod ({ cls := "FallingTerms", name := "keepNeed", desc := "(IIII)V" } : Jvm.MethodName)) ∈ tg := tg_in 485 (by decide +kernel) rfl
theorem tw_486 : (Jvm.Cond.code ({ cls := "FallingTerms", name := "keepNeed", desc := "(IIII)V" } : Jvm.MethodName) prog_1_method_37_code (5 : Nat) (Option.none : Option Jvm.ClassFile.FieldType)) ∈ tg := tg_in 486 (by decide +kernel) rfl
theorem tw_487 : (Jvm.Cond.methodLink "FallingTermsLaw" (79 : Nat) ({ cls := "FallingTerms", name := "needed", desc := "(I)I" } : Jvm.MethodName)) ∈ tg := tg_in 487 (by decide +kernel) rfl
theorem tw_488 : (Jvm.Cond.instanceMethod ({ cls := "FallingTerms", name := "needed", desc := "(I)I" } : Jvm.MethodName)) ∈ tg := tg_in 488 (by decide +kernel) rfl
theorem tw_489 : (Jvm.Cond.selects "FallingTerms" ({ cls := "FallingTerms", name := "needed", desc := "(I)I" } : Jvm.MethodName) ({ cls := "FallingTerms", name := "needed", desc := "(I)I" } : Jvm.MethodName)) ∈ tg := tg_in 489 (by decide +kernel) rfl
theorem tw_490 : (Jvm.Cond.code ({ cls := "FallingTerms", name := "needed", desc := "(I)I" } : Jvm.MethodName) prog_1_method_17_code (2 : Nat) (Option.some Jvm.ClassFile.FieldType.int)) ∈ tg := tg_in 490 (by decide +kernel) rfl
theorem tw_491 : (Jvm.Cond.methodLink "FallingTermsLaw" (83 : Nat) ({ cls := "FallingTerms", name := "put", desc := "(III)I" } : Jvm.MethodName)) ∈ tg := tg_in 491 (by decide +kernel) rfl
theorem tw_492 : (Jvm.Cond.instanceMethod ({ cls := "FallingTerms", name := "put", desc := "(III)I" } : Jvm.MethodName)) ∈ tg := tg_in 492 (by decide +kernel) rfl
theorem tw_493 : (Jvm.Cond.selects "FallingTerms" ({ cls := "FallingTerms", name := "put", desc := "(III)I" } : Jvm.MethodName) ({ cls := "FallingTerms", name := "put", desc := "(III)I" } : Jvm.MethodName)) ∈ tg := tg_in 493 (by decide +kernel) rfl
theorem tw_494 : (Jvm.Cond.code ({ cls := "FallingTerms", name := "put", desc := "(III)I" } : Jvm.MethodName) prog_1_method_18_code (4 : Nat) (Option.some Jvm.ClassFile.FieldType.int)) ∈ tg := tg_in 494 (by decide +kernel) rfl
theorem tw_495 : (Jvm.Cond.constant "FallingTerms" (167 : Nat) (1000000 : Int32)) ∈ tg := tg_in 495 (by decide +kernel) rfl
theorem tw_496 : (Jvm.Cond.methodLink "FallingTermsLaw" (88 : Nat) ({ cls := "FallingTerms", name := "at", desc := "(II)J" } : Jvm.MethodName)) ∈ tg := tg_in 496 (by decide +kernel) rfl
theorem tw_497 : (Jvm.Cond.instanceMethod ({ cls := "FallingTerms", name := "at", desc := "(II)J" } : Jvm.MethodName)) ∈ tg := tg_in 497 (by decide +kernel) rfl
theorem tw_498 : (Jvm.Cond.selects "FallingTerms" ({ cls := "FallingTerms", name := "at", desc := "(II)J" } : Jvm.MethodName) ({ cls := "FallingTerms", name := "at", desc := "(II)J" } : Jvm.MethodName)) ∈ tg := tg_in 498 (by decide +kernel) rfl
theorem tw_499 : (Jvm.Cond.code ({ cls := "FallingTerms", name := "at", desc := "(II)J" } : Jvm.MethodName) prog_1_method_19_code (3 : Nat) (Option.some Jvm.ClassFile.FieldType.long)) ∈ tg := tg_in 499 (by decide +kernel) rfl
theorem tw_500 : (Jvm.Cond.constantLong "FallingTerms" (171 : Nat) (-9000000000000 : Int64)) ∈ tg := tg_in 500 (by decide +kernel) rfl
theorem tw_501 : (Jvm.Cond.methodLink "FallingTermsLaw" (93 : Nat) ({ cls := "FallingTerms", name := "open", desc := "(I)I" } : Jvm.MethodName)) ∈ tg := tg_in 501 (by decide +kernel) rfl
theorem tw_502 : (Jvm.Cond.instanceMethod ({ cls := "FallingTerms", name := "open", desc := "(I)I" } : Jvm.MethodName)) ∈ tg := tg_in 502 (by decide +kernel) rfl
theorem tw_503 : (Jvm.Cond.selects "FallingTerms" ({ cls := "FallingTerms", name := "open", desc := "(I)I" } : Jvm.MethodName) ({ cls := "FallingTerms", name := "open", desc := "(I)I" } : Jvm.MethodName)) ∈ tg := tg_in 503 (by decide +kernel) rfl
theorem tw_504 : (Jvm.Cond.code ({ cls := "FallingTerms", name := "open", desc := "(I)I" } : Jvm.MethodName) prog_1_method_20_code (2 : Nat) (Option.some Jvm.ClassFile.FieldType.int)) ∈ tg := tg_in 504 (by decide +kernel) rfl
theorem tw_505 : (Jvm.Cond.methodLink "FallingTerms" (173 : Nat) ({ cls := "FallingTerms$Loop", name := "openWays", desc := "()I" } : Jvm.MethodName)) ∈ tg := tg_in 505 (by decide +kernel) rfl
theorem tw_506 : (Jvm.Cond.instanceMethod ({ cls := "FallingTerms$Loop", name := "openWays", desc := "()I" } : Jvm.MethodName)) ∈ tg := tg_in 506 (by decide +kernel) rfl
theorem tw_507 : (Jvm.Cond.selects "FallingTerms$Loop" ({ cls := "FallingTerms$Loop", name := "openWays", desc := "()I" } : Jvm.MethodName) ({ cls := "FallingTerms$Loop", name := "openWays", desc := "()I" } : Jvm.MethodName)) ∈ tg := tg_in 507 (by decide +kernel) rfl
theorem tw_508 : (Jvm.Cond.code ({ cls := "FallingTerms$Loop", name := "openWays", desc := "()I" } : Jvm.MethodName) prog_2_method_5_code (3 : Nat) (Option.some Jvm.ClassFile.FieldType.int)) ∈ tg := tg_in 508 (by decide +kernel) rfl
theorem tw_509 : (Jvm.Cond.methodLink "FallingTerms$Loop" (47 : Nat) ({ cls := "FallingTerms$Rows", name := "holdIn", desc := "([J)Z" } : Jvm.MethodName)) ∈ tg := tg_in 509 (by decide +kernel) rfl
theorem tw_510 : (Jvm.Cond.instanceMethod ({ cls := "FallingTerms$Rows", name := "holdIn", desc := "([J)Z" } : Jvm.MethodName)) ∈ tg := tg_in 510 (by decide +kernel) rfl
theorem tw_511 : (Jvm.Cond.selects "FallingTerms$Rows" ({ cls := "FallingTerms$Rows", name := "holdIn", desc := "([J)Z" } : Jvm.MethodName) ({ cls := "FallingTerms$Rows", name := "holdIn", desc := "([J)Z" } : Jvm.MethodName)) ∈ tg := tg_in 511 (by decide +kernel) rfl
theorem tw_512 : (Jvm.Cond.code ({ cls := "FallingTerms$Rows", name := "holdIn", desc := "([J)Z" } : Jvm.MethodName) prog_4_method_3_code (6 : Nat) (Option.some Jvm.ClassFile.FieldType.boolean)) ∈ tg := tg_in 512 (by decide +kernel) rfl
theorem tw_513 : (Jvm.Cond.methodLink "FallingTermsLaw" (97 : Nat) ({ cls := "FallingTerms", name := "step", desc := "(I)I" } : Jvm.MethodName)) ∈ tg := tg_in 513 (by decide +kernel) rfl
theorem tw_514 : (Jvm.Cond.instanceMethod ({ cls := "FallingTerms", name := "step", desc := "(I)I" } : Jvm.MethodName)) ∈ tg := tg_in 514 (by decide +kernel) rfl
theorem tw_515 : (Jvm.Cond.selects "FallingTerms" ({ cls := "FallingTerms", name := "step", desc := "(I)I" } : Jvm.MethodName) ({ cls := "FallingTerms", name := "step", desc := "(I)I" } : Jvm.MethodName)) ∈ tg := tg_in 515 (by decide +kernel) rfl
theorem tw_516 : (Jvm.Cond.code ({ cls := "FallingTerms", name := "step", desc := "(I)I" } : Jvm.MethodName) prog_1_method_21_code (2 : Nat) (Option.some Jvm.ClassFile.FieldType.int)) ∈ tg := tg_in 516 (by decide +kernel) rfl
theorem tw_517 : (Jvm.Cond.methodLink "FallingTerms" (176 : Nat) ({ cls := "FallingTerms$Loop", name := "advance", desc := "([J)I" } : Jvm.MethodName)) ∈ tg := tg_in 517 (by decide +kernel) rfl
theorem tw_518 : (Jvm.Cond.instanceMethod ({ cls := "FallingTerms$Loop", name := "advance", desc := "([J)I" } : Jvm.MethodName)) ∈ tg := tg_in 518 (by decide +kernel) rfl
theorem tw_519 : (Jvm.Cond.selects "FallingTerms$Loop" ({ cls := "FallingTerms$Loop", name := "advance", desc := "([J)I" } : Jvm.MethodName) ({ cls := "FallingTerms$Loop", name := "advance", desc := "([J)I" } : Jvm.MethodName)) ∈ tg := tg_in 519 (by decide +kernel) rfl
theorem tw_520 : (Jvm.Cond.code ({ cls := "FallingTerms$Loop", name := "advance", desc := "([J)I" } : Jvm.MethodName) prog_2_method_6_code (3 : Nat) (Option.some Jvm.ClassFile.FieldType.int)) ∈ tg := tg_in 520 (by decide +kernel) rfl
theorem tw_521 : (Jvm.Cond.methodLink "FallingTerms$Loop" (54 : Nat) ({ cls := "FallingTerms$Loop", name := "change", desc := "(I[J)Z" } : Jvm.MethodName)) ∈ tg := tg_in 521 (by decide +kernel) rfl
theorem tw_522 : (Jvm.Cond.instanceMethod ({ cls := "FallingTerms$Loop", name := "change", desc := "(I[J)Z" } : Jvm.MethodName)) ∈ tg := tg_in 522 (by decide +kernel) rfl
theorem tw_523 : (Jvm.Cond.selects "FallingTerms$Loop" ({ cls := "FallingTerms$Loop", name := "change", desc := "(I[J)Z" } : Jvm.MethodName) ({ cls := "FallingTerms$Loop", name := "change", desc := "(I[J)Z" } : Jvm.MethodName)) ∈ tg := tg_in 523 (by decide +kernel) rfl
theorem tw_524 : (Jvm.Cond.code ({ cls := "FallingTerms$Loop", name := "change", desc := "(I[J)Z" } : Jvm.MethodName) prog_2_method_7_code (3 : Nat) (Option.some Jvm.ClassFile.FieldType.boolean)) ∈ tg := tg_in 524 (by decide +kernel) rfl
theorem tw_525 : (Jvm.Cond.methodLink "FallingTerms$Loop" (58 : Nat) ({ cls := "FallingTerms$Way", name := "leads", desc := "([J[J)Z" } : Jvm.MethodName)) ∈ tg := tg_in 525 (by decide +kernel) rfl
theorem tw_526 : (Jvm.Cond.instanceMethod ({ cls := "FallingTerms$Way", name := "leads", desc := "([J[J)Z" } : Jvm.MethodName)) ∈ tg := tg_in 526 (by decide +kernel) rfl
theorem tw_527 : (Jvm.Cond.selects "FallingTerms$Way" ({ cls := "FallingTerms$Way", name := "leads", desc := "([J[J)Z" } : Jvm.MethodName) ({ cls := "FallingTerms$Way", name := "leads", desc := "([J[J)Z" } : Jvm.MethodName)) ∈ tg := tg_in 527 (by decide +kernel) rfl
theorem tw_528 : (Jvm.Cond.code ({ cls := "FallingTerms$Way", name := "leads", desc := "([J[J)Z" } : Jvm.MethodName) prog_6_method_3_code (7 : Nat) (Option.some Jvm.ClassFile.FieldType.boolean)) ∈ tg := tg_in 528 (by decide +kernel) rfl
theorem tw_529 : (Jvm.Cond.constantLong "FallingTerms$Way" (31 : Nat) (1000000000000 : Int64)) ∈ tg := tg_in 529 (by decide +kernel) rfl
theorem tw_530 : (Jvm.Cond.constantLong "FallingTerms$Way" (33 : Nat) (-1000000000000 : Int64)) ∈ tg := tg_in 530 (by decide +kernel) rfl
theorem tw_531 : (Jvm.Cond.methodLinkNest "FallingTerms$Loop" (62 : Nat) ({ cls := "FallingTerms", name := "copyState", desc := "([J[J)V" } : Jvm.MethodName) "FallingTerms") ∈ tn := tn_in 531 (by decide +kernel) rfl
theorem tw_532 : (Jvm.Cond.static ({ cls := "FallingTerms", name := "copyState", desc := "([J[J)V" } : Jvm.MethodName)) ∈ tg := tg_in 532 (by decide +kernel) rfl
theorem tw_533 : (Jvm.Cond.code ({ cls := "FallingTerms", name := "copyState", desc := "([J[J)V" } : Jvm.MethodName) prog_1_method_32_code (3 : Nat) (Option.none : Option Jvm.ClassFile.FieldType)) ∈ tg := tg_in 533 (by decide +kernel) rfl
theorem tw_534 : (Jvm.Cond.methodLink "FallingTermsLaw" (101 : Nat) ({ cls := "FallingTerms", name := "go", desc := "(II)I" } : Jvm.MethodName)) ∈ tg := tg_in 534 (by decide +kernel) rfl
theorem tw_535 : (Jvm.Cond.instanceMethod ({ cls := "FallingTerms", name := "go", desc := "(II)I" } : Jvm.MethodName)) ∈ tg := tg_in 535 (by decide +kernel) rfl
theorem tw_536 : (Jvm.Cond.selects "FallingTerms" ({ cls := "FallingTerms", name := "go", desc := "(II)I" } : Jvm.MethodName) ({ cls := "FallingTerms", name := "go", desc := "(II)I" } : Jvm.MethodName)) ∈ tg := tg_in 536 (by decide +kernel) rfl
theorem tw_537 : (Jvm.Cond.code ({ cls := "FallingTerms", name := "go", desc := "(II)I" } : Jvm.MethodName) prog_1_method_22_code (4 : Nat) (Option.some Jvm.ClassFile.FieldType.int)) ∈ tg := tg_in 537 (by decide +kernel) rfl
theorem tw_538 : (Jvm.Cond.methodLink "FallingTerms" (180 : Nat) ({ cls := "FallingTerms$Loop", name := "change", desc := "(I[J)Z" } : Jvm.MethodName)) ∈ tg := tg_in 538 (by decide +kernel) rfl
theorem tw_539 : (Jvm.Cond.methodLink "FallingTermsLaw" (105 : Nat) ({ cls := "FallingTerms", name := "walk", desc := "(II)I" } : Jvm.MethodName)) ∈ tg := tg_in 539 (by decide +kernel) rfl
theorem tw_540 : (Jvm.Cond.instanceMethod ({ cls := "FallingTerms", name := "walk", desc := "(II)I" } : Jvm.MethodName)) ∈ tg := tg_in 540 (by decide +kernel) rfl
theorem tw_541 : (Jvm.Cond.selects "FallingTerms" ({ cls := "FallingTerms", name := "walk", desc := "(II)I" } : Jvm.MethodName) ({ cls := "FallingTerms", name := "walk", desc := "(II)I" } : Jvm.MethodName)) ∈ tg := tg_in 541 (by decide +kernel) rfl
theorem tw_542 : (Jvm.Cond.code ({ cls := "FallingTerms", name := "walk", desc := "(II)I" } : Jvm.MethodName) prog_1_method_23_code (5 : Nat) (Option.some Jvm.ClassFile.FieldType.int)) ∈ tg := tg_in 542 (by decide +kernel) rfl
theorem tw_543 : (Jvm.Cond.methodLink "FallingTermsLaw" (109 : Nat) ({ cls := "FallingTerms", name := "ring", desc := "(II)I" } : Jvm.MethodName)) ∈ tg := tg_in 543 (by decide +kernel) rfl
theorem tw_544 : (Jvm.Cond.instanceMethod ({ cls := "FallingTerms", name := "ring", desc := "(II)I" } : Jvm.MethodName)) ∈ tg := tg_in 544 (by decide +kernel) rfl
theorem tw_545 : (Jvm.Cond.selects "FallingTerms" ({ cls := "FallingTerms", name := "ring", desc := "(II)I" } : Jvm.MethodName) ({ cls := "FallingTerms", name := "ring", desc := "(II)I" } : Jvm.MethodName)) ∈ tg := tg_in 545 (by decide +kernel) rfl
theorem tw_546 : (Jvm.Cond.code ({ cls := "FallingTerms", name := "ring", desc := "(II)I" } : Jvm.MethodName) prog_1_method_24_code (10 : Nat) (Option.some Jvm.ClassFile.FieldType.int)) ∈ tg := tg_in 546 (by decide +kernel) rfl
theorem tw_547 : (Jvm.Cond.methodLink "FallingTerms" (184 : Nat) ({ cls := "FallingTerms", name := "ringFrom", desc := "(LFallingTerms$Loop;III)I" } : Jvm.MethodName)) ∈ tg := tg_in 547 (by decide +kernel) rfl
theorem tw_549 : (Jvm.Cond.instanceMethod ({ cls := "FallingTerms", name := "ringFrom", desc := "(LFallingTerms$Loop;III)I" } : Jvm.MethodName)) ∈ tg := tg_in 549 (by decide +kernel) rfl
theorem tw_550 : (Jvm.Cond.code ({ cls := "FallingTerms", name := "ringFrom", desc := "(LFallingTerms$Loop;III)I" } : Jvm.MethodName) prog_1_method_40_code (6 : Nat) (Option.some Jvm.ClassFile.FieldType.int)) ∈ tg := tg_in 550 (by decide +kernel) rfl
theorem tw_551 : (Jvm.Cond.methodLink "FallingTerms" (188 : Nat) ({ cls := "FallingTerms", name := "copyState", desc := "([J[J)V" } : Jvm.MethodName)) ∈ tg := tg_in 551 (by decide +kernel) rfl
theorem tw_552 : (Jvm.Cond.methodLink "FallingTerms" (218 : Nat) ({ cls := "FallingTerms", name := "sameState", desc := "([J[J)Z" } : Jvm.MethodName)) ∈ tg := tg_in 552 (by decide +kernel) rfl
theorem tw_553 : (Jvm.Cond.static ({ cls := "FallingTerms", name := "sameState", desc := "([J[J)Z" } : Jvm.MethodName)) ∈ tg := tg_in 553 (by decide +kernel) rfl
theorem tw_554 : (Jvm.Cond.code ({ cls := "FallingTerms", name := "sameState", desc := "([J[J)Z" } : Jvm.MethodName) prog_1_method_33_code (2 : Nat) (Option.some Jvm.ClassFile.FieldType.boolean)) ∈ tg := tg_in 554 (by decide +kernel) rfl
theorem tw_555 : (Jvm.Cond.methodLink "FallingTermsLaw" (113 : Nat) ({ cls := "FallingTerms", name := "loops", desc := "()I" } : Jvm.MethodName)) ∈ tg := tg_in 555 (by decide +kernel) rfl
theorem tw_556 : (Jvm.Cond.instanceMethod ({ cls := "FallingTerms", name := "loops", desc := "()I" } : Jvm.MethodName)) ∈ tg := tg_in 556 (by decide +kernel) rfl
theorem tw_557 : (Jvm.Cond.selects "FallingTerms" ({ cls := "FallingTerms", name := "loops", desc := "()I" } : Jvm.MethodName) ({ cls := "FallingTerms", name := "loops", desc := "()I" } : Jvm.MethodName)) ∈ tg := tg_in 557 (by decide +kernel) rfl
theorem tw_558 : (Jvm.Cond.code ({ cls := "FallingTerms", name := "loops", desc := "()I" } : Jvm.MethodName) prog_1_method_25_code (1 : Nat) (Option.some Jvm.ClassFile.FieldType.int)) ∈ tg := tg_in 558 (by decide +kernel) rfl
theorem tw_559 : (Jvm.Cond.classLink "FallingTermsLaw" (10 : Nat) "FallingTermsModel") ∈ tg := tg_in 559 (by decide +kernel) rfl
theorem tw_560 : (Jvm.Cond.instantiable "FallingTermsModel" (38 : Nat)) ∈ tg := tg_in 560 (by decide +kernel) rfl
theorem tw_561 : (Jvm.Cond.methodLink "FallingTermsLaw" (12 : Nat) ({ cls := "FallingTermsModel", name := "<init>", desc := "()V" } : Jvm.MethodName)) ∈ tg := tg_in 561 (by decide +kernel) rfl
theorem tw_562 : (Jvm.Cond.instanceMethod ({ cls := "FallingTermsModel", name := "<init>", desc := "()V" } : Jvm.MethodName)) ∈ tg := tg_in 562 (by decide +kernel) rfl
theorem tw_563 : (Jvm.Cond.code ({ cls := "FallingTermsModel", name := "<init>", desc := "()V" } : Jvm.MethodName) prog_8_method_1_code (1 : Nat) (Option.none : Option Jvm.ClassFile.FieldType)) ∈ tg := tg_in 563 (by decide +kernel) rfl
theorem tw_564 : (Jvm.Cond.methodLink "FallingTermsModel" (1 : Nat) ({ cls := "java/lang/Object", name := "<init>", desc := "()V" } : Jvm.MethodName)) ∈ tg := tg_in 564 (by decide +kernel) rfl
theorem tw_565 : (Jvm.Cond.fieldLink "FallingTermsModel" (59 : Nat) "FallingTermsModel" "loops" "I") ∈ tg := tg_in 565 (by decide +kernel) rfl
theorem tw_566 : (Jvm.Cond.fieldLink "FallingTermsModel" (7 : Nat) "FallingTermsModel" "names" "[I") ∈ tg := tg_in 566 (by decide +kernel) rfl
theorem tw_567 : (Jvm.Cond.fieldLink "FallingTermsModel" (13 : Nat) "FallingTermsModel" "ways" "[I") ∈ tg := tg_in 567 (by decide +kernel) rfl
theorem tw_568 : (Jvm.Cond.fieldLink "FallingTermsModel" (16 : Nat) "FallingTermsModel" "guards" "[I") ∈ tg := tg_in 568 (by decide +kernel) rfl
theorem tw_569 : (Jvm.Cond.fieldLink "FallingTermsModel" (19 : Nat) "FallingTermsModel" "guard" "[I") ∈ tg := tg_in 569 (by decide +kernel) rfl
theorem tw_570 : (Jvm.Cond.fieldLink "FallingTermsModel" (22 : Nat) "FallingTermsModel" "wayRows" "[I") ∈ tg := tg_in 570 (by decide +kernel) rfl
theorem tw_571 : (Jvm.Cond.fieldLink "FallingTermsModel" (25 : Nat) "FallingTermsModel" "wayRow" "[I") ∈ tg := tg_in 571 (by decide +kernel) rfl
theorem tw_572 : (Jvm.Cond.fieldLink "FallingTermsModel" (28 : Nat) "FallingTermsModel" "factor" "[I") ∈ tg := tg_in 572 (by decide +kernel) rfl
theorem tw_573 : (Jvm.Cond.fieldLink "FallingTermsModel" (31 : Nat) "FallingTermsModel" "constant" "[I") ∈ tg := tg_in 573 (by decide +kernel) rfl
theorem tw_574 : (Jvm.Cond.fieldLink "FallingTermsModel" (34 : Nat) "FallingTermsModel" "state" "[J") ∈ tg := tg_in 574 (by decide +kernel) rfl
theorem tw_575 : (Jvm.Cond.fieldLink "FallingTermsModel" (75 : Nat) "FallingTermsModel" "proofs" "I") ∈ tg := tg_in 575 (by decide +kernel) rfl
theorem tw_576 : (Jvm.Cond.fieldLink "FallingTermsModel" (38 : Nat) "FallingTermsModel" "proof" "[I") ∈ tg := tg_in 576 (by decide +kernel) rfl
theorem tw_577 : (Jvm.Cond.fieldLink "FallingTermsModel" (78 : Nat) "FallingTermsModel" "left" "I") ∈ tg := tg_in 577 (by decide +kernel) rfl
theorem tw_578 : (Jvm.Cond.fieldLink "FallingTermsModel" (81 : Nat) "FallingTermsModel" "hasNeed" "Z") ∈ tg := tg_in 578 (by decide +kernel) rfl
theorem tw_579 : (Jvm.Cond.fieldLink "FallingTermsModel" (41 : Nat) "FallingTermsModel" "need" "[I") ∈ tg := tg_in 579 (by decide +kernel) rfl
theorem tw_580 : (Jvm.Cond.fieldLink "FallingTermsModel" (99 : Nat) "FallingTermsModel" "rows" "I") ∈ tg := tg_in 580 (by decide +kernel) rfl
theorem tw_581 : (Jvm.Cond.fieldLink "FallingTermsModel" (44 : Nat) "FallingTermsModel" "ra" "[J") ∈ tg := tg_in 581 (by decide +kernel) rfl
theorem tw_582 : (Jvm.Cond.fieldLink "FallingTermsModel" (47 : Nat) "FallingTermsModel" "rb" "[J") ∈ tg := tg_in 582 (by decide +kernel) rfl
theorem tw_583 : (Jvm.Cond.fieldLink "FallingTermsModel" (50 : Nat) "FallingTermsModel" "rc" "[J") ∈ tg := tg_in 583 (by decide +kernel) rfl
theorem tw_584 : (Jvm.Cond.fieldLink "FallingTermsModel" (53 : Nat) "FallingTermsModel" "rd" "[J") ∈ tg := tg_in 584 (by decide +kernel) rfl
theorem tw_585 : (Jvm.Cond.fieldLink "FallingTermsModel" (128 : Nat) "FallingTermsModel" "isBorne" "Z") ∈ tg := tg_in 585 (by decide +kernel) rfl
theorem tw_586 : (Jvm.Cond.fieldLink "FallingTermsModel" (134 : Nat) "FallingTermsModel" "above" "J") ∈ tg := tg_in 586 (by decide +kernel) rfl
theorem tw_587 : (Jvm.Cond.fieldLink "FallingTermsModel" (131 : Nat) "FallingTermsModel" "below" "J") ∈ tg := tg_in 587 (by decide +kernel) rfl
theorem tw_588 : (Jvm.Cond.fieldLink "FallingTermsModel" (119 : Nat) "FallingTermsModel" "ga" "J") ∈ tg := tg_in 588 (by decide +kernel) rfl
theorem tw_589 : (Jvm.Cond.fieldLink "FallingTermsModel" (122 : Nat) "FallingTermsModel" "gb" "J") ∈ tg := tg_in 589 (by decide +kernel) rfl
theorem tw_590 : (Jvm.Cond.fieldLink "FallingTermsModel" (125 : Nat) "FallingTermsModel" "gc" "J") ∈ tg := tg_in 590 (by decide +kernel) rfl
theorem tw_591 : (Jvm.Cond.fieldLink "FallingTermsModel" (153 : Nat) "FallingTermsModel" "ua" "J") ∈ tg := tg_in 591 (by decide +kernel) rfl
theorem tw_592 : (Jvm.Cond.fieldLink "FallingTermsModel" (156 : Nat) "FallingTermsModel" "ub" "J") ∈ tg := tg_in 592 (by decide +kernel) rfl
theorem tw_593 : (Jvm.Cond.fieldLink "FallingTermsModel" (159 : Nat) "FallingTermsModel" "uc" "J") ∈ tg := tg_in 593 (by decide +kernel) rfl
theorem tw_594 : (Jvm.Cond.fieldLink "FallingTermsModel" (106 : Nat) "FallingTermsModel" "na" "J") ∈ tg := tg_in 594 (by decide +kernel) rfl
theorem tw_595 : (Jvm.Cond.fieldLink "FallingTermsModel" (110 : Nat) "FallingTermsModel" "nb" "J") ∈ tg := tg_in 595 (by decide +kernel) rfl
theorem tw_596 : (Jvm.Cond.fieldLink "FallingTermsModel" (113 : Nat) "FallingTermsModel" "nc" "J") ∈ tg := tg_in 596 (by decide +kernel) rfl
theorem tw_597 : (Jvm.Cond.fieldLink "FallingTermsModel" (116 : Nat) "FallingTermsModel" "nd" "J") ∈ tg := tg_in 597 (by decide +kernel) rfl
theorem tw_598 : (Jvm.Cond.fieldLink "FallingTermsModel" (197 : Nat) "FallingTermsModel" "kept" "I") ∈ tg := tg_in 598 (by decide +kernel) rfl
theorem tw_599 : (Jvm.Cond.fieldLink "FallingTermsModel" (56 : Nat) "FallingTermsModel" "keptTerms" "[I") ∈ tg := tg_in 599 (by decide +kernel) rfl
theorem tw_600 : (Jvm.Cond.fieldLink "FallingTermsModel" (215 : Nat) "FallingTermsModel" "x" "J") ∈ tg := tg_in 600 (by decide +kernel) rfl
theorem tw_601 : (Jvm.Cond.fieldLink "FallingTermsModel" (218 : Nat) "FallingTermsModel" "y" "J") ∈ tg := tg_in 601 (by decide +kernel) rfl
theorem tw_602 : (Jvm.Cond.fieldLink "FallingTermsModel" (221 : Nat) "FallingTermsModel" "z" "J") ∈ tg := tg_in 602 (by decide +kernel) rfl
theorem tw_603 : (Jvm.Cond.lays "FallingTermsModel" "FallingTermsModel" "loops" "I") ∈ tg := tg_in 603 (by decide +kernel) rfl
theorem tw_604 : (Jvm.Cond.soleField "FallingTermsModel" "loops") ∈ tg := tg_in 604 (by decide +kernel) rfl
theorem tw_605 : (Jvm.Cond.laysFinal "FallingTermsModel" "FallingTermsModel" "names" "[I") ∈ tg := tg_in 605 (by decide +kernel) rfl
theorem tw_606 : (Jvm.Cond.soleField "FallingTermsModel" "names") ∈ tg := tg_in 606 (by decide +kernel) rfl
theorem tw_607 : (Jvm.Cond.laysFinal "FallingTermsModel" "FallingTermsModel" "ways" "[I") ∈ tg := tg_in 607 (by decide +kernel) rfl
theorem tw_608 : (Jvm.Cond.soleField "FallingTermsModel" "ways") ∈ tg := tg_in 608 (by decide +kernel) rfl
theorem tw_609 : (Jvm.Cond.laysFinal "FallingTermsModel" "FallingTermsModel" "guards" "[I") ∈ tg := tg_in 609 (by decide +kernel) rfl
theorem tw_610 : (Jvm.Cond.soleField "FallingTermsModel" "guards") ∈ tg := tg_in 610 (by decide +kernel) rfl
theorem tw_611 : (Jvm.Cond.laysFinal "FallingTermsModel" "FallingTermsModel" "guard" "[I") ∈ tg := tg_in 611 (by decide +kernel) rfl
theorem tw_612 : (Jvm.Cond.soleField "FallingTermsModel" "guard") ∈ tg := tg_in 612 (by decide +kernel) rfl
theorem tw_613 : (Jvm.Cond.laysFinal "FallingTermsModel" "FallingTermsModel" "wayRows" "[I") ∈ tg := tg_in 613 (by decide +kernel) rfl
theorem tw_614 : (Jvm.Cond.soleField "FallingTermsModel" "wayRows") ∈ tg := tg_in 614 (by decide +kernel) rfl
theorem tw_615 : (Jvm.Cond.laysFinal "FallingTermsModel" "FallingTermsModel" "wayRow" "[I") ∈ tg := tg_in 615 (by decide +kernel) rfl
theorem tw_616 : (Jvm.Cond.soleField "FallingTermsModel" "wayRow") ∈ tg := tg_in 616 (by decide +kernel) rfl
theorem tw_617 : (Jvm.Cond.laysFinal "FallingTermsModel" "FallingTermsModel" "factor" "[I") ∈ tg := tg_in 617 (by decide +kernel) rfl
theorem tw_618 : (Jvm.Cond.soleField "FallingTermsModel" "factor") ∈ tg := tg_in 618 (by decide +kernel) rfl
theorem tw_619 : (Jvm.Cond.laysFinal "FallingTermsModel" "FallingTermsModel" "constant" "[I") ∈ tg := tg_in 619 (by decide +kernel) rfl
theorem tw_620 : (Jvm.Cond.soleField "FallingTermsModel" "constant") ∈ tg := tg_in 620 (by decide +kernel) rfl
theorem tw_621 : (Jvm.Cond.laysFinal "FallingTermsModel" "FallingTermsModel" "state" "[J") ∈ tg := tg_in 621 (by decide +kernel) rfl
theorem tw_622 : (Jvm.Cond.soleField "FallingTermsModel" "state") ∈ tg := tg_in 622 (by decide +kernel) rfl
theorem tw_623 : (Jvm.Cond.lays "FallingTermsModel" "FallingTermsModel" "proofs" "I") ∈ tg := tg_in 623 (by decide +kernel) rfl
theorem tw_624 : (Jvm.Cond.soleField "FallingTermsModel" "proofs") ∈ tg := tg_in 624 (by decide +kernel) rfl
theorem tw_625 : (Jvm.Cond.laysFinal "FallingTermsModel" "FallingTermsModel" "proof" "[I") ∈ tg := tg_in 625 (by decide +kernel) rfl
theorem tw_626 : (Jvm.Cond.soleField "FallingTermsModel" "proof") ∈ tg := tg_in 626 (by decide +kernel) rfl
theorem tw_627 : (Jvm.Cond.lays "FallingTermsModel" "FallingTermsModel" "left" "I") ∈ tg := tg_in 627 (by decide +kernel) rfl
theorem tw_628 : (Jvm.Cond.soleField "FallingTermsModel" "left") ∈ tg := tg_in 628 (by decide +kernel) rfl
