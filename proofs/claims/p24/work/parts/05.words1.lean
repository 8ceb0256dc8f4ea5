set_option maxRecDepth 100000 in
theorem tw_306 : (Jvm.Cond.methodLink "FallingTerms" (96 : Nat) ({ cls := "FallingTerms", name := "isName", desc := "(II)Z" } : Jvm.MethodName)) ∈ tg := tg_in 306 (by first | exact rfl | decide +kernel) rfl
set_option maxRecDepth 100000 in
theorem tw_308 : (Jvm.Cond.instanceMethod ({ cls := "FallingTerms", name := "isName", desc := "(II)Z" } : Jvm.MethodName)) ∈ tg := tg_in 308 (by first | exact rfl | decide +kernel) rfl
set_option maxRecDepth 100000 in
theorem tw_309 : (Jvm.Cond.code ({ cls := "FallingTerms", name := "isName", desc := "(II)Z" } : Jvm.MethodName) prog_1_method_28_code (3 : Nat) (Option.some Jvm.ClassFile.FieldType.boolean)) ∈ tg := tg_in 309 (by first | exact rfl | decide +kernel) rfl
set_option maxRecDepth 100000 in
theorem tw_310 : (Jvm.Cond.methodLink "FallingTermsLaw" (41 : Nat) ({ cls := "FallingTerms", name := "constant", desc := "(IIII)I" } : Jvm.MethodName)) ∈ tg := tg_in 310 (by first | exact rfl | decide +kernel) rfl
set_option maxRecDepth 100000 in
theorem tw_311 : (Jvm.Cond.instanceMethod ({ cls := "FallingTerms", name := "constant", desc := "(IIII)I" } : Jvm.MethodName)) ∈ tg := tg_in 311 (by first | exact rfl | decide +kernel) rfl
set_option maxRecDepth 100000 in
theorem tw_312 : (Jvm.Cond.selects "FallingTerms" ({ cls := "FallingTerms", name := "constant", desc := "(IIII)I" } : Jvm.MethodName) ({ cls := "FallingTerms", name := "constant", desc := "(IIII)I" } : Jvm.MethodName)) ∈ tg := tg_in 312 (by first | exact rfl | decide +kernel) rfl
set_option maxRecDepth 100000 in
theorem tw_313 : (Jvm.Cond.code ({ cls := "FallingTerms", name := "constant", desc := "(IIII)I" } : Jvm.MethodName) prog_1_method_8_code (7 : Nat) (Option.some Jvm.ClassFile.FieldType.int)) ∈ tg := tg_in 313 (by first | exact rfl | decide +kernel) rfl
set_option maxRecDepth 100000 in
theorem tw_314 : (Jvm.Cond.methodLink "FallingTermsLaw" (46 : Nat) ({ cls := "FallingTerms", name := "told", desc := "(II)I" } : Jvm.MethodName)) ∈ tg := tg_in 314 (by first | exact rfl | decide +kernel) rfl
set_option maxRecDepth 100000 in
theorem tw_315 : (Jvm.Cond.instanceMethod ({ cls := "FallingTerms", name := "told", desc := "(II)I" } : Jvm.MethodName)) ∈ tg := tg_in 315 (by first | exact rfl | decide +kernel) rfl
set_option maxRecDepth 100000 in
theorem tw_316 : (Jvm.Cond.selects "FallingTerms" ({ cls := "FallingTerms", name := "told", desc := "(II)I" } : Jvm.MethodName) ({ cls := "FallingTerms", name := "told", desc := "(II)I" } : Jvm.MethodName)) ∈ tg := tg_in 316 (by first | exact rfl | decide +kernel) rfl
set_option maxRecDepth 100000 in
theorem tw_317 : (Jvm.Cond.code ({ cls := "FallingTerms", name := "told", desc := "(II)I" } : Jvm.MethodName) prog_1_method_9_code (3 : Nat) (Option.some Jvm.ClassFile.FieldType.int)) ∈ tg := tg_in 317 (by first | exact rfl | decide +kernel) rfl
set_option maxRecDepth 100000 in
theorem tw_318 : (Jvm.Cond.methodLink "FallingTermsLaw" (51 : Nat) ({ cls := "FallingTerms", name := "empty", desc := "(II)I" } : Jvm.MethodName)) ∈ tg := tg_in 318 (by first | exact rfl | decide +kernel) rfl
set_option maxRecDepth 100000 in
theorem tw_319 : (Jvm.Cond.instanceMethod ({ cls := "FallingTerms", name := "empty", desc := "(II)I" } : Jvm.MethodName)) ∈ tg := tg_in 319 (by first | exact rfl | decide +kernel) rfl
set_option maxRecDepth 100000 in
theorem tw_320 : (Jvm.Cond.selects "FallingTerms" ({ cls := "FallingTerms", name := "empty", desc := "(II)I" } : Jvm.MethodName) ({ cls := "FallingTerms", name := "empty", desc := "(II)I" } : Jvm.MethodName)) ∈ tg := tg_in 320 (by first | exact rfl | decide +kernel) rfl
set_option maxRecDepth 100000 in
theorem tw_321 : (Jvm.Cond.code ({ cls := "FallingTerms", name := "empty", desc := "(II)I" } : Jvm.MethodName) prog_1_method_10_code (3 : Nat) (Option.some Jvm.ClassFile.FieldType.int)) ∈ tg := tg_in 321 (by first | exact rfl | decide +kernel) rfl
set_option maxRecDepth 100000 in
theorem tw_322 : (Jvm.Cond.methodLink "FallingTerms" (117 : Nat) ({ cls := "FallingTerms", name := "spaceOf", desc := "(II)LFallingTerms$Space;" } : Jvm.MethodName)) ∈ tg := tg_in 322 (by first | exact rfl | decide +kernel) rfl
set_option maxRecDepth 100000 in
theorem tw_324 : (Jvm.Cond.instanceMethod ({ cls := "FallingTerms", name := "spaceOf", desc := "(II)LFallingTerms$Space;" } : Jvm.MethodName)) ∈ tg := tg_in 324 (by first | exact rfl | decide +kernel) rfl
set_option maxRecDepth 100000 in
theorem tw_325 : (Jvm.Cond.code ({ cls := "FallingTerms", name := "spaceOf", desc := "(II)LFallingTerms$Space;" } : Jvm.MethodName) prog_1_method_34_code (3 : Nat) (Option.some (Jvm.ClassFile.FieldType.object "FallingTerms$Space"))) ∈ tg := tg_in 325 (by first | exact rfl | decide +kernel) rfl
set_option maxRecDepth 100000 in
theorem tw_326 : (Jvm.Cond.methodLink "FallingTerms" (192 : Nat) ({ cls := "FallingTerms$Space", name := "fill", desc := "(LFallingTerms$Loop;I)V" } : Jvm.MethodName)) ∈ tg := tg_in 326 (by first | exact rfl | decide +kernel) rfl
set_option maxRecDepth 100000 in
theorem tw_327 : (Jvm.Cond.instanceMethod ({ cls := "FallingTerms$Space", name := "fill", desc := "(LFallingTerms$Loop;I)V" } : Jvm.MethodName)) ∈ tg := tg_in 327 (by first | exact rfl | decide +kernel) rfl
set_option maxRecDepth 100000 in
theorem tw_328 : (Jvm.Cond.selects "FallingTerms$Space" ({ cls := "FallingTerms$Space", name := "fill", desc := "(LFallingTerms$Loop;I)V" } : Jvm.MethodName) ({ cls := "FallingTerms$Space", name := "fill", desc := "(LFallingTerms$Loop;I)V" } : Jvm.MethodName)) ∈ tg := tg_in 328 (by first | exact rfl | decide +kernel) rfl
set_option maxRecDepth 100000 in
theorem tw_329 : (Jvm.Cond.code ({ cls := "FallingTerms$Space", name := "fill", desc := "(LFallingTerms$Loop;I)V" } : Jvm.MethodName) prog_5_method_2_code (7 : Nat) (Option.none : Option Jvm.ClassFile.FieldType)) ∈ tg := tg_in 329 (by first | exact rfl | decide +kernel) rfl
set_option maxRecDepth 100000 in
theorem tw_330 : (Jvm.Cond.methodLink "FallingTerms$Space" (34 : Nat) ({ cls := "FallingTerms$Space", name := "begin", desc := "(I)V" } : Jvm.MethodName)) ∈ tg := tg_in 330 (by first | exact rfl | decide +kernel) rfl
set_option maxRecDepth 100000 in
theorem tw_332 : (Jvm.Cond.instanceMethod ({ cls := "FallingTerms$Space", name := "begin", desc := "(I)V" } : Jvm.MethodName)) ∈ tg := tg_in 332 (by first | exact rfl | decide +kernel) rfl
set_option maxRecDepth 100000 in
theorem tw_333 : (Jvm.Cond.code ({ cls := "FallingTerms$Space", name := "begin", desc := "(I)V" } : Jvm.MethodName) prog_5_method_8_code (3 : Nat) (Option.none : Option Jvm.ClassFile.FieldType)) ∈ tg := tg_in 333 (by first | exact rfl | decide +kernel) rfl
set_option maxRecDepth 100000 in
theorem tw_334 : (Jvm.Cond.methodLink "FallingTerms$Space" (90 : Nat) ({ cls := "FallingTerms$Space", name := "appendPivot", desc := "(I)V" } : Jvm.MethodName)) ∈ tg := tg_in 334 (by first | exact rfl | decide +kernel) rfl
set_option maxRecDepth 100000 in
theorem tw_336 : (Jvm.Cond.instanceMethod ({ cls := "FallingTerms$Space", name := "appendPivot", desc := "(I)V" } : Jvm.MethodName)) ∈ tg := tg_in 336 (by first | exact rfl | decide +kernel) rfl
set_option maxRecDepth 100000 in
theorem tw_337 : (Jvm.Cond.code ({ cls := "FallingTerms$Space", name := "appendPivot", desc := "(I)V" } : Jvm.MethodName) prog_5_method_17_code (3 : Nat) (Option.none : Option Jvm.ClassFile.FieldType)) ∈ tg := tg_in 337 (by first | exact rfl | decide +kernel) rfl
set_option maxRecDepth 100000 in
theorem tw_338 : (Jvm.Cond.methodLink "FallingTerms$Space" (50 : Nat) ({ cls := "FallingTerms$Space", name := "narrow", desc := "(IIII)V" } : Jvm.MethodName)) ∈ tg := tg_in 338 (by first | exact rfl | decide +kernel) rfl
set_option maxRecDepth 100000 in
theorem tw_339 : (Jvm.Cond.instanceMethod ({ cls := "FallingTerms$Space", name := "narrow", desc := "(IIII)V" } : Jvm.MethodName)) ∈ tg := tg_in 339 (by first | exact rfl | decide +kernel) rfl
set_option maxRecDepth 100000 in
theorem tw_340 : (Jvm.Cond.selects "FallingTerms$Space" ({ cls := "FallingTerms$Space", name := "narrow", desc := "(IIII)V" } : Jvm.MethodName) ({ cls := "FallingTerms$Space", name := "narrow", desc := "(IIII)V" } : Jvm.MethodName)) ∈ tg := tg_in 340 (by first | exact rfl | decide +kernel) rfl
set_option maxRecDepth 100000 in
theorem tw_341 : (Jvm.Cond.code ({ cls := "FallingTerms$Space", name := "narrow", desc := "(IIII)V" } : Jvm.MethodName) prog_5_method_7_code (6 : Nat) (Option.none : Option Jvm.ClassFile.FieldType)) ∈ tg := tg_in 341 (by first | exact rfl | decide +kernel) rfl
set_option maxRecDepth 100000 in
theorem tw_342 : (Jvm.Cond.methodLink "FallingTerms$Space" (72 : Nat) ({ cls := "FallingTerms$Space", name := "lineAcross", desc := "(III)I" } : Jvm.MethodName)) ∈ tg := tg_in 342 (by first | exact rfl | decide +kernel) rfl
set_option maxRecDepth 100000 in
theorem tw_344 : (Jvm.Cond.instanceMethod ({ cls := "FallingTerms$Space", name := "lineAcross", desc := "(III)I" } : Jvm.MethodName)) ∈ tg := tg_in 344 (by first | exact rfl | decide +kernel) rfl
set_option maxRecDepth 100000 in
theorem tw_345 : (Jvm.Cond.code ({ cls := "FallingTerms$Space", name := "lineAcross", desc := "(III)I" } : Jvm.MethodName) prog_5_method_11_code (5 : Nat) (Option.some Jvm.ClassFile.FieldType.int)) ∈ tg := tg_in 345 (by first | exact rfl | decide +kernel) rfl
set_option maxRecDepth 100000 in
theorem tw_346 : (Jvm.Cond.methodLink "FallingTerms$Space" (93 : Nat) ({ cls := "FallingTerms$Space", name := "slope", desc := "(IIII)J" } : Jvm.MethodName)) ∈ tg := tg_in 346 (by first | exact rfl | decide +kernel) rfl
set_option maxRecDepth 100000 in
theorem tw_348 : (Jvm.Cond.instanceMethod ({ cls := "FallingTerms$Space", name := "slope", desc := "(IIII)J" } : Jvm.MethodName)) ∈ tg := tg_in 348 (by first | exact rfl | decide +kernel) rfl
set_option maxRecDepth 100000 in
theorem tw_349 : (Jvm.Cond.code ({ cls := "FallingTerms$Space", name := "slope", desc := "(IIII)J" } : Jvm.MethodName) prog_5_method_10_code (6 : Nat) (Option.some Jvm.ClassFile.FieldType.long)) ∈ tg := tg_in 349 (by first | exact rfl | decide +kernel) rfl
set_option maxRecDepth 100000 in
theorem tw_350 : (Jvm.Cond.methodLink "FallingTerms$Space" (80 : Nat) ({ cls := "FallingTerms$Space", name := "turn", desc := "(IIIII)V" } : Jvm.MethodName)) ∈ tg := tg_in 350 (by first | exact rfl | decide +kernel) rfl
set_option maxRecDepth 100000 in
theorem tw_352 : (Jvm.Cond.instanceMethod ({ cls := "FallingTerms$Space", name := "turn", desc := "(IIIII)V" } : Jvm.MethodName)) ∈ tg := tg_in 352 (by first | exact rfl | decide +kernel) rfl
set_option maxRecDepth 100000 in
theorem tw_353 : (Jvm.Cond.code ({ cls := "FallingTerms$Space", name := "turn", desc := "(IIIII)V" } : Jvm.MethodName) prog_5_method_12_code (11 : Nat) (Option.none : Option Jvm.ClassFile.FieldType)) ∈ tg := tg_in 353 (by first | exact rfl | decide +kernel) rfl
set_option maxRecDepth 100000 in
theorem tw_354 : (Jvm.Cond.constantLong "FallingTerms$Space" (97 : Nat) (-1 : Int64)) ∈ tg := tg_in 354 (by first | exact rfl | decide +kernel) rfl
set_option maxRecDepth 100000 in
theorem tw_355 : (Jvm.Cond.methodLink "FallingTerms$Space" (99 : Nat) ({ cls := "FallingTerms$Space", name := "shift", desc := "([JIJJ)V" } : Jvm.MethodName)) ∈ tg := tg_in 355 (by first | exact rfl | decide +kernel) rfl
set_option maxRecDepth 100000 in
theorem tw_357 : (Jvm.Cond.instanceMethod ({ cls := "FallingTerms$Space", name := "shift", desc := "([JIJJ)V" } : Jvm.MethodName)) ∈ tg := tg_in 357 (by first | exact rfl | decide +kernel) rfl
set_option maxRecDepth 100000 in
theorem tw_358 : (Jvm.Cond.code ({ cls := "FallingTerms$Space", name := "shift", desc := "([JIJJ)V" } : Jvm.MethodName) prog_5_method_13_code (8 : Nat) (Option.none : Option Jvm.ClassFile.FieldType)) ∈ tg := tg_in 358 (by first | exact rfl | decide +kernel) rfl
set_option maxRecDepth 100000 in
theorem tw_359 : (Jvm.Cond.methodLink "FallingTerms$Space" (103 : Nat) ({ cls := "FallingTerms$Space", name := "reduce", desc := "([JI)V" } : Jvm.MethodName)) ∈ tg := tg_in 359 (by first | exact rfl | decide +kernel) rfl
set_option maxRecDepth 100000 in
theorem tw_360 : (Jvm.Cond.static ({ cls := "FallingTerms$Space", name := "reduce", desc := "([JI)V" } : Jvm.MethodName)) ∈ tg := tg_in 360 (by first | exact rfl | decide +kernel) rfl
set_option maxRecDepth 100000 in
theorem tw_361 : (Jvm.Cond.code ({ cls := "FallingTerms$Space", name := "reduce", desc := "([JI)V" } : Jvm.MethodName) prog_5_method_20_code (10 : Nat) (Option.none : Option Jvm.ClassFile.FieldType)) ∈ tg := tg_in 361 (by first | exact rfl | decide +kernel) rfl
set_option maxRecDepth 100000 in
theorem tw_362 : (Jvm.Cond.methodLink "FallingTerms$Space" (76 : Nat) ({ cls := "FallingTerms$Space", name := "worth", desc := "(IIIII)J" } : Jvm.MethodName)) ∈ tg := tg_in 362 (by first | exact rfl | decide +kernel) rfl
set_option maxRecDepth 100000 in
theorem tw_364 : (Jvm.Cond.instanceMethod ({ cls := "FallingTerms$Space", name := "worth", desc := "(IIIII)J" } : Jvm.MethodName)) ∈ tg := tg_in 364 (by first | exact rfl | decide +kernel) rfl
set_option maxRecDepth 100000 in
theorem tw_365 : (Jvm.Cond.code ({ cls := "FallingTerms$Space", name := "worth", desc := "(IIIII)J" } : Jvm.MethodName) prog_5_method_9_code (7 : Nat) (Option.some Jvm.ClassFile.FieldType.long)) ∈ tg := tg_in 365 (by first | exact rfl | decide +kernel) rfl
set_option maxRecDepth 100000 in
theorem tw_366 : (Jvm.Cond.methodLink "FallingTerms$Space" (84 : Nat) ({ cls := "FallingTerms$Space", name := "cut", desc := "(IIII)V" } : Jvm.MethodName)) ∈ tg := tg_in 366 (by first | exact rfl | decide +kernel) rfl
set_option maxRecDepth 100000 in
theorem tw_368 : (Jvm.Cond.instanceMethod ({ cls := "FallingTerms$Space", name := "cut", desc := "(IIII)V" } : Jvm.MethodName)) ∈ tg := tg_in 368 (by first | exact rfl | decide +kernel) rfl
set_option maxRecDepth 100000 in
theorem tw_369 : (Jvm.Cond.code ({ cls := "FallingTerms$Space", name := "cut", desc := "(IIII)V" } : Jvm.MethodName) prog_5_method_14_code (8 : Nat) (Option.none : Option Jvm.ClassFile.FieldType)) ∈ tg := tg_in 369 (by first | exact rfl | decide +kernel) rfl
set_option maxRecDepth 100000 in
theorem tw_370 : (Jvm.Cond.methodLink "FallingTerms$Space" (107 : Nat) ({ cls := "FallingTerms$Space", name := "areNeighbours", desc := "(III)Z" } : Jvm.MethodName)) ∈ tg := tg_in 370 (by first | exact rfl | decide +kernel) rfl
set_option maxRecDepth 100000 in
theorem tw_372 : (Jvm.Cond.instanceMethod ({ cls := "FallingTerms$Space", name := "areNeighbours", desc := "(III)Z" } : Jvm.MethodName)) ∈ tg := tg_in 372 (by first | exact rfl | decide +kernel) rfl
set_option maxRecDepth 100000 in
theorem tw_373 : (Jvm.Cond.code ({ cls := "FallingTerms$Space", name := "areNeighbours", desc := "(III)Z" } : Jvm.MethodName) prog_5_method_15_code (6 : Nat) (Option.some Jvm.ClassFile.FieldType.boolean)) ∈ tg := tg_in 373 (by first | exact rfl | decide +kernel) rfl
set_option maxRecDepth 100000 in
theorem tw_374 : (Jvm.Cond.methodLink "FallingTerms$Space" (111 : Nat) ({ cls := "FallingTerms$Space", name := "appendBetween", desc := "(II)V" } : Jvm.MethodName)) ∈ tg := tg_in 374 (by first | exact rfl | decide +kernel) rfl
set_option maxRecDepth 100000 in
theorem tw_376 : (Jvm.Cond.instanceMethod ({ cls := "FallingTerms$Space", name := "appendBetween", desc := "(II)V" } : Jvm.MethodName)) ∈ tg := tg_in 376 (by first | exact rfl | decide +kernel) rfl
set_option maxRecDepth 100000 in
theorem tw_377 : (Jvm.Cond.code ({ cls := "FallingTerms$Space", name := "appendBetween", desc := "(II)V" } : Jvm.MethodName) prog_5_method_16_code (4 : Nat) (Option.none : Option Jvm.ClassFile.FieldType)) ∈ tg := tg_in 377 (by first | exact rfl | decide +kernel) rfl
set_option maxRecDepth 100000 in
theorem tw_378 : (Jvm.Cond.methodLink "FallingTerms$Space" (115 : Nat) ({ cls := "FallingTerms$Space", name := "dropBeyond", desc := "(I)V" } : Jvm.MethodName)) ∈ tg := tg_in 378 (by first | exact rfl | decide +kernel) rfl
set_option maxRecDepth 100000 in
theorem tw_380 : (Jvm.Cond.instanceMethod ({ cls := "FallingTerms$Space", name := "dropBeyond", desc := "(I)V" } : Jvm.MethodName)) ∈ tg := tg_in 380 (by first | exact rfl | decide +kernel) rfl
set_option maxRecDepth 100000 in
theorem tw_381 : (Jvm.Cond.code ({ cls := "FallingTerms$Space", name := "dropBeyond", desc := "(I)V" } : Jvm.MethodName) prog_5_method_18_code (5 : Nat) (Option.none : Option Jvm.ClassFile.FieldType)) ∈ tg := tg_in 381 (by first | exact rfl | decide +kernel) rfl
set_option maxRecDepth 100000 in
theorem tw_382 : (Jvm.Cond.methodLink "FallingTerms$Space" (87 : Nat) ({ cls := "FallingTerms$Space", name := "dropIfNoPoint", desc := "()V" } : Jvm.MethodName)) ∈ tg := tg_in 382 (by first | exact rfl | decide +kernel) rfl
set_option maxRecDepth 100000 in
theorem tw_384 : (Jvm.Cond.instanceMethod ({ cls := "FallingTerms$Space", name := "dropIfNoPoint", desc := "()V" } : Jvm.MethodName)) ∈ tg := tg_in 384 (by first | exact rfl | decide +kernel) rfl
set_option maxRecDepth 100000 in
theorem tw_385 : (Jvm.Cond.code ({ cls := "FallingTerms$Space", name := "dropIfNoPoint", desc := "()V" } : Jvm.MethodName) prog_5_method_19_code (2 : Nat) (Option.none : Option Jvm.ClassFile.FieldType)) ∈ tg := tg_in 385 (by first | exact rfl | decide +kernel) rfl
set_option maxRecDepth 100000 in
theorem tw_386 : (Jvm.Cond.methodLink "FallingTerms" (121 : Nat) ({ cls := "FallingTerms$Space", name := "hasNothing", desc := "()Z" } : Jvm.MethodName)) ∈ tg := tg_in 386 (by first | exact rfl | decide +kernel) rfl
set_option maxRecDepth 100000 in
theorem tw_387 : (Jvm.Cond.instanceMethod ({ cls := "FallingTerms$Space", name := "hasNothing", desc := "()Z" } : Jvm.MethodName)) ∈ tg := tg_in 387 (by first | exact rfl | decide +kernel) rfl
set_option maxRecDepth 100000 in
theorem tw_388 : (Jvm.Cond.selects "FallingTerms$Space" ({ cls := "FallingTerms$Space", name := "hasNothing", desc := "()Z" } : Jvm.MethodName) ({ cls := "FallingTerms$Space", name := "hasNothing", desc := "()Z" } : Jvm.MethodName)) ∈ tg := tg_in 388 (by first | exact rfl | decide +kernel) rfl
set_option maxRecDepth 100000 in
theorem tw_389 : (Jvm.Cond.code ({ cls := "FallingTerms$Space", name := "hasNothing", desc := "()Z" } : Jvm.MethodName) prog_5_method_4_code (1 : Nat) (Option.some Jvm.ClassFile.FieldType.boolean)) ∈ tg := tg_in 389 (by first | exact rfl | decide +kernel) rfl
set_option maxRecDepth 100000 in
theorem tw_390 : (Jvm.Cond.methodLink "FallingTermsLaw" (55 : Nat) ({ cls := "FallingTerms", name := "holds", desc := "(IIIIII)I" } : Jvm.MethodName)) ∈ tg := tg_in 390 (by first | exact rfl | decide +kernel) rfl
set_option maxRecDepth 100000 in
theorem tw_391 : (Jvm.Cond.instanceMethod ({ cls := "FallingTerms", name := "holds", desc := "(IIIIII)I" } : Jvm.MethodName)) ∈ tg := tg_in 391 (by first | exact rfl | decide +kernel) rfl
set_option maxRecDepth 100000 in
theorem tw_392 : (Jvm.Cond.selects "FallingTerms" ({ cls := "FallingTerms", name := "holds", desc := "(IIIIII)I" } : Jvm.MethodName) ({ cls := "FallingTerms", name := "holds", desc := "(IIIIII)I" } : Jvm.MethodName)) ∈ tg := tg_in 392 (by first | exact rfl | decide +kernel) rfl
set_option maxRecDepth 100000 in
theorem tw_393 : (Jvm.Cond.code ({ cls := "FallingTerms", name := "holds", desc := "(IIIIII)I" } : Jvm.MethodName) prog_1_method_11_code (7 : Nat) (Option.some Jvm.ClassFile.FieldType.int)) ∈ tg := tg_in 393 (by first | exact rfl | decide +kernel) rfl
set_option maxRecDepth 100000 in
theorem tw_394 : (Jvm.Cond.methodLink "FallingTerms" (125 : Nat) ({ cls := "FallingTerms$Space", name := "implies", desc := "(IIII)Z" } : Jvm.MethodName)) ∈ tg := tg_in 394 (by first | exact rfl | decide +kernel) rfl
set_option maxRecDepth 100000 in
theorem tw_395 : (Jvm.Cond.instanceMethod ({ cls := "FallingTerms$Space", name := "implies", desc := "(IIII)Z" } : Jvm.MethodName)) ∈ tg := tg_in 395 (by first | exact rfl | decide +kernel) rfl
set_option maxRecDepth 100000 in
theorem tw_396 : (Jvm.Cond.selects "FallingTerms$Space" ({ cls := "FallingTerms$Space", name := "implies", desc := "(IIII)Z" } : Jvm.MethodName) ({ cls := "FallingTerms$Space", name := "implies", desc := "(IIII)Z" } : Jvm.MethodName)) ∈ tg := tg_in 396 (by first | exact rfl | decide +kernel) rfl
set_option maxRecDepth 100000 in
theorem tw_397 : (Jvm.Cond.code ({ cls := "FallingTerms$Space", name := "implies", desc := "(IIII)Z" } : Jvm.MethodName) prog_5_method_5_code (6 : Nat) (Option.some Jvm.ClassFile.FieldType.boolean)) ∈ tg := tg_in 397 (by first | exact rfl | decide +kernel) rfl
set_option maxRecDepth 100000 in
theorem tw_398 : (Jvm.Cond.methodLink "FallingTermsLaw" (59 : Nat) ({ cls := "FallingTerms", name := "term", desc := "(IIIII)I" } : Jvm.MethodName)) ∈ tg := tg_in 398 (by first | exact rfl | decide +kernel) rfl
set_option maxRecDepth 100000 in
theorem tw_399 : (Jvm.Cond.instanceMethod ({ cls := "FallingTerms", name := "term", desc := "(IIIII)I" } : Jvm.MethodName)) ∈ tg := tg_in 399 (by first | exact rfl | decide +kernel) rfl
set_option maxRecDepth 100000 in
theorem tw_400 : (Jvm.Cond.selects "FallingTerms" ({ cls := "FallingTerms", name := "term", desc := "(IIIII)I" } : Jvm.MethodName) ({ cls := "FallingTerms", name := "term", desc := "(IIIII)I" } : Jvm.MethodName)) ∈ tg := tg_in 400 (by first | exact rfl | decide +kernel) rfl
set_option maxRecDepth 100000 in
theorem tw_401 : (Jvm.Cond.code ({ cls := "FallingTerms", name := "term", desc := "(IIIII)I" } : Jvm.MethodName) prog_1_method_12_code (8 : Nat) (Option.some Jvm.ClassFile.FieldType.int)) ∈ tg := tg_in 401 (by first | exact rfl | decide +kernel) rfl
set_option maxRecDepth 100000 in
theorem tw_402 : (Jvm.Cond.methodLink "FallingTerms" (132 : Nat) ({ cls := "FallingTerms$Space", name := "bounds", desc := "(III)Z" } : Jvm.MethodName)) ∈ tg := tg_in 402 (by first | exact rfl | decide +kernel) rfl
set_option maxRecDepth 100000 in
theorem tw_403 : (Jvm.Cond.instanceMethod ({ cls := "FallingTerms$Space", name := "bounds", desc := "(III)Z" } : Jvm.MethodName)) ∈ tg := tg_in 403 (by first | exact rfl | decide +kernel) rfl
set_option maxRecDepth 100000 in
theorem tw_404 : (Jvm.Cond.selects "FallingTerms$Space" ({ cls := "FallingTerms$Space", name := "bounds", desc := "(III)Z" } : Jvm.MethodName) ({ cls := "FallingTerms$Space", name := "bounds", desc := "(III)Z" } : Jvm.MethodName)) ∈ tg := tg_in 404 (by first | exact rfl | decide +kernel) rfl
set_option maxRecDepth 100000 in
theorem tw_405 : (Jvm.Cond.code ({ cls := "FallingTerms$Space", name := "bounds", desc := "(III)Z" } : Jvm.MethodName) prog_5_method_6_code (5 : Nat) (Option.some Jvm.ClassFile.FieldType.boolean)) ∈ tg := tg_in 405 (by first | exact rfl | decide +kernel) rfl
set_option maxRecDepth 100000 in
theorem tw_406 : (Jvm.Cond.methodLink "FallingTerms" (136 : Nat) ({ cls := "FallingTerms$Way", name := "lessens", desc := "(LFallingTerms$Space;IIII)Z" } : Jvm.MethodName)) ∈ tg := tg_in 406 (by first | exact rfl | decide +kernel) rfl
set_option maxRecDepth 100000 in
theorem tw_407 : (Jvm.Cond.instanceMethod ({ cls := "FallingTerms$Way", name := "lessens", desc := "(LFallingTerms$Space;IIII)Z" } : Jvm.MethodName)) ∈ tg := tg_in 407 (by first | exact rfl | decide +kernel) rfl
set_option maxRecDepth 100000 in
theorem tw_408 : (Jvm.Cond.selects "FallingTerms$Way" ({ cls := "FallingTerms$Way", name := "lessens", desc := "(LFallingTerms$Space;IIII)Z" } : Jvm.MethodName) ({ cls := "FallingTerms$Way", name := "lessens", desc := "(LFallingTerms$Space;IIII)Z" } : Jvm.MethodName)) ∈ tg := tg_in 408 (by first | exact rfl | decide +kernel) rfl
set_option maxRecDepth 100000 in
theorem tw_409 : (Jvm.Cond.code ({ cls := "FallingTerms$Way", name := "lessens", desc := "(LFallingTerms$Space;IIII)Z" } : Jvm.MethodName) prog_6_method_6_code (6 : Nat) (Option.some Jvm.ClassFile.FieldType.boolean)) ∈ tg := tg_in 409 (by first | exact rfl | decide +kernel) rfl
set_option maxRecDepth 100000 in
theorem tw_410 : (Jvm.Cond.methodLink "FallingTerms$Way" (35 : Nat) ({ cls := "FallingTerms$Way", name := "weightBehind", desc := "(IIII)I" } : Jvm.MethodName)) ∈ tg := tg_in 410 (by first | exact rfl | decide +kernel) rfl
set_option maxRecDepth 100000 in
theorem tw_411 : (Jvm.Cond.instanceMethod ({ cls := "FallingTerms$Way", name := "weightBehind", desc := "(IIII)I" } : Jvm.MethodName)) ∈ tg := tg_in 411 (by first | exact rfl | decide +kernel) rfl
set_option maxRecDepth 100000 in
theorem tw_412 : (Jvm.Cond.selects "FallingTerms$Way" ({ cls := "FallingTerms$Way", name := "weightBehind", desc := "(IIII)I" } : Jvm.MethodName) ({ cls := "FallingTerms$Way", name := "weightBehind", desc := "(IIII)I" } : Jvm.MethodName)) ∈ tg := tg_in 412 (by first | exact rfl | decide +kernel) rfl
set_option maxRecDepth 100000 in
theorem tw_413 : (Jvm.Cond.code ({ cls := "FallingTerms$Way", name := "weightBehind", desc := "(IIII)I" } : Jvm.MethodName) prog_6_method_4_code (5 : Nat) (Option.some Jvm.ClassFile.FieldType.int)) ∈ tg := tg_in 413 (by first | exact rfl | decide +kernel) rfl
set_option maxRecDepth 100000 in
theorem tw_414 : (Jvm.Cond.methodLink "FallingTerms$Way" (39 : Nat) ({ cls := "FallingTerms$Way", name := "constantBehind", desc := "(III)I" } : Jvm.MethodName)) ∈ tg := tg_in 414 (by first | exact rfl | decide +kernel) rfl
set_option maxRecDepth 100000 in
theorem tw_415 : (Jvm.Cond.instanceMethod ({ cls := "FallingTerms$Way", name := "constantBehind", desc := "(III)I" } : Jvm.MethodName)) ∈ tg := tg_in 415 (by first | exact rfl | decide +kernel) rfl
set_option maxRecDepth 100000 in
theorem tw_416 : (Jvm.Cond.selects "FallingTerms$Way" ({ cls := "FallingTerms$Way", name := "constantBehind", desc := "(III)I" } : Jvm.MethodName) ({ cls := "FallingTerms$Way", name := "constantBehind", desc := "(III)I" } : Jvm.MethodName)) ∈ tg := tg_in 416 (by first | exact rfl | decide +kernel) rfl
set_option maxRecDepth 100000 in
theorem tw_417 : (Jvm.Cond.code ({ cls := "FallingTerms$Way", name := "constantBehind", desc := "(III)I" } : Jvm.MethodName) prog_6_method_5_code (4 : Nat) (Option.some Jvm.ClassFile.FieldType.int)) ∈ tg := tg_in 417 (by first | exact rfl | decide +kernel) rfl
set_option maxRecDepth 100000 in
theorem tw_418 : (Jvm.Cond.methodLink "FallingTerms$Way" (43 : Nat) ({ cls := "FallingTerms$Space", name := "implies", desc := "(IIII)Z" } : Jvm.MethodName)) ∈ tg := tg_in 418 (by first | exact rfl | decide +kernel) rfl
set_option maxRecDepth 100000 in
theorem tw_419 : (Jvm.Cond.methodLink "FallingTermsLaw" (63 : Nat) ({ cls := "FallingTerms", name := "prove", desc := "(I)I" } : Jvm.MethodName)) ∈ tg := tg_in 419 (by first | exact rfl | decide +kernel) rfl
set_option maxRecDepth 100000 in
theorem tw_420 : (Jvm.Cond.instanceMethod ({ cls := "FallingTerms", name := "prove", desc := "(I)I" } : Jvm.MethodName)) ∈ tg := tg_in 420 (by first | exact rfl | decide +kernel) rfl
set_option maxRecDepth 100000 in
theorem tw_421 : (Jvm.Cond.selects "FallingTerms" ({ cls := "FallingTerms", name := "prove", desc := "(I)I" } : Jvm.MethodName) ({ cls := "FallingTerms", name := "prove", desc := "(I)I" } : Jvm.MethodName)) ∈ tg := tg_in 421 (by first | exact rfl | decide +kernel) rfl
set_option maxRecDepth 100000 in
theorem tw_422 : (Jvm.Cond.code ({ cls := "FallingTerms", name := "prove", desc := "(I)I" } : Jvm.MethodName) prog_1_method_13_code (2 : Nat) (Option.some Jvm.ClassFile.FieldType.int)) ∈ tg := tg_in 422 (by first | exact rfl | decide +kernel) rfl
set_option maxRecDepth 100000 in
theorem tw_423 : (Jvm.Cond.methodLink "FallingTerms" (140 : Nat) ({ cls := "FallingTerms", name := "fillSpaces", desc := "(LFallingTerms$Loop;)V" } : Jvm.MethodName)) ∈ tg := tg_in 423 (by first | exact rfl | decide +kernel) rfl
set_option maxRecDepth 100000 in
theorem tw_425 : (Jvm.Cond.instanceMethod ({ cls := "FallingTerms", name := "fillSpaces", desc := "(LFallingTerms$Loop;)V" } : Jvm.MethodName)) ∈ tg := tg_in 425 (by first | exact rfl | decide +kernel) rfl
set_option maxRecDepth 100000 in
theorem tw_426 : (Jvm.Cond.code ({ cls := "FallingTerms", name := "fillSpaces", desc := "(LFallingTerms$Loop;)V" } : Jvm.MethodName) prog_1_method_35_code (3 : Nat) (Option.none : Option Jvm.ClassFile.FieldType)) ∈ tg := tg_in 426 (by first | exact rfl | decide +kernel) rfl
set_option maxRecDepth 100000 in
theorem tw_427 : (Jvm.Cond.methodLink "FallingTerms" (144 : Nat) ({ cls := "FallingTerms$Proof", name := "search", desc := "(LFallingTerms$Loop;[LFallingTerms$Space;)V" } : Jvm.MethodName)) ∈ tg := tg_in 427 (by first | exact rfl | decide +kernel) rfl
set_option maxRecDepth 100000 in
theorem tw_428 : (Jvm.Cond.instanceMethod ({ cls := "FallingTerms$Proof", name := "search", desc := "(LFallingTerms$Loop;[LFallingTerms$Space;)V" } : Jvm.MethodName)) ∈ tg := tg_in 428 (by first | exact rfl | decide +kernel) rfl
set_option maxRecDepth 100000 in
theorem tw_429 : (Jvm.Cond.selects "FallingTerms$Proof" ({ cls := "FallingTerms$Proof", name := "search", desc := "(LFallingTerms$Loop;[LFallingTerms$Space;)V" } : Jvm.MethodName) ({ cls := "FallingTerms$Proof", name := "search", desc := "(LFallingTerms$Loop;[LFallingTerms$Space;)V" } : Jvm.MethodName)) ∈ tg := tg_in 429 (by first | exact rfl | decide +kernel) rfl
set_option maxRecDepth 100000 in
theorem tw_430 : (Jvm.Cond.code ({ cls := "FallingTerms$Proof", name := "search", desc := "(LFallingTerms$Loop;[LFallingTerms$Space;)V" } : Jvm.MethodName) prog_3_method_3_code (4 : Nat) (Option.none : Option Jvm.ClassFile.FieldType)) ∈ tg := tg_in 430 (by first | exact rfl | decide +kernel) rfl
set_option maxRecDepth 100000 in
theorem tw_431 : (Jvm.Cond.methodLink "FallingTerms$Proof" (27 : Nat) ({ cls := "FallingTerms$Proof", name := "takeMore", desc := "(LFallingTerms$Loop;[LFallingTerms$Space;)Z" } : Jvm.MethodName)) ∈ tg := tg_in 431 (by first | exact rfl | decide +kernel) rfl
set_option maxRecDepth 100000 in
theorem tw_433 : (Jvm.Cond.instanceMethod ({ cls := "FallingTerms$Proof", name := "takeMore", desc := "(LFallingTerms$Loop;[LFallingTerms$Space;)Z" } : Jvm.MethodName)) ∈ tg := tg_in 433 (by first | exact rfl | decide +kernel) rfl
set_option maxRecDepth 100000 in
theorem tw_434 : (Jvm.Cond.code ({ cls := "FallingTerms$Proof", name := "takeMore", desc := "(LFallingTerms$Loop;[LFallingTerms$Space;)Z" } : Jvm.MethodName) prog_3_method_4_code (10 : Nat) (Option.some Jvm.ClassFile.FieldType.boolean)) ∈ tg := tg_in 434 (by first | exact rfl | decide +kernel) rfl
set_option maxRecDepth 100000 in
theorem tw_435 : (Jvm.Cond.methodLink "FallingTerms$Proof" (31 : Nat) ({ cls := "FallingTerms$Loop", name := "reach", desc := "(II)I" } : Jvm.MethodName)) ∈ tg := tg_in 435 (by first | exact rfl | decide +kernel) rfl
set_option maxRecDepth 100000 in
theorem tw_436 : (Jvm.Cond.instanceMethod ({ cls := "FallingTerms$Loop", name := "reach", desc := "(II)I" } : Jvm.MethodName)) ∈ tg := tg_in 436 (by first | exact rfl | decide +kernel) rfl
set_option maxRecDepth 100000 in
theorem tw_437 : (Jvm.Cond.selects "FallingTerms$Loop" ({ cls := "FallingTerms$Loop", name := "reach", desc := "(II)I" } : Jvm.MethodName) ({ cls := "FallingTerms$Loop", name := "reach", desc := "(II)I" } : Jvm.MethodName)) ∈ tg := tg_in 437 (by first | exact rfl | decide +kernel) rfl
set_option maxRecDepth 100000 in
theorem tw_438 : (Jvm.Cond.code ({ cls := "FallingTerms$Loop", name := "reach", desc := "(II)I" } : Jvm.MethodName) prog_2_method_4_code (3 : Nat) (Option.some Jvm.ClassFile.FieldType.int)) ∈ tg := tg_in 438 (by first | exact rfl | decide +kernel) rfl
set_option maxRecDepth 100000 in
theorem tw_439 : (Jvm.Cond.methodLink "FallingTerms$Proof" (35 : Nat) ({ cls := "FallingTerms$Proof", name := "takenBy", desc := "(LFallingTerms$Loop;[LFallingTerms$Space;III)I" } : Jvm.MethodName)) ∈ tg := tg_in 439 (by first | exact rfl | decide +kernel) rfl
set_option maxRecDepth 100000 in
theorem tw_441 : (Jvm.Cond.instanceMethod ({ cls := "FallingTerms$Proof", name := "takenBy", desc := "(LFallingTerms$Loop;[LFallingTerms$Space;III)I" } : Jvm.MethodName)) ∈ tg := tg_in 441 (by first | exact rfl | decide +kernel) rfl
set_option maxRecDepth 100000 in
theorem tw_442 : (Jvm.Cond.code ({ cls := "FallingTerms$Proof", name := "takenBy", desc := "(LFallingTerms$Loop;[LFallingTerms$Space;III)I" } : Jvm.MethodName) prog_3_method_5_code (8 : Nat) (Option.some Jvm.ClassFile.FieldType.int)) ∈ tg := tg_in 442 (by first | exact rfl | decide +kernel) rfl
set_option maxRecDepth 100000 in
theorem tw_443 : (Jvm.Cond.methodLink "FallingTerms$Proof" (47 : Nat) ({ cls := "FallingTerms$Way", name := "lessens", desc := "(LFallingTerms$Space;IIII)Z" } : Jvm.MethodName)) ∈ tg := tg_in 443 (by first | exact rfl | decide +kernel) rfl
set_option maxRecDepth 100000 in
theorem tw_444 : (Jvm.Cond.methodLink "FallingTerms$Proof" (53 : Nat) ({ cls := "FallingTerms$Space", name := "bounds", desc := "(III)Z" } : Jvm.MethodName)) ∈ tg := tg_in 444 (by first | exact rfl | decide +kernel) rfl
set_option maxRecDepth 100000 in
theorem tw_445 : (Jvm.Cond.methodLink "FallingTerms$Proof" (39 : Nat) ({ cls := "FallingTerms$Proof", name := "append", desc := "(IIII)V" } : Jvm.MethodName)) ∈ tg := tg_in 445 (by first | exact rfl | decide +kernel) rfl
set_option maxRecDepth 100000 in
theorem tw_447 : (Jvm.Cond.instanceMethod ({ cls := "FallingTerms$Proof", name := "append", desc := "(IIII)V" } : Jvm.MethodName)) ∈ tg := tg_in 447 (by first | exact rfl | decide +kernel) rfl
set_option maxRecDepth 100000 in
theorem tw_448 : (Jvm.Cond.code ({ cls := "FallingTerms$Proof", name := "append", desc := "(IIII)V" } : Jvm.MethodName) prog_3_method_6_code (6 : Nat) (Option.none : Option Jvm.ClassFile.FieldType)) ∈ tg := tg_in 448 (by first | exact rfl | decide +kernel) rfl
set_option maxRecDepth 100000 in
theorem tw_449 : (Jvm.Cond.methodLink "FallingTermsLaw" (67 : Nat) ({ cls := "FallingTerms", name := "proof", desc := "(II)I" } : Jvm.MethodName)) ∈ tg := tg_in 449 (by first | exact rfl | decide +kernel) rfl
set_option maxRecDepth 100000 in
theorem tw_450 : (Jvm.Cond.instanceMethod ({ cls := "FallingTerms", name := "proof", desc := "(II)I" } : Jvm.MethodName)) ∈ tg := tg_in 450 (by first | exact rfl | decide +kernel) rfl
set_option maxRecDepth 100000 in
theorem tw_451 : (Jvm.Cond.selects "FallingTerms" ({ cls := "FallingTerms", name := "proof", desc := "(II)I" } : Jvm.MethodName) ({ cls := "FallingTerms", name := "proof", desc := "(II)I" } : Jvm.MethodName)) ∈ tg := tg_in 451 (by first | exact rfl | decide +kernel) rfl
set_option maxRecDepth 100000 in
theorem tw_452 : (Jvm.Cond.code ({ cls := "FallingTerms", name := "proof", desc := "(II)I" } : Jvm.MethodName) prog_1_method_14_code (3 : Nat) (Option.some Jvm.ClassFile.FieldType.int)) ∈ tg := tg_in 452 (by first | exact rfl | decide +kernel) rfl
set_option maxRecDepth 100000 in
theorem tw_453 : (Jvm.Cond.methodLink "FallingTermsLaw" (71 : Nat) ({ cls := "FallingTerms", name := "left", desc := "()I" } : Jvm.MethodName)) ∈ tg := tg_in 453 (by first | exact rfl | decide +kernel) rfl
set_option maxRecDepth 100000 in
theorem tw_454 : (Jvm.Cond.instanceMethod ({ cls := "FallingTerms", name := "left", desc := "()I" } : Jvm.MethodName)) ∈ tg := tg_in 454 (by first | exact rfl | decide +kernel) rfl
set_option maxRecDepth 100000 in
theorem tw_455 : (Jvm.Cond.selects "FallingTerms" ({ cls := "FallingTerms", name := "left", desc := "()I" } : Jvm.MethodName) ({ cls := "FallingTerms", name := "left", desc := "()I" } : Jvm.MethodName)) ∈ tg := tg_in 455 (by first | exact rfl | decide +kernel) rfl
set_option maxRecDepth 100000 in
theorem tw_456 : (Jvm.Cond.code ({ cls := "FallingTerms", name := "left", desc := "()I" } : Jvm.MethodName) prog_1_method_15_code (1 : Nat) (Option.some Jvm.ClassFile.FieldType.int)) ∈ tg := tg_in 456 (by first | exact rfl | decide +kernel) rfl
set_option maxRecDepth 100000 in
theorem tw_457 : (Jvm.Cond.methodLink "FallingTermsLaw" (75 : Nat) ({ cls := "FallingTerms", name := "need", desc := "(I)I" } : Jvm.MethodName)) ∈ tg := tg_in 457 (by first | exact rfl | decide +kernel) rfl
set_option maxRecDepth 100000 in
theorem tw_458 : (Jvm.Cond.instanceMethod ({ cls := "FallingTerms", name := "need", desc := "(I)I" } : Jvm.MethodName)) ∈ tg := tg_in 458 (by first | exact rfl | decide +kernel) rfl
set_option maxRecDepth 100000 in
theorem tw_459 : (Jvm.Cond.selects "FallingTerms" ({ cls := "FallingTerms", name := "need", desc := "(I)I" } : Jvm.MethodName) ({ cls := "FallingTerms", name := "need", desc := "(I)I" } : Jvm.MethodName)) ∈ tg := tg_in 459 (by first | exact rfl | decide +kernel) rfl
set_option maxRecDepth 100000 in
theorem tw_460 : (Jvm.Cond.code ({ cls := "FallingTerms", name := "need", desc := "(I)I" } : Jvm.MethodName) prog_1_method_16_code (8 : Nat) (Option.some Jvm.ClassFile.FieldType.int)) ∈ tg := tg_in 460 (by first | exact rfl | decide +kernel) rfl
set_option maxRecDepth 100000 in
theorem tw_461 : (Jvm.Cond.methodLink "FallingTerms" (159 : Nat) ({ cls := "FallingTerms$Loop", name := "reach", desc := "(II)I" } : Jvm.MethodName)) ∈ tg := tg_in 461 (by first | exact rfl | decide +kernel) rfl
set_option maxRecDepth 100000 in
theorem tw_462 : (Jvm.Cond.methodLink "FallingTerms" (163 : Nat) ({ cls := "FallingTerms", name := "findNeed", desc := "(LFallingTerms$Loop;III)Z" } : Jvm.MethodName)) ∈ tg := tg_in 462 (by first | exact rfl | decide +kernel) rfl
set_option maxRecDepth 100000 in
theorem tw_464 : (Jvm.Cond.instanceMethod ({ cls := "FallingTerms", name := "findNeed", desc := "(LFallingTerms$Loop;III)Z" } : Jvm.MethodName)) ∈ tg := tg_in 464 (by first | exact rfl | decide +kernel) rfl
set_option maxRecDepth 100000 in
theorem tw_465 : (Jvm.Cond.code ({ cls := "FallingTerms", name := "findNeed", desc := "(LFallingTerms$Loop;III)Z" } : Jvm.MethodName) prog_1_method_36_code (6 : Nat) (Option.some Jvm.ClassFile.FieldType.boolean)) ∈ tg := tg_in 465 (by first | exact rfl | decide +kernel) rfl
set_option maxRecDepth 100000 in
theorem tw_466 : (Jvm.Cond.methodLink "FallingTerms" (196 : Nat) ({ cls := "FallingTerms", name := "narrowSpaces", desc := "(LFallingTerms$Loop;IIII)V" } : Jvm.MethodName)) ∈ tg := tg_in 466 (by first | exact rfl | decide +kernel) rfl
set_option maxRecDepth 100000 in
theorem tw_468 : (Jvm.Cond.instanceMethod ({ cls := "FallingTerms", name := "narrowSpaces", desc := "(LFallingTerms$Loop;IIII)V" } : Jvm.MethodName)) ∈ tg := tg_in 468 (by first | exact rfl | decide +kernel) rfl
set_option maxRecDepth 100000 in
theorem tw_469 : (Jvm.Cond.code ({ cls := "FallingTerms", name := "narrowSpaces", desc := "(LFallingTerms$Loop;IIII)V" } : Jvm.MethodName) prog_1_method_39_code (7 : Nat) (Option.none : Option Jvm.ClassFile.FieldType)) ∈ tg := tg_in 469 (by first | exact rfl | decide +kernel) rfl
set_option maxRecDepth 100000 in
theorem tw_470 : (Jvm.Cond.methodLink "FallingTerms" (211 : Nat) ({ cls := "FallingTerms$Space", name := "copy", desc := "(LFallingTerms$Space;)V" } : Jvm.MethodName)) ∈ tg := tg_in 470 (by first | exact rfl | decide +kernel) rfl
set_option maxRecDepth 100000 in
theorem tw_471 : (Jvm.Cond.instanceMethod ({ cls := "FallingTerms$Space", name := "copy", desc := "(LFallingTerms$Space;)V" } : Jvm.MethodName)) ∈ tg := tg_in 471 (by first | exact rfl | decide +kernel) rfl
set_option maxRecDepth 100000 in
theorem tw_472 : (Jvm.Cond.selects "FallingTerms$Space" ({ cls := "FallingTerms$Space", name := "copy", desc := "(LFallingTerms$Space;)V" } : Jvm.MethodName) ({ cls := "FallingTerms$Space", name := "copy", desc := "(LFallingTerms$Space;)V" } : Jvm.MethodName)) ∈ tg := tg_in 472 (by first | exact rfl | decide +kernel) rfl
set_option maxRecDepth 100000 in
theorem tw_473 : (Jvm.Cond.code ({ cls := "FallingTerms$Space", name := "copy", desc := "(LFallingTerms$Space;)V" } : Jvm.MethodName) prog_5_method_3_code (3 : Nat) (Option.none : Option Jvm.ClassFile.FieldType)) ∈ tg := tg_in 473 (by first | exact rfl | decide +kernel) rfl
set_option maxRecDepth 100000 in
theorem tw_474 : (Jvm.Cond.methodLink "FallingTerms" (215 : Nat) ({ cls := "FallingTerms$Space", name := "narrow", desc := "(IIII)V" } : Jvm.MethodName)) ∈ tg := tg_in 474 (by first | exact rfl | decide +kernel) rfl
set_option maxRecDepth 100000 in
theorem tw_475 : (Jvm.Cond.methodLink "FallingTerms" (200 : Nat) ({ cls := "FallingTerms", name := "lasts", desc := "(LFallingTerms$Loop;IIII)Z" } : Jvm.MethodName)) ∈ tg := tg_in 475 (by first | exact rfl | decide +kernel) rfl
set_option maxRecDepth 100000 in
theorem tw_477 : (Jvm.Cond.instanceMethod ({ cls := "FallingTerms", name := "lasts", desc := "(LFallingTerms$Loop;IIII)Z" } : Jvm.MethodName)) ∈ tg := tg_in 477 (by first | exact rfl | decide +kernel) rfl
set_option maxRecDepth 100000 in
theorem tw_478 : (Jvm.Cond.code ({ cls := "FallingTerms", name := "lasts", desc := "(LFallingTerms$Loop;IIII)Z" } : Jvm.MethodName) prog_1_method_38_code (7 : Nat) (Option.some Jvm.ClassFile.FieldType.boolean)) ∈ tg := tg_in 478 (by first | exact rfl | decide +kernel) rfl
set_option maxRecDepth 100000 in
theorem tw_479 : (Jvm.Cond.methodLink "FallingTerms" (208 : Nat) ({ cls := "FallingTerms$Way", name := "keeps", desc := "(LFallingTerms$Space;IIII)Z" } : Jvm.MethodName)) ∈ tg := tg_in 479 (by first | exact rfl | decide +kernel) rfl
set_option maxRecDepth 100000 in
theorem tw_480 : (Jvm.Cond.instanceMethod ({ cls := "FallingTerms$Way", name := "keeps", desc := "(LFallingTerms$Space;IIII)Z" } : Jvm.MethodName)) ∈ tg := tg_in 480 (by first | exact rfl | decide +kernel) rfl
set_option maxRecDepth 100000 in
theorem tw_481 : (Jvm.Cond.selects "FallingTerms$Way" ({ cls := "FallingTerms$Way", name := "keeps", desc := "(LFallingTerms$Space;IIII)Z" } : Jvm.MethodName) ({ cls := "FallingTerms$Way", name := "keeps", desc := "(LFallingTerms$Space;IIII)Z" } : Jvm.MethodName)) ∈ tg := tg_in 481 (by first | exact rfl | decide +kernel) rfl
set_option maxRecDepth 100000 in
theorem tw_482 : (Jvm.Cond.code ({ cls := "FallingTerms$Way", name := "keeps", desc := "(LFallingTerms$Space;IIII)Z" } : Jvm.MethodName) prog_6_method_7_code (6 : Nat) (Option.some Jvm.ClassFile.FieldType.boolean)) ∈ tg := tg_in 482 (by first | exact rfl | decide +kernel) rfl
set_option maxRecDepth 100000 in
theorem tw_483 : (Jvm.Cond.methodLink "FallingTerms" (204 : Nat) ({ cls := "FallingTerms", name := "keepNeed", desc := "(IIII)V" } : Jvm.MethodName)) ∈ tg := tg_in 483 (by first | exact rfl | decide +kernel) rfl
set_option maxRecDepth 100000 in
theorem tw_485 : (Jvm.Cond.instanceMethod ({ cls := "FallingTerms", name := "keepNeed", desc := "(IIII)V" } : Jvm.MethodName)) ∈ tg := tg_in 485 (by first | exact rfl | decide +kernel) rfl
set_option maxRecDepth 100000 in
theorem tw_486 : (Jvm.Cond.code ({ cls := "FallingTerms", name := "keepNeed", desc := "(IIII)V" } : Jvm.MethodName) prog_1_method_37_code (5 : Nat) (Option.none : Option Jvm.ClassFile.FieldType)) ∈ tg := tg_in 486 (by first | exact rfl | decide +kernel) rfl
set_option maxRecDepth 100000 in
theorem tw_487 : (Jvm.Cond.methodLink "FallingTermsLaw" (79 : Nat) ({ cls := "FallingTerms", name := "needed", desc := "(I)I" } : Jvm.MethodName)) ∈ tg := tg_in 487 (by first | exact rfl | decide +kernel) rfl
set_option maxRecDepth 100000 in
theorem tw_488 : (Jvm.Cond.instanceMethod ({ cls := "FallingTerms", name := "needed", desc := "(I)I" } : Jvm.MethodName)) ∈ tg := tg_in 488 (by first | exact rfl | decide +kernel) rfl
set_option maxRecDepth 100000 in
theorem tw_489 : (Jvm.Cond.selects "FallingTerms" ({ cls := "FallingTerms", name := "needed", desc := "(I)I" } : Jvm.MethodName) ({ cls := "FallingTerms", name := "needed", desc := "(I)I" } : Jvm.MethodName)) ∈ tg := tg_in 489 (by first | exact rfl | decide +kernel) rfl
set_option maxRecDepth 100000 in
theorem tw_490 : (Jvm.Cond.code ({ cls := "FallingTerms", name := "needed", desc := "(I)I" } : Jvm.MethodName) prog_1_method_17_code (2 : Nat) (Option.some Jvm.ClassFile.FieldType.int)) ∈ tg := tg_in 490 (by first | exact rfl | decide +kernel) rfl
set_option maxRecDepth 100000 in
theorem tw_491 : (Jvm.Cond.methodLink "FallingTermsLaw" (83 : Nat) ({ cls := "FallingTerms", name := "put", desc := "(III)I" } : Jvm.MethodName)) ∈ tg := tg_in 491 (by first | exact rfl | decide +kernel) rfl
set_option maxRecDepth 100000 in
theorem tw_492 : (Jvm.Cond.instanceMethod ({ cls := "FallingTerms", name := "put", desc := "(III)I" } : Jvm.MethodName)) ∈ tg := tg_in 492 (by first | exact rfl | decide +kernel) rfl
set_option maxRecDepth 100000 in
theorem tw_493 : (Jvm.Cond.selects "FallingTerms" ({ cls := "FallingTerms", name := "put", desc := "(III)I" } : Jvm.MethodName) ({ cls := "FallingTerms", name := "put", desc := "(III)I" } : Jvm.MethodName)) ∈ tg := tg_in 493 (by first | exact rfl | decide +kernel) rfl
set_option maxRecDepth 100000 in
theorem tw_494 : (Jvm.Cond.code ({ cls := "FallingTerms", name := "put", desc := "(III)I" } : Jvm.MethodName) prog_1_method_18_code (4 : Nat) (Option.some Jvm.ClassFile.FieldType.int)) ∈ tg := tg_in 494 (by first | exact rfl | decide +kernel) rfl
set_option maxRecDepth 100000 in
theorem tw_495 : (Jvm.Cond.constant "FallingTerms" (167 : Nat) (1000000 : Int32)) ∈ tg := tg_in 495 (by first | exact rfl | decide +kernel) rfl
set_option maxRecDepth 100000 in
theorem tw_496 : (Jvm.Cond.methodLink "FallingTermsLaw" (88 : Nat) ({ cls := "FallingTerms", name := "at", desc := "(II)J" } : Jvm.MethodName)) ∈ tg := tg_in 496 (by first | exact rfl | decide +kernel) rfl
set_option maxRecDepth 100000 in
theorem tw_497 : (Jvm.Cond.instanceMethod ({ cls := "FallingTerms", name := "at", desc := "(II)J" } : Jvm.MethodName)) ∈ tg := tg_in 497 (by first | exact rfl | decide +kernel) rfl
set_option maxRecDepth 100000 in
theorem tw_498 : (Jvm.Cond.selects "FallingTerms" ({ cls := "FallingTerms", name := "at", desc := "(II)J" } : Jvm.MethodName) ({ cls := "FallingTerms", name := "at", desc := "(II)J" } : Jvm.MethodName)) ∈ tg := tg_in 498 (by first | exact rfl | decide +kernel) rfl
set_option maxRecDepth 100000 in
theorem tw_499 : (Jvm.Cond.code ({ cls := "FallingTerms", name := "at", desc := "(II)J" } : Jvm.MethodName) prog_1_method_19_code (3 : Nat) (Option.some Jvm.ClassFile.FieldType.long)) ∈ tg := tg_in 499 (by first | exact rfl | decide +kernel) rfl
set_option maxRecDepth 100000 in
theorem tw_500 : (Jvm.Cond.constantLong "FallingTerms" (171 : Nat) (-9000000000000 : Int64)) ∈ tg := tg_in 500 (by first | exact rfl | decide +kernel) rfl
set_option maxRecDepth 100000 in
theorem tw_501 : (Jvm.Cond.methodLink "FallingTermsLaw" (93 : Nat) ({ cls := "FallingTerms", name := "open", desc := "(I)I" } : Jvm.MethodName)) ∈ tg := tg_in 501 (by first | exact rfl | decide +kernel) rfl
set_option maxRecDepth 100000 in
theorem tw_502 : (Jvm.Cond.instanceMethod ({ cls := "FallingTerms", name := "open", desc := "(I)I" } : Jvm.MethodName)) ∈ tg := tg_in 502 (by first | exact rfl | decide +kernel) rfl
set_option maxRecDepth 100000 in
theorem tw_503 : (Jvm.Cond.selects "FallingTerms" ({ cls := "FallingTerms", name := "open", desc := "(I)I" } : Jvm.MethodName) ({ cls := "FallingTerms", name := "open", desc := "(I)I" } : Jvm.MethodName)) ∈ tg := tg_in 503 (by first | exact rfl | decide +kernel) rfl
set_option maxRecDepth 100000 in
theorem tw_504 : (Jvm.Cond.code ({ cls := "FallingTerms", name := "open", desc := "(I)I" } : Jvm.MethodName) prog_1_method_20_code (2 : Nat) (Option.some Jvm.ClassFile.FieldType.int)) ∈ tg := tg_in 504 (by first | exact rfl | decide +kernel) rfl
set_option maxRecDepth 100000 in
theorem tw_505 : (Jvm.Cond.methodLink "FallingTerms" (173 : Nat) ({ cls := "FallingTerms$Loop", name := "openWays", desc := "()I" } : Jvm.MethodName)) ∈ tg := tg_in 505 (by first | exact rfl | decide +kernel) rfl
set_option maxRecDepth 100000 in
theorem tw_506 : (Jvm.Cond.instanceMethod ({ cls := "FallingTerms$Loop", name := "openWays", desc := "()I" } : Jvm.MethodName)) ∈ tg := tg_in 506 (by first | exact rfl | decide +kernel) rfl
set_option maxRecDepth 100000 in
theorem tw_507 : (Jvm.Cond.selects "FallingTerms$Loop" ({ cls := "FallingTerms$Loop", name := "openWays", desc := "()I" } : Jvm.MethodName) ({ cls := "FallingTerms$Loop", name := "openWays", desc := "()I" } : Jvm.MethodName)) ∈ tg := tg_in 507 (by first | exact rfl | decide +kernel) rfl
set_option maxRecDepth 100000 in
theorem tw_508 : (Jvm.Cond.code ({ cls := "FallingTerms$Loop", name := "openWays", desc := "()I" } : Jvm.MethodName) prog_2_method_5_code (3 : Nat) (Option.some Jvm.ClassFile.FieldType.int)) ∈ tg := tg_in 508 (by first | exact rfl | decide +kernel) rfl
set_option maxRecDepth 100000 in
theorem tw_509 : (Jvm.Cond.methodLink "FallingTerms$Loop" (47 : Nat) ({ cls := "FallingTerms$Rows", name := "holdIn", desc := "([J)Z" } : Jvm.MethodName)) ∈ tg := tg_in 509 (by first | exact rfl | decide +kernel) rfl
set_option maxRecDepth 100000 in
theorem tw_510 : (Jvm.Cond.instanceMethod ({ cls := "FallingTerms$Rows", name := "holdIn", desc := "([J)Z" } : Jvm.MethodName)) ∈ tg := tg_in 510 (by first | exact rfl | decide +kernel) rfl
set_option maxRecDepth 100000 in
theorem tw_511 : (Jvm.Cond.selects "FallingTerms$Rows" ({ cls := "FallingTerms$Rows", name := "holdIn", desc := "([J)Z" } : Jvm.MethodName) ({ cls := "FallingTerms$Rows", name := "holdIn", desc := "([J)Z" } : Jvm.MethodName)) ∈ tg := tg_in 511 (by first | exact rfl | decide +kernel) rfl
set_option maxRecDepth 100000 in
theorem tw_512 : (Jvm.Cond.code ({ cls := "FallingTerms$Rows", name := "holdIn", desc := "([J)Z" } : Jvm.MethodName) prog_4_method_3_code (6 : Nat) (Option.some Jvm.ClassFile.FieldType.boolean)) ∈ tg := tg_in 512 (by first | exact rfl | decide +kernel) rfl
set_option maxRecDepth 100000 in
theorem tw_513 : (Jvm.Cond.methodLink "FallingTermsLaw" (97 : Nat) ({ cls := "FallingTerms", name := "step", desc := "(I)I" } : Jvm.MethodName)) ∈ tg := tg_in 513 (by first | exact rfl | decide +kernel) rfl
set_option maxRecDepth 100000 in
theorem tw_514 : (Jvm.Cond.instanceMethod ({ cls := "FallingTerms", name := "step", desc := "(I)I" } : Jvm.MethodName)) ∈ tg := tg_in 514 (by first | exact rfl | decide +kernel) rfl
set_option maxRecDepth 100000 in
theorem tw_515 : (Jvm.Cond.selects "FallingTerms" ({ cls := "FallingTerms", name := "step", desc := "(I)I" } : Jvm.MethodName) ({ cls := "FallingTerms", name := "step", desc := "(I)I" } : Jvm.MethodName)) ∈ tg := tg_in 515 (by first | exact rfl | decide +kernel) rfl
set_option maxRecDepth 100000 in
theorem tw_516 : (Jvm.Cond.code ({ cls := "FallingTerms", name := "step", desc := "(I)I" } : Jvm.MethodName) prog_1_method_21_code (2 : Nat) (Option.some Jvm.ClassFile.FieldType.int)) ∈ tg := tg_in 516 (by first | exact rfl | decide +kernel) rfl
set_option maxRecDepth 100000 in
theorem tw_517 : (Jvm.Cond.methodLink "FallingTerms" (176 : Nat) ({ cls := "FallingTerms$Loop", name := "advance", desc := "([J)I" } : Jvm.MethodName)) ∈ tg := tg_in 517 (by first | exact rfl | decide +kernel) rfl
set_option maxRecDepth 100000 in
theorem tw_518 : (Jvm.Cond.instanceMethod ({ cls := "FallingTerms$Loop", name := "advance", desc := "([J)I" } : Jvm.MethodName)) ∈ tg := tg_in 518 (by first | exact rfl | decide +kernel) rfl
set_option maxRecDepth 100000 in
theorem tw_519 : (Jvm.Cond.selects "FallingTerms$Loop" ({ cls := "FallingTerms$Loop", name := "advance", desc := "([J)I" } : Jvm.MethodName) ({ cls := "FallingTerms$Loop", name := "advance", desc := "([J)I" } : Jvm.MethodName)) ∈ tg := tg_in 519 (by first | exact rfl | decide +kernel) rfl
set_option maxRecDepth 100000 in
theorem tw_520 : (Jvm.Cond.code ({ cls := "FallingTerms$Loop", name := "advance", desc := "([J)I" } : Jvm.MethodName) prog_2_method_6_code (3 : Nat) (Option.some Jvm.ClassFile.FieldType.int)) ∈ tg := tg_in 520 (by first | exact rfl | decide +kernel) rfl
set_option maxRecDepth 100000 in
theorem tw_521 : (Jvm.Cond.methodLink "FallingTerms$Loop" (54 : Nat) ({ cls := "FallingTerms$Loop", name := "change", desc := "(I[J)Z" } : Jvm.MethodName)) ∈ tg := tg_in 521 (by first | exact rfl | decide +kernel) rfl
set_option maxRecDepth 100000 in
theorem tw_522 : (Jvm.Cond.instanceMethod ({ cls := "FallingTerms$Loop", name := "change", desc := "(I[J)Z" } : Jvm.MethodName)) ∈ tg := tg_in 522 (by first | exact rfl | decide +kernel) rfl
set_option maxRecDepth 100000 in
theorem tw_523 : (Jvm.Cond.selects "FallingTerms$Loop" ({ cls := "FallingTerms$Loop", name := "change", desc := "(I[J)Z" } : Jvm.MethodName) ({ cls := "FallingTerms$Loop", name := "change", desc := "(I[J)Z" } : Jvm.MethodName)) ∈ tg := tg_in 523 (by first | exact rfl | decide +kernel) rfl
set_option maxRecDepth 100000 in
theorem tw_524 : (Jvm.Cond.code ({ cls := "FallingTerms$Loop", name := "change", desc := "(I[J)Z" } : Jvm.MethodName) prog_2_method_7_code (3 : Nat) (Option.some Jvm.ClassFile.FieldType.boolean)) ∈ tg := tg_in 524 (by first | exact rfl | decide +kernel) rfl
set_option maxRecDepth 100000 in
theorem tw_525 : (Jvm.Cond.methodLink "FallingTerms$Loop" (58 : Nat) ({ cls := "FallingTerms$Way", name := "leads", desc := "([J[J)Z" } : Jvm.MethodName)) ∈ tg := tg_in 525 (by first | exact rfl | decide +kernel) rfl
set_option maxRecDepth 100000 in
theorem tw_526 : (Jvm.Cond.instanceMethod ({ cls := "FallingTerms$Way", name := "leads", desc := "([J[J)Z" } : Jvm.MethodName)) ∈ tg := tg_in 526 (by first | exact rfl | decide +kernel) rfl
set_option maxRecDepth 100000 in
theorem tw_527 : (Jvm.Cond.selects "FallingTerms$Way" ({ cls := "FallingTerms$Way", name := "leads", desc := "([J[J)Z" } : Jvm.MethodName) ({ cls := "FallingTerms$Way", name := "leads", desc := "([J[J)Z" } : Jvm.MethodName)) ∈ tg := tg_in 527 (by first | exact rfl | decide +kernel) rfl
set_option maxRecDepth 100000 in
theorem tw_528 : (Jvm.Cond.code ({ cls := "FallingTerms$Way", name := "leads", desc := "([J[J)Z" } : Jvm.MethodName) prog_6_method_3_code (7 : Nat) (Option.some Jvm.ClassFile.FieldType.boolean)) ∈ tg := tg_in 528 (by first | exact rfl | decide +kernel) rfl
set_option maxRecDepth 100000 in
theorem tw_529 : (Jvm.Cond.constantLong "FallingTerms$Way" (31 : Nat) (1000000000000 : Int64)) ∈ tg := tg_in 529 (by first | exact rfl | decide +kernel) rfl
set_option maxRecDepth 100000 in
theorem tw_530 : (Jvm.Cond.constantLong "FallingTerms$Way" (33 : Nat) (-1000000000000 : Int64)) ∈ tg := tg_in 530 (by first | exact rfl | decide +kernel) rfl
set_option maxRecDepth 100000 in
theorem tw_531 : (Jvm.Cond.methodLinkNest "FallingTerms$Loop" (62 : Nat) ({ cls := "FallingTerms", name := "copyState", desc := "([J[J)V" } : Jvm.MethodName) "FallingTerms") ∈ tn := tn_in 531 (by first | exact rfl | decide +kernel) rfl
set_option maxRecDepth 100000 in
theorem tw_532 : (Jvm.Cond.static ({ cls := "FallingTerms", name := "copyState", desc := "([J[J)V" } : Jvm.MethodName)) ∈ tg := tg_in 532 (by first | exact rfl | decide +kernel) rfl
set_option maxRecDepth 100000 in
theorem tw_533 : (Jvm.Cond.code ({ cls := "FallingTerms", name := "copyState", desc := "([J[J)V" } : Jvm.MethodName) prog_1_method_32_code (3 : Nat) (Option.none : Option Jvm.ClassFile.FieldType)) ∈ tg := tg_in 533 (by first | exact rfl | decide +kernel) rfl
set_option maxRecDepth 100000 in
theorem tw_534 : (Jvm.Cond.methodLink "FallingTermsLaw" (101 : Nat) ({ cls := "FallingTerms", name := "go", desc := "(II)I" } : Jvm.MethodName)) ∈ tg := tg_in 534 (by first | exact rfl | decide +kernel) rfl
set_option maxRecDepth 100000 in
theorem tw_535 : (Jvm.Cond.instanceMethod ({ cls := "FallingTerms", name := "go", desc := "(II)I" } : Jvm.MethodName)) ∈ tg := tg_in 535 (by first | exact rfl | decide +kernel) rfl
set_option maxRecDepth 100000 in
theorem tw_536 : (Jvm.Cond.selects "FallingTerms" ({ cls := "FallingTerms", name := "go", desc := "(II)I" } : Jvm.MethodName) ({ cls := "FallingTerms", name := "go", desc := "(II)I" } : Jvm.MethodName)) ∈ tg := tg_in 536 (by first | exact rfl | decide +kernel) rfl
set_option maxRecDepth 100000 in
theorem tw_537 : (Jvm.Cond.code ({ cls := "FallingTerms", name := "go", desc := "(II)I" } : Jvm.MethodName) prog_1_method_22_code (4 : Nat) (Option.some Jvm.ClassFile.FieldType.int)) ∈ tg := tg_in 537 (by first | exact rfl | decide +kernel) rfl
set_option maxRecDepth 100000 in
theorem tw_538 : (Jvm.Cond.methodLink "FallingTerms" (180 : Nat) ({ cls := "FallingTerms$Loop", name := "change", desc := "(I[J)Z" } : Jvm.MethodName)) ∈ tg := tg_in 538 (by first | exact rfl | decide +kernel) rfl
set_option maxRecDepth 100000 in
theorem tw_539 : (Jvm.Cond.methodLink "FallingTermsLaw" (105 : Nat) ({ cls := "FallingTerms", name := "walk", desc := "(II)I" } : Jvm.MethodName)) ∈ tg := tg_in 539 (by first | exact rfl | decide +kernel) rfl
set_option maxRecDepth 100000 in
theorem tw_540 : (Jvm.Cond.instanceMethod ({ cls := "FallingTerms", name := "walk", desc := "(II)I" } : Jvm.MethodName)) ∈ tg := tg_in 540 (by first | exact rfl | decide +kernel) rfl
set_option maxRecDepth 100000 in
theorem tw_541 : (Jvm.Cond.selects "FallingTerms" ({ cls := "FallingTerms", name := "walk", desc := "(II)I" } : Jvm.MethodName) ({ cls := "FallingTerms", name := "walk", desc := "(II)I" } : Jvm.MethodName)) ∈ tg := tg_in 541 (by first | exact rfl | decide +kernel) rfl
set_option maxRecDepth 100000 in
theorem tw_542 : (Jvm.Cond.code ({ cls := "FallingTerms", name := "walk", desc := "(II)I" } : Jvm.MethodName) prog_1_method_23_code (5 : Nat) (Option.some Jvm.ClassFile.FieldType.int)) ∈ tg := tg_in 542 (by first | exact rfl | decide +kernel) rfl
set_option maxRecDepth 100000 in
theorem tw_543 : (Jvm.Cond.methodLink "FallingTermsLaw" (109 : Nat) ({ cls := "FallingTerms", name := "ring", desc := "(II)I" } : Jvm.MethodName)) ∈ tg := tg_in 543 (by first | exact rfl | decide +kernel) rfl
set_option maxRecDepth 100000 in
theorem tw_544 : (Jvm.Cond.instanceMethod ({ cls := "FallingTerms", name := "ring", desc := "(II)I" } : Jvm.MethodName)) ∈ tg := tg_in 544 (by first | exact rfl | decide +kernel) rfl
set_option maxRecDepth 100000 in
theorem tw_545 : (Jvm.Cond.selects "FallingTerms" ({ cls := "FallingTerms", name := "ring", desc := "(II)I" } : Jvm.MethodName) ({ cls := "FallingTerms", name := "ring", desc := "(II)I" } : Jvm.MethodName)) ∈ tg := tg_in 545 (by first | exact rfl | decide +kernel) rfl
set_option maxRecDepth 100000 in
theorem tw_546 : (Jvm.Cond.code ({ cls := "FallingTerms", name := "ring", desc := "(II)I" } : Jvm.MethodName) prog_1_method_24_code (10 : Nat) (Option.some Jvm.ClassFile.FieldType.int)) ∈ tg := tg_in 546 (by first | exact rfl | decide +kernel) rfl
set_option maxRecDepth 100000 in
theorem tw_547 : (Jvm.Cond.methodLink "FallingTerms" (184 : Nat) ({ cls := "FallingTerms", name := "ringFrom", desc := "(LFallingTerms$Loop;III)I" } : Jvm.MethodName)) ∈ tg := tg_in 547 (by first | exact rfl | decide +kernel) rfl
set_option maxRecDepth 100000 in
theorem tw_549 : (Jvm.Cond.instanceMethod ({ cls := "FallingTerms", name := "ringFrom", desc := "(LFallingTerms$Loop;III)I" } : Jvm.MethodName)) ∈ tg := tg_in 549 (by first | exact rfl | decide +kernel) rfl
set_option maxRecDepth 100000 in
theorem tw_550 : (Jvm.Cond.code ({ cls := "FallingTerms", name := "ringFrom", desc := "(LFallingTerms$Loop;III)I" } : Jvm.MethodName) prog_1_method_40_code (6 : Nat) (Option.some Jvm.ClassFile.FieldType.int)) ∈ tg := tg_in 550 (by first | exact rfl | decide +kernel) rfl
set_option maxRecDepth 100000 in
theorem tw_551 : (Jvm.Cond.methodLink "FallingTerms" (188 : Nat) ({ cls := "FallingTerms", name := "copyState", desc := "([J[J)V" } : Jvm.MethodName)) ∈ tg := tg_in 551 (by first | exact rfl | decide +kernel) rfl
set_option maxRecDepth 100000 in
theorem tw_552 : (Jvm.Cond.methodLink "FallingTerms" (218 : Nat) ({ cls := "FallingTerms", name := "sameState", desc := "([J[J)Z" } : Jvm.MethodName)) ∈ tg := tg_in 552 (by first | exact rfl | decide +kernel) rfl
set_option maxRecDepth 100000 in
theorem tw_553 : (Jvm.Cond.static ({ cls := "FallingTerms", name := "sameState", desc := "([J[J)Z" } : Jvm.MethodName)) ∈ tg := tg_in 553 (by first | exact rfl | decide +kernel) rfl
set_option maxRecDepth 100000 in
theorem tw_554 : (Jvm.Cond.code ({ cls := "FallingTerms", name := "sameState", desc := "([J[J)Z" } : Jvm.MethodName) prog_1_method_33_code (2 : Nat) (Option.some Jvm.ClassFile.FieldType.boolean)) ∈ tg := tg_in 554 (by first | exact rfl | decide +kernel) rfl
set_option maxRecDepth 100000 in
theorem tw_555 : (Jvm.Cond.methodLink "FallingTermsLaw" (113 : Nat) ({ cls := "FallingTerms", name := "loops", desc := "()I" } : Jvm.MethodName)) ∈ tg := tg_in 555 (by first | exact rfl | decide +kernel) rfl
set_option maxRecDepth 100000 in
theorem tw_556 : (Jvm.Cond.instanceMethod ({ cls := "FallingTerms", name := "loops", desc := "()I" } : Jvm.MethodName)) ∈ tg := tg_in 556 (by first | exact rfl | decide +kernel) rfl
set_option maxRecDepth 100000 in
theorem tw_557 : (Jvm.Cond.selects "FallingTerms" ({ cls := "FallingTerms", name := "loops", desc := "()I" } : Jvm.MethodName) ({ cls := "FallingTerms", name := "loops", desc := "()I" } : Jvm.MethodName)) ∈ tg := tg_in 557 (by first | exact rfl | decide +kernel) rfl
set_option maxRecDepth 100000 in
theorem tw_558 : (Jvm.Cond.code ({ cls := "FallingTerms", name := "loops", desc := "()I" } : Jvm.MethodName) prog_1_method_25_code (1 : Nat) (Option.some Jvm.ClassFile.FieldType.int)) ∈ tg := tg_in 558 (by first | exact rfl | decide +kernel) rfl
set_option maxRecDepth 100000 in
theorem tw_559 : (Jvm.Cond.classLink "FallingTermsLaw" (10 : Nat) "FallingTermsModel") ∈ tg := tg_in 559 (by first | exact rfl | decide +kernel) rfl
set_option maxRecDepth 100000 in
theorem tw_560 : (Jvm.Cond.instantiable "FallingTermsModel" (38 : Nat)) ∈ tg := tg_in 560 (by first | exact rfl | decide +kernel) rfl
set_option maxRecDepth 100000 in
theorem tw_561 : (Jvm.Cond.methodLink "FallingTermsLaw" (12 : Nat) ({ cls := "FallingTermsModel", name := "<init>", desc := "()V" } : Jvm.MethodName)) ∈ tg := tg_in 561 (by first | exact rfl | decide +kernel) rfl
set_option maxRecDepth 100000 in
theorem tw_562 : (Jvm.Cond.instanceMethod ({ cls := "FallingTermsModel", name := "<init>", desc := "()V" } : Jvm.MethodName)) ∈ tg := tg_in 562 (by first | exact rfl | decide +kernel) rfl
set_option maxRecDepth 100000 in
theorem tw_563 : (Jvm.Cond.code ({ cls := "FallingTermsModel", name := "<init>", desc := "()V" } : Jvm.MethodName) prog_8_method_1_code (1 : Nat) (Option.none : Option Jvm.ClassFile.FieldType)) ∈ tg := tg_in 563 (by first | exact rfl | decide +kernel) rfl
set_option maxRecDepth 100000 in
theorem tw_564 : (Jvm.Cond.methodLink "FallingTermsModel" (1 : Nat) ({ cls := "java/lang/Object", name := "<init>", desc := "()V" } : Jvm.MethodName)) ∈ tg := tg_in 564 (by first | exact rfl | decide +kernel) rfl
set_option maxRecDepth 100000 in
theorem tw_565 : (Jvm.Cond.fieldLink "FallingTermsModel" (59 : Nat) "FallingTermsModel" "loops" "I") ∈ tg := tg_in 565 (by first | exact rfl | decide +kernel) rfl
set_option maxRecDepth 100000 in
theorem tw_566 : (Jvm.Cond.fieldLink "FallingTermsModel" (7 : Nat) "FallingTermsModel" "names" "[I") ∈ tg := tg_in 566 (by first | exact rfl | decide +kernel) rfl
set_option maxRecDepth 100000 in
theorem tw_567 : (Jvm.Cond.fieldLink "FallingTermsModel" (13 : Nat) "FallingTermsModel" "ways" "[I") ∈ tg := tg_in 567 (by first | exact rfl | decide +kernel) rfl
set_option maxRecDepth 100000 in
theorem tw_568 : (Jvm.Cond.fieldLink "FallingTermsModel" (16 : Nat) "FallingTermsModel" "guards" "[I") ∈ tg := tg_in 568 (by first | exact rfl | decide +kernel) rfl
set_option maxRecDepth 100000 in
theorem tw_569 : (Jvm.Cond.fieldLink "FallingTermsModel" (19 : Nat) "FallingTermsModel" "guard" "[I") ∈ tg := tg_in 569 (by first | exact rfl | decide +kernel) rfl
set_option maxRecDepth 100000 in
theorem tw_570 : (Jvm.Cond.fieldLink "FallingTermsModel" (22 : Nat) "FallingTermsModel" "wayRows" "[I") ∈ tg := tg_in 570 (by first | exact rfl | decide +kernel) rfl
set_option maxRecDepth 100000 in
theorem tw_571 : (Jvm.Cond.fieldLink "FallingTermsModel" (25 : Nat) "FallingTermsModel" "wayRow" "[I") ∈ tg := tg_in 571 (by first | exact rfl | decide +kernel) rfl
set_option maxRecDepth 100000 in
theorem tw_572 : (Jvm.Cond.fieldLink "FallingTermsModel" (28 : Nat) "FallingTermsModel" "factor" "[I") ∈ tg := tg_in 572 (by first | exact rfl | decide +kernel) rfl
set_option maxRecDepth 100000 in
theorem tw_573 : (Jvm.Cond.fieldLink "FallingTermsModel" (31 : Nat) "FallingTermsModel" "constant" "[I") ∈ tg := tg_in 573 (by first | exact rfl | decide +kernel) rfl
set_option maxRecDepth 100000 in
theorem tw_574 : (Jvm.Cond.fieldLink "FallingTermsModel" (34 : Nat) "FallingTermsModel" "state" "[J") ∈ tg := tg_in 574 (by first | exact rfl | decide +kernel) rfl
set_option maxRecDepth 100000 in
theorem tw_575 : (Jvm.Cond.fieldLink "FallingTermsModel" (75 : Nat) "FallingTermsModel" "proofs" "I") ∈ tg := tg_in 575 (by first | exact rfl | decide +kernel) rfl
set_option maxRecDepth 100000 in
theorem tw_576 : (Jvm.Cond.fieldLink "FallingTermsModel" (38 : Nat) "FallingTermsModel" "proof" "[I") ∈ tg := tg_in 576 (by first | exact rfl | decide +kernel) rfl
set_option maxRecDepth 100000 in
theorem tw_577 : (Jvm.Cond.fieldLink "FallingTermsModel" (78 : Nat) "FallingTermsModel" "left" "I") ∈ tg := tg_in 577 (by first | exact rfl | decide +kernel) rfl
set_option maxRecDepth 100000 in
theorem tw_578 : (Jvm.Cond.fieldLink "FallingTermsModel" (81 : Nat) "FallingTermsModel" "hasNeed" "Z") ∈ tg := tg_in 578 (by first | exact rfl | decide +kernel) rfl
set_option maxRecDepth 100000 in
theorem tw_579 : (Jvm.Cond.fieldLink "FallingTermsModel" (41 : Nat) "FallingTermsModel" "need" "[I") ∈ tg := tg_in 579 (by first | exact rfl | decide +kernel) rfl
set_option maxRecDepth 100000 in
theorem tw_580 : (Jvm.Cond.fieldLink "FallingTermsModel" (99 : Nat) "FallingTermsModel" "rows" "I") ∈ tg := tg_in 580 (by first | exact rfl | decide +kernel) rfl
set_option maxRecDepth 100000 in
theorem tw_581 : (Jvm.Cond.fieldLink "FallingTermsModel" (44 : Nat) "FallingTermsModel" "ra" "[J") ∈ tg := tg_in 581 (by first | exact rfl | decide +kernel) rfl
set_option maxRecDepth 100000 in
theorem tw_582 : (Jvm.Cond.fieldLink "FallingTermsModel" (47 : Nat) "FallingTermsModel" "rb" "[J") ∈ tg := tg_in 582 (by first | exact rfl | decide +kernel) rfl
set_option maxRecDepth 100000 in
theorem tw_583 : (Jvm.Cond.fieldLink "FallingTermsModel" (50 : Nat) "FallingTermsModel" "rc" "[J") ∈ tg := tg_in 583 (by first | exact rfl | decide +kernel) rfl
set_option maxRecDepth 100000 in
theorem tw_584 : (Jvm.Cond.fieldLink "FallingTermsModel" (53 : Nat) "FallingTermsModel" "rd" "[J") ∈ tg := tg_in 584 (by first | exact rfl | decide +kernel) rfl
set_option maxRecDepth 100000 in
theorem tw_585 : (Jvm.Cond.fieldLink "FallingTermsModel" (128 : Nat) "FallingTermsModel" "isBorne" "Z") ∈ tg := tg_in 585 (by first | exact rfl | decide +kernel) rfl
set_option maxRecDepth 100000 in
theorem tw_586 : (Jvm.Cond.fieldLink "FallingTermsModel" (134 : Nat) "FallingTermsModel" "above" "J") ∈ tg := tg_in 586 (by first | exact rfl | decide +kernel) rfl
set_option maxRecDepth 100000 in
theorem tw_587 : (Jvm.Cond.fieldLink "FallingTermsModel" (131 : Nat) "FallingTermsModel" "below" "J") ∈ tg := tg_in 587 (by first | exact rfl | decide +kernel) rfl
set_option maxRecDepth 100000 in
theorem tw_588 : (Jvm.Cond.fieldLink "FallingTermsModel" (119 : Nat) "FallingTermsModel" "ga" "J") ∈ tg := tg_in 588 (by first | exact rfl | decide +kernel) rfl
set_option maxRecDepth 100000 in
theorem tw_589 : (Jvm.Cond.fieldLink "FallingTermsModel" (122 : Nat) "FallingTermsModel" "gb" "J") ∈ tg := tg_in 589 (by first | exact rfl | decide +kernel) rfl
set_option maxRecDepth 100000 in
theorem tw_590 : (Jvm.Cond.fieldLink "FallingTermsModel" (125 : Nat) "FallingTermsModel" "gc" "J") ∈ tg := tg_in 590 (by first | exact rfl | decide +kernel) rfl
set_option maxRecDepth 100000 in
theorem tw_591 : (Jvm.Cond.fieldLink "FallingTermsModel" (153 : Nat) "FallingTermsModel" "ua" "J") ∈ tg := tg_in 591 (by first | exact rfl | decide +kernel) rfl
set_option maxRecDepth 100000 in
theorem tw_592 : (Jvm.Cond.fieldLink "FallingTermsModel" (156 : Nat) "FallingTermsModel" "ub" "J") ∈ tg := tg_in 592 (by first | exact rfl | decide +kernel) rfl
set_option maxRecDepth 100000 in
theorem tw_593 : (Jvm.Cond.fieldLink "FallingTermsModel" (159 : Nat) "FallingTermsModel" "uc" "J") ∈ tg := tg_in 593 (by first | exact rfl | decide +kernel) rfl
set_option maxRecDepth 100000 in
theorem tw_594 : (Jvm.Cond.fieldLink "FallingTermsModel" (106 : Nat) "FallingTermsModel" "na" "J") ∈ tg := tg_in 594 (by first | exact rfl | decide +kernel) rfl
set_option maxRecDepth 100000 in
theorem tw_595 : (Jvm.Cond.fieldLink "FallingTermsModel" (110 : Nat) "FallingTermsModel" "nb" "J") ∈ tg := tg_in 595 (by first | exact rfl | decide +kernel) rfl
set_option maxRecDepth 100000 in
theorem tw_596 : (Jvm.Cond.fieldLink "FallingTermsModel" (113 : Nat) "FallingTermsModel" "nc" "J") ∈ tg := tg_in 596 (by first | exact rfl | decide +kernel) rfl
set_option maxRecDepth 100000 in
theorem tw_597 : (Jvm.Cond.fieldLink "FallingTermsModel" (116 : Nat) "FallingTermsModel" "nd" "J") ∈ tg := tg_in 597 (by first | exact rfl | decide +kernel) rfl
set_option maxRecDepth 100000 in
theorem tw_598 : (Jvm.Cond.fieldLink "FallingTermsModel" (197 : Nat) "FallingTermsModel" "kept" "I") ∈ tg := tg_in 598 (by first | exact rfl | decide +kernel) rfl
set_option maxRecDepth 100000 in
theorem tw_599 : (Jvm.Cond.fieldLink "FallingTermsModel" (56 : Nat) "FallingTermsModel" "keptTerms" "[I") ∈ tg := tg_in 599 (by first | exact rfl | decide +kernel) rfl
set_option maxRecDepth 100000 in
theorem tw_600 : (Jvm.Cond.fieldLink "FallingTermsModel" (215 : Nat) "FallingTermsModel" "x" "J") ∈ tg := tg_in 600 (by first | exact rfl | decide +kernel) rfl
set_option maxRecDepth 100000 in
theorem tw_601 : (Jvm.Cond.fieldLink "FallingTermsModel" (218 : Nat) "FallingTermsModel" "y" "J") ∈ tg := tg_in 601 (by first | exact rfl | decide +kernel) rfl
set_option maxRecDepth 100000 in
theorem tw_602 : (Jvm.Cond.fieldLink "FallingTermsModel" (221 : Nat) "FallingTermsModel" "z" "J") ∈ tg := tg_in 602 (by first | exact rfl | decide +kernel) rfl
set_option maxRecDepth 100000 in
theorem tw_603 : (Jvm.Cond.lays "FallingTermsModel" "FallingTermsModel" "loops" "I") ∈ tg := tg_in 603 (by first | exact rfl | decide +kernel) rfl
set_option maxRecDepth 100000 in
theorem tw_604 : (Jvm.Cond.soleField "FallingTermsModel" "loops") ∈ tg := tg_in 604 (by first | exact rfl | decide +kernel) rfl
set_option maxRecDepth 100000 in
theorem tw_605 : (Jvm.Cond.laysFinal "FallingTermsModel" "FallingTermsModel" "names" "[I") ∈ tg := tg_in 605 (by first | exact rfl | decide +kernel) rfl
set_option maxRecDepth 100000 in
theorem tw_606 : (Jvm.Cond.soleField "FallingTermsModel" "names") ∈ tg := tg_in 606 (by first | exact rfl | decide +kernel) rfl
set_option maxRecDepth 100000 in
theorem tw_607 : (Jvm.Cond.laysFinal "FallingTermsModel" "FallingTermsModel" "ways" "[I") ∈ tg := tg_in 607 (by first | exact rfl | decide +kernel) rfl
set_option maxRecDepth 100000 in
theorem tw_608 : (Jvm.Cond.soleField "FallingTermsModel" "ways") ∈ tg := tg_in 608 (by first | exact rfl | decide +kernel) rfl
set_option maxRecDepth 100000 in
theorem tw_609 : (Jvm.Cond.laysFinal "FallingTermsModel" "FallingTermsModel" "guards" "[I") ∈ tg := tg_in 609 (by first | exact rfl | decide +kernel) rfl
set_option maxRecDepth 100000 in
theorem tw_610 : (Jvm.Cond.soleField "FallingTermsModel" "guards") ∈ tg := tg_in 610 (by first | exact rfl | decide +kernel) rfl
set_option maxRecDepth 100000 in
theorem tw_611 : (Jvm.Cond.laysFinal "FallingTermsModel" "FallingTermsModel" "guard" "[I") ∈ tg := tg_in 611 (by first | exact rfl | decide +kernel) rfl
set_option maxRecDepth 100000 in
theorem tw_612 : (Jvm.Cond.soleField "FallingTermsModel" "guard") ∈ tg := tg_in 612 (by first | exact rfl | decide +kernel) rfl
set_option maxRecDepth 100000 in
theorem tw_613 : (Jvm.Cond.laysFinal "FallingTermsModel" "FallingTermsModel" "wayRows" "[I") ∈ tg := tg_in 613 (by first | exact rfl | decide +kernel) rfl
set_option maxRecDepth 100000 in
theorem tw_614 : (Jvm.Cond.soleField "FallingTermsModel" "wayRows") ∈ tg := tg_in 614 (by first | exact rfl | decide +kernel) rfl
set_option maxRecDepth 100000 in
theorem tw_615 : (Jvm.Cond.laysFinal "FallingTermsModel" "FallingTermsModel" "wayRow" "[I") ∈ tg := tg_in 615 (by first | exact rfl | decide +kernel) rfl
set_option maxRecDepth 100000 in
theorem tw_616 : (Jvm.Cond.soleField "FallingTermsModel" "wayRow") ∈ tg := tg_in 616 (by first | exact rfl | decide +kernel) rfl
set_option maxRecDepth 100000 in
theorem tw_617 : (Jvm.Cond.laysFinal "FallingTermsModel" "FallingTermsModel" "factor" "[I") ∈ tg := tg_in 617 (by first | exact rfl | decide +kernel) rfl
set_option maxRecDepth 100000 in
theorem tw_618 : (Jvm.Cond.soleField "FallingTermsModel" "factor") ∈ tg := tg_in 618 (by first | exact rfl | decide +kernel) rfl
set_option maxRecDepth 100000 in
theorem tw_619 : (Jvm.Cond.laysFinal "FallingTermsModel" "FallingTermsModel" "constant" "[I") ∈ tg := tg_in 619 (by first | exact rfl | decide +kernel) rfl
set_option maxRecDepth 100000 in
theorem tw_620 : (Jvm.Cond.soleField "FallingTermsModel" "constant") ∈ tg := tg_in 620 (by first | exact rfl | decide +kernel) rfl
set_option maxRecDepth 100000 in
theorem tw_621 : (Jvm.Cond.laysFinal "FallingTermsModel" "FallingTermsModel" "state" "[J") ∈ tg := tg_in 621 (by first | exact rfl | decide +kernel) rfl
set_option maxRecDepth 100000 in
theorem tw_622 : (Jvm.Cond.soleField "FallingTermsModel" "state") ∈ tg := tg_in 622 (by first | exact rfl | decide +kernel) rfl
set_option maxRecDepth 100000 in
theorem tw_623 : (Jvm.Cond.lays "FallingTermsModel" "FallingTermsModel" "proofs" "I") ∈ tg := tg_in 623 (by first | exact rfl | decide +kernel) rfl
set_option maxRecDepth 100000 in
theorem tw_624 : (Jvm.Cond.soleField "FallingTermsModel" "proofs") ∈ tg := tg_in 624 (by first | exact rfl | decide +kernel) rfl
set_option maxRecDepth 100000 in
theorem tw_625 : (Jvm.Cond.laysFinal "FallingTermsModel" "FallingTermsModel" "proof" "[I") ∈ tg := tg_in 625 (by first | exact rfl | decide +kernel) rfl
set_option maxRecDepth 100000 in
theorem tw_626 : (Jvm.Cond.soleField "FallingTermsModel" "proof") ∈ tg := tg_in 626 (by first | exact rfl | decide +kernel) rfl
set_option maxRecDepth 100000 in
theorem tw_627 : (Jvm.Cond.lays "FallingTermsModel" "FallingTermsModel" "left" "I") ∈ tg := tg_in 627 (by first | exact rfl | decide +kernel) rfl
set_option maxRecDepth 100000 in
theorem tw_628 : (Jvm.Cond.soleField "FallingTermsModel" "left") ∈ tg := tg_in 628 (by first | exact rfl | decide +kernel) rfl
