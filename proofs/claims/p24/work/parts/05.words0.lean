set_option maxRecDepth 100000 in
theorem tw_0 : Cond.selects "FallingTerms" ⟨"FallingTerms", "isLoop", "(I)Z"⟩ ⟨"FallingTerms", "isLoop", "(I)Z"⟩ ∈ tg := tg_in 0 (by first | exact rfl | decide +kernel) rfl
set_option maxRecDepth 100000 in
theorem tw_1 : Cond.selects "FallingTerms" ⟨"FallingTerms", "rowFits", "(IIIII)Z"⟩ ⟨"FallingTerms", "rowFits", "(IIIII)Z"⟩ ∈ tg := tg_in 1 (by first | exact rfl | decide +kernel) rfl
set_option maxRecDepth 100000 in
theorem tw_2 : Cond.selects "FallingTerms" ⟨"FallingTerms", "isWay", "(II)Z"⟩ ⟨"FallingTerms", "isWay", "(II)Z"⟩ ∈ tg := tg_in 2 (by first | exact rfl | decide +kernel) rfl
set_option maxRecDepth 100000 in
theorem tw_3 : Cond.selects "FallingTerms" ⟨"FallingTerms", "isName", "(II)Z"⟩ ⟨"FallingTerms", "isName", "(II)Z"⟩ ∈ tg := tg_in 3 (by first | exact rfl | decide +kernel) rfl
set_option maxRecDepth 100000 in
theorem tw_4 : Cond.selects "FallingTerms" ⟨"FallingTerms", "spaceOf", "(II)LFallingTerms$Space;"⟩ ⟨"FallingTerms", "spaceOf", "(II)LFallingTerms$Space;"⟩ ∈ tg := tg_in 4 (by first | exact rfl | decide +kernel) rfl
set_option maxRecDepth 100000 in
theorem tw_5 : Cond.selects "FallingTerms$Space" ⟨"FallingTerms$Space", "begin", "(I)V"⟩ ⟨"FallingTerms$Space", "begin", "(I)V"⟩ ∈ tg := tg_in 5 (by first | exact rfl | decide +kernel) rfl
set_option maxRecDepth 100000 in
theorem tw_6 : Cond.selects "FallingTerms$Space" ⟨"FallingTerms$Space", "appendPivot", "(I)V"⟩ ⟨"FallingTerms$Space", "appendPivot", "(I)V"⟩ ∈ tg := tg_in 6 (by first | exact rfl | decide +kernel) rfl
set_option maxRecDepth 100000 in
theorem tw_7 : Cond.selects "FallingTerms$Space" ⟨"FallingTerms$Space", "lineAcross", "(III)I"⟩ ⟨"FallingTerms$Space", "lineAcross", "(III)I"⟩ ∈ tg := tg_in 7 (by first | exact rfl | decide +kernel) rfl
set_option maxRecDepth 100000 in
theorem tw_8 : Cond.selects "FallingTerms$Space" ⟨"FallingTerms$Space", "slope", "(IIII)J"⟩ ⟨"FallingTerms$Space", "slope", "(IIII)J"⟩ ∈ tg := tg_in 8 (by first | exact rfl | decide +kernel) rfl
set_option maxRecDepth 100000 in
theorem tw_9 : Cond.selects "FallingTerms$Space" ⟨"FallingTerms$Space", "turn", "(IIIII)V"⟩ ⟨"FallingTerms$Space", "turn", "(IIIII)V"⟩ ∈ tg := tg_in 9 (by first | exact rfl | decide +kernel) rfl
set_option maxRecDepth 100000 in
theorem tw_10 : Cond.selects "FallingTerms$Space" ⟨"FallingTerms$Space", "shift", "([JIJJ)V"⟩ ⟨"FallingTerms$Space", "shift", "([JIJJ)V"⟩ ∈ tg := tg_in 10 (by first | exact rfl | decide +kernel) rfl
set_option maxRecDepth 100000 in
theorem tw_11 : Cond.selects "FallingTerms$Space" ⟨"FallingTerms$Space", "worth", "(IIIII)J"⟩ ⟨"FallingTerms$Space", "worth", "(IIIII)J"⟩ ∈ tg := tg_in 11 (by first | exact rfl | decide +kernel) rfl
set_option maxRecDepth 100000 in
theorem tw_12 : Cond.selects "FallingTerms$Space" ⟨"FallingTerms$Space", "cut", "(IIII)V"⟩ ⟨"FallingTerms$Space", "cut", "(IIII)V"⟩ ∈ tg := tg_in 12 (by first | exact rfl | decide +kernel) rfl
set_option maxRecDepth 100000 in
theorem tw_13 : Cond.selects "FallingTerms$Space" ⟨"FallingTerms$Space", "areNeighbours", "(III)Z"⟩ ⟨"FallingTerms$Space", "areNeighbours", "(III)Z"⟩ ∈ tg := tg_in 13 (by first | exact rfl | decide +kernel) rfl
set_option maxRecDepth 100000 in
theorem tw_14 : Cond.selects "FallingTerms$Space" ⟨"FallingTerms$Space", "appendBetween", "(II)V"⟩ ⟨"FallingTerms$Space", "appendBetween", "(II)V"⟩ ∈ tg := tg_in 14 (by first | exact rfl | decide +kernel) rfl
set_option maxRecDepth 100000 in
theorem tw_15 : Cond.selects "FallingTerms$Space" ⟨"FallingTerms$Space", "dropBeyond", "(I)V"⟩ ⟨"FallingTerms$Space", "dropBeyond", "(I)V"⟩ ∈ tg := tg_in 15 (by first | exact rfl | decide +kernel) rfl
set_option maxRecDepth 100000 in
theorem tw_16 : Cond.selects "FallingTerms$Space" ⟨"FallingTerms$Space", "dropIfNoPoint", "()V"⟩ ⟨"FallingTerms$Space", "dropIfNoPoint", "()V"⟩ ∈ tg := tg_in 16 (by first | exact rfl | decide +kernel) rfl
set_option maxRecDepth 100000 in
theorem tw_17 : Cond.selects "FallingTerms" ⟨"FallingTerms", "fillSpaces", "(LFallingTerms$Loop;)V"⟩ ⟨"FallingTerms", "fillSpaces", "(LFallingTerms$Loop;)V"⟩ ∈ tg := tg_in 17 (by first | exact rfl | decide +kernel) rfl
set_option maxRecDepth 100000 in
theorem tw_18 : Cond.selects "FallingTerms$Proof" ⟨"FallingTerms$Proof", "takeMore", "(LFallingTerms$Loop;[LFallingTerms$Space;)Z"⟩ ⟨"FallingTerms$Proof", "takeMore", "(LFallingTerms$Loop;[LFallingTerms$Space;)Z"⟩ ∈ tg := tg_in 18 (by first | exact rfl | decide +kernel) rfl
set_option maxRecDepth 100000 in
theorem tw_19 : Cond.selects "FallingTerms$Proof" ⟨"FallingTerms$Proof", "takenBy", "(LFallingTerms$Loop;[LFallingTerms$Space;III)I"⟩ ⟨"FallingTerms$Proof", "takenBy", "(LFallingTerms$Loop;[LFallingTerms$Space;III)I"⟩ ∈ tg := tg_in 19 (by first | exact rfl | decide +kernel) rfl
set_option maxRecDepth 100000 in
theorem tw_20 : Cond.selects "FallingTerms$Proof" ⟨"FallingTerms$Proof", "append", "(IIII)V"⟩ ⟨"FallingTerms$Proof", "append", "(IIII)V"⟩ ∈ tg := tg_in 20 (by first | exact rfl | decide +kernel) rfl
set_option maxRecDepth 100000 in
theorem tw_21 : Cond.selects "FallingTerms" ⟨"FallingTerms", "findNeed", "(LFallingTerms$Loop;III)Z"⟩ ⟨"FallingTerms", "findNeed", "(LFallingTerms$Loop;III)Z"⟩ ∈ tg := tg_in 21 (by first | exact rfl | decide +kernel) rfl
set_option maxRecDepth 100000 in
theorem tw_22 : Cond.selects "FallingTerms" ⟨"FallingTerms", "narrowSpaces", "(LFallingTerms$Loop;IIII)V"⟩ ⟨"FallingTerms", "narrowSpaces", "(LFallingTerms$Loop;IIII)V"⟩ ∈ tg := tg_in 22 (by first | exact rfl | decide +kernel) rfl
set_option maxRecDepth 100000 in
theorem tw_23 : Cond.selects "FallingTerms" ⟨"FallingTerms", "lasts", "(LFallingTerms$Loop;IIII)Z"⟩ ⟨"FallingTerms", "lasts", "(LFallingTerms$Loop;IIII)Z"⟩ ∈ tg := tg_in 23 (by first | exact rfl | decide +kernel) rfl
set_option maxRecDepth 100000 in
theorem tw_24 : Cond.selects "FallingTerms" ⟨"FallingTerms", "keepNeed", "(IIII)V"⟩ ⟨"FallingTerms", "keepNeed", "(IIII)V"⟩ ∈ tg := tg_in 24 (by first | exact rfl | decide +kernel) rfl
set_option maxRecDepth 100000 in
theorem tw_25 : Cond.selects "FallingTerms" ⟨"FallingTerms", "ringFrom", "(LFallingTerms$Loop;III)I"⟩ ⟨"FallingTerms", "ringFrom", "(LFallingTerms$Loop;III)I"⟩ ∈ tg := tg_in 25 (by first | exact rfl | decide +kernel) rfl
set_option maxRecDepth 100000 in
theorem tw_26 : Cond.selects "FallingTermsModel" ⟨"FallingTermsModel", "isLoop", "(I)Z"⟩ ⟨"FallingTermsModel", "isLoop", "(I)Z"⟩ ∈ tg := tg_in 26 (by first | exact rfl | decide +kernel) rfl
set_option maxRecDepth 100000 in
theorem tw_27 : Cond.selects "FallingTermsModel" ⟨"FallingTermsModel", "isRow", "(IIIII)Z"⟩ ⟨"FallingTermsModel", "isRow", "(IIIII)Z"⟩ ∈ tg := tg_in 27 (by first | exact rfl | decide +kernel) rfl
set_option maxRecDepth 100000 in
theorem tw_28 : Cond.selects "FallingTermsModel" ⟨"FallingTermsModel", "areNumbers", "(IIIII)Z"⟩ ⟨"FallingTermsModel", "areNumbers", "(IIIII)Z"⟩ ∈ tg := tg_in 28 (by first | exact rfl | decide +kernel) rfl
set_option maxRecDepth 100000 in
theorem tw_29 : Cond.selects "FallingTermsModel" ⟨"FallingTermsModel", "isWay", "(II)Z"⟩ ⟨"FallingTermsModel", "isWay", "(II)Z"⟩ ∈ tg := tg_in 29 (by first | exact rfl | decide +kernel) rfl
set_option maxRecDepth 100000 in
theorem tw_30 : Cond.selects "FallingTermsModel" ⟨"FallingTermsModel", "isName", "(II)Z"⟩ ⟨"FallingTermsModel", "isName", "(II)Z"⟩ ∈ tg := tg_in 30 (by first | exact rfl | decide +kernel) rfl
set_option maxRecDepth 100000 in
theorem tw_31 : Cond.selects "FallingTermsModel" ⟨"FallingTermsModel", "space", "(IIZ)V"⟩ ⟨"FallingTermsModel", "space", "(IIZ)V"⟩ ∈ tg := tg_in 31 (by first | exact rfl | decide +kernel) rfl
set_option maxRecDepth 100000 in
theorem tw_32 : Cond.selects "FallingTermsModel" ⟨"FallingTermsModel", "comes", "(JJJJ)V"⟩ ⟨"FallingTermsModel", "comes", "(JJJJ)V"⟩ ∈ tg := tg_in 32 (by first | exact rfl | decide +kernel) rfl
set_option maxRecDepth 100000 in
theorem tw_33 : Cond.selects "FallingTermsModel" ⟨"FallingTermsModel", "isNothing", "()Z"⟩ ⟨"FallingTermsModel", "isNothing", "()Z"⟩ ∈ tg := tg_in 33 (by first | exact rfl | decide +kernel) rfl
set_option maxRecDepth 100000 in
theorem tw_34 : Cond.selects "FallingTermsModel" ⟨"FallingTermsModel", "goal", "(JJJ)V"⟩ ⟨"FallingTermsModel", "goal", "(JJJ)V"⟩ ∈ tg := tg_in 34 (by first | exact rfl | decide +kernel) rfl
set_option maxRecDepth 100000 in
theorem tw_35 : Cond.selects "FallingTermsModel" ⟨"FallingTermsModel", "least", "(I)V"⟩ ⟨"FallingTermsModel", "least", "(I)V"⟩ ∈ tg := tg_in 35 (by first | exact rfl | decide +kernel) rfl
set_option maxRecDepth 100000 in
theorem tw_36 : Cond.selects "FallingTermsModel" ⟨"FallingTermsModel", "bears", "(JJ)V"⟩ ⟨"FallingTermsModel", "bears", "(JJ)V"⟩ ∈ tg := tg_in 36 (by first | exact rfl | decide +kernel) rfl
set_option maxRecDepth 100000 in
theorem tw_37 : Cond.selects "FallingTermsModel" ⟨"FallingTermsModel", "byOne", "(I)V"⟩ ⟨"FallingTermsModel", "byOne", "(I)V"⟩ ∈ tg := tg_in 37 (by first | exact rfl | decide +kernel) rfl
set_option maxRecDepth 100000 in
theorem tw_38 : Cond.selects "FallingTermsModel" ⟨"FallingTermsModel", "byTwo", "(II)V"⟩ ⟨"FallingTermsModel", "byTwo", "(II)V"⟩ ∈ tg := tg_in 38 (by first | exact rfl | decide +kernel) rfl
set_option maxRecDepth 100000 in
theorem tw_39 : Cond.selects "FallingTermsModel" ⟨"FallingTermsModel", "upright", "(II)V"⟩ ⟨"FallingTermsModel", "upright", "(II)V"⟩ ∈ tg := tg_in 39 (by first | exact rfl | decide +kernel) rfl
set_option maxRecDepth 100000 in
theorem tw_40 : Cond.selects "FallingTermsModel" ⟨"FallingTermsModel", "byThree", "(III)V"⟩ ⟨"FallingTermsModel", "byThree", "(III)V"⟩ ∈ tg := tg_in 40 (by first | exact rfl | decide +kernel) rfl
set_option maxRecDepth 100000 in
theorem tw_41 : Cond.selects "FallingTermsModel" ⟨"FallingTermsModel", "isLeast", "(J)Z"⟩ ⟨"FallingTermsModel", "isLeast", "(J)Z"⟩ ∈ tg := tg_in 41 (by first | exact rfl | decide +kernel) rfl
set_option maxRecDepth 100000 in
theorem tw_42 : Cond.selects "FallingTermsModel" ⟨"FallingTermsModel", "isBounded", "(III)Z"⟩ ⟨"FallingTermsModel", "isBounded", "(III)Z"⟩ ∈ tg := tg_in 42 (by first | exact rfl | decide +kernel) rfl
set_option maxRecDepth 100000 in
theorem tw_43 : Cond.selects "FallingTermsModel" ⟨"FallingTermsModel", "falls", "(IIIII)I"⟩ ⟨"FallingTermsModel", "falls", "(IIIII)I"⟩ ∈ tg := tg_in 43 (by first | exact rfl | decide +kernel) rfl
set_option maxRecDepth 100000 in
theorem tw_44 : Cond.selects "FallingTermsModel" ⟨"FallingTermsModel", "changed", "(IIJJJ)J"⟩ ⟨"FallingTermsModel", "changed", "(IIJJJ)J"⟩ ∈ tg := tg_in 44 (by first | exact rfl | decide +kernel) rfl
set_option maxRecDepth 100000 in
theorem tw_45 : Cond.selects "FallingTermsModel" ⟨"FallingTermsModel", "leftBy", "(IZ)I"⟩ ⟨"FallingTermsModel", "leftBy", "(IZ)I"⟩ ∈ tg := tg_in 45 (by first | exact rfl | decide +kernel) rfl
set_option maxRecDepth 100000 in
theorem tw_46 : Cond.selects "FallingTermsModel" ⟨"FallingTermsModel", "taken", "(IZIIIII)I"⟩ ⟨"FallingTermsModel", "taken", "(IZIIIII)I"⟩ ∈ tg := tg_in 46 (by first | exact rfl | decide +kernel) rfl
set_option maxRecDepth 100000 in
theorem tw_47 : Cond.selects "FallingTermsModel" ⟨"FallingTermsModel", "lasts", "(I)Z"⟩ ⟨"FallingTermsModel", "lasts", "(I)Z"⟩ ∈ tg := tg_in 47 (by first | exact rfl | decide +kernel) rfl
set_option maxRecDepth 100000 in
theorem tw_48 : Cond.selects "FallingTermsModel" ⟨"FallingTermsModel", "stand", "(I)V"⟩ ⟨"FallingTermsModel", "stand", "(I)V"⟩ ∈ tg := tg_in 48 (by first | exact rfl | decide +kernel) rfl
set_option maxRecDepth 100000 in
theorem tw_49 : Cond.selects "FallingTermsModel" ⟨"FallingTermsModel", "openAt", "(I)I"⟩ ⟨"FallingTermsModel", "openAt", "(I)I"⟩ ∈ tg := tg_in 49 (by first | exact rfl | decide +kernel) rfl
set_option maxRecDepth 100000 in
theorem tw_50 : Cond.selects "FallingTermsModel" ⟨"FallingTermsModel", "isMet", "([II)Z"⟩ ⟨"FallingTermsModel", "isMet", "([II)Z"⟩ ∈ tg := tg_in 50 (by first | exact rfl | decide +kernel) rfl
set_option maxRecDepth 100000 in
theorem tw_51 : Cond.selects "FallingTermsModel" ⟨"FallingTermsModel", "walks", "(I)I"⟩ ⟨"FallingTermsModel", "walks", "(I)I"⟩ ∈ tg := tg_in 51 (by first | exact rfl | decide +kernel) rfl
set_option maxRecDepth 100000 in
theorem tw_52 : Cond.selects "FallingTermsModel" ⟨"FallingTermsModel", "goes", "(II)Z"⟩ ⟨"FallingTermsModel", "goes", "(II)Z"⟩ ∈ tg := tg_in 52 (by first | exact rfl | decide +kernel) rfl
set_option maxRecDepth 100000 in
theorem tw_53 : Cond.selects "FallingTermsModel" ⟨"FallingTermsModel", "becomes", "(II)J"⟩ ⟨"FallingTermsModel", "becomes", "(II)J"⟩ ∈ tg := tg_in 53 (by first | exact rfl | decide +kernel) rfl
set_option maxRecDepth 100000 in
theorem tw_54 : Cond.selects "FallingTermsModel" ⟨"FallingTermsModel", "stay", "(I)V"⟩ ⟨"FallingTermsModel", "stay", "(I)V"⟩ ∈ tg := tg_in 54 (by first | exact rfl | decide +kernel) rfl
set_option maxRecDepth 100000 in
theorem tw_55 : Cond.selects "FallingTermsModel" ⟨"FallingTermsModel", "comesBack", "(IIII)I"⟩ ⟨"FallingTermsModel", "comesBack", "(IIII)I"⟩ ∈ tg := tg_in 55 (by first | exact rfl | decide +kernel) rfl
set_option maxRecDepth 100000 in
theorem tw_56 : (Jvm.Cond.initialized "FallingTermsLaw") ∈ tg := tg_in 56 (by first | exact rfl | decide +kernel) rfl
set_option maxRecDepth 100000 in
theorem tw_57 : (Jvm.Cond.initialized "FallingTerms") ∈ tg := tg_in 57 (by first | exact rfl | decide +kernel) rfl
set_option maxRecDepth 100000 in
theorem tw_58 : (Jvm.Cond.initialized "FallingTerms$Proof") ∈ tg := tg_in 58 (by first | exact rfl | decide +kernel) rfl
set_option maxRecDepth 100000 in
theorem tw_59 : (Jvm.Cond.initialized "FallingTerms$Loop") ∈ tg := tg_in 59 (by first | exact rfl | decide +kernel) rfl
set_option maxRecDepth 100000 in
theorem tw_60 : (Jvm.Cond.initialized "FallingTerms$Rows") ∈ tg := tg_in 60 (by first | exact rfl | decide +kernel) rfl
set_option maxRecDepth 100000 in
theorem tw_61 : (Jvm.Cond.initialized "java/lang/Math") ∈ tg := tg_in 61 (by first | exact rfl | decide +kernel) rfl
set_option maxRecDepth 100000 in
theorem tw_62 : (Jvm.Cond.initialized "FallingTerms$Way") ∈ tg := tg_in 62 (by first | exact rfl | decide +kernel) rfl
set_option maxRecDepth 100000 in
theorem tw_63 : (Jvm.Cond.initialized "FallingTerms$Space") ∈ tg := tg_in 63 (by first | exact rfl | decide +kernel) rfl
set_option maxRecDepth 100000 in
theorem tw_64 : (Jvm.Cond.initialized "FallingTermsModel") ∈ tg := tg_in 64 (by first | exact rfl | decide +kernel) rfl
set_option maxRecDepth 100000 in
theorem tw_65 : (Jvm.Cond.classLink "FallingTermsLaw" (7 : Nat) "FallingTerms") ∈ tg := tg_in 65 (by first | exact rfl | decide +kernel) rfl
set_option maxRecDepth 100000 in
theorem tw_66 : (Jvm.Cond.instantiable "FallingTerms" (11 : Nat)) ∈ tg := tg_in 66 (by first | exact rfl | decide +kernel) rfl
set_option maxRecDepth 100000 in
theorem tw_67 : (Jvm.Cond.methodLink "FallingTermsLaw" (9 : Nat) ({ cls := "FallingTerms", name := "<init>", desc := "()V" } : Jvm.MethodName)) ∈ tg := tg_in 67 (by first | exact rfl | decide +kernel) rfl
set_option maxRecDepth 100000 in
theorem tw_68 : (Jvm.Cond.instanceMethod ({ cls := "FallingTerms", name := "<init>", desc := "()V" } : Jvm.MethodName)) ∈ tg := tg_in 68 (by first | exact rfl | decide +kernel) rfl
set_option maxRecDepth 100000 in
theorem tw_69 : (Jvm.Cond.code ({ cls := "FallingTerms", name := "<init>", desc := "()V" } : Jvm.MethodName) prog_1_method_1_code (2 : Nat) (Option.none : Option Jvm.ClassFile.FieldType)) ∈ tg := tg_in 69 (by first | exact rfl | decide +kernel) rfl
set_option maxRecDepth 100000 in
theorem tw_70 : (Jvm.Cond.methodLink "FallingTerms" (1 : Nat) ({ cls := "java/lang/Object", name := "<init>", desc := "()V" } : Jvm.MethodName)) ∈ tg := tg_in 70 (by first | exact rfl | decide +kernel) rfl
set_option maxRecDepth 100000 in
theorem tw_71 : (Jvm.Cond.instanceMethod ({ cls := "java/lang/Object", name := "<init>", desc := "()V" } : Jvm.MethodName)) ∈ tg := tg_in 71 (by first | exact rfl | decide +kernel) rfl
set_option maxRecDepth 100000 in
theorem tw_72 : (Jvm.Cond.code ({ cls := "java/lang/Object", name := "<init>", desc := "()V" } : Jvm.MethodName) object_method_1_code (1 : Nat) (Option.none : Option Jvm.ClassFile.FieldType)) ∈ tg := tg_in 72 (by first | exact rfl | decide +kernel) rfl
set_option maxRecDepth 100000 in
theorem tw_73 : (Jvm.Cond.classLink "FallingTerms" (9 : Nat) "FallingTerms$Loop") ∈ tg := tg_in 73 (by first | exact rfl | decide +kernel) rfl
set_option maxRecDepth 100000 in
theorem tw_75 : (Jvm.Cond.classLink "FallingTerms" (15 : Nat) "FallingTerms$Space") ∈ tg := tg_in 75 (by first | exact rfl | decide +kernel) rfl
set_option maxRecDepth 100000 in
theorem tw_77 : (Jvm.Cond.classLink "FallingTerms" (24 : Nat) "FallingTerms$Proof") ∈ tg := tg_in 77 (by first | exact rfl | decide +kernel) rfl
set_option maxRecDepth 100000 in
theorem tw_78 : (Jvm.Cond.instantiable "FallingTerms$Proof" (3 : Nat)) ∈ tg := tg_in 78 (by first | exact rfl | decide +kernel) rfl
set_option maxRecDepth 100000 in
theorem tw_79 : (Jvm.Cond.methodLinkNest "FallingTerms" (26 : Nat) ({ cls := "FallingTerms$Proof", name := "<init>", desc := "()V" } : Jvm.MethodName) "FallingTerms") ∈ tn := tn_in 79 (by first | exact rfl | decide +kernel) rfl
set_option maxRecDepth 100000 in
theorem tw_80 : (Jvm.Cond.instanceMethod ({ cls := "FallingTerms$Proof", name := "<init>", desc := "()V" } : Jvm.MethodName)) ∈ tg := tg_in 80 (by first | exact rfl | decide +kernel) rfl
set_option maxRecDepth 100000 in
theorem tw_81 : (Jvm.Cond.code ({ cls := "FallingTerms$Proof", name := "<init>", desc := "()V" } : Jvm.MethodName) prog_3_method_1_code (1 : Nat) (Option.none : Option Jvm.ClassFile.FieldType)) ∈ tg := tg_in 81 (by first | exact rfl | decide +kernel) rfl
set_option maxRecDepth 100000 in
theorem tw_82 : (Jvm.Cond.methodLink "FallingTerms$Proof" (3 : Nat) ({ cls := "java/lang/Object", name := "<init>", desc := "()V" } : Jvm.MethodName)) ∈ tg := tg_in 82 (by first | exact rfl | decide +kernel) rfl
set_option maxRecDepth 100000 in
theorem tw_83 : (Jvm.Cond.fieldLink "FallingTerms$Proof" (9 : Nat) "FallingTerms$Proof" "found" "[I") ∈ tg := tg_in 83 (by first | exact rfl | decide +kernel) rfl
set_option maxRecDepth 100000 in
theorem tw_84 : (Jvm.Cond.fieldLinkNest "FallingTerms" (152 : Nat) "FallingTerms$Proof" "found" "[I" "FallingTerms") ∈ tn := tn_in 84 (by first | exact rfl | decide +kernel) rfl
set_option maxRecDepth 100000 in
theorem tw_85 : (Jvm.Cond.fieldLink "FallingTerms$Proof" (15 : Nat) "FallingTerms$Proof" "count" "I") ∈ tg := tg_in 85 (by first | exact rfl | decide +kernel) rfl
set_option maxRecDepth 100000 in
theorem tw_86 : (Jvm.Cond.fieldLinkNest "FallingTerms" (151 : Nat) "FallingTerms$Proof" "count" "I" "FallingTerms") ∈ tn := tn_in 86 (by first | exact rfl | decide +kernel) rfl
set_option maxRecDepth 100000 in
theorem tw_87 : (Jvm.Cond.fieldLink "FallingTerms$Proof" (19 : Nat) "FallingTerms$Proof" "waysLeft" "I") ∈ tg := tg_in 87 (by first | exact rfl | decide +kernel) rfl
set_option maxRecDepth 100000 in
theorem tw_88 : (Jvm.Cond.fieldLinkNest "FallingTerms" (148 : Nat) "FallingTerms$Proof" "waysLeft" "I" "FallingTerms") ∈ tn := tn_in 88 (by first | exact rfl | decide +kernel) rfl
set_option maxRecDepth 100000 in
theorem tw_89 : (Jvm.Cond.laysFinal "FallingTerms$Proof" "FallingTerms$Proof" "found" "[I") ∈ tg := tg_in 89 (by first | exact rfl | decide +kernel) rfl
set_option maxRecDepth 100000 in
theorem tw_90 : (Jvm.Cond.soleField "FallingTerms$Proof" "found") ∈ tg := tg_in 90 (by first | exact rfl | decide +kernel) rfl
set_option maxRecDepth 100000 in
theorem tw_91 : (Jvm.Cond.lays "FallingTerms$Proof" "FallingTerms$Proof" "count" "I") ∈ tg := tg_in 91 (by first | exact rfl | decide +kernel) rfl
set_option maxRecDepth 100000 in
theorem tw_92 : (Jvm.Cond.soleField "FallingTerms$Proof" "count") ∈ tg := tg_in 92 (by first | exact rfl | decide +kernel) rfl
set_option maxRecDepth 100000 in
theorem tw_93 : (Jvm.Cond.lays "FallingTerms$Proof" "FallingTerms$Proof" "waysLeft" "I") ∈ tg := tg_in 93 (by first | exact rfl | decide +kernel) rfl
set_option maxRecDepth 100000 in
theorem tw_94 : (Jvm.Cond.soleField "FallingTerms$Proof" "waysLeft") ∈ tg := tg_in 94 (by first | exact rfl | decide +kernel) rfl
set_option maxRecDepth 100000 in
theorem tw_95 : (Jvm.Cond.superclass "FallingTerms$Proof" "java/lang/Object") ∈ tg := tg_in 95 (by first | exact rfl | decide +kernel) rfl
set_option maxRecDepth 100000 in
theorem tw_96 : (Jvm.Cond.arrayClass Jvm.ClassFile.FieldType.int) ∈ tg := tg_in 96 (by first | exact rfl | decide +kernel) rfl
set_option maxRecDepth 100000 in
theorem tw_97 : (Jvm.Cond.instantiable "FallingTerms$Loop" (6 : Nat)) ∈ tg := tg_in 97 (by first | exact rfl | decide +kernel) rfl
set_option maxRecDepth 100000 in
theorem tw_98 : (Jvm.Cond.methodLink "FallingTerms" (48 : Nat) ({ cls := "FallingTerms$Loop", name := "<init>", desc := "()V" } : Jvm.MethodName)) ∈ tg := tg_in 98 (by first | exact rfl | decide +kernel) rfl
set_option maxRecDepth 100000 in
theorem tw_99 : (Jvm.Cond.instanceMethod ({ cls := "FallingTerms$Loop", name := "<init>", desc := "()V" } : Jvm.MethodName)) ∈ tg := tg_in 99 (by first | exact rfl | decide +kernel) rfl
set_option maxRecDepth 100000 in
theorem tw_100 : (Jvm.Cond.code ({ cls := "FallingTerms$Loop", name := "<init>", desc := "()V" } : Jvm.MethodName) prog_2_method_1_code (2 : Nat) (Option.none : Option Jvm.ClassFile.FieldType)) ∈ tg := tg_in 100 (by first | exact rfl | decide +kernel) rfl
set_option maxRecDepth 100000 in
theorem tw_101 : (Jvm.Cond.methodLink "FallingTerms$Loop" (3 : Nat) ({ cls := "java/lang/Object", name := "<init>", desc := "()V" } : Jvm.MethodName)) ∈ tg := tg_in 101 (by first | exact rfl | decide +kernel) rfl
set_option maxRecDepth 100000 in
theorem tw_102 : (Jvm.Cond.classLink "FallingTerms$Loop" (9 : Nat) "FallingTerms$Rows") ∈ tg := tg_in 102 (by first | exact rfl | decide +kernel) rfl
set_option maxRecDepth 100000 in
theorem tw_103 : (Jvm.Cond.instantiable "FallingTerms$Rows" (3 : Nat)) ∈ tg := tg_in 103 (by first | exact rfl | decide +kernel) rfl
set_option maxRecDepth 100000 in
theorem tw_104 : (Jvm.Cond.methodLink "FallingTerms$Loop" (11 : Nat) ({ cls := "FallingTerms$Rows", name := "<init>", desc := "(I)V" } : Jvm.MethodName)) ∈ tg := tg_in 104 (by first | exact rfl | decide +kernel) rfl
set_option maxRecDepth 100000 in
theorem tw_105 : (Jvm.Cond.instanceMethod ({ cls := "FallingTerms$Rows", name := "<init>", desc := "(I)V" } : Jvm.MethodName)) ∈ tg := tg_in 105 (by first | exact rfl | decide +kernel) rfl
set_option maxRecDepth 100000 in
theorem tw_106 : (Jvm.Cond.code ({ cls := "FallingTerms$Rows", name := "<init>", desc := "(I)V" } : Jvm.MethodName) prog_4_method_1_code (2 : Nat) (Option.none : Option Jvm.ClassFile.FieldType)) ∈ tg := tg_in 106 (by first | exact rfl | decide +kernel) rfl
set_option maxRecDepth 100000 in
theorem tw_107 : (Jvm.Cond.methodLink "FallingTerms$Rows" (3 : Nat) ({ cls := "java/lang/Object", name := "<init>", desc := "()V" } : Jvm.MethodName)) ∈ tg := tg_in 107 (by first | exact rfl | decide +kernel) rfl
set_option maxRecDepth 100000 in
theorem tw_108 : (Jvm.Cond.methodLink "FallingTerms$Rows" (9 : Nat) ({ cls := "java/lang/Math", name := "max", desc := "(II)I" } : Jvm.MethodName)) ∈ tg := tg_in 108 (by first | exact rfl | decide +kernel) rfl
set_option maxRecDepth 100000 in
theorem tw_109 : (Jvm.Cond.static ({ cls := "java/lang/Math", name := "max", desc := "(II)I" } : Jvm.MethodName)) ∈ tg := tg_in 109 (by first | exact rfl | decide +kernel) rfl
set_option maxRecDepth 100000 in
theorem tw_110 : (Jvm.Cond.code ({ cls := "java/lang/Math", name := "max", desc := "(II)I" } : Jvm.MethodName) prog_9_method_65_code (2 : Nat) (Option.some Jvm.ClassFile.FieldType.int)) ∈ tg := tg_in 110 (by first | exact rfl | decide +kernel) rfl
set_option maxRecDepth 100000 in
theorem tw_111 : (Jvm.Cond.fieldLink "FallingTerms$Rows" (21 : Nat) "FallingTerms$Rows" "numbers" "[I") ∈ tg := tg_in 111 (by first | exact rfl | decide +kernel) rfl
set_option maxRecDepth 100000 in
theorem tw_112 : (Jvm.Cond.fieldLinkNest "FallingTerms$Space" (42 : Nat) "FallingTerms$Rows" "numbers" "[I" "FallingTerms") ∈ tn := tn_in 112 (by first | exact rfl | decide +kernel) rfl
set_option maxRecDepth 100000 in
theorem tw_113 : (Jvm.Cond.fieldLink "FallingTerms$Rows" (15 : Nat) "FallingTerms$Rows" "most" "I") ∈ tg := tg_in 113 (by first | exact rfl | decide +kernel) rfl
set_option maxRecDepth 100000 in
theorem tw_114 : (Jvm.Cond.fieldLink "FallingTerms$Rows" (25 : Nat) "FallingTerms$Rows" "count" "I") ∈ tg := tg_in 114 (by first | exact rfl | decide +kernel) rfl
set_option maxRecDepth 100000 in
theorem tw_115 : (Jvm.Cond.fieldLinkNest "FallingTerms$Way" (27 : Nat) "FallingTerms$Rows" "count" "I" "FallingTerms") ∈ tn := tn_in 115 (by first | exact rfl | decide +kernel) rfl
set_option maxRecDepth 100000 in
theorem tw_116 : (Jvm.Cond.fieldLinkNest "FallingTerms$Loop" (38 : Nat) "FallingTerms$Rows" "count" "I" "FallingTerms") ∈ tn := tn_in 116 (by first | exact rfl | decide +kernel) rfl
set_option maxRecDepth 100000 in
theorem tw_117 : (Jvm.Cond.fieldLinkNest "FallingTerms$Space" (47 : Nat) "FallingTerms$Rows" "count" "I" "FallingTerms") ∈ tn := tn_in 117 (by first | exact rfl | decide +kernel) rfl
set_option maxRecDepth 100000 in
theorem tw_118 : (Jvm.Cond.fieldLinkNest "FallingTerms" (114 : Nat) "FallingTerms$Rows" "count" "I" "FallingTerms") ∈ tn := tn_in 118 (by first | exact rfl | decide +kernel) rfl
set_option maxRecDepth 100000 in
theorem tw_119 : (Jvm.Cond.laysFinal "FallingTerms$Rows" "FallingTerms$Rows" "numbers" "[I") ∈ tg := tg_in 119 (by first | exact rfl | decide +kernel) rfl
set_option maxRecDepth 100000 in
theorem tw_120 : (Jvm.Cond.soleField "FallingTerms$Rows" "numbers") ∈ tg := tg_in 120 (by first | exact rfl | decide +kernel) rfl
set_option maxRecDepth 100000 in
theorem tw_121 : (Jvm.Cond.laysFinal "FallingTerms$Rows" "FallingTerms$Rows" "most" "I") ∈ tg := tg_in 121 (by first | exact rfl | decide +kernel) rfl
set_option maxRecDepth 100000 in
theorem tw_122 : (Jvm.Cond.soleField "FallingTerms$Rows" "most") ∈ tg := tg_in 122 (by first | exact rfl | decide +kernel) rfl
set_option maxRecDepth 100000 in
theorem tw_123 : (Jvm.Cond.lays "FallingTerms$Rows" "FallingTerms$Rows" "count" "I") ∈ tg := tg_in 123 (by first | exact rfl | decide +kernel) rfl
set_option maxRecDepth 100000 in
theorem tw_124 : (Jvm.Cond.soleField "FallingTerms$Rows" "count") ∈ tg := tg_in 124 (by first | exact rfl | decide +kernel) rfl
set_option maxRecDepth 100000 in
theorem tw_125 : (Jvm.Cond.superclass "FallingTerms$Rows" "java/lang/Object") ∈ tg := tg_in 125 (by first | exact rfl | decide +kernel) rfl
set_option maxRecDepth 100000 in
theorem tw_126 : (Jvm.Cond.arrayClass Jvm.ClassFile.FieldType.long) ∈ tg := tg_in 126 (by first | exact rfl | decide +kernel) rfl
set_option maxRecDepth 100000 in
theorem tw_127 : (Jvm.Cond.classLink "FallingTerms$Loop" (20 : Nat) "FallingTerms$Way") ∈ tg := tg_in 127 (by first | exact rfl | decide +kernel) rfl
set_option maxRecDepth 100000 in
theorem tw_129 : (Jvm.Cond.instantiable "FallingTerms$Way" (3 : Nat)) ∈ tg := tg_in 129 (by first | exact rfl | decide +kernel) rfl
set_option maxRecDepth 100000 in
theorem tw_130 : (Jvm.Cond.methodLinkNest "FallingTerms$Loop" (33 : Nat) ({ cls := "FallingTerms$Way", name := "<init>", desc := "()V" } : Jvm.MethodName) "FallingTerms") ∈ tn := tn_in 130 (by first | exact rfl | decide +kernel) rfl
set_option maxRecDepth 100000 in
theorem tw_131 : (Jvm.Cond.instanceMethod ({ cls := "FallingTerms$Way", name := "<init>", desc := "()V" } : Jvm.MethodName)) ∈ tg := tg_in 131 (by first | exact rfl | decide +kernel) rfl
set_option maxRecDepth 100000 in
theorem tw_132 : (Jvm.Cond.code ({ cls := "FallingTerms$Way", name := "<init>", desc := "()V" } : Jvm.MethodName) prog_6_method_1_code (1 : Nat) (Option.none : Option Jvm.ClassFile.FieldType)) ∈ tg := tg_in 132 (by first | exact rfl | decide +kernel) rfl
set_option maxRecDepth 100000 in
theorem tw_133 : (Jvm.Cond.methodLink "FallingTerms$Way" (3 : Nat) ({ cls := "java/lang/Object", name := "<init>", desc := "()V" } : Jvm.MethodName)) ∈ tg := tg_in 133 (by first | exact rfl | decide +kernel) rfl
set_option maxRecDepth 100000 in
theorem tw_134 : (Jvm.Cond.classLink "FallingTerms$Way" (9 : Nat) "FallingTerms$Rows") ∈ tg := tg_in 134 (by first | exact rfl | decide +kernel) rfl
set_option maxRecDepth 100000 in
theorem tw_135 : (Jvm.Cond.methodLink "FallingTerms$Way" (11 : Nat) ({ cls := "FallingTerms$Rows", name := "<init>", desc := "(I)V" } : Jvm.MethodName)) ∈ tg := tg_in 135 (by first | exact rfl | decide +kernel) rfl
set_option maxRecDepth 100000 in
theorem tw_136 : (Jvm.Cond.fieldLink "FallingTerms$Way" (14 : Nat) "FallingTerms$Way" "rows" "LFallingTerms$Rows;") ∈ tg := tg_in 136 (by first | exact rfl | decide +kernel) rfl
set_option maxRecDepth 100000 in
theorem tw_137 : (Jvm.Cond.fieldLinkNest "FallingTerms$Space" (58 : Nat) "FallingTerms$Way" "rows" "LFallingTerms$Rows;" "FallingTerms") ∈ tn := tn_in 137 (by first | exact rfl | decide +kernel) rfl
set_option maxRecDepth 100000 in
theorem tw_138 : (Jvm.Cond.fieldLinkNest "FallingTerms$Loop" (51 : Nat) "FallingTerms$Way" "rows" "LFallingTerms$Rows;" "FallingTerms") ∈ tn := tn_in 138 (by first | exact rfl | decide +kernel) rfl
set_option maxRecDepth 100000 in
theorem tw_139 : (Jvm.Cond.fieldLinkNest "FallingTerms" (91 : Nat) "FallingTerms$Way" "rows" "LFallingTerms$Rows;" "FallingTerms") ∈ tn := tn_in 139 (by first | exact rfl | decide +kernel) rfl
set_option maxRecDepth 100000 in
theorem tw_140 : (Jvm.Cond.fieldLink "FallingTerms$Way" (20 : Nat) "FallingTerms$Way" "factors" "[I") ∈ tg := tg_in 140 (by first | exact rfl | decide +kernel) rfl
set_option maxRecDepth 100000 in
theorem tw_141 : (Jvm.Cond.fieldLinkNest "FallingTerms" (102 : Nat) "FallingTerms$Way" "factors" "[I" "FallingTerms") ∈ tn := tn_in 141 (by first | exact rfl | decide +kernel) rfl
set_option maxRecDepth 100000 in
theorem tw_142 : (Jvm.Cond.fieldLink "FallingTerms$Way" (24 : Nat) "FallingTerms$Way" "constants" "[I") ∈ tg := tg_in 142 (by first | exact rfl | decide +kernel) rfl
set_option maxRecDepth 100000 in
theorem tw_143 : (Jvm.Cond.fieldLinkNest "FallingTerms" (105 : Nat) "FallingTerms$Way" "constants" "[I" "FallingTerms") ∈ tn := tn_in 143 (by first | exact rfl | decide +kernel) rfl
set_option maxRecDepth 100000 in
theorem tw_144 : (Jvm.Cond.laysFinal "FallingTerms$Way" "FallingTerms$Way" "rows" "LFallingTerms$Rows;") ∈ tg := tg_in 144 (by first | exact rfl | decide +kernel) rfl
set_option maxRecDepth 100000 in
theorem tw_145 : (Jvm.Cond.soleField "FallingTerms$Way" "rows") ∈ tg := tg_in 145 (by first | exact rfl | decide +kernel) rfl
set_option maxRecDepth 100000 in
theorem tw_146 : (Jvm.Cond.laysFinal "FallingTerms$Way" "FallingTerms$Way" "factors" "[I") ∈ tg := tg_in 146 (by first | exact rfl | decide +kernel) rfl
set_option maxRecDepth 100000 in
theorem tw_147 : (Jvm.Cond.soleField "FallingTerms$Way" "factors") ∈ tg := tg_in 147 (by first | exact rfl | decide +kernel) rfl
set_option maxRecDepth 100000 in
theorem tw_148 : (Jvm.Cond.laysFinal "FallingTerms$Way" "FallingTerms$Way" "constants" "[I") ∈ tg := tg_in 148 (by first | exact rfl | decide +kernel) rfl
set_option maxRecDepth 100000 in
theorem tw_149 : (Jvm.Cond.soleField "FallingTerms$Way" "constants") ∈ tg := tg_in 149 (by first | exact rfl | decide +kernel) rfl
set_option maxRecDepth 100000 in
theorem tw_150 : (Jvm.Cond.superclass "FallingTerms$Way" "java/lang/Object") ∈ tg := tg_in 150 (by first | exact rfl | decide +kernel) rfl
set_option maxRecDepth 100000 in
theorem tw_151 : (Jvm.Cond.fieldLink "FallingTerms$Loop" (34 : Nat) "FallingTerms$Loop" "names" "I") ∈ tg := tg_in 151 (by first | exact rfl | decide +kernel) rfl
set_option maxRecDepth 100000 in
theorem tw_152 : (Jvm.Cond.fieldLinkNest "FallingTerms$Space" (28 : Nat) "FallingTerms$Loop" "names" "I" "FallingTerms") ∈ tn := tn_in 152 (by first | exact rfl | decide +kernel) rfl
set_option maxRecDepth 100000 in
theorem tw_153 : (Jvm.Cond.fieldLinkNest "FallingTerms" (108 : Nat) "FallingTerms$Loop" "names" "I" "FallingTerms") ∈ tn := tn_in 153 (by first | exact rfl | decide +kernel) rfl
set_option maxRecDepth 100000 in
theorem tw_154 : (Jvm.Cond.fieldLink "FallingTerms$Loop" (14 : Nat) "FallingTerms$Loop" "guardRows" "LFallingTerms$Rows;") ∈ tg := tg_in 154 (by first | exact rfl | decide +kernel) rfl
set_option maxRecDepth 100000 in
theorem tw_155 : (Jvm.Cond.fieldLinkNest "FallingTerms$Space" (38 : Nat) "FallingTerms$Loop" "guardRows" "LFallingTerms$Rows;" "FallingTerms") ∈ tn := tn_in 155 (by first | exact rfl | decide +kernel) rfl
set_option maxRecDepth 100000 in
theorem tw_156 : (Jvm.Cond.fieldLinkNest "FallingTerms" (69 : Nat) "FallingTerms$Loop" "guardRows" "LFallingTerms$Rows;" "FallingTerms") ∈ tn := tn_in 156 (by first | exact rfl | decide +kernel) rfl
set_option maxRecDepth 100000 in
theorem tw_157 : (Jvm.Cond.fieldLink "FallingTerms$Loop" (22 : Nat) "FallingTerms$Loop" "ways" "[LFallingTerms$Way;") ∈ tg := tg_in 157 (by first | exact rfl | decide +kernel) rfl
set_option maxRecDepth 100000 in
theorem tw_158 : (Jvm.Cond.fieldLinkNest "FallingTerms$Space" (54 : Nat) "FallingTerms$Loop" "ways" "[LFallingTerms$Way;" "FallingTerms") ∈ tn := tn_in 158 (by first | exact rfl | decide +kernel) rfl
set_option maxRecDepth 100000 in
theorem tw_159 : (Jvm.Cond.fieldLinkNest "FallingTerms$Proof" (43 : Nat) "FallingTerms$Loop" "ways" "[LFallingTerms$Way;" "FallingTerms") ∈ tn := tn_in 159 (by first | exact rfl | decide +kernel) rfl
set_option maxRecDepth 100000 in
theorem tw_160 : (Jvm.Cond.fieldLinkNest "FallingTerms" (87 : Nat) "FallingTerms$Loop" "ways" "[LFallingTerms$Way;" "FallingTerms") ∈ tn := tn_in 160 (by first | exact rfl | decide +kernel) rfl
set_option maxRecDepth 100000 in
theorem tw_161 : (Jvm.Cond.fieldLink "FallingTerms$Loop" (41 : Nat) "FallingTerms$Loop" "wayCount" "I") ∈ tg := tg_in 161 (by first | exact rfl | decide +kernel) rfl
set_option maxRecDepth 100000 in
theorem tw_162 : (Jvm.Cond.fieldLinkNest "FallingTerms$Proof" (22 : Nat) "FallingTerms$Loop" "wayCount" "I" "FallingTerms") ∈ tn := tn_in 162 (by first | exact rfl | decide +kernel) rfl
set_option maxRecDepth 100000 in
theorem tw_163 : (Jvm.Cond.fieldLinkNest "FallingTerms" (111 : Nat) "FallingTerms$Loop" "wayCount" "I" "FallingTerms") ∈ tn := tn_in 163 (by first | exact rfl | decide +kernel) rfl
set_option maxRecDepth 100000 in
theorem tw_164 : (Jvm.Cond.fieldLink "FallingTerms$Loop" (26 : Nat) "FallingTerms$Loop" "state" "[J") ∈ tg := tg_in 164 (by first | exact rfl | decide +kernel) rfl
set_option maxRecDepth 100000 in
theorem tw_165 : (Jvm.Cond.fieldLinkNest "FallingTerms" (168 : Nat) "FallingTerms$Loop" "state" "[J" "FallingTerms") ∈ tn := tn_in 165 (by first | exact rfl | decide +kernel) rfl
set_option maxRecDepth 100000 in
theorem tw_166 : (Jvm.Cond.fieldLink "FallingTerms$Loop" (30 : Nat) "FallingTerms$Loop" "next" "[J") ∈ tg := tg_in 166 (by first | exact rfl | decide +kernel) rfl
set_option maxRecDepth 100000 in
theorem tw_167 : (Jvm.Cond.lays "FallingTerms$Loop" "FallingTerms$Loop" "names" "I") ∈ tg := tg_in 167 (by first | exact rfl | decide +kernel) rfl
set_option maxRecDepth 100000 in
theorem tw_168 : (Jvm.Cond.soleField "FallingTerms$Loop" "names") ∈ tg := tg_in 168 (by first | exact rfl | decide +kernel) rfl
set_option maxRecDepth 100000 in
theorem tw_169 : (Jvm.Cond.laysFinal "FallingTerms$Loop" "FallingTerms$Loop" "guardRows" "LFallingTerms$Rows;") ∈ tg := tg_in 169 (by first | exact rfl | decide +kernel) rfl
set_option maxRecDepth 100000 in
theorem tw_170 : (Jvm.Cond.soleField "FallingTerms$Loop" "guardRows") ∈ tg := tg_in 170 (by first | exact rfl | decide +kernel) rfl
set_option maxRecDepth 100000 in
theorem tw_171 : (Jvm.Cond.laysFinal "FallingTerms$Loop" "FallingTerms$Loop" "ways" "[LFallingTerms$Way;") ∈ tg := tg_in 171 (by first | exact rfl | decide +kernel) rfl
set_option maxRecDepth 100000 in
theorem tw_172 : (Jvm.Cond.soleField "FallingTerms$Loop" "ways") ∈ tg := tg_in 172 (by first | exact rfl | decide +kernel) rfl
set_option maxRecDepth 100000 in
theorem tw_173 : (Jvm.Cond.lays "FallingTerms$Loop" "FallingTerms$Loop" "wayCount" "I") ∈ tg := tg_in 173 (by first | exact rfl | decide +kernel) rfl
set_option maxRecDepth 100000 in
theorem tw_174 : (Jvm.Cond.soleField "FallingTerms$Loop" "wayCount") ∈ tg := tg_in 174 (by first | exact rfl | decide +kernel) rfl
set_option maxRecDepth 100000 in
theorem tw_175 : (Jvm.Cond.laysFinal "FallingTerms$Loop" "FallingTerms$Loop" "state" "[J") ∈ tg := tg_in 175 (by first | exact rfl | decide +kernel) rfl
set_option maxRecDepth 100000 in
theorem tw_176 : (Jvm.Cond.soleField "FallingTerms$Loop" "state") ∈ tg := tg_in 176 (by first | exact rfl | decide +kernel) rfl
set_option maxRecDepth 100000 in
theorem tw_177 : (Jvm.Cond.laysFinal "FallingTerms$Loop" "FallingTerms$Loop" "next" "[J") ∈ tg := tg_in 177 (by first | exact rfl | decide +kernel) rfl
set_option maxRecDepth 100000 in
theorem tw_178 : (Jvm.Cond.soleField "FallingTerms$Loop" "next") ∈ tg := tg_in 178 (by first | exact rfl | decide +kernel) rfl
set_option maxRecDepth 100000 in
theorem tw_179 : (Jvm.Cond.superclass "FallingTerms$Loop" "java/lang/Object") ∈ tg := tg_in 179 (by first | exact rfl | decide +kernel) rfl
set_option maxRecDepth 100000 in
theorem tw_180 : (Jvm.Cond.instantiable "FallingTerms$Space" (8 : Nat)) ∈ tg := tg_in 180 (by first | exact rfl | decide +kernel) rfl
set_option maxRecDepth 100000 in
theorem tw_181 : (Jvm.Cond.methodLinkNest "FallingTerms" (49 : Nat) ({ cls := "FallingTerms$Space", name := "<init>", desc := "()V" } : Jvm.MethodName) "FallingTerms") ∈ tn := tn_in 181 (by first | exact rfl | decide +kernel) rfl
set_option maxRecDepth 100000 in
theorem tw_182 : (Jvm.Cond.instanceMethod ({ cls := "FallingTerms$Space", name := "<init>", desc := "()V" } : Jvm.MethodName)) ∈ tg := tg_in 182 (by first | exact rfl | decide +kernel) rfl
set_option maxRecDepth 100000 in
theorem tw_183 : (Jvm.Cond.code ({ cls := "FallingTerms$Space", name := "<init>", desc := "()V" } : Jvm.MethodName) prog_5_method_1_code (1 : Nat) (Option.none : Option Jvm.ClassFile.FieldType)) ∈ tg := tg_in 183 (by first | exact rfl | decide +kernel) rfl
set_option maxRecDepth 100000 in
theorem tw_184 : (Jvm.Cond.methodLink "FallingTerms$Space" (3 : Nat) ({ cls := "java/lang/Object", name := "<init>", desc := "()V" } : Jvm.MethodName)) ∈ tg := tg_in 184 (by first | exact rfl | decide +kernel) rfl
set_option maxRecDepth 100000 in
theorem tw_185 : (Jvm.Cond.fieldLink "FallingTerms$Space" (9 : Nat) "FallingTerms$Space" "lines" "[J") ∈ tg := tg_in 185 (by first | exact rfl | decide +kernel) rfl
set_option maxRecDepth 100000 in
theorem tw_186 : (Jvm.Cond.fieldLink "FallingTerms$Space" (63 : Nat) "FallingTerms$Space" "lineCount" "I") ∈ tg := tg_in 186 (by first | exact rfl | decide +kernel) rfl
set_option maxRecDepth 100000 in
theorem tw_187 : (Jvm.Cond.fieldLink "FallingTerms$Space" (15 : Nat) "FallingTerms$Space" "rays" "[J") ∈ tg := tg_in 187 (by first | exact rfl | decide +kernel) rfl
set_option maxRecDepth 100000 in
theorem tw_188 : (Jvm.Cond.fieldLink "FallingTerms$Space" (66 : Nat) "FallingTerms$Space" "rayCount" "I") ∈ tg := tg_in 188 (by first | exact rfl | decide +kernel) rfl
set_option maxRecDepth 100000 in
theorem tw_189 : (Jvm.Cond.fieldLink "FallingTerms$Space" (18 : Nat) "FallingTerms$Space" "tight" "[I") ∈ tg := tg_in 189 (by first | exact rfl | decide +kernel) rfl
set_option maxRecDepth 100000 in
theorem tw_190 : (Jvm.Cond.fieldLink "FallingTerms$Space" (22 : Nat) "FallingTerms$Space" "surplus" "[J") ∈ tg := tg_in 190 (by first | exact rfl | decide +kernel) rfl
set_option maxRecDepth 100000 in
theorem tw_191 : (Jvm.Cond.fieldLink "FallingTerms$Space" (25 : Nat) "FallingTerms$Space" "pivot" "[J") ∈ tg := tg_in 191 (by first | exact rfl | decide +kernel) rfl
set_option maxRecDepth 100000 in
theorem tw_192 : (Jvm.Cond.fieldLink "FallingTerms$Space" (69 : Nat) "FallingTerms$Space" "bit" "I") ∈ tg := tg_in 192 (by first | exact rfl | decide +kernel) rfl
set_option maxRecDepth 100000 in
theorem tw_193 : (Jvm.Cond.laysFinal "FallingTerms$Space" "FallingTerms$Space" "lines" "[J") ∈ tg := tg_in 193 (by first | exact rfl | decide +kernel) rfl
set_option maxRecDepth 100000 in
theorem tw_194 : (Jvm.Cond.soleField "FallingTerms$Space" "lines") ∈ tg := tg_in 194 (by first | exact rfl | decide +kernel) rfl
set_option maxRecDepth 100000 in
theorem tw_195 : (Jvm.Cond.lays "FallingTerms$Space" "FallingTerms$Space" "lineCount" "I") ∈ tg := tg_in 195 (by first | exact rfl | decide +kernel) rfl
set_option maxRecDepth 100000 in
theorem tw_196 : (Jvm.Cond.soleField "FallingTerms$Space" "lineCount") ∈ tg := tg_in 196 (by first | exact rfl | decide +kernel) rfl
set_option maxRecDepth 100000 in
theorem tw_197 : (Jvm.Cond.laysFinal "FallingTerms$Space" "FallingTerms$Space" "rays" "[J") ∈ tg := tg_in 197 (by first | exact rfl | decide +kernel) rfl
set_option maxRecDepth 100000 in
theorem tw_198 : (Jvm.Cond.soleField "FallingTerms$Space" "rays") ∈ tg := tg_in 198 (by first | exact rfl | decide +kernel) rfl
set_option maxRecDepth 100000 in
theorem tw_199 : (Jvm.Cond.lays "FallingTerms$Space" "FallingTerms$Space" "rayCount" "I") ∈ tg := tg_in 199 (by first | exact rfl | decide +kernel) rfl
set_option maxRecDepth 100000 in
theorem tw_200 : (Jvm.Cond.soleField "FallingTerms$Space" "rayCount") ∈ tg := tg_in 200 (by first | exact rfl | decide +kernel) rfl
set_option maxRecDepth 100000 in
theorem tw_201 : (Jvm.Cond.laysFinal "FallingTerms$Space" "FallingTerms$Space" "tight" "[I") ∈ tg := tg_in 201 (by first | exact rfl | decide +kernel) rfl
set_option maxRecDepth 100000 in
theorem tw_202 : (Jvm.Cond.soleField "FallingTerms$Space" "tight") ∈ tg := tg_in 202 (by first | exact rfl | decide +kernel) rfl
set_option maxRecDepth 100000 in
theorem tw_203 : (Jvm.Cond.laysFinal "FallingTerms$Space" "FallingTerms$Space" "surplus" "[J") ∈ tg := tg_in 203 (by first | exact rfl | decide +kernel) rfl
set_option maxRecDepth 100000 in
theorem tw_204 : (Jvm.Cond.soleField "FallingTerms$Space" "surplus") ∈ tg := tg_in 204 (by first | exact rfl | decide +kernel) rfl
set_option maxRecDepth 100000 in
theorem tw_205 : (Jvm.Cond.laysFinal "FallingTerms$Space" "FallingTerms$Space" "pivot" "[J") ∈ tg := tg_in 205 (by first | exact rfl | decide +kernel) rfl
set_option maxRecDepth 100000 in
theorem tw_206 : (Jvm.Cond.soleField "FallingTerms$Space" "pivot") ∈ tg := tg_in 206 (by first | exact rfl | decide +kernel) rfl
set_option maxRecDepth 100000 in
theorem tw_207 : (Jvm.Cond.lays "FallingTerms$Space" "FallingTerms$Space" "bit" "I") ∈ tg := tg_in 207 (by first | exact rfl | decide +kernel) rfl
set_option maxRecDepth 100000 in
theorem tw_208 : (Jvm.Cond.soleField "FallingTerms$Space" "bit") ∈ tg := tg_in 208 (by first | exact rfl | decide +kernel) rfl
set_option maxRecDepth 100000 in
theorem tw_209 : (Jvm.Cond.superclass "FallingTerms$Space" "java/lang/Object") ∈ tg := tg_in 209 (by first | exact rfl | decide +kernel) rfl
set_option maxRecDepth 100000 in
theorem tw_210 : (Jvm.Cond.fieldLink "FallingTerms" (11 : Nat) "FallingTerms" "made" "[LFallingTerms$Loop;") ∈ tg := tg_in 210 (by first | exact rfl | decide +kernel) rfl
set_option maxRecDepth 100000 in
theorem tw_211 : (Jvm.Cond.fieldLink "FallingTerms" (50 : Nat) "FallingTerms" "madeCount" "I") ∈ tg := tg_in 211 (by first | exact rfl | decide +kernel) rfl
set_option maxRecDepth 100000 in
theorem tw_212 : (Jvm.Cond.fieldLink "FallingTerms" (17 : Nat) "FallingTerms" "spaces" "[LFallingTerms$Space;") ∈ tg := tg_in 212 (by first | exact rfl | decide +kernel) rfl
set_option maxRecDepth 100000 in
theorem tw_213 : (Jvm.Cond.fieldLink "FallingTerms" (21 : Nat) "FallingTerms" "narrowed" "[LFallingTerms$Space;") ∈ tg := tg_in 213 (by first | exact rfl | decide +kernel) rfl
set_option maxRecDepth 100000 in
theorem tw_214 : (Jvm.Cond.fieldLink "FallingTerms" (27 : Nat) "FallingTerms" "latest" "LFallingTerms$Proof;") ∈ tg := tg_in 214 (by first | exact rfl | decide +kernel) rfl
set_option maxRecDepth 100000 in
theorem tw_215 : (Jvm.Cond.fieldLink "FallingTerms" (31 : Nat) "FallingTerms" "trial" "LFallingTerms$Proof;") ∈ tg := tg_in 215 (by first | exact rfl | decide +kernel) rfl
set_option maxRecDepth 100000 in
theorem tw_216 : (Jvm.Cond.fieldLink "FallingTerms" (34 : Nat) "FallingTerms" "needRow" "[I") ∈ tg := tg_in 216 (by first | exact rfl | decide +kernel) rfl
set_option maxRecDepth 100000 in
theorem tw_217 : (Jvm.Cond.fieldLink "FallingTerms" (155 : Nat) "FallingTerms" "needFound" "Z") ∈ tg := tg_in 217 (by first | exact rfl | decide +kernel) rfl
set_option maxRecDepth 100000 in
theorem tw_218 : (Jvm.Cond.fieldLink "FallingTerms" (38 : Nat) "FallingTerms" "start" "[J") ∈ tg := tg_in 218 (by first | exact rfl | decide +kernel) rfl
set_option maxRecDepth 100000 in
theorem tw_219 : (Jvm.Cond.fieldLink "FallingTerms" (42 : Nat) "FallingTerms" "now" "[J") ∈ tg := tg_in 219 (by first | exact rfl | decide +kernel) rfl
set_option maxRecDepth 100000 in
theorem tw_220 : (Jvm.Cond.fieldLink "FallingTerms" (45 : Nat) "FallingTerms" "mark" "[J") ∈ tg := tg_in 220 (by first | exact rfl | decide +kernel) rfl
set_option maxRecDepth 100000 in
theorem tw_221 : (Jvm.Cond.laysFinal "FallingTerms" "FallingTerms" "made" "[LFallingTerms$Loop;") ∈ tg := tg_in 221 (by first | exact rfl | decide +kernel) rfl
set_option maxRecDepth 100000 in
theorem tw_222 : (Jvm.Cond.soleField "FallingTerms" "made") ∈ tg := tg_in 222 (by first | exact rfl | decide +kernel) rfl
set_option maxRecDepth 100000 in
theorem tw_223 : (Jvm.Cond.lays "FallingTerms" "FallingTerms" "madeCount" "I") ∈ tg := tg_in 223 (by first | exact rfl | decide +kernel) rfl
set_option maxRecDepth 100000 in
theorem tw_224 : (Jvm.Cond.soleField "FallingTerms" "madeCount") ∈ tg := tg_in 224 (by first | exact rfl | decide +kernel) rfl
set_option maxRecDepth 100000 in
theorem tw_225 : (Jvm.Cond.laysFinal "FallingTerms" "FallingTerms" "spaces" "[LFallingTerms$Space;") ∈ tg := tg_in 225 (by first | exact rfl | decide +kernel) rfl
set_option maxRecDepth 100000 in
theorem tw_226 : (Jvm.Cond.soleField "FallingTerms" "spaces") ∈ tg := tg_in 226 (by first | exact rfl | decide +kernel) rfl
set_option maxRecDepth 100000 in
theorem tw_227 : (Jvm.Cond.laysFinal "FallingTerms" "FallingTerms" "narrowed" "[LFallingTerms$Space;") ∈ tg := tg_in 227 (by first | exact rfl | decide +kernel) rfl
set_option maxRecDepth 100000 in
theorem tw_228 : (Jvm.Cond.soleField "FallingTerms" "narrowed") ∈ tg := tg_in 228 (by first | exact rfl | decide +kernel) rfl
set_option maxRecDepth 100000 in
theorem tw_229 : (Jvm.Cond.laysFinal "FallingTerms" "FallingTerms" "latest" "LFallingTerms$Proof;") ∈ tg := tg_in 229 (by first | exact rfl | decide +kernel) rfl
set_option maxRecDepth 100000 in
theorem tw_230 : (Jvm.Cond.soleField "FallingTerms" "latest") ∈ tg := tg_in 230 (by first | exact rfl | decide +kernel) rfl
set_option maxRecDepth 100000 in
theorem tw_231 : (Jvm.Cond.laysFinal "FallingTerms" "FallingTerms" "trial" "LFallingTerms$Proof;") ∈ tg := tg_in 231 (by first | exact rfl | decide +kernel) rfl
set_option maxRecDepth 100000 in
theorem tw_232 : (Jvm.Cond.soleField "FallingTerms" "trial") ∈ tg := tg_in 232 (by first | exact rfl | decide +kernel) rfl
set_option maxRecDepth 100000 in
theorem tw_233 : (Jvm.Cond.laysFinal "FallingTerms" "FallingTerms" "needRow" "[I") ∈ tg := tg_in 233 (by first | exact rfl | decide +kernel) rfl
set_option maxRecDepth 100000 in
theorem tw_234 : (Jvm.Cond.soleField "FallingTerms" "needRow") ∈ tg := tg_in 234 (by first | exact rfl | decide +kernel) rfl
set_option maxRecDepth 100000 in
theorem tw_235 : (Jvm.Cond.lays "FallingTerms" "FallingTerms" "needFound" "Z") ∈ tg := tg_in 235 (by first | exact rfl | decide +kernel) rfl
set_option maxRecDepth 100000 in
theorem tw_236 : (Jvm.Cond.soleField "FallingTerms" "needFound") ∈ tg := tg_in 236 (by first | exact rfl | decide +kernel) rfl
set_option maxRecDepth 100000 in
theorem tw_237 : (Jvm.Cond.laysFinal "FallingTerms" "FallingTerms" "start" "[J") ∈ tg := tg_in 237 (by first | exact rfl | decide +kernel) rfl
set_option maxRecDepth 100000 in
theorem tw_238 : (Jvm.Cond.soleField "FallingTerms" "start") ∈ tg := tg_in 238 (by first | exact rfl | decide +kernel) rfl
set_option maxRecDepth 100000 in
theorem tw_239 : (Jvm.Cond.laysFinal "FallingTerms" "FallingTerms" "now" "[J") ∈ tg := tg_in 239 (by first | exact rfl | decide +kernel) rfl
set_option maxRecDepth 100000 in
theorem tw_240 : (Jvm.Cond.soleField "FallingTerms" "now") ∈ tg := tg_in 240 (by first | exact rfl | decide +kernel) rfl
set_option maxRecDepth 100000 in
theorem tw_241 : (Jvm.Cond.laysFinal "FallingTerms" "FallingTerms" "mark" "[J") ∈ tg := tg_in 241 (by first | exact rfl | decide +kernel) rfl
set_option maxRecDepth 100000 in
theorem tw_242 : (Jvm.Cond.soleField "FallingTerms" "mark") ∈ tg := tg_in 242 (by first | exact rfl | decide +kernel) rfl
set_option maxRecDepth 100000 in
theorem tw_243 : (Jvm.Cond.superclass "FallingTerms" "java/lang/Object") ∈ tg := tg_in 243 (by first | exact rfl | decide +kernel) rfl
set_option maxRecDepth 100000 in
theorem tw_244 : (Jvm.Cond.methodLink "FallingTermsLaw" (13 : Nat) ({ cls := "FallingTerms", name := "loop", desc := "(I)I" } : Jvm.MethodName)) ∈ tg := tg_in 244 (by first | exact rfl | decide +kernel) rfl
set_option maxRecDepth 100000 in
theorem tw_245 : (Jvm.Cond.instanceMethod ({ cls := "FallingTerms", name := "loop", desc := "(I)I" } : Jvm.MethodName)) ∈ tg := tg_in 245 (by first | exact rfl | decide +kernel) rfl
set_option maxRecDepth 100000 in
theorem tw_246 : (Jvm.Cond.selects "FallingTerms" ({ cls := "FallingTerms", name := "loop", desc := "(I)I" } : Jvm.MethodName) ({ cls := "FallingTerms", name := "loop", desc := "(I)I" } : Jvm.MethodName)) ∈ tg := tg_in 246 (by first | exact rfl | decide +kernel) rfl
set_option maxRecDepth 100000 in
theorem tw_247 : (Jvm.Cond.code ({ cls := "FallingTerms", name := "loop", desc := "(I)I" } : Jvm.MethodName) prog_1_method_2_code (2 : Nat) (Option.some Jvm.ClassFile.FieldType.int)) ∈ tg := tg_in 247 (by first | exact rfl | decide +kernel) rfl
set_option maxRecDepth 100000 in
theorem tw_248 : (Jvm.Cond.methodLink "FallingTerms" (54 : Nat) ({ cls := "FallingTerms$Loop", name := "begin", desc := "(I)V" } : Jvm.MethodName)) ∈ tg := tg_in 248 (by first | exact rfl | decide +kernel) rfl
set_option maxRecDepth 100000 in
theorem tw_249 : (Jvm.Cond.instanceMethod ({ cls := "FallingTerms$Loop", name := "begin", desc := "(I)V" } : Jvm.MethodName)) ∈ tg := tg_in 249 (by first | exact rfl | decide +kernel) rfl
set_option maxRecDepth 100000 in
theorem tw_250 : (Jvm.Cond.selects "FallingTerms$Loop" ({ cls := "FallingTerms$Loop", name := "begin", desc := "(I)V" } : Jvm.MethodName) ({ cls := "FallingTerms$Loop", name := "begin", desc := "(I)V" } : Jvm.MethodName)) ∈ tg := tg_in 250 (by first | exact rfl | decide +kernel) rfl
set_option maxRecDepth 100000 in
theorem tw_251 : (Jvm.Cond.code ({ cls := "FallingTerms$Loop", name := "begin", desc := "(I)V" } : Jvm.MethodName) prog_2_method_2_code (3 : Nat) (Option.none : Option Jvm.ClassFile.FieldType)) ∈ tg := tg_in 251 (by first | exact rfl | decide +kernel) rfl
set_option maxRecDepth 100000 in
theorem tw_252 : (Jvm.Cond.methodLink "FallingTermsLaw" (18 : Nat) ({ cls := "FallingTerms", name := "clear", desc := "()I" } : Jvm.MethodName)) ∈ tg := tg_in 252 (by first | exact rfl | decide +kernel) rfl
set_option maxRecDepth 100000 in
theorem tw_253 : (Jvm.Cond.instanceMethod ({ cls := "FallingTerms", name := "clear", desc := "()I" } : Jvm.MethodName)) ∈ tg := tg_in 253 (by first | exact rfl | decide +kernel) rfl
set_option maxRecDepth 100000 in
theorem tw_254 : (Jvm.Cond.selects "FallingTerms" ({ cls := "FallingTerms", name := "clear", desc := "()I" } : Jvm.MethodName) ({ cls := "FallingTerms", name := "clear", desc := "()I" } : Jvm.MethodName)) ∈ tg := tg_in 254 (by first | exact rfl | decide +kernel) rfl
set_option maxRecDepth 100000 in
theorem tw_255 : (Jvm.Cond.code ({ cls := "FallingTerms", name := "clear", desc := "()I" } : Jvm.MethodName) prog_1_method_3_code (2 : Nat) (Option.some Jvm.ClassFile.FieldType.int)) ∈ tg := tg_in 255 (by first | exact rfl | decide +kernel) rfl
set_option maxRecDepth 100000 in
theorem tw_256 : (Jvm.Cond.methodLink "FallingTerms" (58 : Nat) ({ cls := "FallingTerms$Proof", name := "forget", desc := "()V" } : Jvm.MethodName)) ∈ tg := tg_in 256 (by first | exact rfl | decide +kernel) rfl
set_option maxRecDepth 100000 in
theorem tw_257 : (Jvm.Cond.instanceMethod ({ cls := "FallingTerms$Proof", name := "forget", desc := "()V" } : Jvm.MethodName)) ∈ tg := tg_in 257 (by first | exact rfl | decide +kernel) rfl
set_option maxRecDepth 100000 in
theorem tw_258 : (Jvm.Cond.selects "FallingTerms$Proof" ({ cls := "FallingTerms$Proof", name := "forget", desc := "()V" } : Jvm.MethodName) ({ cls := "FallingTerms$Proof", name := "forget", desc := "()V" } : Jvm.MethodName)) ∈ tg := tg_in 258 (by first | exact rfl | decide +kernel) rfl
set_option maxRecDepth 100000 in
theorem tw_259 : (Jvm.Cond.code ({ cls := "FallingTerms$Proof", name := "forget", desc := "()V" } : Jvm.MethodName) prog_3_method_2_code (1 : Nat) (Option.none : Option Jvm.ClassFile.FieldType)) ∈ tg := tg_in 259 (by first | exact rfl | decide +kernel) rfl
set_option maxRecDepth 100000 in
theorem tw_260 : (Jvm.Cond.methodLink "FallingTermsLaw" (23 : Nat) ({ cls := "FallingTerms", name := "guard", desc := "(IIIII)I" } : Jvm.MethodName)) ∈ tg := tg_in 260 (by first | exact rfl | decide +kernel) rfl
set_option maxRecDepth 100000 in
theorem tw_261 : (Jvm.Cond.instanceMethod ({ cls := "FallingTerms", name := "guard", desc := "(IIIII)I" } : Jvm.MethodName)) ∈ tg := tg_in 261 (by first | exact rfl | decide +kernel) rfl
set_option maxRecDepth 100000 in
theorem tw_262 : (Jvm.Cond.selects "FallingTerms" ({ cls := "FallingTerms", name := "guard", desc := "(IIIII)I" } : Jvm.MethodName) ({ cls := "FallingTerms", name := "guard", desc := "(IIIII)I" } : Jvm.MethodName)) ∈ tg := tg_in 262 (by first | exact rfl | decide +kernel) rfl
set_option maxRecDepth 100000 in
theorem tw_263 : (Jvm.Cond.code ({ cls := "FallingTerms", name := "guard", desc := "(IIIII)I" } : Jvm.MethodName) prog_1_method_4_code (6 : Nat) (Option.some Jvm.ClassFile.FieldType.int)) ∈ tg := tg_in 263 (by first | exact rfl | decide +kernel) rfl
set_option maxRecDepth 100000 in
theorem tw_264 : (Jvm.Cond.methodLink "FallingTerms" (61 : Nat) ({ cls := "FallingTerms", name := "isLoop", desc := "(I)Z" } : Jvm.MethodName)) ∈ tg := tg_in 264 (by first | exact rfl | decide +kernel) rfl
set_option maxRecDepth 100000 in
theorem tw_266 : (Jvm.Cond.instanceMethod ({ cls := "FallingTerms", name := "isLoop", desc := "(I)Z" } : Jvm.MethodName)) ∈ tg := tg_in 266 (by first | exact rfl | decide +kernel) rfl
set_option maxRecDepth 100000 in
theorem tw_267 : (Jvm.Cond.code ({ cls := "FallingTerms", name := "isLoop", desc := "(I)Z" } : Jvm.MethodName) prog_1_method_26_code (2 : Nat) (Option.some Jvm.ClassFile.FieldType.boolean)) ∈ tg := tg_in 267 (by first | exact rfl | decide +kernel) rfl
set_option maxRecDepth 100000 in
theorem tw_268 : (Jvm.Cond.methodLink "FallingTerms" (65 : Nat) ({ cls := "FallingTerms", name := "rowFits", desc := "(IIIII)Z" } : Jvm.MethodName)) ∈ tg := tg_in 268 (by first | exact rfl | decide +kernel) rfl
set_option maxRecDepth 100000 in
theorem tw_270 : (Jvm.Cond.instanceMethod ({ cls := "FallingTerms", name := "rowFits", desc := "(IIIII)Z" } : Jvm.MethodName)) ∈ tg := tg_in 270 (by first | exact rfl | decide +kernel) rfl
set_option maxRecDepth 100000 in
theorem tw_271 : (Jvm.Cond.code ({ cls := "FallingTerms", name := "rowFits", desc := "(IIIII)Z" } : Jvm.MethodName) prog_1_method_29_code (6 : Nat) (Option.some Jvm.ClassFile.FieldType.boolean)) ∈ tg := tg_in 271 (by first | exact rfl | decide +kernel) rfl
set_option maxRecDepth 100000 in
theorem tw_272 : (Jvm.Cond.methodLink "FallingTerms" (129 : Nat) ({ cls := "FallingTerms", name := "weightsFit", desc := "(IIIII)Z" } : Jvm.MethodName)) ∈ tg := tg_in 272 (by first | exact rfl | decide +kernel) rfl
set_option maxRecDepth 100000 in
theorem tw_273 : (Jvm.Cond.static ({ cls := "FallingTerms", name := "weightsFit", desc := "(IIIII)Z" } : Jvm.MethodName)) ∈ tg := tg_in 273 (by first | exact rfl | decide +kernel) rfl
set_option maxRecDepth 100000 in
theorem tw_274 : (Jvm.Cond.code ({ cls := "FallingTerms", name := "weightsFit", desc := "(IIIII)Z" } : Jvm.MethodName) prog_1_method_30_code (7 : Nat) (Option.some Jvm.ClassFile.FieldType.boolean)) ∈ tg := tg_in 274 (by first | exact rfl | decide +kernel) rfl
set_option maxRecDepth 100000 in
theorem tw_275 : (Jvm.Cond.methodLink "FallingTerms" (99 : Nat) ({ cls := "FallingTerms", name := "within", desc := "(II)Z" } : Jvm.MethodName)) ∈ tg := tg_in 275 (by first | exact rfl | decide +kernel) rfl
set_option maxRecDepth 100000 in
theorem tw_276 : (Jvm.Cond.static ({ cls := "FallingTerms", name := "within", desc := "(II)Z" } : Jvm.MethodName)) ∈ tg := tg_in 276 (by first | exact rfl | decide +kernel) rfl
set_option maxRecDepth 100000 in
theorem tw_277 : (Jvm.Cond.code ({ cls := "FallingTerms", name := "within", desc := "(II)Z" } : Jvm.MethodName) prog_1_method_31_code (2 : Nat) (Option.some Jvm.ClassFile.FieldType.boolean)) ∈ tg := tg_in 277 (by first | exact rfl | decide +kernel) rfl
set_option maxRecDepth 100000 in
theorem tw_278 : (Jvm.Cond.methodLink "FallingTerms" (73 : Nat) ({ cls := "FallingTerms$Rows", name := "append", desc := "(IIII)I" } : Jvm.MethodName)) ∈ tg := tg_in 278 (by first | exact rfl | decide +kernel) rfl
set_option maxRecDepth 100000 in
theorem tw_279 : (Jvm.Cond.instanceMethod ({ cls := "FallingTerms$Rows", name := "append", desc := "(IIII)I" } : Jvm.MethodName)) ∈ tg := tg_in 279 (by first | exact rfl | decide +kernel) rfl
set_option maxRecDepth 100000 in
theorem tw_280 : (Jvm.Cond.selects "FallingTerms$Rows" ({ cls := "FallingTerms$Rows", name := "append", desc := "(IIII)I" } : Jvm.MethodName) ({ cls := "FallingTerms$Rows", name := "append", desc := "(IIII)I" } : Jvm.MethodName)) ∈ tg := tg_in 280 (by first | exact rfl | decide +kernel) rfl
set_option maxRecDepth 100000 in
theorem tw_281 : (Jvm.Cond.code ({ cls := "FallingTerms$Rows", name := "append", desc := "(IIII)I" } : Jvm.MethodName) prog_4_method_2_code (6 : Nat) (Option.some Jvm.ClassFile.FieldType.int)) ∈ tg := tg_in 281 (by first | exact rfl | decide +kernel) rfl
set_option maxRecDepth 100000 in
theorem tw_282 : (Jvm.Cond.methodLink "FallingTermsLaw" (28 : Nat) ({ cls := "FallingTerms", name := "way", desc := "(I)I" } : Jvm.MethodName)) ∈ tg := tg_in 282 (by first | exact rfl | decide +kernel) rfl
set_option maxRecDepth 100000 in
theorem tw_283 : (Jvm.Cond.instanceMethod ({ cls := "FallingTerms", name := "way", desc := "(I)I" } : Jvm.MethodName)) ∈ tg := tg_in 283 (by first | exact rfl | decide +kernel) rfl
set_option maxRecDepth 100000 in
theorem tw_284 : (Jvm.Cond.selects "FallingTerms" ({ cls := "FallingTerms", name := "way", desc := "(I)I" } : Jvm.MethodName) ({ cls := "FallingTerms", name := "way", desc := "(I)I" } : Jvm.MethodName)) ∈ tg := tg_in 284 (by first | exact rfl | decide +kernel) rfl
set_option maxRecDepth 100000 in
theorem tw_285 : (Jvm.Cond.code ({ cls := "FallingTerms", name := "way", desc := "(I)I" } : Jvm.MethodName) prog_1_method_5_code (2 : Nat) (Option.some Jvm.ClassFile.FieldType.int)) ∈ tg := tg_in 285 (by first | exact rfl | decide +kernel) rfl
set_option maxRecDepth 100000 in
theorem tw_286 : (Jvm.Cond.methodLink "FallingTerms" (79 : Nat) ({ cls := "FallingTerms$Loop", name := "appendWay", desc := "()I" } : Jvm.MethodName)) ∈ tg := tg_in 286 (by first | exact rfl | decide +kernel) rfl
set_option maxRecDepth 100000 in
theorem tw_287 : (Jvm.Cond.instanceMethod ({ cls := "FallingTerms$Loop", name := "appendWay", desc := "()I" } : Jvm.MethodName)) ∈ tg := tg_in 287 (by first | exact rfl | decide +kernel) rfl
set_option maxRecDepth 100000 in
theorem tw_288 : (Jvm.Cond.selects "FallingTerms$Loop" ({ cls := "FallingTerms$Loop", name := "appendWay", desc := "()I" } : Jvm.MethodName) ({ cls := "FallingTerms$Loop", name := "appendWay", desc := "()I" } : Jvm.MethodName)) ∈ tg := tg_in 288 (by first | exact rfl | decide +kernel) rfl
set_option maxRecDepth 100000 in
theorem tw_289 : (Jvm.Cond.code ({ cls := "FallingTerms$Loop", name := "appendWay", desc := "()I" } : Jvm.MethodName) prog_2_method_3_code (1 : Nat) (Option.some Jvm.ClassFile.FieldType.int)) ∈ tg := tg_in 289 (by first | exact rfl | decide +kernel) rfl
set_option maxRecDepth 100000 in
theorem tw_290 : (Jvm.Cond.methodLink "FallingTerms$Loop" (44 : Nat) ({ cls := "FallingTerms$Way", name := "begin", desc := "()V" } : Jvm.MethodName)) ∈ tg := tg_in 290 (by first | exact rfl | decide +kernel) rfl
set_option maxRecDepth 100000 in
theorem tw_291 : (Jvm.Cond.instanceMethod ({ cls := "FallingTerms$Way", name := "begin", desc := "()V" } : Jvm.MethodName)) ∈ tg := tg_in 291 (by first | exact rfl | decide +kernel) rfl
set_option maxRecDepth 100000 in
theorem tw_292 : (Jvm.Cond.selects "FallingTerms$Way" ({ cls := "FallingTerms$Way", name := "begin", desc := "()V" } : Jvm.MethodName) ({ cls := "FallingTerms$Way", name := "begin", desc := "()V" } : Jvm.MethodName)) ∈ tg := tg_in 292 (by first | exact rfl | decide +kernel) rfl
set_option maxRecDepth 100000 in
theorem tw_293 : (Jvm.Cond.code ({ cls := "FallingTerms$Way", name := "begin", desc := "()V" } : Jvm.MethodName) prog_6_method_2_code (3 : Nat) (Option.none : Option Jvm.ClassFile.FieldType)) ∈ tg := tg_in 293 (by first | exact rfl | decide +kernel) rfl
set_option maxRecDepth 100000 in
theorem tw_294 : (Jvm.Cond.methodLink "FallingTermsLaw" (32 : Nat) ({ cls := "FallingTerms", name := "row", desc := "(IIIIII)I" } : Jvm.MethodName)) ∈ tg := tg_in 294 (by first | exact rfl | decide +kernel) rfl
set_option maxRecDepth 100000 in
theorem tw_295 : (Jvm.Cond.instanceMethod ({ cls := "FallingTerms", name := "row", desc := "(IIIIII)I" } : Jvm.MethodName)) ∈ tg := tg_in 295 (by first | exact rfl | decide +kernel) rfl
set_option maxRecDepth 100000 in
theorem tw_296 : (Jvm.Cond.selects "FallingTerms" ({ cls := "FallingTerms", name := "row", desc := "(IIIIII)I" } : Jvm.MethodName) ({ cls := "FallingTerms", name := "row", desc := "(IIIIII)I" } : Jvm.MethodName)) ∈ tg := tg_in 296 (by first | exact rfl | decide +kernel) rfl
set_option maxRecDepth 100000 in
theorem tw_297 : (Jvm.Cond.code ({ cls := "FallingTerms", name := "row", desc := "(IIIIII)I" } : Jvm.MethodName) prog_1_method_6_code (7 : Nat) (Option.some Jvm.ClassFile.FieldType.int)) ∈ tg := tg_in 297 (by first | exact rfl | decide +kernel) rfl
set_option maxRecDepth 100000 in
theorem tw_298 : (Jvm.Cond.methodLink "FallingTerms" (83 : Nat) ({ cls := "FallingTerms", name := "isWay", desc := "(II)Z" } : Jvm.MethodName)) ∈ tg := tg_in 298 (by first | exact rfl | decide +kernel) rfl
set_option maxRecDepth 100000 in
theorem tw_300 : (Jvm.Cond.instanceMethod ({ cls := "FallingTerms", name := "isWay", desc := "(II)Z" } : Jvm.MethodName)) ∈ tg := tg_in 300 (by first | exact rfl | decide +kernel) rfl
set_option maxRecDepth 100000 in
theorem tw_301 : (Jvm.Cond.code ({ cls := "FallingTerms", name := "isWay", desc := "(II)Z" } : Jvm.MethodName) prog_1_method_27_code (3 : Nat) (Option.some Jvm.ClassFile.FieldType.boolean)) ∈ tg := tg_in 301 (by first | exact rfl | decide +kernel) rfl
set_option maxRecDepth 100000 in
theorem tw_302 : (Jvm.Cond.methodLink "FallingTermsLaw" (37 : Nat) ({ cls := "FallingTerms", name := "factor", desc := "(IIIII)I" } : Jvm.MethodName)) ∈ tg := tg_in 302 (by first | exact rfl | decide +kernel) rfl
set_option maxRecDepth 100000 in
theorem tw_303 : (Jvm.Cond.instanceMethod ({ cls := "FallingTerms", name := "factor", desc := "(IIIII)I" } : Jvm.MethodName)) ∈ tg := tg_in 303 (by first | exact rfl | decide +kernel) rfl
set_option maxRecDepth 100000 in
theorem tw_304 : (Jvm.Cond.selects "FallingTerms" ({ cls := "FallingTerms", name := "factor", desc := "(IIIII)I" } : Jvm.MethodName) ({ cls := "FallingTerms", name := "factor", desc := "(IIIII)I" } : Jvm.MethodName)) ∈ tg := tg_in 304 (by first | exact rfl | decide +kernel) rfl
set_option maxRecDepth 100000 in
theorem tw_305 : (Jvm.Cond.code ({ cls := "FallingTerms", name := "factor", desc := "(IIIII)I" } : Jvm.MethodName) prog_1_method_7_code (9 : Nat) (Option.some Jvm.ClassFile.FieldType.int)) ∈ tg := tg_in 305 (by first | exact rfl | decide +kernel) rfl
